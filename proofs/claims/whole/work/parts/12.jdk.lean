theorem t_45 : (Cond.initialized "java/lang/String") ∈ gtbl := wd 45 (by decide +kernel) (by decide +kernel)
theorem t_46 : (Cond.initialized "java/lang/StringLatin1") ∈ gtbl := wd 46 (by decide +kernel) (by decide +kernel)
theorem t_47 : (Cond.initialized "java/lang/Math") ∈ gtbl := wd 47 (by decide +kernel) (by decide +kernel)
theorem t_51 : (Cond.initialized "java/lang/Integer") ∈ gtbl := wd 51 (by decide +kernel) (by decide +kernel)
theorem t_335 : (Cond.instanceMethod yJ0_indexOf_0f7a4) ∈ gtbl := wd 335 (by decide +kernel) (by decide +kernel)
theorem t_336 : (Cond.selects "java/lang/String" yJ0_indexOf_0f7a4 yJ0_indexOf_0f7a4) ∈ gtbl := wd 336 (by decide +kernel) (by decide +kernel)
theorem t_337 : (Cond.code yJ0_indexOf_0f7a4 prog_12_method_79_code 2 (some .int)) ∈ gtbl := wd 337 (by decide +kernel) (by decide +kernel)
theorem t_338 : (Cond.methodLink "java/lang/String" 633 yJ0_indexOf_7cf53) ∈ gtbl := wd 338 (by decide +kernel) (by decide +kernel)
theorem t_339 : (Cond.instanceMethod yJ0_indexOf_7cf53) ∈ gtbl := wd 339 (by decide +kernel) (by decide +kernel)
theorem t_340 : (Cond.selects "java/lang/String" yJ0_indexOf_7cf53 yJ0_indexOf_7cf53) ∈ gtbl := wd 340 (by decide +kernel) (by decide +kernel)
theorem t_341 : (Cond.code yJ0_indexOf_7cf53 prog_12_method_80_code 3 (some .int)) ∈ gtbl := wd 341 (by decide +kernel) (by decide +kernel)
theorem t_342 : (Cond.methodLink "java/lang/String" 492 yJ0_isLatin1_aae02) ∈ gtbl := wd 342 (by decide +kernel) (by decide +kernel)
theorem t_343 : (Cond.instanceMethod yJ0_isLatin1_aae02) ∈ gtbl := wd 343 (by decide +kernel) (by decide +kernel)
theorem t_344 : (Cond.selects "java/lang/String" yJ0_isLatin1_aae02 yJ0_isLatin1_aae02) ∈ gtbl := wd 344 (by decide +kernel) (by decide +kernel)
theorem t_345 : (Cond.code yJ0_isLatin1_aae02 prog_12_method_154_code 1 (some .boolean)) ∈ gtbl := wd 345 (by decide +kernel) (by decide +kernel)
theorem t_346 : (Cond.fieldLink "java/lang/String" 38 "java/lang/String" "COMPACT_STRINGS" "Z") ∈ gtbl := wd 346 (by decide +kernel) (by decide +kernel)
theorem t_348 : (Cond.methodLink "java/lang/String" 505 yJ0_length_8abf5) ∈ gtbl := wd 348 (by decide +kernel) (by decide +kernel)
theorem t_349 : (Cond.instanceMethod yJ0_length_8abf5) ∈ gtbl := wd 349 (by decide +kernel) (by decide +kernel)
theorem t_350 : (Cond.selects "java/lang/String" yJ0_length_8abf5 yJ0_length_8abf5) ∈ gtbl := wd 350 (by decide +kernel) (by decide +kernel)
theorem t_351 : (Cond.code yJ0_length_8abf5 prog_12_method_54_code 1 (some .int)) ∈ gtbl := wd 351 (by decide +kernel) (by decide +kernel)
theorem t_352 : (Cond.methodLink "java/lang/String" 335 yJ0_coder_7d493) ∈ gtbl := wd 352 (by decide +kernel) (by decide +kernel)
theorem t_353 : (Cond.instanceMethod yJ0_coder_7d493) ∈ gtbl := wd 353 (by decide +kernel) (by decide +kernel)
theorem t_354 : (Cond.selects "java/lang/String" yJ0_coder_7d493 yJ0_coder_7d493) ∈ gtbl := wd 354 (by decide +kernel) (by decide +kernel)
theorem t_355 : (Cond.code yJ0_coder_7d493 prog_12_method_152_code 1 (some .byte)) ∈ gtbl := wd 355 (by decide +kernel) (by decide +kernel)
theorem t_356 : (Cond.methodLink "java/lang/String" 637 yJ1_indexOf_4cfef) ∈ gtbl := wd 356 (by decide +kernel) (by decide +kernel)
theorem t_357 : (Cond.static yJ1_indexOf_4cfef) ∈ gtbl := wd 357 (by decide +kernel) (by decide +kernel)
theorem t_358 : (Cond.code yJ1_indexOf_4cfef prog_13_method_22_code 4 (some .int)) ∈ gtbl := wd 358 (by decide +kernel) (by decide +kernel)
theorem t_359 : (Cond.methodLink "java/lang/StringLatin1" 88 yJ1_canEncode_9a6ad) ∈ gtbl := wd 359 (by decide +kernel) (by decide +kernel)
theorem t_360 : (Cond.static yJ1_canEncode_9a6ad) ∈ gtbl := wd 360 (by decide +kernel) (by decide +kernel)
theorem t_361 : (Cond.code yJ1_canEncode_9a6ad prog_13_method_4_code 1 (some .boolean)) ∈ gtbl := wd 361 (by decide +kernel) (by decide +kernel)
theorem t_362 : (Cond.methodLink "java/lang/StringLatin1" 92 yJ9_max_7cf53) ∈ gtbl := wd 362 (by decide +kernel) (by decide +kernel)
theorem t_363 : (Cond.static yJ9_max_7cf53) ∈ gtbl := wd 363 (by decide +kernel) (by decide +kernel)
theorem t_364 : (Cond.code yJ9_max_7cf53 prog_11_method_65_code 2 (some .int)) ∈ gtbl := wd 364 (by decide +kernel) (by decide +kernel)
theorem t_365 : (Cond.methodLink "java/lang/StringLatin1" 38 yJ9_min_7cf53) ∈ gtbl := wd 365 (by decide +kernel) (by decide +kernel)
theorem t_366 : (Cond.static yJ9_min_7cf53) ∈ gtbl := wd 366 (by decide +kernel) (by decide +kernel)
theorem t_367 : (Cond.code yJ9_min_7cf53 prog_11_method_69_code 2 (some .int)) ∈ gtbl := wd 367 (by decide +kernel) (by decide +kernel)
theorem t_368 : (Cond.methodLink "java/lang/StringLatin1" 95 yJ1_indexOfChar_4cfef) ∈ gtbl := wd 368 (by decide +kernel) (by decide +kernel)
theorem t_369 : (Cond.static yJ1_indexOfChar_4cfef) ∈ gtbl := wd 369 (by decide +kernel) (by decide +kernel)
theorem t_370 : (Cond.code yJ1_indexOfChar_4cfef prog_13_method_23_code 6 (some .int)) ∈ gtbl := wd 370 (by decide +kernel) (by decide +kernel)
theorem t_483 : (Cond.static yJ6_bitCount_0f7a4) ∈ gtbl := wd 483 (by decide +kernel) (by decide +kernel)
theorem t_484 : (Cond.code yJ6_bitCount_0f7a4 prog_10_method_49_code 1 (some .int)) ∈ gtbl := wd 484 (by decide +kernel) (by decide +kernel)
theorem t_485 : (Cond.constant "java/lang/Integer" 265 (1431655765)) ∈ gtbl := wd 485 (by decide +kernel) (by decide +kernel)
theorem t_486 : (Cond.constant "java/lang/Integer" 266 (858993459)) ∈ gtbl := wd 486 (by decide +kernel) (by decide +kernel)
theorem t_487 : (Cond.constant "java/lang/Integer" 267 (252645135)) ∈ gtbl := wd 487 (by decide +kernel) (by decide +kernel)
theorem t_1094 : (Cond.fieldLink "java/lang/String" 15 "java/lang/String" "coder" "B") ∈ gtbl := wd 1094 (by decide +kernel) (by decide +kernel)
theorem t_1095 : (Cond.fieldLink "java/lang/String" 9 "java/lang/String" "value" "[B") ∈ gtbl := wd 1095 (by decide +kernel) (by decide +kernel)
def fJ6_bitCount_0f7a4 (i0 : Int32) : Option (Int32) :=
  some (((((((((i0 - ((Int32.toUInt32 i0 >>> (Int32.toUInt32 1 &&& Int32.toUInt32 31)).toInt32 &&& 1431655765)) &&& 858993459) + ((Int32.toUInt32 (i0 - ((Int32.toUInt32 i0 >>> (Int32.toUInt32 1 &&& Int32.toUInt32 31)).toInt32 &&& 1431655765)) >>> (Int32.toUInt32 2 &&& Int32.toUInt32 31)).toInt32 &&& 858993459)) + (Int32.toUInt32 (((i0 - ((Int32.toUInt32 i0 >>> (Int32.toUInt32 1 &&& Int32.toUInt32 31)).toInt32 &&& 1431655765)) &&& 858993459) + ((Int32.toUInt32 (i0 - ((Int32.toUInt32 i0 >>> (Int32.toUInt32 1 &&& Int32.toUInt32 31)).toInt32 &&& 1431655765)) >>> (Int32.toUInt32 2 &&& Int32.toUInt32 31)).toInt32 &&& 858993459)) >>> (Int32.toUInt32 4 &&& Int32.toUInt32 31)).toInt32) &&& 252645135) + (Int32.toUInt32 (((((i0 - ((Int32.toUInt32 i0 >>> (Int32.toUInt32 1 &&& Int32.toUInt32 31)).toInt32 &&& 1431655765)) &&& 858993459) + ((Int32.toUInt32 (i0 - ((Int32.toUInt32 i0 >>> (Int32.toUInt32 1 &&& Int32.toUInt32 31)).toInt32 &&& 1431655765)) >>> (Int32.toUInt32 2 &&& Int32.toUInt32 31)).toInt32 &&& 858993459)) + (Int32.toUInt32 (((i0 - ((Int32.toUInt32 i0 >>> (Int32.toUInt32 1 &&& Int32.toUInt32 31)).toInt32 &&& 1431655765)) &&& 858993459) + ((Int32.toUInt32 (i0 - ((Int32.toUInt32 i0 >>> (Int32.toUInt32 1 &&& Int32.toUInt32 31)).toInt32 &&& 1431655765)) >>> (Int32.toUInt32 2 &&& Int32.toUInt32 31)).toInt32 &&& 858993459)) >>> (Int32.toUInt32 4 &&& Int32.toUInt32 31)).toInt32) &&& 252645135) >>> (Int32.toUInt32 8 &&& Int32.toUInt32 31)).toInt32) + (Int32.toUInt32 ((((((i0 - ((Int32.toUInt32 i0 >>> (Int32.toUInt32 1 &&& Int32.toUInt32 31)).toInt32 &&& 1431655765)) &&& 858993459) + ((Int32.toUInt32 (i0 - ((Int32.toUInt32 i0 >>> (Int32.toUInt32 1 &&& Int32.toUInt32 31)).toInt32 &&& 1431655765)) >>> (Int32.toUInt32 2 &&& Int32.toUInt32 31)).toInt32 &&& 858993459)) + (Int32.toUInt32 (((i0 - ((Int32.toUInt32 i0 >>> (Int32.toUInt32 1 &&& Int32.toUInt32 31)).toInt32 &&& 1431655765)) &&& 858993459) + ((Int32.toUInt32 (i0 - ((Int32.toUInt32 i0 >>> (Int32.toUInt32 1 &&& Int32.toUInt32 31)).toInt32 &&& 1431655765)) >>> (Int32.toUInt32 2 &&& Int32.toUInt32 31)).toInt32 &&& 858993459)) >>> (Int32.toUInt32 4 &&& Int32.toUInt32 31)).toInt32) &&& 252645135) + (Int32.toUInt32 (((((i0 - ((Int32.toUInt32 i0 >>> (Int32.toUInt32 1 &&& Int32.toUInt32 31)).toInt32 &&& 1431655765)) &&& 858993459) + ((Int32.toUInt32 (i0 - ((Int32.toUInt32 i0 >>> (Int32.toUInt32 1 &&& Int32.toUInt32 31)).toInt32 &&& 1431655765)) >>> (Int32.toUInt32 2 &&& Int32.toUInt32 31)).toInt32 &&& 858993459)) + (Int32.toUInt32 (((i0 - ((Int32.toUInt32 i0 >>> (Int32.toUInt32 1 &&& Int32.toUInt32 31)).toInt32 &&& 1431655765)) &&& 858993459) + ((Int32.toUInt32 (i0 - ((Int32.toUInt32 i0 >>> (Int32.toUInt32 1 &&& Int32.toUInt32 31)).toInt32 &&& 1431655765)) >>> (Int32.toUInt32 2 &&& Int32.toUInt32 31)).toInt32 &&& 858993459)) >>> (Int32.toUInt32 4 &&& Int32.toUInt32 31)).toInt32) &&& 252645135) >>> (Int32.toUInt32 8 &&& Int32.toUInt32 31)).toInt32) >>> (Int32.toUInt32 16 &&& Int32.toUInt32 31)).toInt32) &&& 63))
def fJ0_isLatin1_aae02 (sk : Nat) : Option (Int32) :=
  if (1 : Int32) = 0 then
    some (0)
  else
    if (0 : Int32) = 0 then
      some (1)
    else
      some (0)
def fJ0_coder_7d493 (sk : Nat) : Option (Int32) :=
  if (1 : Int32) = 0 then
    some (1)
  else
    some (0)
def fJ0_length_8abf5 (sk : Nat) : Option (Int32) :=
  bd1 (fJ0_coder_7d493 sk) fun r1 =>
  some (((Int32.ofNat (strN.getD sk 0)) >>> (r1 &&& 31)))
def fJ1_canEncode_9a6ad (i0 : Int32) : Option (Int32) :=
  if i0 < 0 then
    some (0)
  else
    if 255 < i0 then
      some (0)
    else
      some (1)
def fJ1_indexOfChar_4cfef_L7 (i1 : Int32) (i3 : Int32) (sk : Nat) : Nat → Int32 → Option ((Int32) ⊕ (Unit))
  | 0, _ => none
  | n + 1, v10 =>
    if i3 ≤ v10 then
      some (Sum.inr ())
    else
      bd1 (ix v10 (strN.getD sk 0)) fun j15 =>
      if ((strB.getD sk []).getD j15 0) = (Int32.toInt8 i1).toInt32 then
        some (Sum.inl (v10))
      else
        fJ1_indexOfChar_4cfef_L7 i1 i3 sk n (v10 + 1)
def fJ1_indexOfChar_4cfef (sk : Nat) (i1 : Int32) (i2 : Int32) (i3 : Int32) : Option (Int32) :=
  bd1 (fJ1_indexOfChar_4cfef_L7 i1 i3 sk fl i2) fun zz =>
  Sum.elim (fun ww => some ww) (fun oo => some ((-1))) zz
def fJ1_indexOf_4cfef (sk : Nat) (i1 : Int32) (i2 : Int32) (i3 : Int32) : Option (Int32) :=
  bd1 (fJ1_canEncode_9a6ad i1) fun r1 =>
  if r1 = 0 then
    some ((-1))
  else
    if (if i2 < 0 then 0 else i2) < (if (Int32.ofNat (strN.getD sk 0)) < i3 then (Int32.ofNat (strN.getD sk 0)) else i3) then
      bd1 (fJ1_indexOfChar_4cfef sk i1 (if i2 < 0 then 0 else i2) (if (Int32.ofNat (strN.getD sk 0)) < i3 then (Int32.ofNat (strN.getD sk 0)) else i3)) fun r5 =>
      some (r5)
    else
      some ((-1))
def fJ0_indexOf_7cf53 (sk : Nat) (i1 : Int32) (i2 : Int32) : Option (Int32) :=
  bd1 (fJ0_isLatin1_aae02 sk) fun r1 =>
  if r1 = 0 then
    bd1 (fJ0_length_8abf5 sk) fun r4 =>
    none
  else
    bd1 (fJ0_length_8abf5 sk) fun r6 =>
    bd1 (fJ1_indexOf_4cfef sk i1 i2 r6) fun r8 =>
    some (r8)
def fJ0_indexOf_0f7a4 (sk : Nat) (i1 : Int32) : Option (Int32) :=
  bd1 (fJ0_indexOf_7cf53 sk i1 0) fun r1 =>
  some (r1)
theorem cal_J6_bitCount_0f7a4 : CalS yJ6_bitCount_0f7a4 cJ6_bitCount_0f7a4 1 (some .int) 1 := ⟨t_484, t_483, t_51, by decide +kernel⟩
set_option maxHeartbeats 4000000 in
set_option maxRecDepth 100000 in
theorem cJ6_bitCount_0f7a4_ok (l : Launch) (d : va_G) (cy : Nat → ClassId) (i0 : Int32) (r : Int32) (h0 : fJ6_bitCount_0f7a4 i0 = some (r)) : CI l yJ6_bitCount_0f7a4 cJ6_bitCount_0f7a4 1 (some .int) 0 0 d cy [.int i0] ([]) ([]) r := by
  refine CI.of (by decide) (Nat.le_of_ble_eq_true rfl) ?_
  intro p e s m args below meth c A ls Q F hret hw hl
  have hx := F.1
  have hb := F.2.1
  have hl : lv_has ls 1 [(0, .int i0)] := hl
  rw [fJ6_bitCount_0f7a4] at h0
  refine lv_iload_n hx hb dJ6_bitCount_0f7a4_0 rfl (lv_at hl 0 rfl) ?_
  refine lv_iload_n hx hb dJ6_bitCount_0f7a4_1 rfl (lv_at hl 0 rfl) ?_
  refine lv_iconst (v := 1) hx hb dJ6_bitCount_0f7a4_2 (by decide) ?_
  refine lv_iushr hx hb dJ6_bitCount_0f7a4_3 rfl ?_
  refine lv_ldcw (v := 1431655765) hx hb F.2.2.2.2.2.1 (F.2.2.2.2.2.2.1 _ t_485) dJ6_bitCount_0f7a4_4 ?_
  refine lv_iand hx hb dJ6_bitCount_0f7a4_7 ?_
  refine lv_isub hx hb dJ6_bitCount_0f7a4_8 ?_
  refine lv_istore_n (lv' := [(0, .int (i0 - ((Int32.toUInt32 i0 >>> (Int32.toUInt32 1 &&& Int32.toUInt32 31)).toInt32 &&& 1431655765)))]) hx hb dJ6_bitCount_0f7a4_9 rfl hl (by decide) rfl (fun ls hl => ?_)
  refine lv_iload_n hx hb dJ6_bitCount_0f7a4_10 rfl (lv_at hl 0 rfl) ?_
  refine lv_ldcw (v := 858993459) hx hb F.2.2.2.2.2.1 (F.2.2.2.2.2.2.1 _ t_486) dJ6_bitCount_0f7a4_11 ?_
  refine lv_iand hx hb dJ6_bitCount_0f7a4_14 ?_
  refine lv_iload_n hx hb dJ6_bitCount_0f7a4_15 rfl (lv_at hl 0 rfl) ?_
  refine lv_iconst (v := 2) hx hb dJ6_bitCount_0f7a4_16 (by decide) ?_
  refine lv_iushr hx hb dJ6_bitCount_0f7a4_17 rfl ?_
  refine lv_ldcw (v := 858993459) hx hb F.2.2.2.2.2.1 (F.2.2.2.2.2.2.1 _ t_486) dJ6_bitCount_0f7a4_18 ?_
  refine lv_iand hx hb dJ6_bitCount_0f7a4_21 ?_
  refine lv_iadd hx hb dJ6_bitCount_0f7a4_22 ?_
  refine lv_istore_n (lv' := [(0, .int (((i0 - ((Int32.toUInt32 i0 >>> (Int32.toUInt32 1 &&& Int32.toUInt32 31)).toInt32 &&& 1431655765)) &&& 858993459) + ((Int32.toUInt32 (i0 - ((Int32.toUInt32 i0 >>> (Int32.toUInt32 1 &&& Int32.toUInt32 31)).toInt32 &&& 1431655765)) >>> (Int32.toUInt32 2 &&& Int32.toUInt32 31)).toInt32 &&& 858993459)))]) hx hb dJ6_bitCount_0f7a4_23 rfl hl (by decide) rfl (fun ls hl => ?_)
  refine lv_iload_n hx hb dJ6_bitCount_0f7a4_24 rfl (lv_at hl 0 rfl) ?_
  refine lv_iload_n hx hb dJ6_bitCount_0f7a4_25 rfl (lv_at hl 0 rfl) ?_
  refine lv_iconst (v := 4) hx hb dJ6_bitCount_0f7a4_26 (by decide) ?_
  refine lv_iushr hx hb dJ6_bitCount_0f7a4_27 rfl ?_
  refine lv_iadd hx hb dJ6_bitCount_0f7a4_28 ?_
  refine lv_ldcw (v := 252645135) hx hb F.2.2.2.2.2.1 (F.2.2.2.2.2.2.1 _ t_487) dJ6_bitCount_0f7a4_29 ?_
  refine lv_iand hx hb dJ6_bitCount_0f7a4_32 ?_
  refine lv_istore_n (lv' := [(0, .int (((((i0 - ((Int32.toUInt32 i0 >>> (Int32.toUInt32 1 &&& Int32.toUInt32 31)).toInt32 &&& 1431655765)) &&& 858993459) + ((Int32.toUInt32 (i0 - ((Int32.toUInt32 i0 >>> (Int32.toUInt32 1 &&& Int32.toUInt32 31)).toInt32 &&& 1431655765)) >>> (Int32.toUInt32 2 &&& Int32.toUInt32 31)).toInt32 &&& 858993459)) + (Int32.toUInt32 (((i0 - ((Int32.toUInt32 i0 >>> (Int32.toUInt32 1 &&& Int32.toUInt32 31)).toInt32 &&& 1431655765)) &&& 858993459) + ((Int32.toUInt32 (i0 - ((Int32.toUInt32 i0 >>> (Int32.toUInt32 1 &&& Int32.toUInt32 31)).toInt32 &&& 1431655765)) >>> (Int32.toUInt32 2 &&& Int32.toUInt32 31)).toInt32 &&& 858993459)) >>> (Int32.toUInt32 4 &&& Int32.toUInt32 31)).toInt32) &&& 252645135))]) hx hb dJ6_bitCount_0f7a4_33 rfl hl (by decide) rfl (fun ls hl => ?_)
  refine lv_iload_n hx hb dJ6_bitCount_0f7a4_34 rfl (lv_at hl 0 rfl) ?_
  refine lv_iload_n hx hb dJ6_bitCount_0f7a4_35 rfl (lv_at hl 0 rfl) ?_
  refine lv_bipush (v := 8) hx hb dJ6_bitCount_0f7a4_36 (by decide) ?_
  refine lv_iushr hx hb dJ6_bitCount_0f7a4_38 rfl ?_
  refine lv_iadd hx hb dJ6_bitCount_0f7a4_39 ?_
  refine lv_istore_n (lv' := [(0, .int ((((((i0 - ((Int32.toUInt32 i0 >>> (Int32.toUInt32 1 &&& Int32.toUInt32 31)).toInt32 &&& 1431655765)) &&& 858993459) + ((Int32.toUInt32 (i0 - ((Int32.toUInt32 i0 >>> (Int32.toUInt32 1 &&& Int32.toUInt32 31)).toInt32 &&& 1431655765)) >>> (Int32.toUInt32 2 &&& Int32.toUInt32 31)).toInt32 &&& 858993459)) + (Int32.toUInt32 (((i0 - ((Int32.toUInt32 i0 >>> (Int32.toUInt32 1 &&& Int32.toUInt32 31)).toInt32 &&& 1431655765)) &&& 858993459) + ((Int32.toUInt32 (i0 - ((Int32.toUInt32 i0 >>> (Int32.toUInt32 1 &&& Int32.toUInt32 31)).toInt32 &&& 1431655765)) >>> (Int32.toUInt32 2 &&& Int32.toUInt32 31)).toInt32 &&& 858993459)) >>> (Int32.toUInt32 4 &&& Int32.toUInt32 31)).toInt32) &&& 252645135) + (Int32.toUInt32 (((((i0 - ((Int32.toUInt32 i0 >>> (Int32.toUInt32 1 &&& Int32.toUInt32 31)).toInt32 &&& 1431655765)) &&& 858993459) + ((Int32.toUInt32 (i0 - ((Int32.toUInt32 i0 >>> (Int32.toUInt32 1 &&& Int32.toUInt32 31)).toInt32 &&& 1431655765)) >>> (Int32.toUInt32 2 &&& Int32.toUInt32 31)).toInt32 &&& 858993459)) + (Int32.toUInt32 (((i0 - ((Int32.toUInt32 i0 >>> (Int32.toUInt32 1 &&& Int32.toUInt32 31)).toInt32 &&& 1431655765)) &&& 858993459) + ((Int32.toUInt32 (i0 - ((Int32.toUInt32 i0 >>> (Int32.toUInt32 1 &&& Int32.toUInt32 31)).toInt32 &&& 1431655765)) >>> (Int32.toUInt32 2 &&& Int32.toUInt32 31)).toInt32 &&& 858993459)) >>> (Int32.toUInt32 4 &&& Int32.toUInt32 31)).toInt32) &&& 252645135) >>> (Int32.toUInt32 8 &&& Int32.toUInt32 31)).toInt32))]) hx hb dJ6_bitCount_0f7a4_40 rfl hl (by decide) rfl (fun ls hl => ?_)
  refine lv_iload_n hx hb dJ6_bitCount_0f7a4_41 rfl (lv_at hl 0 rfl) ?_
  refine lv_iload_n hx hb dJ6_bitCount_0f7a4_42 rfl (lv_at hl 0 rfl) ?_
  refine lv_bipush (v := 16) hx hb dJ6_bitCount_0f7a4_43 (by decide) ?_
  refine lv_iushr hx hb dJ6_bitCount_0f7a4_45 rfl ?_
  refine lv_iadd hx hb dJ6_bitCount_0f7a4_46 ?_
  refine lv_istore_n (lv' := [(0, .int (((((((i0 - ((Int32.toUInt32 i0 >>> (Int32.toUInt32 1 &&& Int32.toUInt32 31)).toInt32 &&& 1431655765)) &&& 858993459) + ((Int32.toUInt32 (i0 - ((Int32.toUInt32 i0 >>> (Int32.toUInt32 1 &&& Int32.toUInt32 31)).toInt32 &&& 1431655765)) >>> (Int32.toUInt32 2 &&& Int32.toUInt32 31)).toInt32 &&& 858993459)) + (Int32.toUInt32 (((i0 - ((Int32.toUInt32 i0 >>> (Int32.toUInt32 1 &&& Int32.toUInt32 31)).toInt32 &&& 1431655765)) &&& 858993459) + ((Int32.toUInt32 (i0 - ((Int32.toUInt32 i0 >>> (Int32.toUInt32 1 &&& Int32.toUInt32 31)).toInt32 &&& 1431655765)) >>> (Int32.toUInt32 2 &&& Int32.toUInt32 31)).toInt32 &&& 858993459)) >>> (Int32.toUInt32 4 &&& Int32.toUInt32 31)).toInt32) &&& 252645135) + (Int32.toUInt32 (((((i0 - ((Int32.toUInt32 i0 >>> (Int32.toUInt32 1 &&& Int32.toUInt32 31)).toInt32 &&& 1431655765)) &&& 858993459) + ((Int32.toUInt32 (i0 - ((Int32.toUInt32 i0 >>> (Int32.toUInt32 1 &&& Int32.toUInt32 31)).toInt32 &&& 1431655765)) >>> (Int32.toUInt32 2 &&& Int32.toUInt32 31)).toInt32 &&& 858993459)) + (Int32.toUInt32 (((i0 - ((Int32.toUInt32 i0 >>> (Int32.toUInt32 1 &&& Int32.toUInt32 31)).toInt32 &&& 1431655765)) &&& 858993459) + ((Int32.toUInt32 (i0 - ((Int32.toUInt32 i0 >>> (Int32.toUInt32 1 &&& Int32.toUInt32 31)).toInt32 &&& 1431655765)) >>> (Int32.toUInt32 2 &&& Int32.toUInt32 31)).toInt32 &&& 858993459)) >>> (Int32.toUInt32 4 &&& Int32.toUInt32 31)).toInt32) &&& 252645135) >>> (Int32.toUInt32 8 &&& Int32.toUInt32 31)).toInt32) + (Int32.toUInt32 ((((((i0 - ((Int32.toUInt32 i0 >>> (Int32.toUInt32 1 &&& Int32.toUInt32 31)).toInt32 &&& 1431655765)) &&& 858993459) + ((Int32.toUInt32 (i0 - ((Int32.toUInt32 i0 >>> (Int32.toUInt32 1 &&& Int32.toUInt32 31)).toInt32 &&& 1431655765)) >>> (Int32.toUInt32 2 &&& Int32.toUInt32 31)).toInt32 &&& 858993459)) + (Int32.toUInt32 (((i0 - ((Int32.toUInt32 i0 >>> (Int32.toUInt32 1 &&& Int32.toUInt32 31)).toInt32 &&& 1431655765)) &&& 858993459) + ((Int32.toUInt32 (i0 - ((Int32.toUInt32 i0 >>> (Int32.toUInt32 1 &&& Int32.toUInt32 31)).toInt32 &&& 1431655765)) >>> (Int32.toUInt32 2 &&& Int32.toUInt32 31)).toInt32 &&& 858993459)) >>> (Int32.toUInt32 4 &&& Int32.toUInt32 31)).toInt32) &&& 252645135) + (Int32.toUInt32 (((((i0 - ((Int32.toUInt32 i0 >>> (Int32.toUInt32 1 &&& Int32.toUInt32 31)).toInt32 &&& 1431655765)) &&& 858993459) + ((Int32.toUInt32 (i0 - ((Int32.toUInt32 i0 >>> (Int32.toUInt32 1 &&& Int32.toUInt32 31)).toInt32 &&& 1431655765)) >>> (Int32.toUInt32 2 &&& Int32.toUInt32 31)).toInt32 &&& 858993459)) + (Int32.toUInt32 (((i0 - ((Int32.toUInt32 i0 >>> (Int32.toUInt32 1 &&& Int32.toUInt32 31)).toInt32 &&& 1431655765)) &&& 858993459) + ((Int32.toUInt32 (i0 - ((Int32.toUInt32 i0 >>> (Int32.toUInt32 1 &&& Int32.toUInt32 31)).toInt32 &&& 1431655765)) >>> (Int32.toUInt32 2 &&& Int32.toUInt32 31)).toInt32 &&& 858993459)) >>> (Int32.toUInt32 4 &&& Int32.toUInt32 31)).toInt32) &&& 252645135) >>> (Int32.toUInt32 8 &&& Int32.toUInt32 31)).toInt32) >>> (Int32.toUInt32 16 &&& Int32.toUInt32 31)).toInt32))]) hx hb dJ6_bitCount_0f7a4_47 rfl hl (by decide) rfl (fun ls hl => ?_)
  refine lv_iload_n hx hb dJ6_bitCount_0f7a4_48 rfl (lv_at hl 0 rfl) ?_
  refine lv_bipush (v := 63) hx hb dJ6_bitCount_0f7a4_49 (by decide) ?_
  refine lv_iand hx hb dJ6_bitCount_0f7a4_51 ?_
  obtain rfl := inj1 h0
  exact hret _ _ _ _ hw dJ6_bitCount_0f7a4_52
theorem cal_J0_isLatin1_aae02 : CalV yJ0_isLatin1_aae02 cJ0_isLatin1_aae02 1 (some .boolean) RJ0 0 := ⟨t_345, t_343, t_344, t_45, by decide +kernel⟩
set_option maxHeartbeats 4000000 in
set_option maxRecDepth 100000 in
theorem cJ0_isLatin1_aae02_ok (l : Launch) (d : va_G) (cy : Nat → ClassId) (sk : Nat) (hsk : sk < 4) (r : Int32) (h0 : fJ0_isLatin1_aae02 sk = some (r)) : CI l yJ0_isLatin1_aae02 cJ0_isLatin1_aae02 1 (some .boolean) 0 0 d cy [.ref (cy (10 + sk))] ([]) ([]) r := by
  refine CZ.of (by decide) (Nat.le_of_ble_eq_true rfl) ?_
  intro p e s m args below meth c A ls Q F hret hw hl
  have hx := F.1
  have hb := F.2.1
  have hl : lv_has ls 1 [(0, .ref (cy (10 + sk)))] := hl
  rw [fJ0_isLatin1_aae02] at h0
  refine g_comp F hw t_346 dJ0_isLatin1_aae02_0 ?_
  refine lv_if_eq (tgt := 17) hx hb dJ0_isLatin1_aae02_3 (by decide) (fun c1 => ?_) (fun c1 => ?_)
  · rw [if_pos c1] at h0
    refine lv_iconst (v := 0) hx hb dJ0_isLatin1_aae02_17 (by decide) ?_
    obtain rfl := inj1 h0
    exact hret _ _ _ _ rfl hw dJ0_isLatin1_aae02_18
  · rw [if_neg c1] at h0
    refine lv_aload_n hx hb dJ0_isLatin1_aae02_6 rfl (lv_at hl 0 rfl) ?_
    refine g_scod F hw hsk t_1094 dJ0_isLatin1_aae02_7 ?_
    refine lv_if_ne (tgt := 17) hx hb dJ0_isLatin1_aae02_10 (by decide) (fun c2 => ?_) (fun c2 => ?_)
    · rw [if_neg c2] at h0
      refine lv_iconst (v := 0) hx hb dJ0_isLatin1_aae02_17 (by decide) ?_
      obtain rfl := inj1 h0
      exact hret _ _ _ _ rfl hw dJ0_isLatin1_aae02_18
    · rw [if_pos c2] at h0
      refine lv_iconst (v := 1) hx hb dJ0_isLatin1_aae02_13 (by decide) ?_
      refine lv_goto (tgt := 18) hx hb dJ0_isLatin1_aae02_14 (by decide) ?_
      obtain rfl := inj1 h0
      exact hret _ _ _ _ rfl hw dJ0_isLatin1_aae02_18
theorem cal_J0_coder_7d493 : CalV yJ0_coder_7d493 cJ0_coder_7d493 1 (some .byte) RJ0 0 := ⟨t_355, t_353, t_354, t_45, by decide +kernel⟩
set_option maxHeartbeats 4000000 in
set_option maxRecDepth 100000 in
theorem cJ0_coder_7d493_ok (l : Launch) (d : va_G) (cy : Nat → ClassId) (sk : Nat) (hsk : sk < 4) (r : Int32) (h0 : fJ0_coder_7d493 sk = some (r)) : CI l yJ0_coder_7d493 cJ0_coder_7d493 1 (some .byte) 0 0 d cy [.ref (cy (10 + sk))] ([]) ([]) r := by
  refine CZ.of (by decide) (Nat.le_of_ble_eq_true rfl) ?_
  intro p e s m args below meth c A ls Q F hret hw hl
  have hx := F.1
  have hb := F.2.1
  have hl : lv_has ls 1 [(0, .ref (cy (10 + sk)))] := hl
  rw [fJ0_coder_7d493] at h0
  refine g_comp F hw t_346 dJ0_coder_7d493_0 ?_
  refine lv_if_eq (tgt := 13) hx hb dJ0_coder_7d493_3 (by decide) (fun c1 => ?_) (fun c1 => ?_)
  · rw [if_pos c1] at h0
    refine lv_iconst (v := 1) hx hb dJ0_coder_7d493_13 (by decide) ?_
    obtain rfl := inj1 h0
    exact hret _ _ _ _ rfl hw dJ0_coder_7d493_14
  · rw [if_neg c1] at h0
    refine lv_aload_n hx hb dJ0_coder_7d493_6 rfl (lv_at hl 0 rfl) ?_
    refine g_scod F hw hsk t_1094 dJ0_coder_7d493_7 ?_
    refine lv_goto (tgt := 14) hx hb dJ0_coder_7d493_10 (by decide) ?_
    obtain rfl := inj1 h0
    exact hret _ _ _ _ rfl hw dJ0_coder_7d493_14
theorem cal_J0_length_8abf5 : CalV yJ0_length_8abf5 cJ0_length_8abf5 1 (some .int) RJ0 0 := ⟨t_351, t_349, t_350, t_45, by decide +kernel⟩
set_option maxHeartbeats 4000000 in
set_option maxRecDepth 100000 in
theorem cJ0_length_8abf5_ok (l : Launch) (d : va_G) (cy : Nat → ClassId) (sk : Nat) (hsk : sk < 4) (r : Int32) (h0 : fJ0_length_8abf5 sk = some (r)) : CI l yJ0_length_8abf5 cJ0_length_8abf5 1 (some .int) 1 20 d cy [.ref (cy (10 + sk))] ([]) ([]) r := by
  refine CI.of (by decide) (Nat.le_of_ble_eq_true rfl) ?_
  intro p e s m args below meth c A ls Q F hret hw hl
  have hx := F.1
  have hb := F.2.1
  have hl : lv_has ls 1 [(0, .ref (cy (10 + sk)))] := hl
  rw [fJ0_length_8abf5] at h0
  refine lv_aload_n hx hb dJ0_length_8abf5_0 rfl (lv_at hl 0 rfl) ?_
  refine g_sval F hw hsk t_1095 dJ0_length_8abf5_1 ?_
  refine g_blen F hw hsk dJ0_length_8abf5_4 ?_
  refine lv_aload_n hx hb dJ0_length_8abf5_5 rfl (lv_at hl 0 rfl) ?_
  obtain ⟨r1, k2, h3⟩ := ob1 h0
  clear h0
  refine g_ki F (cJ0_coder_7d493_ok l d cy sk hsk r1 k2) cal_J0_coder_7d493 t_352 rfl ⟨by decide, by decide⟩ hw (w' := []) Cut.nil hsk hl.1 (Nat.le_of_ble_eq_true rfl) rfl dJ0_length_8abf5_6 (fun H locs hw => ?_)
  refine lv_ishr hx hb dJ0_length_8abf5_9 ?_
  obtain rfl := inj1 h3
  exact hret _ _ _ _ hw dJ0_length_8abf5_10
theorem cal_J1_canEncode_9a6ad : CalS yJ1_canEncode_9a6ad cJ1_canEncode_9a6ad 1 (some .boolean) 1 := ⟨t_361, t_360, t_46, by decide +kernel⟩
set_option maxHeartbeats 4000000 in
set_option maxRecDepth 100000 in
theorem cJ1_canEncode_9a6ad_ok (l : Launch) (d : va_G) (cy : Nat → ClassId) (i0 : Int32) (r : Int32) (h0 : fJ1_canEncode_9a6ad i0 = some (r)) : CI l yJ1_canEncode_9a6ad cJ1_canEncode_9a6ad 1 (some .boolean) 0 0 d cy [.int i0] ([]) ([]) r := by
  refine CZ.of (by decide) (Nat.le_of_ble_eq_true rfl) ?_
  intro p e s m args below meth c A ls Q F hret hw hl
  have hx := F.1
  have hb := F.2.1
  have hl : lv_has ls 1 [(0, .int i0)] := hl
  rw [fJ1_canEncode_9a6ad] at h0
  refine lv_iload_n hx hb dJ1_canEncode_9a6ad_0 rfl (lv_at hl 0 rfl) ?_
  refine lv_if_lt (tgt := 15) hx hb dJ1_canEncode_9a6ad_1 (by decide) (fun c1 => ?_) (fun c1 => ?_)
  · rw [if_pos c1] at h0
    refine lv_iconst (v := 0) hx hb dJ1_canEncode_9a6ad_15 (by decide) ?_
    obtain rfl := inj1 h0
    exact hret _ _ _ _ rfl hw dJ1_canEncode_9a6ad_16
  · rw [if_neg c1] at h0
    refine lv_iload_n hx hb dJ1_canEncode_9a6ad_4 rfl (lv_at hl 0 rfl) ?_
    refine lv_sipush (v := 255) hx hb dJ1_canEncode_9a6ad_5 (by decide) ?_
    refine lv_icmp_gt (tgt := 15) hx hb dJ1_canEncode_9a6ad_8 (by decide) (fun c2 => ?_) (fun c2 => ?_)
    · rw [if_pos c2] at h0
      refine lv_iconst (v := 0) hx hb dJ1_canEncode_9a6ad_15 (by decide) ?_
      obtain rfl := inj1 h0
      exact hret _ _ _ _ rfl hw dJ1_canEncode_9a6ad_16
    · rw [if_neg c2] at h0
      refine lv_iconst (v := 1) hx hb dJ1_canEncode_9a6ad_11 (by decide) ?_
      refine lv_goto (tgt := 16) hx hb dJ1_canEncode_9a6ad_12 (by decide) ?_
      obtain rfl := inj1 h0
      exact hret _ _ _ _ rfl hw dJ1_canEncode_9a6ad_16
theorem cal_J1_indexOfChar_4cfef : CalS yJ1_indexOfChar_4cfef cJ1_indexOfChar_4cfef 6 (some .int) 4 := ⟨t_370, t_369, t_46, by decide +kernel⟩
set_option maxHeartbeats 4000000 in
set_option maxRecDepth 100000 in
theorem cJ1_indexOfChar_4cfef_ok (l : Launch) (d : va_G) (cy : Nat → ClassId) (sk : Nat) (i1 : Int32) (i2 : Int32) (i3 : Int32) (hsk : sk < 4) (r : Int32) (h0 : fJ1_indexOfChar_4cfef sk i1 i2 i3 = some (r)) : CI l yJ1_indexOfChar_4cfef cJ1_indexOfChar_4cfef 6 (some .int) 0 0 d cy [.ref (cy (20 + sk)), .int i1, .int i2, .int i3] ([]) ([]) r := by
  refine CI.of (by decide) (Nat.le_of_ble_eq_true rfl) ?_
  intro p e s m args below meth c A ls Q F hret hw hl
  have hx := F.1
  have hb := F.2.1
  have hl : lv_has ls 6 [(0, .ref (cy (20 + sk))), (1, .int i1), (2, .int i2), (3, .int i3)] := hl
  rw [fJ1_indexOfChar_4cfef] at h0
  refine lv_iload_n hx hb dJ1_indexOfChar_4cfef_0 rfl (lv_at hl 1 rfl) ?_
  refine lv_i2b hx hb dJ1_indexOfChar_4cfef_1 rfl ?_
  refine lv_istore (lv' := [(4, .int ((Int32.toInt8 i1).toInt32)), (0, .ref (cy (20 + sk))), (1, .int i1), (2, .int i2), (3, .int i3)]) hx hb dJ1_indexOfChar_4cfef_2 hl (by decide) rfl (fun ls hl => ?_)
  refine lv_iload_n hx hb dJ1_indexOfChar_4cfef_4 rfl (lv_at hl 3 rfl) ?_
  refine lv_istore (lv' := [(5, .int i2), (4, .int ((Int32.toInt8 i1).toInt32)), (0, .ref (cy (20 + sk))), (1, .int i1), (2, .int i2), (3, .int i3)]) hx hb dJ1_indexOfChar_4cfef_5 hl (by decide) rfl (fun ls hl => ?_)
  obtain ⟨zz19, h20, h21⟩ := ob1 h0
  clear h0
  have kont11 : ∀ (_ : Unit), zz19 = Sum.inr () → ∀ (H : Heap) (locs : List Loc) (ls : Array Slot), Wd d A s.heap ([]) H locs → lv_has ls 6 [] → W p l e (rmo 0 0) s m args below meth c H locs 0 0 Q (F0 m 31 ls []) := by
    intro _ hz H locs ls hw hl
    subst hz
    clear h20
    have h22 : (some ((-1))) = some (r) := h21
    clear h21
    refine lv_iconst (v := (-1)) hx hb dJ1_indexOfChar_4cfef_31 (by decide) ?_
    obtain rfl := inj1 h22
    exact hret _ _ _ _ hw dJ1_indexOfChar_4cfef_32
  have hretl : ∀ ww, zz19 = Sum.inl ww → ww = (r) := by
    intro ww hz
    subst hz
    exact Option.some.inj h21
  clear h21
  have loop13 : ∀ (n : Nat) (v10 : Int32) (H : Heap) (locs : List Loc) (ls : Array Slot), Wd d A s.heap ([]) H locs → lv_has ls 6 [(0, .ref (cy (20 + sk))), (3, .int i3), (4, .int ((Int32.toInt8 i1).toInt32)), (5, .int v10)] → fJ1_indexOfChar_4cfef_L7 i1 i3 sk n v10 = some zz19 → W p l e (rmo 0 0) s m args below meth c H locs 0 0 Q (F0 m 7 ls []) := by
    intro n
    induction n with
    | zero =>
      intro v10 H locs ls hw hl h23
      rw [fJ1_indexOfChar_4cfef_L7] at h23
      cases h23
    | succ n ih12 =>
      intro v10 H locs ls hw hl h24
      rw [fJ1_indexOfChar_4cfef_L7] at h24
      refine lv_iload hx hb dJ1_indexOfChar_4cfef_7 (lv_at hl 3 rfl) ?_
      refine lv_iload_n hx hb dJ1_indexOfChar_4cfef_9 rfl (lv_at hl 1 rfl) ?_
      refine lv_icmp_ge (tgt := 31) hx hb dJ1_indexOfChar_4cfef_10 (by decide) (fun c14 => ?_) (fun c14 => ?_)
      · rw [if_pos c14] at h24
        exact kont11 () (Option.some.inj h24).symm _ _ _ hw (lv_sub hl [] rfl)
      · rw [if_neg c14] at h24
        refine lv_aload_n hx hb dJ1_indexOfChar_4cfef_13 rfl (lv_at hl 0 rfl) ?_
        refine lv_iload hx hb dJ1_indexOfChar_4cfef_14 (lv_at hl 3 rfl) ?_
        obtain ⟨j15, k16, h25⟩ := ob1 h24
        clear h24
        refine g_bald F hw hsk k16 dJ1_indexOfChar_4cfef_16 ?_
        refine lv_iload hx hb dJ1_indexOfChar_4cfef_17 (lv_at hl 2 rfl) ?_
        refine lv_icmp_ne (tgt := 25) hx hb dJ1_indexOfChar_4cfef_19 (by decide) (fun c17 => ?_) (fun c17 => ?_)
        · rw [if_neg c17] at h25
          refine lv_iinc (v := (v10 + 1)) (lv' := [(5, .int (v10 + 1)), (0, .ref (cy (20 + sk))), (3, .int i3), (4, .int ((Int32.toInt8 i1).toInt32))]) hx hb dJ1_indexOfChar_4cfef_25 hl (k := 3) rfl rfl (by decide) rfl (fun ls hl => ?_)
          refine lv_goto (tgt := 7) hx hb dJ1_indexOfChar_4cfef_28 (by decide) ?_
          exact ih12 (v10 + 1) _ _ _ hw (lv_sub hl [1, 2, 3, 0] rfl) h25
        · rw [if_pos c17] at h25
          refine lv_iload hx hb dJ1_indexOfChar_4cfef_22 (lv_at hl 3 rfl) ?_
          cases hretl _ (Option.some.inj h25).symm
          exact hret _ _ _ _ hw dJ1_indexOfChar_4cfef_24
  exact loop13 fl i2 _ _ _ hw (lv_sub hl [2, 5, 1, 0] rfl) h20
theorem cal_J1_indexOf_4cfef : CalS yJ1_indexOf_4cfef cJ1_indexOf_4cfef 4 (some .int) 4 := ⟨t_358, t_357, t_46, by decide +kernel⟩
set_option maxHeartbeats 4000000 in
set_option maxRecDepth 100000 in
theorem cJ1_indexOf_4cfef_ok (l : Launch) (d : va_G) (cy : Nat → ClassId) (sk : Nat) (i1 : Int32) (i2 : Int32) (i3 : Int32) (hsk : sk < 4) (r : Int32) (h0 : fJ1_indexOf_4cfef sk i1 i2 i3 = some (r)) : CI l yJ1_indexOf_4cfef cJ1_indexOf_4cfef 4 (some .int) 1 25 d cy [.ref (cy (20 + sk)), .int i1, .int i2, .int i3] ([]) ([]) r := by
  refine CI.of (by decide) (Nat.le_of_ble_eq_true rfl) ?_
  intro p e s m args below meth c A ls Q F hret hw hl
  have hx := F.1
  have hb := F.2.1
  have hl : lv_has ls 4 [(0, .ref (cy (20 + sk))), (1, .int i1), (2, .int i2), (3, .int i3)] := hl
  rw [fJ1_indexOf_4cfef] at h0
  refine lv_iload_n hx hb dJ1_indexOf_4cfef_0 rfl (lv_at hl 1 rfl) ?_
  obtain ⟨r1, k2, h7⟩ := ob1 h0
  clear h0
  refine g_si F (cJ1_canEncode_9a6ad_ok l d cy i1 r1 k2) cal_J1_canEncode_9a6ad t_359 rfl ⟨by decide, by decide⟩ hw (w' := []) Cut.nil hl.1 (Nat.le_of_ble_eq_true rfl) rfl dJ1_indexOf_4cfef_1 (fun H locs hw => ?_)
  refine lv_if_ne (tgt := 9) hx hb dJ1_indexOf_4cfef_4 (by decide) (fun c3 => ?_) (fun c3 => ?_)
  · rw [if_neg c3] at h7
    refine lv_iload_n hx hb dJ1_indexOf_4cfef_9 rfl (lv_at hl 2 rfl) ?_
    refine lv_iconst (v := 0) hx hb dJ1_indexOf_4cfef_10 (by decide) ?_
    refine va_mmax hx hb (F.2.2.2.2.1.trans hl.1.symm) F.2.2.2.2.2.1 (F.2.2.2.2.2.2.1 _ t_362) (F.2.2.2.2.2.2.1 _ t_363) (F.2.2.2.2.2.2.1 _ t_47) (F.2.2.2.2.2.2.1 _ t_364) (by decide) (Nat.le_of_ble_eq_true rfl) (Nat.zero_le _) (Nat.zero_le _) dJ1_indexOf_4cfef_11 ?_
    refine lv_istore_n (lv' := [(2, .int (if i2 < 0 then 0 else i2)), (0, .ref (cy (20 + sk))), (1, .int i1), (3, .int i3)]) hx hb dJ1_indexOf_4cfef_14 rfl hl (by decide) rfl (fun ls hl => ?_)
    refine lv_iload_n hx hb dJ1_indexOf_4cfef_15 rfl (lv_at hl 3 rfl) ?_
    refine lv_aload_n hx hb dJ1_indexOf_4cfef_16 rfl (lv_at hl 1 rfl) ?_
    refine g_blen F hw hsk dJ1_indexOf_4cfef_17 ?_
    refine va_mmin hx hb (F.2.2.2.2.1.trans hl.1.symm) F.2.2.2.2.2.1 (F.2.2.2.2.2.2.1 _ t_365) (F.2.2.2.2.2.2.1 _ t_366) (F.2.2.2.2.2.2.1 _ t_47) (F.2.2.2.2.2.2.1 _ t_367) (by decide) (Nat.le_of_ble_eq_true rfl) (Nat.zero_le _) (Nat.zero_le _) dJ1_indexOf_4cfef_18 ?_
    refine lv_istore_n (lv' := [(3, .int (if (Int32.ofNat (strN.getD sk 0)) < i3 then (Int32.ofNat (strN.getD sk 0)) else i3)), (2, .int (if i2 < 0 then 0 else i2)), (0, .ref (cy (20 + sk))), (1, .int i1)]) hx hb dJ1_indexOf_4cfef_21 rfl hl (by decide) rfl (fun ls hl => ?_)
    refine lv_iload_n hx hb dJ1_indexOf_4cfef_22 rfl (lv_at hl 1 rfl) ?_
    refine lv_iload_n hx hb dJ1_indexOf_4cfef_23 rfl (lv_at hl 0 rfl) ?_
    refine lv_icmp_lt (tgt := 29) hx hb dJ1_indexOf_4cfef_24 (by decide) (fun c4 => ?_) (fun c4 => ?_)
    · rw [if_pos c4] at h7
      refine lv_aload_n hx hb dJ1_indexOf_4cfef_29 rfl (lv_at hl 2 rfl) ?_
      refine lv_iload_n hx hb dJ1_indexOf_4cfef_30 rfl (lv_at hl 3 rfl) ?_
      refine lv_iload_n hx hb dJ1_indexOf_4cfef_31 rfl (lv_at hl 1 rfl) ?_
      refine lv_iload_n hx hb dJ1_indexOf_4cfef_32 rfl (lv_at hl 0 rfl) ?_
      obtain ⟨r5, k6, h8⟩ := ob1 h7
      clear h7
      refine g_si F (cJ1_indexOfChar_4cfef_ok l d cy sk i1 (if i2 < 0 then 0 else i2) (if (Int32.ofNat (strN.getD sk 0)) < i3 then (Int32.ofNat (strN.getD sk 0)) else i3) hsk r5 k6) cal_J1_indexOfChar_4cfef t_368 rfl ⟨by decide, by decide⟩ hw (w' := []) Cut.nil hl.1 (Nat.le_of_ble_eq_true rfl) rfl dJ1_indexOf_4cfef_33 (fun H locs hw => ?_)
      obtain rfl := inj1 h8
      exact hret _ _ _ _ hw dJ1_indexOf_4cfef_36
    · rw [if_neg c4] at h7
      refine lv_iconst (v := (-1)) hx hb dJ1_indexOf_4cfef_27 (by decide) ?_
      obtain rfl := inj1 h7
      exact hret _ _ _ _ hw dJ1_indexOf_4cfef_28
  · rw [if_pos c3] at h7
    refine lv_iconst (v := (-1)) hx hb dJ1_indexOf_4cfef_7 (by decide) ?_
    obtain rfl := inj1 h7
    exact hret _ _ _ _ hw dJ1_indexOf_4cfef_8
theorem cal_J0_indexOf_7cf53 : CalV yJ0_indexOf_7cf53 cJ0_indexOf_7cf53 3 (some .int) RJ0 2 := ⟨t_341, t_339, t_340, t_45, by decide +kernel⟩
set_option maxHeartbeats 4000000 in
set_option maxRecDepth 100000 in
theorem cJ0_indexOf_7cf53_ok (l : Launch) (d : va_G) (cy : Nat → ClassId) (sk : Nat) (i1 : Int32) (i2 : Int32) (hsk : sk < 4) (r : Int32) (h0 : fJ0_indexOf_7cf53 sk i1 i2 = some (r)) : CI l yJ0_indexOf_7cf53 cJ0_indexOf_7cf53 3 (some .int) 2 48 d cy [.ref (cy (10 + sk)), .int i1, .int i2] ([]) ([]) r := by
  refine CI.of (by decide) (Nat.le_of_ble_eq_true rfl) ?_
  intro p e s m args below meth c A ls Q F hret hw hl
  have hx := F.1
  have hb := F.2.1
  have hl : lv_has ls 3 [(0, .ref (cy (10 + sk))), (1, .int i1), (2, .int i2)] := hl
  rw [fJ0_indexOf_7cf53] at h0
  refine lv_aload_n hx hb dJ0_indexOf_7cf53_0 rfl (lv_at hl 0 rfl) ?_
  obtain ⟨r1, k2, h10⟩ := ob1 h0
  clear h0
  refine g_ki F (cJ0_isLatin1_aae02_ok l d cy sk hsk r1 k2) cal_J0_isLatin1_aae02 t_342 rfl ⟨by decide, by decide⟩ hw (w' := []) Cut.nil hsk hl.1 (Nat.le_of_ble_eq_true rfl) rfl dJ0_indexOf_7cf53_1 (fun H locs hw => ?_)
  refine lv_if_eq (tgt := 23) hx hb dJ0_indexOf_7cf53_4 (by decide) (fun c3 => ?_) (fun c3 => ?_)
  · rw [if_pos c3] at h10
    refine lv_aload_n hx hb dJ0_indexOf_7cf53_23 rfl (lv_at hl 0 rfl) ?_
    refine g_sval F hw hsk t_1095 dJ0_indexOf_7cf53_24 ?_
    refine lv_iload_n hx hb dJ0_indexOf_7cf53_27 rfl (lv_at hl 1 rfl) ?_
    refine lv_iload_n hx hb dJ0_indexOf_7cf53_28 rfl (lv_at hl 2 rfl) ?_
    refine lv_aload_n hx hb dJ0_indexOf_7cf53_29 rfl (lv_at hl 0 rfl) ?_
    obtain ⟨r4, k5, h11⟩ := ob1 h10
    clear h10
    refine g_ki F (cJ0_length_8abf5_ok l d cy sk hsk r4 k5) cal_J0_length_8abf5 t_348 rfl ⟨by decide, by decide⟩ hw (w' := []) Cut.nil hsk hl.1 (Nat.le_of_ble_eq_true rfl) rfl dJ0_indexOf_7cf53_30 (fun H locs hw => ?_)
    cases h11
  · rw [if_neg c3] at h10
    refine lv_aload_n hx hb dJ0_indexOf_7cf53_7 rfl (lv_at hl 0 rfl) ?_
    refine g_sval F hw hsk t_1095 dJ0_indexOf_7cf53_8 ?_
    refine lv_iload_n hx hb dJ0_indexOf_7cf53_11 rfl (lv_at hl 1 rfl) ?_
    refine lv_iload_n hx hb dJ0_indexOf_7cf53_12 rfl (lv_at hl 2 rfl) ?_
    refine lv_aload_n hx hb dJ0_indexOf_7cf53_13 rfl (lv_at hl 0 rfl) ?_
    obtain ⟨r6, k7, h12⟩ := ob1 h10
    clear h10
    refine g_ki F (cJ0_length_8abf5_ok l d cy sk hsk r6 k7) cal_J0_length_8abf5 t_348 rfl ⟨by decide, by decide⟩ hw (w' := []) Cut.nil hsk hl.1 (Nat.le_of_ble_eq_true rfl) rfl dJ0_indexOf_7cf53_14 (fun H locs hw => ?_)
    obtain ⟨r8, k9, h13⟩ := ob1 h12
    clear h12
    refine g_si F (cJ1_indexOf_4cfef_ok l d cy sk i1 i2 r6 hsk r8 k9) cal_J1_indexOf_4cfef t_356 rfl ⟨by decide, by decide⟩ hw (w' := []) Cut.nil hl.1 (Nat.le_of_ble_eq_true rfl) rfl dJ0_indexOf_7cf53_17 (fun H locs hw => ?_)
    refine lv_goto (tgt := 36) hx hb dJ0_indexOf_7cf53_20 (by decide) ?_
    obtain rfl := inj1 h13
    exact hret _ _ _ _ hw dJ0_indexOf_7cf53_36
theorem cal_J0_indexOf_0f7a4 : CalV yJ0_indexOf_0f7a4 cJ0_indexOf_0f7a4 2 (some .int) RJ0 1 := ⟨t_337, t_335, t_336, t_45, by decide +kernel⟩
set_option maxHeartbeats 4000000 in
set_option maxRecDepth 100000 in
theorem cJ0_indexOf_0f7a4_ok (l : Launch) (d : va_G) (cy : Nat → ClassId) (sk : Nat) (i1 : Int32) (hsk : sk < 4) (r : Int32) (h0 : fJ0_indexOf_0f7a4 sk i1 = some (r)) : CI l yJ0_indexOf_0f7a4 cJ0_indexOf_0f7a4 2 (some .int) 3 70 d cy [.ref (cy (10 + sk)), .int i1] ([]) ([]) r := by
  refine CI.of (by decide) (Nat.le_of_ble_eq_true rfl) ?_
  intro p e s m args below meth c A ls Q F hret hw hl
  have hx := F.1
  have hb := F.2.1
  have hl : lv_has ls 2 [(0, .ref (cy (10 + sk))), (1, .int i1)] := hl
  rw [fJ0_indexOf_0f7a4] at h0
  refine lv_aload_n hx hb dJ0_indexOf_0f7a4_0 rfl (lv_at hl 0 rfl) ?_
  refine lv_iload_n hx hb dJ0_indexOf_0f7a4_1 rfl (lv_at hl 1 rfl) ?_
  refine lv_iconst (v := 0) hx hb dJ0_indexOf_0f7a4_2 (by decide) ?_
  obtain ⟨r1, k2, h3⟩ := ob1 h0
  clear h0
  refine g_ki F (cJ0_indexOf_7cf53_ok l d cy sk i1 0 hsk r1 k2) cal_J0_indexOf_7cf53 t_338 rfl ⟨by decide, by decide⟩ hw (w' := []) Cut.nil hsk hl.1 (Nat.le_of_ble_eq_true rfl) rfl dJ0_indexOf_0f7a4_3 (fun H locs hw => ?_)
  obtain rfl := inj1 h3
  exact hret _ _ _ _ hw dJ0_indexOf_0f7a4_6
