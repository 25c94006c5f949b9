theorem t_37 : (Cond.initialized "SundayMarket") ∈ gtbl := wd 37 (by decide +kernel) (by decide +kernel)
theorem t_214 : (Cond.methodLink "SundayMarket" 50 yX5_isWithin) ∈ gtbl := wd 214 (by decide +kernel) (by decide +kernel)
theorem t_215 : (Cond.static yX5_isWithin) ∈ gtbl := wd 215 (by decide +kernel) (by decide +kernel)
theorem t_216 : (Cond.code yX5_isWithin prog_1_method_40_code 3 (some .boolean)) ∈ gtbl := wd 216 (by decide +kernel) (by decide +kernel)
theorem t_266 : (Cond.static yX5_worthByKind) ∈ gtbl := wd 266 (by decide +kernel) (by decide +kernel)
theorem t_267 : (Cond.code yX5_worthByKind prog_1_method_54_code 9 (some .int)) ∈ gtbl := wd 267 (by decide +kernel) (by decide +kernel)
theorem t_268 : (Cond.methodLink "SundayMarket" 119 yX5_isIn) ∈ gtbl := wd 268 (by decide +kernel) (by decide +kernel)
theorem t_269 : (Cond.static yX5_isIn) ∈ gtbl := wd 269 (by decide +kernel) (by decide +kernel)
theorem t_270 : (Cond.code yX5_isIn prog_1_method_46_code 2 (some .boolean)) ∈ gtbl := wd 270 (by decide +kernel) (by decide +kernel)
theorem t_276 : (Cond.static yX5_isHalf) ∈ gtbl := wd 276 (by decide +kernel) (by decide +kernel)
theorem t_277 : (Cond.code yX5_isHalf prog_1_method_43_code 1 (some .boolean)) ∈ gtbl := wd 277 (by decide +kernel) (by decide +kernel)
theorem t_279 : (Cond.static yX5_isFlag) ∈ gtbl := wd 279 (by decide +kernel) (by decide +kernel)
theorem t_280 : (Cond.code yX5_isFlag prog_1_method_41_code 1 (some .boolean)) ∈ gtbl := wd 280 (by decide +kernel) (by decide +kernel)
theorem t_291 : (Cond.static yX5_isSunday) ∈ gtbl := wd 291 (by decide +kernel) (by decide +kernel)
theorem t_292 : (Cond.code yX5_isSunday prog_1_method_42_code 1 (some .boolean)) ∈ gtbl := wd 292 (by decide +kernel) (by decide +kernel)
theorem t_586 : (Cond.static yX5_saleOf) ∈ gtbl := wd 586 (by decide +kernel) (by decide +kernel)
theorem t_587 : (Cond.code yX5_saleOf prog_1_method_50_code 3 (some .int)) ∈ gtbl := wd 587 (by decide +kernel) (by decide +kernel)
theorem t_589 : (Cond.static yX5_sellerOf) ∈ gtbl := wd 589 (by decide +kernel) (by decide +kernel)
theorem t_590 : (Cond.code yX5_sellerOf prog_1_method_51_code 1 (some .int)) ∈ gtbl := wd 590 (by decide +kernel) (by decide +kernel)
theorem t_592 : (Cond.static yX5_buyerOf) ∈ gtbl := wd 592 (by decide +kernel) (by decide +kernel)
theorem t_593 : (Cond.code yX5_buyerOf prog_1_method_52_code 1 (some .int)) ∈ gtbl := wd 593 (by decide +kernel) (by decide +kernel)
theorem t_595 : (Cond.static yX5_halfOf) ∈ gtbl := wd 595 (by decide +kernel) (by decide +kernel)
theorem t_596 : (Cond.code yX5_halfOf prog_1_method_53_code 1 (some .int)) ∈ gtbl := wd 596 (by decide +kernel) (by decide +kernel)
theorem t_607 : (Cond.static yX5_lengthFrom) ∈ gtbl := wd 607 (by decide +kernel) (by decide +kernel)
theorem t_608 : (Cond.code yX5_lengthFrom prog_1_method_47_code 3 (some .int)) ∈ gtbl := wd 608 (by decide +kernel) (by decide +kernel)
theorem t_643 : (Cond.static yX5_power) ∈ gtbl := wd 643 (by decide +kernel) (by decide +kernel)
theorem t_644 : (Cond.code yX5_power prog_1_method_48_code 4 (some .int)) ∈ gtbl := wd 644 (by decide +kernel) (by decide +kernel)
theorem t_647 : (Cond.static yX5_greatestDivisor) ∈ gtbl := wd 647 (by decide +kernel) (by decide +kernel)
theorem t_648 : (Cond.code yX5_greatestDivisor prog_1_method_49_code 4 (some .int)) ∈ gtbl := wd 648 (by decide +kernel) (by decide +kernel)
theorem t_667 : (Cond.static yX5_isSheet) ∈ gtbl := wd 667 (by decide +kernel) (by decide +kernel)
theorem t_668 : (Cond.code yX5_isSheet prog_1_method_44_code 1 (some .boolean)) ∈ gtbl := wd 668 (by decide +kernel) (by decide +kernel)
theorem t_670 : (Cond.static yX5_isLane) ∈ gtbl := wd 670 (by decide +kernel) (by decide +kernel)
theorem t_671 : (Cond.code yX5_isLane prog_1_method_45_code 1 (some .boolean)) ∈ gtbl := wd 671 (by decide +kernel) (by decide +kernel)
def fX5_isWithin (i0 : Int32) (i1 : Int32) (i2 : Int32) : Option (Int32) :=
  if i0 < i1 then
    some (0)
  else
    if i2 < i0 then
      some (0)
    else
      some (1)
def fX5_isFlag (i0 : Int32) : Option (Int32) :=
  if i0 = 0 then
    some (1)
  else
    if i0 = 1 then
      some (1)
    else
      some (0)
def fX5_isSunday (i0 : Int32) : Option (Int32) :=
  bd1 (fX5_isWithin i0 0 5) fun r1 =>
  bd0 (isb r1) <|
  some (r1)
def fX5_isHalf (i0 : Int32) : Option (Int32) :=
  bd1 (fX5_isWithin i0 0 11) fun r1 =>
  bd0 (isb r1) <|
  some (r1)
def fX5_isSheet (i0 : Int32) : Option (Int32) :=
  bd1 (fX5_isWithin i0 0 3) fun r1 =>
  bd0 (isb r1) <|
  some (r1)
def fX5_isLane (i0 : Int32) : Option (Int32) :=
  bd1 (fX5_isWithin i0 0 3) fun r1 =>
  bd0 (isb r1) <|
  some (r1)
def fX5_isIn (i0 : Int32) (i1 : Int32) : Option (Int32) :=
  if ((i0 >>> (i1 &&& 31)) &&& 1) = 0 then
    some (0)
  else
    some (1)
def fX5_lengthFrom_L2 (i0 : Int32) (i1 : Int32) : Nat → Int32 → Option (Int32)
  | 0, _ => none
  | n + 1, v10 =>
    if 12 ≤ (i1 + v10) then
      some (v10)
    else
      bd1 (fX5_isIn i0 (i1 + v10)) fun r16 =>
      if r16 = 0 then
        some (v10)
      else
        fX5_lengthFrom_L2 i0 i1 n (v10 + 1)
def fX5_lengthFrom (i0 : Int32) (i1 : Int32) : Option (Int32) :=
  bd1 (fX5_lengthFrom_L2 i0 i1 fl 0) fun o14 =>
  some (o14)
def fX5_power_L4 (i0 : Int32) (i1 : Int32) : Nat → Int32 → Int32 → Option (Int32)
  | 0, _, _ => none
  | n + 1, v5, v6 =>
    if i1 ≤ v6 then
      some (v5)
    else
      fX5_power_L4 i0 i1 n (v5 * i0) (v6 + 1)
def fX5_power (i0 : Int32) (i1 : Int32) : Option (Int32) :=
  bd1 (fX5_power_L4 i0 i1 fl 1 0) fun o10 =>
  some (o10)
def fX5_greatestDivisor_L2  : Nat → Int32 → Int32 → Int32 → Option (Int32)
  | 0, _, _, _ => none
  | n + 1, v10, v11, v12 =>
    if 64 ≤ v12 then
      some (v10)
    else
      if v11 = 0 then
        some (v10)
      else
        bd0 (nz v11) <|
        fX5_greatestDivisor_L2 n v11 (v10 - v10 / v11 * v11) (v12 + 1)
def fX5_greatestDivisor (i0 : Int32) (i1 : Int32) : Option (Int32) :=
  bd1 (fX5_greatestDivisor_L2 fl i0 i1 0) fun o16 =>
  some (o16)
def fX5_saleOf (i0 : Int32) (i1 : Int32) (i2 : Int32) : Option (Int32) :=
  some ((((1000 * i0) + (100 * i1)) + i2))
def fX5_sellerOf (i0 : Int32) : Option (Int32) :=
  some ((i0 / 1000))
def fX5_buyerOf (i0 : Int32) : Option (Int32) :=
  some (((i0 / 100) - (i0 / 100) / 10 * 10))
def fX5_halfOf (i0 : Int32) : Option (Int32) :=
  some ((i0 - i0 / 100 * 100))
def fX5_worthByKind (i0 : Int32) (i1 : Int32) (i2 : Int32) (i3 : Int32) (i4 : Int32) (i5 : Int32) : Option (Int32) :=
  bd1 (fX5_isIn i2 i1) fun r1 =>
  if r1 = 0 then
    some (0)
  else
    bd1 (if (i1 - i1 / 2 * 2) = 0 then
        some (1)
      else
        some (0)
      : Option Int32) fun x5 =>
    if i0 = 4 then
      if x5 = 0 then
        bd1 (fX5_isIn i4 (i1 / 2)) fun r56 =>
        bd1 (if r56 = 0 then
            some (6)
          else
            some (3)
          : Option Int32) fun x59 =>
        bd1 (if i0 = 1 then
            bd1 (fX5_isIn i5 (i1 / 2)) fun r73 =>
            if r73 = 0 then
              some (x59)
            else
              some ((x59 + 9))
          else
            if i0 = 3 then
              bd1 (fX5_isIn i5 (i1 / 2)) fun r77 =>
              if r77 = 0 then
                some (x59)
              else
                some ((x59 + 9))
            else
              some (x59)
          : Option Int32) fun x70 =>
        bd1 (if i0 = 2 then
            bd1 (fX5_isIn i2 (i1 ^^^ 1)) fun r91 =>
            if r91 = 0 then
              some (x70)
            else
              some ((x70 + 4))
          else
            if i0 = 4 then
              bd1 (fX5_isIn i2 (i1 ^^^ 1)) fun r95 =>
              if r95 = 0 then
                some (x70)
              else
                some ((x70 + 4))
            else
              some (x70)
          : Option Int32) fun x88 =>
        if i0 = 3 then
          bd1 (fX5_isIn i3 i1) fun r99 =>
          if r99 = 0 then
            some (x88)
          else
            some ((x88 + 5))
        else
          some (x88)
      else
        some (0)
    else
      bd1 (fX5_isIn i4 (i1 / 2)) fun r9 =>
      bd1 (if r9 = 0 then
          some (6)
        else
          some (3)
        : Option Int32) fun x12 =>
      bd1 (if i0 = 1 then
          bd1 (fX5_isIn i5 (i1 / 2)) fun r26 =>
          if r26 = 0 then
            some (x12)
          else
            some ((x12 + 9))
        else
          if i0 = 3 then
            bd1 (fX5_isIn i5 (i1 / 2)) fun r30 =>
            if r30 = 0 then
              some (x12)
            else
              some ((x12 + 9))
          else
            some (x12)
        : Option Int32) fun x23 =>
      bd1 (if i0 = 2 then
          bd1 (fX5_isIn i2 (i1 ^^^ 1)) fun r44 =>
          if r44 = 0 then
            some (x23)
          else
            some ((x23 + 4))
        else
          if i0 = 4 then
            bd1 (fX5_isIn i2 (i1 ^^^ 1)) fun r48 =>
            if r48 = 0 then
              some (x23)
            else
              some ((x23 + 4))
          else
            some (x23)
        : Option Int32) fun x41 =>
      if i0 = 3 then
        bd1 (fX5_isIn i3 i1) fun r52 =>
        if r52 = 0 then
          some (x41)
        else
          some ((x41 + 5))
      else
        some (x41)
theorem cal_X5_isWithin : CalS yX5_isWithin cX5_isWithin 3 (some .boolean) 3 := ⟨t_216, t_215, t_37, by decide +kernel⟩
set_option maxHeartbeats 4000000 in
set_option maxRecDepth 100000 in
theorem cX5_isWithin_ok (l : Launch) (d : va_G) (cy : Nat → ClassId) (i0 : Int32) (i1 : Int32) (i2 : Int32) (r : Int32) (h0 : fX5_isWithin i0 i1 i2 = some (r)) : CI l yX5_isWithin cX5_isWithin 3 (some .boolean) 0 0 d cy [.int i0, .int i1, .int i2] ([]) ([]) r := by
  refine CZ.of (by decide) (Nat.le_of_ble_eq_true rfl) ?_
  intro p e s m args below meth c A ls Q F hret hw hl
  have hx := F.1
  have hb := F.2.1
  have hl : lv_has ls 3 [(0, .int i0), (1, .int i1), (2, .int i2)] := hl
  rw [fX5_isWithin] at h0
  refine lv_iload_n hx hb dX5_isWithin_0 rfl (lv_at hl 0 rfl) ?_
  refine lv_iload_n hx hb dX5_isWithin_1 rfl (lv_at hl 1 rfl) ?_
  refine lv_icmp_lt (tgt := 14) hx hb dX5_isWithin_2 (by decide) (fun c1 => ?_) (fun c1 => ?_)
  · rw [if_pos c1] at h0
    refine lv_iconst (v := 0) hx hb dX5_isWithin_14 (by decide) ?_
    obtain rfl := inj1 h0
    exact hret _ _ _ _ rfl hw dX5_isWithin_15
  · rw [if_neg c1] at h0
    refine lv_iload_n hx hb dX5_isWithin_5 rfl (lv_at hl 0 rfl) ?_
    refine lv_iload_n hx hb dX5_isWithin_6 rfl (lv_at hl 2 rfl) ?_
    refine lv_icmp_gt (tgt := 14) hx hb dX5_isWithin_7 (by decide) (fun c2 => ?_) (fun c2 => ?_)
    · rw [if_pos c2] at h0
      refine lv_iconst (v := 0) hx hb dX5_isWithin_14 (by decide) ?_
      obtain rfl := inj1 h0
      exact hret _ _ _ _ rfl hw dX5_isWithin_15
    · rw [if_neg c2] at h0
      refine lv_iconst (v := 1) hx hb dX5_isWithin_10 (by decide) ?_
      refine lv_goto (tgt := 15) hx hb dX5_isWithin_11 (by decide) ?_
      obtain rfl := inj1 h0
      exact hret _ _ _ _ rfl hw dX5_isWithin_15
theorem cal_X5_isFlag : CalS yX5_isFlag cX5_isFlag 1 (some .boolean) 1 := ⟨t_280, t_279, t_37, by decide +kernel⟩
set_option maxHeartbeats 4000000 in
set_option maxRecDepth 100000 in
theorem cX5_isFlag_ok (l : Launch) (d : va_G) (cy : Nat → ClassId) (i0 : Int32) (r : Int32) (h0 : fX5_isFlag i0 = some (r)) : CI l yX5_isFlag cX5_isFlag 1 (some .boolean) 0 0 d cy [.int i0] ([]) ([]) r := by
  refine CZ.of (by decide) (Nat.le_of_ble_eq_true rfl) ?_
  intro p e s m args below meth c A ls Q F hret hw hl
  have hx := F.1
  have hb := F.2.1
  have hl : lv_has ls 1 [(0, .int i0)] := hl
  rw [fX5_isFlag] at h0
  refine lv_iload_n hx hb dX5_isFlag_0 rfl (lv_at hl 0 rfl) ?_
  refine lv_if_eq (tgt := 9) hx hb dX5_isFlag_1 (by decide) (fun c1 => ?_) (fun c1 => ?_)
  · rw [if_pos c1] at h0
    refine lv_iconst (v := 1) hx hb dX5_isFlag_9 (by decide) ?_
    refine lv_goto (tgt := 14) hx hb dX5_isFlag_10 (by decide) ?_
    obtain rfl := inj1 h0
    exact hret _ _ _ _ rfl hw dX5_isFlag_14
  · rw [if_neg c1] at h0
    refine lv_iload_n hx hb dX5_isFlag_4 rfl (lv_at hl 0 rfl) ?_
    refine lv_iconst (v := 1) hx hb dX5_isFlag_5 (by decide) ?_
    refine lv_icmp_ne (tgt := 13) hx hb dX5_isFlag_6 (by decide) (fun c2 => ?_) (fun c2 => ?_)
    · rw [if_neg c2] at h0
      refine lv_iconst (v := 0) hx hb dX5_isFlag_13 (by decide) ?_
      obtain rfl := inj1 h0
      exact hret _ _ _ _ rfl hw dX5_isFlag_14
    · rw [if_pos c2] at h0
      refine lv_iconst (v := 1) hx hb dX5_isFlag_9 (by decide) ?_
      refine lv_goto (tgt := 14) hx hb dX5_isFlag_10 (by decide) ?_
      obtain rfl := inj1 h0
      exact hret _ _ _ _ rfl hw dX5_isFlag_14
theorem cal_X5_isSunday : CalS yX5_isSunday cX5_isSunday 1 (some .boolean) 1 := ⟨t_292, t_291, t_37, by decide +kernel⟩
set_option maxHeartbeats 4000000 in
set_option maxRecDepth 100000 in
theorem cX5_isSunday_ok (l : Launch) (d : va_G) (cy : Nat → ClassId) (i0 : Int32) (r : Int32) (h0 : fX5_isSunday i0 = some (r)) : CI l yX5_isSunday cX5_isSunday 1 (some .boolean) 1 22 d cy [.int i0] ([]) ([]) r := by
  refine CZ.of (by decide) (Nat.le_of_ble_eq_true rfl) ?_
  intro p e s m args below meth c A ls Q F hret hw hl
  have hx := F.1
  have hb := F.2.1
  have hl : lv_has ls 1 [(0, .int i0)] := hl
  rw [fX5_isSunday] at h0
  refine lv_iload_n hx hb dX5_isSunday_0 rfl (lv_at hl 0 rfl) ?_
  refine lv_iconst (v := 0) hx hb dX5_isSunday_1 (by decide) ?_
  refine lv_iconst (v := 5) hx hb dX5_isSunday_2 (by decide) ?_
  obtain ⟨r1, k2, h4⟩ := ob1 h0
  clear h0
  refine g_si F (cX5_isWithin_ok l d cy i0 0 5 r1 k2) cal_X5_isWithin t_214 rfl ⟨by decide, by decide⟩ hw (w' := []) Cut.nil hl.1 (Nat.le_of_ble_eq_true rfl) rfl dX5_isSunday_3 (fun H locs hw => ?_)
  obtain ⟨k3, h5⟩ := ob0 h4
  clear h4
  obtain rfl := inj1 h5
  exact hret _ _ _ _ (isb_nar k3) hw dX5_isSunday_6
theorem cal_X5_isHalf : CalS yX5_isHalf cX5_isHalf 1 (some .boolean) 1 := ⟨t_277, t_276, t_37, by decide +kernel⟩
set_option maxHeartbeats 4000000 in
set_option maxRecDepth 100000 in
theorem cX5_isHalf_ok (l : Launch) (d : va_G) (cy : Nat → ClassId) (i0 : Int32) (r : Int32) (h0 : fX5_isHalf i0 = some (r)) : CI l yX5_isHalf cX5_isHalf 1 (some .boolean) 1 22 d cy [.int i0] ([]) ([]) r := by
  refine CZ.of (by decide) (Nat.le_of_ble_eq_true rfl) ?_
  intro p e s m args below meth c A ls Q F hret hw hl
  have hx := F.1
  have hb := F.2.1
  have hl : lv_has ls 1 [(0, .int i0)] := hl
  rw [fX5_isHalf] at h0
  refine lv_iload_n hx hb dX5_isHalf_0 rfl (lv_at hl 0 rfl) ?_
  refine lv_iconst (v := 0) hx hb dX5_isHalf_1 (by decide) ?_
  refine lv_bipush (v := 11) hx hb dX5_isHalf_2 (by decide) ?_
  obtain ⟨r1, k2, h4⟩ := ob1 h0
  clear h0
  refine g_si F (cX5_isWithin_ok l d cy i0 0 11 r1 k2) cal_X5_isWithin t_214 rfl ⟨by decide, by decide⟩ hw (w' := []) Cut.nil hl.1 (Nat.le_of_ble_eq_true rfl) rfl dX5_isHalf_4 (fun H locs hw => ?_)
  obtain ⟨k3, h5⟩ := ob0 h4
  clear h4
  obtain rfl := inj1 h5
  exact hret _ _ _ _ (isb_nar k3) hw dX5_isHalf_7
theorem cal_X5_isSheet : CalS yX5_isSheet cX5_isSheet 1 (some .boolean) 1 := ⟨t_668, t_667, t_37, by decide +kernel⟩
set_option maxHeartbeats 4000000 in
set_option maxRecDepth 100000 in
theorem cX5_isSheet_ok (l : Launch) (d : va_G) (cy : Nat → ClassId) (i0 : Int32) (r : Int32) (h0 : fX5_isSheet i0 = some (r)) : CI l yX5_isSheet cX5_isSheet 1 (some .boolean) 1 22 d cy [.int i0] ([]) ([]) r := by
  refine CZ.of (by decide) (Nat.le_of_ble_eq_true rfl) ?_
  intro p e s m args below meth c A ls Q F hret hw hl
  have hx := F.1
  have hb := F.2.1
  have hl : lv_has ls 1 [(0, .int i0)] := hl
  rw [fX5_isSheet] at h0
  refine lv_iload_n hx hb dX5_isSheet_0 rfl (lv_at hl 0 rfl) ?_
  refine lv_iconst (v := 0) hx hb dX5_isSheet_1 (by decide) ?_
  refine lv_iconst (v := 3) hx hb dX5_isSheet_2 (by decide) ?_
  obtain ⟨r1, k2, h4⟩ := ob1 h0
  clear h0
  refine g_si F (cX5_isWithin_ok l d cy i0 0 3 r1 k2) cal_X5_isWithin t_214 rfl ⟨by decide, by decide⟩ hw (w' := []) Cut.nil hl.1 (Nat.le_of_ble_eq_true rfl) rfl dX5_isSheet_3 (fun H locs hw => ?_)
  obtain ⟨k3, h5⟩ := ob0 h4
  clear h4
  obtain rfl := inj1 h5
  exact hret _ _ _ _ (isb_nar k3) hw dX5_isSheet_6
theorem cal_X5_isLane : CalS yX5_isLane cX5_isLane 1 (some .boolean) 1 := ⟨t_671, t_670, t_37, by decide +kernel⟩
set_option maxHeartbeats 4000000 in
set_option maxRecDepth 100000 in
theorem cX5_isLane_ok (l : Launch) (d : va_G) (cy : Nat → ClassId) (i0 : Int32) (r : Int32) (h0 : fX5_isLane i0 = some (r)) : CI l yX5_isLane cX5_isLane 1 (some .boolean) 1 22 d cy [.int i0] ([]) ([]) r := by
  refine CZ.of (by decide) (Nat.le_of_ble_eq_true rfl) ?_
  intro p e s m args below meth c A ls Q F hret hw hl
  have hx := F.1
  have hb := F.2.1
  have hl : lv_has ls 1 [(0, .int i0)] := hl
  rw [fX5_isLane] at h0
  refine lv_iload_n hx hb dX5_isLane_0 rfl (lv_at hl 0 rfl) ?_
  refine lv_iconst (v := 0) hx hb dX5_isLane_1 (by decide) ?_
  refine lv_iconst (v := 3) hx hb dX5_isLane_2 (by decide) ?_
  obtain ⟨r1, k2, h4⟩ := ob1 h0
  clear h0
  refine g_si F (cX5_isWithin_ok l d cy i0 0 3 r1 k2) cal_X5_isWithin t_214 rfl ⟨by decide, by decide⟩ hw (w' := []) Cut.nil hl.1 (Nat.le_of_ble_eq_true rfl) rfl dX5_isLane_3 (fun H locs hw => ?_)
  obtain ⟨k3, h5⟩ := ob0 h4
  clear h4
  obtain rfl := inj1 h5
  exact hret _ _ _ _ (isb_nar k3) hw dX5_isLane_6
theorem cal_X5_isIn : CalS yX5_isIn cX5_isIn 2 (some .boolean) 2 := ⟨t_270, t_269, t_37, by decide +kernel⟩
set_option maxHeartbeats 4000000 in
set_option maxRecDepth 100000 in
theorem cX5_isIn_ok (l : Launch) (d : va_G) (cy : Nat → ClassId) (i0 : Int32) (i1 : Int32) (r : Int32) (h0 : fX5_isIn i0 i1 = some (r)) : CI l yX5_isIn cX5_isIn 2 (some .boolean) 0 0 d cy [.int i0, .int i1] ([]) ([]) r := by
  refine CZ.of (by decide) (Nat.le_of_ble_eq_true rfl) ?_
  intro p e s m args below meth c A ls Q F hret hw hl
  have hx := F.1
  have hb := F.2.1
  have hl : lv_has ls 2 [(0, .int i0), (1, .int i1)] := hl
  rw [fX5_isIn] at h0
  refine lv_iload_n hx hb dX5_isIn_0 rfl (lv_at hl 0 rfl) ?_
  refine lv_iload_n hx hb dX5_isIn_1 rfl (lv_at hl 1 rfl) ?_
  refine lv_ishr hx hb dX5_isIn_2 ?_
  refine lv_iconst (v := 1) hx hb dX5_isIn_3 (by decide) ?_
  refine lv_iand hx hb dX5_isIn_4 ?_
  refine lv_if_eq (tgt := 12) hx hb dX5_isIn_5 (by decide) (fun c1 => ?_) (fun c1 => ?_)
  · rw [if_pos c1] at h0
    refine lv_iconst (v := 0) hx hb dX5_isIn_12 (by decide) ?_
    obtain rfl := inj1 h0
    exact hret _ _ _ _ rfl hw dX5_isIn_13
  · rw [if_neg c1] at h0
    refine lv_iconst (v := 1) hx hb dX5_isIn_8 (by decide) ?_
    refine lv_goto (tgt := 13) hx hb dX5_isIn_9 (by decide) ?_
    obtain rfl := inj1 h0
    exact hret _ _ _ _ rfl hw dX5_isIn_13
theorem cal_X5_lengthFrom : CalS yX5_lengthFrom cX5_lengthFrom 3 (some .int) 2 := ⟨t_608, t_607, t_37, by decide +kernel⟩
set_option maxHeartbeats 4000000 in
set_option maxRecDepth 100000 in
theorem cX5_lengthFrom_ok (l : Launch) (d : va_G) (cy : Nat → ClassId) (i0 : Int32) (i1 : Int32) (r : Int32) (h0 : fX5_lengthFrom i0 i1 = some (r)) : CI l yX5_lengthFrom cX5_lengthFrom 3 (some .int) 1 21 d cy [.int i0, .int i1] ([]) ([]) r := by
  refine CI.of (by decide) (Nat.le_of_ble_eq_true rfl) ?_
  intro p e s m args below meth c A ls Q F hret hw hl
  have hx := F.1
  have hb := F.2.1
  have hl : lv_has ls 3 [(0, .int i0), (1, .int i1)] := hl
  rw [fX5_lengthFrom] at h0
  refine lv_iconst (v := 0) hx hb dX5_lengthFrom_0 (by decide) ?_
  refine lv_istore_n (lv' := [(2, .int 0), (0, .int i0), (1, .int i1)]) hx hb dX5_lengthFrom_1 rfl hl (by decide) rfl (fun ls hl => ?_)
  obtain ⟨o14, h19, h20⟩ := ob1 h0
  clear h0
  have kont11 : ∀ (H : Heap) (locs : List Loc) (ls : Array Slot), Wd d A s.heap ([]) H locs → lv_has ls 3 [(2, .int o14)] → W p l e (rmo 1 21) s m args below meth c H locs 0 0 Q (F0 m 26 ls []) := by
    intro H locs ls hw hl
    clear h19
    refine lv_iload_n hx hb dX5_lengthFrom_26 rfl (lv_at hl 0 rfl) ?_
    obtain rfl := inj1 h20
    exact hret _ _ _ _ hw dX5_lengthFrom_27
  clear h20
  have loop13 : ∀ (n : Nat) (v10 : Int32) (H : Heap) (locs : List Loc) (ls : Array Slot), Wd d A s.heap ([]) H locs → lv_has ls 3 [(0, .int i0), (1, .int i1), (2, .int v10)] → fX5_lengthFrom_L2 i0 i1 n v10 = some (o14) → W p l e (rmo 1 21) s m args below meth c H locs 0 0 Q (F0 m 2 ls []) := by
    intro n
    induction n with
    | zero =>
      intro v10 H locs ls hw hl h21
      rw [fX5_lengthFrom_L2] at h21
      cases h21
    | succ n ih12 =>
      intro v10 H locs ls hw hl h22
      rw [fX5_lengthFrom_L2] at h22
      refine lv_iload_n hx hb dX5_lengthFrom_2 rfl (lv_at hl 1 rfl) ?_
      refine lv_iload_n hx hb dX5_lengthFrom_3 rfl (lv_at hl 2 rfl) ?_
      refine lv_iadd hx hb dX5_lengthFrom_4 ?_
      refine lv_bipush (v := 12) hx hb dX5_lengthFrom_5 (by decide) ?_
      refine lv_icmp_ge (tgt := 26) hx hb dX5_lengthFrom_7 (by decide) (fun c15 => ?_) (fun c15 => ?_)
      · rw [if_pos c15] at h22
        obtain rfl := inj1 h22
        exact kont11 _ _ _ hw (lv_sub hl [2] rfl)
      · rw [if_neg c15] at h22
        refine lv_iload_n hx hb dX5_lengthFrom_10 rfl (lv_at hl 0 rfl) ?_
        refine lv_iload_n hx hb dX5_lengthFrom_11 rfl (lv_at hl 1 rfl) ?_
        refine lv_iload_n hx hb dX5_lengthFrom_12 rfl (lv_at hl 2 rfl) ?_
        refine lv_iadd hx hb dX5_lengthFrom_13 ?_
        obtain ⟨r16, k17, h23⟩ := ob1 h22
        clear h22
        refine g_si F (cX5_isIn_ok l d cy i0 (i1 + v10) r16 k17) cal_X5_isIn t_268 rfl ⟨by decide, by decide⟩ hw (w' := []) Cut.nil hl.1 (Nat.le_of_ble_eq_true rfl) rfl dX5_lengthFrom_14 (fun H locs hw => ?_)
        refine lv_if_eq (tgt := 26) hx hb dX5_lengthFrom_17 (by decide) (fun c18 => ?_) (fun c18 => ?_)
        · rw [if_pos c18] at h23
          obtain rfl := inj1 h23
          exact kont11 _ _ _ hw (lv_sub hl [2] rfl)
        · rw [if_neg c18] at h23
          refine lv_iinc (v := (v10 + 1)) (lv' := [(2, .int (v10 + 1)), (0, .int i0), (1, .int i1)]) hx hb dX5_lengthFrom_20 hl (k := 2) rfl rfl (by decide) rfl (fun ls hl => ?_)
          refine lv_goto (tgt := 2) hx hb dX5_lengthFrom_23 (by decide) ?_
          exact ih12 (v10 + 1) _ _ _ hw (lv_sub hl [1, 2, 0] rfl) h23
  exact loop13 fl 0 _ _ _ hw (lv_sub hl [1, 2, 0] rfl) h19
theorem cal_X5_power : CalS yX5_power cX5_power 4 (some .int) 2 := ⟨t_644, t_643, t_37, by decide +kernel⟩
set_option maxHeartbeats 4000000 in
set_option maxRecDepth 100000 in
theorem cX5_power_ok (l : Launch) (d : va_G) (cy : Nat → ClassId) (i0 : Int32) (i1 : Int32) (r : Int32) (h0 : fX5_power i0 i1 = some (r)) : CI l yX5_power cX5_power 4 (some .int) 0 0 d cy [.int i0, .int i1] ([]) ([]) r := by
  refine CI.of (by decide) (Nat.le_of_ble_eq_true rfl) ?_
  intro p e s m args below meth c A ls Q F hret hw hl
  have hx := F.1
  have hb := F.2.1
  have hl : lv_has ls 4 [(0, .int i0), (1, .int i1)] := hl
  rw [fX5_power] at h0
  refine lv_iconst (v := 1) hx hb dX5_power_0 (by decide) ?_
  refine lv_istore_n (lv' := [(2, .int 1), (0, .int i0), (1, .int i1)]) hx hb dX5_power_1 rfl hl (by decide) rfl (fun ls hl => ?_)
  refine lv_iconst (v := 0) hx hb dX5_power_2 (by decide) ?_
  refine lv_istore_n (lv' := [(3, .int 0), (2, .int 1), (0, .int i0), (1, .int i1)]) hx hb dX5_power_3 rfl hl (by decide) rfl (fun ls hl => ?_)
  obtain ⟨o10, h12, h13⟩ := ob1 h0
  clear h0
  have kont7 : ∀ (H : Heap) (locs : List Loc) (ls : Array Slot), Wd d A s.heap ([]) H locs → lv_has ls 4 [(2, .int o10)] → W p l e (rmo 0 0) s m args below meth c H locs 0 0 Q (F0 m 19 ls []) := by
    intro H locs ls hw hl
    clear h12
    refine lv_iload_n hx hb dX5_power_19 rfl (lv_at hl 0 rfl) ?_
    obtain rfl := inj1 h13
    exact hret _ _ _ _ hw dX5_power_20
  clear h13
  have loop9 : ∀ (n : Nat) (v5 : Int32) (v6 : Int32) (H : Heap) (locs : List Loc) (ls : Array Slot), Wd d A s.heap ([]) H locs → lv_has ls 4 [(0, .int i0), (1, .int i1), (2, .int v5), (3, .int v6)] → fX5_power_L4 i0 i1 n v5 v6 = some (o10) → W p l e (rmo 0 0) s m args below meth c H locs 0 0 Q (F0 m 4 ls []) := by
    intro n
    induction n with
    | zero =>
      intro v5 v6 H locs ls hw hl h14
      rw [fX5_power_L4] at h14
      cases h14
    | succ n ih8 =>
      intro v5 v6 H locs ls hw hl h15
      rw [fX5_power_L4] at h15
      refine lv_iload_n hx hb dX5_power_4 rfl (lv_at hl 3 rfl) ?_
      refine lv_iload_n hx hb dX5_power_5 rfl (lv_at hl 1 rfl) ?_
      refine lv_icmp_ge (tgt := 19) hx hb dX5_power_6 (by decide) (fun c11 => ?_) (fun c11 => ?_)
      · rw [if_pos c11] at h15
        obtain rfl := inj1 h15
        exact kont7 _ _ _ hw (lv_sub hl [2] rfl)
      · rw [if_neg c11] at h15
        refine lv_iload_n hx hb dX5_power_9 rfl (lv_at hl 2 rfl) ?_
        refine lv_iload_n hx hb dX5_power_10 rfl (lv_at hl 0 rfl) ?_
        refine lv_imul hx hb dX5_power_11 ?_
        refine lv_istore_n (lv' := [(2, .int (v5 * i0)), (0, .int i0), (1, .int i1), (3, .int v6)]) hx hb dX5_power_12 rfl hl (by decide) rfl (fun ls hl => ?_)
        refine lv_iinc (v := (v6 + 1)) (lv' := [(3, .int (v6 + 1)), (2, .int (v5 * i0)), (0, .int i0), (1, .int i1)]) hx hb dX5_power_13 hl (k := 3) rfl rfl (by decide) rfl (fun ls hl => ?_)
        refine lv_goto (tgt := 4) hx hb dX5_power_16 (by decide) ?_
        exact ih8 (v5 * i0) (v6 + 1) _ _ _ hw (lv_sub hl [2, 3, 1, 0] rfl) h15
  exact loop9 fl 1 0 _ _ _ hw (lv_sub hl [2, 3, 1, 0] rfl) h12
theorem cal_X5_greatestDivisor : CalS yX5_greatestDivisor cX5_greatestDivisor 4 (some .int) 2 := ⟨t_648, t_647, t_37, by decide +kernel⟩
set_option maxHeartbeats 4000000 in
set_option maxRecDepth 100000 in
theorem cX5_greatestDivisor_ok (l : Launch) (d : va_G) (cy : Nat → ClassId) (i0 : Int32) (i1 : Int32) (r : Int32) (h0 : fX5_greatestDivisor i0 i1 = some (r)) : CI l yX5_greatestDivisor cX5_greatestDivisor 4 (some .int) 0 0 d cy [.int i0, .int i1] ([]) ([]) r := by
  refine CI.of (by decide) (Nat.le_of_ble_eq_true rfl) ?_
  intro p e s m args below meth c A ls Q F hret hw hl
  have hx := F.1
  have hb := F.2.1
  have hl : lv_has ls 4 [(0, .int i0), (1, .int i1)] := hl
  rw [fX5_greatestDivisor] at h0
  refine lv_iconst (v := 0) hx hb dX5_greatestDivisor_0 (by decide) ?_
  refine lv_istore_n (lv' := [(2, .int 0), (0, .int i0), (1, .int i1)]) hx hb dX5_greatestDivisor_1 rfl hl (by decide) rfl (fun ls hl => ?_)
  obtain ⟨o16, h20, h21⟩ := ob1 h0
  clear h0
  have kont13 : ∀ (H : Heap) (locs : List Loc) (ls : Array Slot), Wd d A s.heap ([]) H locs → lv_has ls 4 [(0, .int o16)] → W p l e (rmo 0 0) s m args below meth c H locs 0 0 Q (F0 m 26 ls []) := by
    intro H locs ls hw hl
    clear h20
    refine lv_iload_n hx hb dX5_greatestDivisor_26 rfl (lv_at hl 0 rfl) ?_
    obtain rfl := inj1 h21
    exact hret _ _ _ _ hw dX5_greatestDivisor_27
  clear h21
  have loop15 : ∀ (n : Nat) (v10 : Int32) (v11 : Int32) (v12 : Int32) (H : Heap) (locs : List Loc) (ls : Array Slot), Wd d A s.heap ([]) H locs → lv_has ls 4 [(0, .int v10), (1, .int v11), (2, .int v12)] → fX5_greatestDivisor_L2 n v10 v11 v12 = some (o16) → W p l e (rmo 0 0) s m args below meth c H locs 0 0 Q (F0 m 2 ls []) := by
    intro n
    induction n with
    | zero =>
      intro v10 v11 v12 H locs ls hw hl h22
      rw [fX5_greatestDivisor_L2] at h22
      cases h22
    | succ n ih14 =>
      intro v10 v11 v12 H locs ls hw hl h23
      rw [fX5_greatestDivisor_L2] at h23
      refine lv_iload_n hx hb dX5_greatestDivisor_2 rfl (lv_at hl 2 rfl) ?_
      refine lv_bipush (v := 64) hx hb dX5_greatestDivisor_3 (by decide) ?_
      refine lv_icmp_ge (tgt := 26) hx hb dX5_greatestDivisor_5 (by decide) (fun c17 => ?_) (fun c17 => ?_)
      · rw [if_pos c17] at h23
        obtain rfl := inj1 h23
        exact kont13 _ _ _ hw (lv_sub hl [0] rfl)
      · rw [if_neg c17] at h23
        refine lv_iload_n hx hb dX5_greatestDivisor_8 rfl (lv_at hl 1 rfl) ?_
        refine lv_if_eq (tgt := 26) hx hb dX5_greatestDivisor_9 (by decide) (fun c18 => ?_) (fun c18 => ?_)
        · rw [if_pos c18] at h23
          obtain rfl := inj1 h23
          exact kont13 _ _ _ hw (lv_sub hl [0] rfl)
        · rw [if_neg c18] at h23
          refine lv_iload_n hx hb dX5_greatestDivisor_12 rfl (lv_at hl 0 rfl) ?_
          refine lv_iload_n hx hb dX5_greatestDivisor_13 rfl (lv_at hl 1 rfl) ?_
          obtain ⟨k19, h24⟩ := ob0 h23
          clear h23
          refine lv_irem hx hb dX5_greatestDivisor_14 (nz_ne k19) ?_
          refine lv_istore_n (lv' := [(3, .int (v10 - v10 / v11 * v11)), (0, .int v10), (1, .int v11), (2, .int v12)]) hx hb dX5_greatestDivisor_15 rfl hl (by decide) rfl (fun ls hl => ?_)
          refine lv_iload_n hx hb dX5_greatestDivisor_16 rfl (lv_at hl 2 rfl) ?_
          refine lv_istore_n (lv' := [(0, .int v11), (3, .int (v10 - v10 / v11 * v11)), (1, .int v11), (2, .int v12)]) hx hb dX5_greatestDivisor_17 rfl hl (by decide) rfl (fun ls hl => ?_)
          refine lv_iload_n hx hb dX5_greatestDivisor_18 rfl (lv_at hl 1 rfl) ?_
          refine lv_istore_n (lv' := [(1, .int (v10 - v10 / v11 * v11)), (0, .int v11), (3, .int (v10 - v10 / v11 * v11)), (2, .int v12)]) hx hb dX5_greatestDivisor_19 rfl hl (by decide) rfl (fun ls hl => ?_)
          refine lv_iinc (v := (v12 + 1)) (lv' := [(2, .int (v12 + 1)), (1, .int (v10 - v10 / v11 * v11)), (0, .int v11), (3, .int (v10 - v10 / v11 * v11))]) hx hb dX5_greatestDivisor_20 hl (k := 3) rfl rfl (by decide) rfl (fun ls hl => ?_)
          refine lv_goto (tgt := 2) hx hb dX5_greatestDivisor_23 (by decide) ?_
          exact ih14 v11 (v10 - v10 / v11 * v11) (v12 + 1) _ _ _ hw (lv_sub hl [2, 1, 0] rfl) h24
  exact loop15 fl i0 i1 0 _ _ _ hw (lv_sub hl [1, 2, 0] rfl) h20
theorem cal_X5_saleOf : CalS yX5_saleOf cX5_saleOf 3 (some .int) 3 := ⟨t_587, t_586, t_37, by decide +kernel⟩
set_option maxHeartbeats 4000000 in
set_option maxRecDepth 100000 in
theorem cX5_saleOf_ok (l : Launch) (d : va_G) (cy : Nat → ClassId) (i0 : Int32) (i1 : Int32) (i2 : Int32) (r : Int32) (h0 : fX5_saleOf i0 i1 i2 = some (r)) : CI l yX5_saleOf cX5_saleOf 3 (some .int) 0 0 d cy [.int i0, .int i1, .int i2] ([]) ([]) r := by
  refine CI.of (by decide) (Nat.le_of_ble_eq_true rfl) ?_
  intro p e s m args below meth c A ls Q F hret hw hl
  have hx := F.1
  have hb := F.2.1
  have hl : lv_has ls 3 [(0, .int i0), (1, .int i1), (2, .int i2)] := hl
  rw [fX5_saleOf] at h0
  refine lv_sipush (v := 1000) hx hb dX5_saleOf_0 (by decide) ?_
  refine lv_iload_n hx hb dX5_saleOf_3 rfl (lv_at hl 0 rfl) ?_
  refine lv_imul hx hb dX5_saleOf_4 ?_
  refine lv_bipush (v := 100) hx hb dX5_saleOf_5 (by decide) ?_
  refine lv_iload_n hx hb dX5_saleOf_7 rfl (lv_at hl 1 rfl) ?_
  refine lv_imul hx hb dX5_saleOf_8 ?_
  refine lv_iadd hx hb dX5_saleOf_9 ?_
  refine lv_iload_n hx hb dX5_saleOf_10 rfl (lv_at hl 2 rfl) ?_
  refine lv_iadd hx hb dX5_saleOf_11 ?_
  obtain rfl := inj1 h0
  exact hret _ _ _ _ hw dX5_saleOf_12
theorem cal_X5_sellerOf : CalS yX5_sellerOf cX5_sellerOf 1 (some .int) 1 := ⟨t_590, t_589, t_37, by decide +kernel⟩
set_option maxHeartbeats 4000000 in
set_option maxRecDepth 100000 in
theorem cX5_sellerOf_ok (l : Launch) (d : va_G) (cy : Nat → ClassId) (i0 : Int32) (r : Int32) (h0 : fX5_sellerOf i0 = some (r)) : CI l yX5_sellerOf cX5_sellerOf 1 (some .int) 0 0 d cy [.int i0] ([]) ([]) r := by
  refine CI.of (by decide) (Nat.le_of_ble_eq_true rfl) ?_
  intro p e s m args below meth c A ls Q F hret hw hl
  have hx := F.1
  have hb := F.2.1
  have hl : lv_has ls 1 [(0, .int i0)] := hl
  rw [fX5_sellerOf] at h0
  refine lv_iload_n hx hb dX5_sellerOf_0 rfl (lv_at hl 0 rfl) ?_
  refine lv_sipush (v := 1000) hx hb dX5_sellerOf_1 (by decide) ?_
  refine lv_idiv hx hb dX5_sellerOf_4 (by decide) ?_
  obtain rfl := inj1 h0
  exact hret _ _ _ _ hw dX5_sellerOf_5
theorem cal_X5_buyerOf : CalS yX5_buyerOf cX5_buyerOf 1 (some .int) 1 := ⟨t_593, t_592, t_37, by decide +kernel⟩
set_option maxHeartbeats 4000000 in
set_option maxRecDepth 100000 in
theorem cX5_buyerOf_ok (l : Launch) (d : va_G) (cy : Nat → ClassId) (i0 : Int32) (r : Int32) (h0 : fX5_buyerOf i0 = some (r)) : CI l yX5_buyerOf cX5_buyerOf 1 (some .int) 0 0 d cy [.int i0] ([]) ([]) r := by
  refine CI.of (by decide) (Nat.le_of_ble_eq_true rfl) ?_
  intro p e s m args below meth c A ls Q F hret hw hl
  have hx := F.1
  have hb := F.2.1
  have hl : lv_has ls 1 [(0, .int i0)] := hl
  rw [fX5_buyerOf] at h0
  refine lv_iload_n hx hb dX5_buyerOf_0 rfl (lv_at hl 0 rfl) ?_
  refine lv_bipush (v := 100) hx hb dX5_buyerOf_1 (by decide) ?_
  refine lv_idiv hx hb dX5_buyerOf_3 (by decide) ?_
  refine lv_bipush (v := 10) hx hb dX5_buyerOf_4 (by decide) ?_
  refine lv_irem hx hb dX5_buyerOf_6 (by decide) ?_
  obtain rfl := inj1 h0
  exact hret _ _ _ _ hw dX5_buyerOf_7
theorem cal_X5_halfOf : CalS yX5_halfOf cX5_halfOf 1 (some .int) 1 := ⟨t_596, t_595, t_37, by decide +kernel⟩
set_option maxHeartbeats 4000000 in
set_option maxRecDepth 100000 in
theorem cX5_halfOf_ok (l : Launch) (d : va_G) (cy : Nat → ClassId) (i0 : Int32) (r : Int32) (h0 : fX5_halfOf i0 = some (r)) : CI l yX5_halfOf cX5_halfOf 1 (some .int) 0 0 d cy [.int i0] ([]) ([]) r := by
  refine CI.of (by decide) (Nat.le_of_ble_eq_true rfl) ?_
  intro p e s m args below meth c A ls Q F hret hw hl
  have hx := F.1
  have hb := F.2.1
  have hl : lv_has ls 1 [(0, .int i0)] := hl
  rw [fX5_halfOf] at h0
  refine lv_iload_n hx hb dX5_halfOf_0 rfl (lv_at hl 0 rfl) ?_
  refine lv_bipush (v := 100) hx hb dX5_halfOf_1 (by decide) ?_
  refine lv_irem hx hb dX5_halfOf_3 (by decide) ?_
  obtain rfl := inj1 h0
  exact hret _ _ _ _ hw dX5_halfOf_4
theorem cal_X5_worthByKind : CalS yX5_worthByKind cX5_worthByKind 9 (some .int) 6 := ⟨t_267, t_266, t_37, by decide +kernel⟩
set_option maxHeartbeats 4000000 in
set_option maxRecDepth 100000 in
theorem cX5_worthByKind_ok (l : Launch) (d : va_G) (cy : Nat → ClassId) (i0 : Int32) (i1 : Int32) (i2 : Int32) (i3 : Int32) (i4 : Int32) (i5 : Int32) (r : Int32) (h0 : fX5_worthByKind i0 i1 i2 i3 i4 i5 = some (r)) : CI l yX5_worthByKind cX5_worthByKind 9 (some .int) 1 21 d cy [.int i0, .int i1, .int i2, .int i3, .int i4, .int i5] ([]) ([]) r := by
  refine CI.of (by decide) (Nat.le_of_ble_eq_true rfl) ?_
  intro p e s m args below meth c A ls Q F hret hw hl
  have hx := F.1
  have hb := F.2.1
  have hl : lv_has ls 9 [(0, .int i0), (1, .int i1), (2, .int i2), (3, .int i3), (4, .int i4), (5, .int i5)] := hl
  rw [fX5_worthByKind] at h0
  refine lv_iload_n hx hb dX5_worthByKind_0 rfl (lv_at hl 2 rfl) ?_
  refine lv_iload_n hx hb dX5_worthByKind_1 rfl (lv_at hl 1 rfl) ?_
  obtain ⟨r1, k2, h102⟩ := ob1 h0
  clear h0
  refine g_si F (cX5_isIn_ok l d cy i2 i1 r1 k2) cal_X5_isIn t_268 rfl ⟨by decide, by decide⟩ hw (w' := []) Cut.nil hl.1 (Nat.le_of_ble_eq_true rfl) rfl dX5_worthByKind_2 (fun H locs hw => ?_)
  refine lv_if_ne (tgt := 10) hx hb dX5_worthByKind_5 (by decide) (fun c3 => ?_) (fun c3 => ?_)
  · rw [if_neg c3] at h102
    refine lv_iload_n hx hb dX5_worthByKind_10 rfl (lv_at hl 1 rfl) ?_
    refine lv_iconst (v := 2) hx hb dX5_worthByKind_11 (by decide) ?_
    refine lv_irem hx hb dX5_worthByKind_12 (by decide) ?_
    obtain ⟨x5, h103, h104⟩ := ob1 h102
    clear h102
    have kont6 : ∀ (H : Heap) (locs : List Loc) (ls : Array Slot), Wd d A s.heap ([]) H locs → lv_has ls 9 [(0, .int i0), (1, .int i1), (2, .int i2), (3, .int i3), (4, .int i4), (5, .int i5)] → W p l e (rmo 1 21) s m args below meth c H locs 0 0 Q (F0 m 21 ls [.int x5]) := by
      intro H locs ls hw hl
      clear h103
      refine lv_istore (lv' := [(6, .int x5), (0, .int i0), (1, .int i1), (2, .int i2), (3, .int i3), (4, .int i4), (5, .int i5)]) hx hb dX5_worthByKind_21 hl (by decide) rfl (fun ls hl => ?_)
      refine lv_iload_n hx hb dX5_worthByKind_23 rfl (lv_at hl 1 rfl) ?_
      refine lv_iconst (v := 4) hx hb dX5_worthByKind_24 (by decide) ?_
      refine lv_icmp_ne (tgt := 35) hx hb dX5_worthByKind_25 (by decide) (fun c8 => ?_) (fun c8 => ?_)
      · rw [if_neg c8] at h104
        refine lv_iload_n hx hb dX5_worthByKind_35 rfl (lv_at hl 2 rfl) ?_
        refine lv_iconst (v := 2) hx hb dX5_worthByKind_36 (by decide) ?_
        refine lv_idiv hx hb dX5_worthByKind_37 (by decide) ?_
        refine lv_istore (lv' := [(7, .int (i1 / 2)), (6, .int x5), (0, .int i0), (1, .int i1), (2, .int i2), (3, .int i3), (4, .int i4), (5, .int i5)]) hx hb dX5_worthByKind_38 hl (by decide) rfl (fun ls hl => ?_)
        refine lv_iload hx hb dX5_worthByKind_40 (lv_at hl 6 rfl) ?_
        refine lv_iload hx hb dX5_worthByKind_42 (lv_at hl 0 rfl) ?_
        obtain ⟨r9, k10, h105⟩ := ob1 h104
        clear h104
        refine g_si F (cX5_isIn_ok l d cy i4 (i1 / 2) r9 k10) cal_X5_isIn t_268 rfl ⟨by decide, by decide⟩ hw (w' := []) Cut.nil hl.1 (Nat.le_of_ble_eq_true rfl) rfl dX5_worthByKind_44 (fun H locs hw => ?_)
        obtain ⟨x12, h106, h107⟩ := ob1 h105
        clear h105
        have kont13 : ∀ (H : Heap) (locs : List Loc) (ls : Array Slot), Wd d A s.heap ([]) H locs → lv_has ls 9 [(0, .int i0), (1, .int i1), (2, .int i2), (3, .int i3), (5, .int i5), (7, .int (i1 / 2))] → W p l e (rmo 1 21) s m args below meth c H locs 0 0 Q (F0 m 56 ls [.int x12]) := by
          intro H locs ls hw hl
          clear h106
          refine lv_istore (lv' := [(8, .int x12), (0, .int i0), (1, .int i1), (2, .int i2), (3, .int i3), (5, .int i5), (7, .int (i1 / 2))]) hx hb dX5_worthByKind_56 hl (by decide) rfl (fun ls hl => ?_)
          refine lv_iload_n hx hb dX5_worthByKind_58 rfl (lv_at hl 1 rfl) ?_
          refine lv_iconst (v := 1) hx hb dX5_worthByKind_59 (by decide) ?_
          obtain ⟨x23, h108, h109⟩ := ob1 h107
          clear h107
          have kont24 : ∀ (H : Heap) (locs : List Loc) (ls : Array Slot), Wd d A s.heap ([]) H locs → lv_has ls 9 [(0, .int i0), (1, .int i1), (2, .int i2), (3, .int i3), (8, .int x23)] → W p l e (rmo 1 21) s m args below meth c H locs 0 0 Q (F0 m 81 ls []) := by
            intro H locs ls hw hl
            clear h108
            refine lv_iload_n hx hb dX5_worthByKind_81 rfl (lv_at hl 0 rfl) ?_
            refine lv_iconst (v := 2) hx hb dX5_worthByKind_82 (by decide) ?_
            obtain ⟨x41, h110, h111⟩ := ob1 h109
            clear h109
            have kont42 : ∀ (H : Heap) (locs : List Loc) (ls : Array Slot), Wd d A s.heap ([]) H locs → lv_has ls 9 [(0, .int i0), (1, .int i1), (3, .int i3), (8, .int x41)] → W p l e (rmo 1 21) s m args below meth c H locs 0 0 Q (F0 m 104 ls []) := by
              intro H locs ls hw hl
              clear h110
              refine lv_iload_n hx hb dX5_worthByKind_104 rfl (lv_at hl 0 rfl) ?_
              refine lv_iconst (v := 3) hx hb dX5_worthByKind_105 (by decide) ?_
              refine lv_icmp_ne (tgt := 120) hx hb dX5_worthByKind_106 (by decide) (fun c51 => ?_) (fun c51 => ?_)
              · rw [if_neg c51] at h111
                refine lv_iload hx hb dX5_worthByKind_120 (lv_at hl 3 rfl) ?_
                obtain rfl := inj1 h111
                exact hret _ _ _ _ hw dX5_worthByKind_122
              · rw [if_pos c51] at h111
                refine lv_iload_n hx hb dX5_worthByKind_109 rfl (lv_at hl 2 rfl) ?_
                refine lv_iload_n hx hb dX5_worthByKind_110 rfl (lv_at hl 1 rfl) ?_
                obtain ⟨r52, k53, h112⟩ := ob1 h111
                clear h111
                refine g_si F (cX5_isIn_ok l d cy i3 i1 r52 k53) cal_X5_isIn t_268 rfl ⟨by decide, by decide⟩ hw (w' := []) Cut.nil hl.1 (Nat.le_of_ble_eq_true rfl) rfl dX5_worthByKind_111 (fun H locs hw => ?_)
                refine lv_if_eq (tgt := 120) hx hb dX5_worthByKind_114 (by decide) (fun c54 => ?_) (fun c54 => ?_)
                · rw [if_pos c54] at h112
                  refine lv_iload hx hb dX5_worthByKind_120 (lv_at hl 3 rfl) ?_
                  obtain rfl := inj1 h112
                  exact hret _ _ _ _ hw dX5_worthByKind_122
                · rw [if_neg c54] at h112
                  refine lv_iinc (v := (x41 + 5)) (lv' := [(8, .int (x41 + 5)), (0, .int i0), (1, .int i1), (3, .int i3)]) hx hb dX5_worthByKind_117 hl (k := 3) rfl rfl (by decide) rfl (fun ls hl => ?_)
                  refine lv_iload hx hb dX5_worthByKind_120 (lv_at hl 0 rfl) ?_
                  obtain rfl := inj1 h112
                  exact hret _ _ _ _ hw dX5_worthByKind_122
            clear h111
            refine lv_icmp_eq (tgt := 91) hx hb dX5_worthByKind_83 (by decide) (fun c43 => ?_) (fun c43 => ?_)
            · rw [if_pos c43] at h110
              refine lv_iload_n hx hb dX5_worthByKind_91 rfl (lv_at hl 2 rfl) ?_
              refine lv_iload_n hx hb dX5_worthByKind_92 rfl (lv_at hl 1 rfl) ?_
              refine lv_iconst (v := 1) hx hb dX5_worthByKind_93 (by decide) ?_
              refine lv_ixor hx hb dX5_worthByKind_94 ?_
              obtain ⟨r44, k45, h113⟩ := ob1 h110
              clear h110
              refine g_si F (cX5_isIn_ok l d cy i2 (i1 ^^^ 1) r44 k45) cal_X5_isIn t_268 rfl ⟨by decide, by decide⟩ hw (w' := []) Cut.nil hl.1 (Nat.le_of_ble_eq_true rfl) rfl dX5_worthByKind_95 (fun H locs hw => ?_)
              refine lv_if_eq (tgt := 104) hx hb dX5_worthByKind_98 (by decide) (fun c46 => ?_) (fun c46 => ?_)
              · rw [if_pos c46] at h113
                obtain rfl := inj1 h113
                exact kont42 _ _ _ hw (lv_sub hl [0, 1, 3, 4] rfl)
              · rw [if_neg c46] at h113
                refine lv_iinc (v := (x23 + 4)) (lv' := [(8, .int (x23 + 4)), (0, .int i0), (1, .int i1), (2, .int i2), (3, .int i3)]) hx hb dX5_worthByKind_101 hl (k := 4) rfl rfl (by decide) rfl (fun ls hl => ?_)
                obtain rfl := inj1 h113
                exact kont42 _ _ _ hw (lv_sub hl [1, 2, 4, 0] rfl)
            · rw [if_neg c43] at h110
              refine lv_iload_n hx hb dX5_worthByKind_86 rfl (lv_at hl 0 rfl) ?_
              refine lv_iconst (v := 4) hx hb dX5_worthByKind_87 (by decide) ?_
              refine lv_icmp_ne (tgt := 104) hx hb dX5_worthByKind_88 (by decide) (fun c47 => ?_) (fun c47 => ?_)
              · rw [if_neg c47] at h110
                obtain rfl := inj1 h110
                exact kont42 _ _ _ hw (lv_sub hl [0, 1, 3, 4] rfl)
              · rw [if_pos c47] at h110
                refine lv_iload_n hx hb dX5_worthByKind_91 rfl (lv_at hl 2 rfl) ?_
                refine lv_iload_n hx hb dX5_worthByKind_92 rfl (lv_at hl 1 rfl) ?_
                refine lv_iconst (v := 1) hx hb dX5_worthByKind_93 (by decide) ?_
                refine lv_ixor hx hb dX5_worthByKind_94 ?_
                obtain ⟨r48, k49, h114⟩ := ob1 h110
                clear h110
                refine g_si F (cX5_isIn_ok l d cy i2 (i1 ^^^ 1) r48 k49) cal_X5_isIn t_268 rfl ⟨by decide, by decide⟩ hw (w' := []) Cut.nil hl.1 (Nat.le_of_ble_eq_true rfl) rfl dX5_worthByKind_95 (fun H locs hw => ?_)
                refine lv_if_eq (tgt := 104) hx hb dX5_worthByKind_98 (by decide) (fun c50 => ?_) (fun c50 => ?_)
                · rw [if_pos c50] at h114
                  obtain rfl := inj1 h114
                  exact kont42 _ _ _ hw (lv_sub hl [0, 1, 3, 4] rfl)
                · rw [if_neg c50] at h114
                  refine lv_iinc (v := (x23 + 4)) (lv' := [(8, .int (x23 + 4)), (0, .int i0), (1, .int i1), (2, .int i2), (3, .int i3)]) hx hb dX5_worthByKind_101 hl (k := 4) rfl rfl (by decide) rfl (fun ls hl => ?_)
                  obtain rfl := inj1 h114
                  exact kont42 _ _ _ hw (lv_sub hl [1, 2, 4, 0] rfl)
          clear h109
          refine lv_icmp_eq (tgt := 68) hx hb dX5_worthByKind_60 (by decide) (fun c25 => ?_) (fun c25 => ?_)
          · rw [if_pos c25] at h108
            refine lv_iload hx hb dX5_worthByKind_68 (lv_at hl 5 rfl) ?_
            refine lv_iload hx hb dX5_worthByKind_70 (lv_at hl 6 rfl) ?_
            obtain ⟨r26, k27, h115⟩ := ob1 h108
            clear h108
            refine g_si F (cX5_isIn_ok l d cy i5 (i1 / 2) r26 k27) cal_X5_isIn t_268 rfl ⟨by decide, by decide⟩ hw (w' := []) Cut.nil hl.1 (Nat.le_of_ble_eq_true rfl) rfl dX5_worthByKind_72 (fun H locs hw => ?_)
            refine lv_if_eq (tgt := 81) hx hb dX5_worthByKind_75 (by decide) (fun c28 => ?_) (fun c28 => ?_)
            · rw [if_pos c28] at h115
              obtain rfl := inj1 h115
              exact kont24 _ _ _ hw (lv_sub hl [1, 2, 3, 4, 0] rfl)
            · rw [if_neg c28] at h115
              refine lv_iinc (v := (x12 + 9)) (lv' := [(8, .int (x12 + 9)), (0, .int i0), (1, .int i1), (2, .int i2), (3, .int i3), (5, .int i5), (7, .int (i1 / 2))]) hx hb dX5_worthByKind_78 hl (k := 0) rfl rfl (by decide) rfl (fun ls hl => ?_)
              obtain rfl := inj1 h115
              exact kont24 _ _ _ hw (lv_sub hl [1, 2, 3, 4, 0] rfl)
          · rw [if_neg c25] at h108
            refine lv_iload_n hx hb dX5_worthByKind_63 rfl (lv_at hl 1 rfl) ?_
            refine lv_iconst (v := 3) hx hb dX5_worthByKind_64 (by decide) ?_
            refine lv_icmp_ne (tgt := 81) hx hb dX5_worthByKind_65 (by decide) (fun c29 => ?_) (fun c29 => ?_)
            · rw [if_neg c29] at h108
              obtain rfl := inj1 h108
              exact kont24 _ _ _ hw (lv_sub hl [1, 2, 3, 4, 0] rfl)
            · rw [if_pos c29] at h108
              refine lv_iload hx hb dX5_worthByKind_68 (lv_at hl 5 rfl) ?_
              refine lv_iload hx hb dX5_worthByKind_70 (lv_at hl 6 rfl) ?_
              obtain ⟨r30, k31, h116⟩ := ob1 h108
              clear h108
              refine g_si F (cX5_isIn_ok l d cy i5 (i1 / 2) r30 k31) cal_X5_isIn t_268 rfl ⟨by decide, by decide⟩ hw (w' := []) Cut.nil hl.1 (Nat.le_of_ble_eq_true rfl) rfl dX5_worthByKind_72 (fun H locs hw => ?_)
              refine lv_if_eq (tgt := 81) hx hb dX5_worthByKind_75 (by decide) (fun c32 => ?_) (fun c32 => ?_)
              · rw [if_pos c32] at h116
                obtain rfl := inj1 h116
                exact kont24 _ _ _ hw (lv_sub hl [1, 2, 3, 4, 0] rfl)
              · rw [if_neg c32] at h116
                refine lv_iinc (v := (x12 + 9)) (lv' := [(8, .int (x12 + 9)), (0, .int i0), (1, .int i1), (2, .int i2), (3, .int i3), (5, .int i5), (7, .int (i1 / 2))]) hx hb dX5_worthByKind_78 hl (k := 0) rfl rfl (by decide) rfl (fun ls hl => ?_)
                obtain rfl := inj1 h116
                exact kont24 _ _ _ hw (lv_sub hl [1, 2, 3, 4, 0] rfl)
        clear h107
        refine lv_if_eq (tgt := 54) hx hb dX5_worthByKind_47 (by decide) (fun c14 => ?_) (fun c14 => ?_)
        · rw [if_pos c14] at h106
          refine lv_bipush (v := 6) hx hb dX5_worthByKind_54 (by decide) ?_
          obtain rfl := inj1 h106
          exact kont13 _ _ _ hw (lv_sub hl [2, 3, 4, 5, 7, 0] rfl)
        · rw [if_neg c14] at h106
          refine lv_iconst (v := 3) hx hb dX5_worthByKind_50 (by decide) ?_
          refine lv_goto (tgt := 56) hx hb dX5_worthByKind_51 (by decide) ?_
          obtain rfl := inj1 h106
          exact kont13 _ _ _ hw (lv_sub hl [2, 3, 4, 5, 7, 0] rfl)
      · rw [if_pos c8] at h104
        refine lv_iload hx hb dX5_worthByKind_28 (lv_at hl 0 rfl) ?_
        refine lv_if_eq (tgt := 35) hx hb dX5_worthByKind_30 (by decide) (fun c55 => ?_) (fun c55 => ?_)
        · rw [if_pos c55] at h104
          refine lv_iload_n hx hb dX5_worthByKind_35 rfl (lv_at hl 2 rfl) ?_
          refine lv_iconst (v := 2) hx hb dX5_worthByKind_36 (by decide) ?_
          refine lv_idiv hx hb dX5_worthByKind_37 (by decide) ?_
          refine lv_istore (lv' := [(7, .int (i1 / 2)), (6, .int x5), (0, .int i0), (1, .int i1), (2, .int i2), (3, .int i3), (4, .int i4), (5, .int i5)]) hx hb dX5_worthByKind_38 hl (by decide) rfl (fun ls hl => ?_)
          refine lv_iload hx hb dX5_worthByKind_40 (lv_at hl 6 rfl) ?_
          refine lv_iload hx hb dX5_worthByKind_42 (lv_at hl 0 rfl) ?_
          obtain ⟨r56, k57, h117⟩ := ob1 h104
          clear h104
          refine g_si F (cX5_isIn_ok l d cy i4 (i1 / 2) r56 k57) cal_X5_isIn t_268 rfl ⟨by decide, by decide⟩ hw (w' := []) Cut.nil hl.1 (Nat.le_of_ble_eq_true rfl) rfl dX5_worthByKind_44 (fun H locs hw => ?_)
          obtain ⟨x59, h118, h119⟩ := ob1 h117
          clear h117
          have kont60 : ∀ (H : Heap) (locs : List Loc) (ls : Array Slot), Wd d A s.heap ([]) H locs → lv_has ls 9 [(0, .int i0), (1, .int i1), (2, .int i2), (3, .int i3), (5, .int i5), (7, .int (i1 / 2))] → W p l e (rmo 1 21) s m args below meth c H locs 0 0 Q (F0 m 56 ls [.int x59]) := by
            intro H locs ls hw hl
            clear h118
            refine lv_istore (lv' := [(8, .int x59), (0, .int i0), (1, .int i1), (2, .int i2), (3, .int i3), (5, .int i5), (7, .int (i1 / 2))]) hx hb dX5_worthByKind_56 hl (by decide) rfl (fun ls hl => ?_)
            refine lv_iload_n hx hb dX5_worthByKind_58 rfl (lv_at hl 1 rfl) ?_
            refine lv_iconst (v := 1) hx hb dX5_worthByKind_59 (by decide) ?_
            obtain ⟨x70, h120, h121⟩ := ob1 h119
            clear h119
            have kont71 : ∀ (H : Heap) (locs : List Loc) (ls : Array Slot), Wd d A s.heap ([]) H locs → lv_has ls 9 [(0, .int i0), (1, .int i1), (2, .int i2), (3, .int i3), (8, .int x70)] → W p l e (rmo 1 21) s m args below meth c H locs 0 0 Q (F0 m 81 ls []) := by
              intro H locs ls hw hl
              clear h120
              refine lv_iload_n hx hb dX5_worthByKind_81 rfl (lv_at hl 0 rfl) ?_
              refine lv_iconst (v := 2) hx hb dX5_worthByKind_82 (by decide) ?_
              obtain ⟨x88, h122, h123⟩ := ob1 h121
              clear h121
              have kont89 : ∀ (H : Heap) (locs : List Loc) (ls : Array Slot), Wd d A s.heap ([]) H locs → lv_has ls 9 [(0, .int i0), (1, .int i1), (3, .int i3), (8, .int x88)] → W p l e (rmo 1 21) s m args below meth c H locs 0 0 Q (F0 m 104 ls []) := by
                intro H locs ls hw hl
                clear h122
                refine lv_iload_n hx hb dX5_worthByKind_104 rfl (lv_at hl 0 rfl) ?_
                refine lv_iconst (v := 3) hx hb dX5_worthByKind_105 (by decide) ?_
                refine lv_icmp_ne (tgt := 120) hx hb dX5_worthByKind_106 (by decide) (fun c98 => ?_) (fun c98 => ?_)
                · rw [if_neg c98] at h123
                  refine lv_iload hx hb dX5_worthByKind_120 (lv_at hl 3 rfl) ?_
                  obtain rfl := inj1 h123
                  exact hret _ _ _ _ hw dX5_worthByKind_122
                · rw [if_pos c98] at h123
                  refine lv_iload_n hx hb dX5_worthByKind_109 rfl (lv_at hl 2 rfl) ?_
                  refine lv_iload_n hx hb dX5_worthByKind_110 rfl (lv_at hl 1 rfl) ?_
                  obtain ⟨r99, k100, h124⟩ := ob1 h123
                  clear h123
                  refine g_si F (cX5_isIn_ok l d cy i3 i1 r99 k100) cal_X5_isIn t_268 rfl ⟨by decide, by decide⟩ hw (w' := []) Cut.nil hl.1 (Nat.le_of_ble_eq_true rfl) rfl dX5_worthByKind_111 (fun H locs hw => ?_)
                  refine lv_if_eq (tgt := 120) hx hb dX5_worthByKind_114 (by decide) (fun c101 => ?_) (fun c101 => ?_)
                  · rw [if_pos c101] at h124
                    refine lv_iload hx hb dX5_worthByKind_120 (lv_at hl 3 rfl) ?_
                    obtain rfl := inj1 h124
                    exact hret _ _ _ _ hw dX5_worthByKind_122
                  · rw [if_neg c101] at h124
                    refine lv_iinc (v := (x88 + 5)) (lv' := [(8, .int (x88 + 5)), (0, .int i0), (1, .int i1), (3, .int i3)]) hx hb dX5_worthByKind_117 hl (k := 3) rfl rfl (by decide) rfl (fun ls hl => ?_)
                    refine lv_iload hx hb dX5_worthByKind_120 (lv_at hl 0 rfl) ?_
                    obtain rfl := inj1 h124
                    exact hret _ _ _ _ hw dX5_worthByKind_122
              clear h123
              refine lv_icmp_eq (tgt := 91) hx hb dX5_worthByKind_83 (by decide) (fun c90 => ?_) (fun c90 => ?_)
              · rw [if_pos c90] at h122
                refine lv_iload_n hx hb dX5_worthByKind_91 rfl (lv_at hl 2 rfl) ?_
                refine lv_iload_n hx hb dX5_worthByKind_92 rfl (lv_at hl 1 rfl) ?_
                refine lv_iconst (v := 1) hx hb dX5_worthByKind_93 (by decide) ?_
                refine lv_ixor hx hb dX5_worthByKind_94 ?_
                obtain ⟨r91, k92, h125⟩ := ob1 h122
                clear h122
                refine g_si F (cX5_isIn_ok l d cy i2 (i1 ^^^ 1) r91 k92) cal_X5_isIn t_268 rfl ⟨by decide, by decide⟩ hw (w' := []) Cut.nil hl.1 (Nat.le_of_ble_eq_true rfl) rfl dX5_worthByKind_95 (fun H locs hw => ?_)
                refine lv_if_eq (tgt := 104) hx hb dX5_worthByKind_98 (by decide) (fun c93 => ?_) (fun c93 => ?_)
                · rw [if_pos c93] at h125
                  obtain rfl := inj1 h125
                  exact kont89 _ _ _ hw (lv_sub hl [0, 1, 3, 4] rfl)
                · rw [if_neg c93] at h125
                  refine lv_iinc (v := (x70 + 4)) (lv' := [(8, .int (x70 + 4)), (0, .int i0), (1, .int i1), (2, .int i2), (3, .int i3)]) hx hb dX5_worthByKind_101 hl (k := 4) rfl rfl (by decide) rfl (fun ls hl => ?_)
                  obtain rfl := inj1 h125
                  exact kont89 _ _ _ hw (lv_sub hl [1, 2, 4, 0] rfl)
              · rw [if_neg c90] at h122
                refine lv_iload_n hx hb dX5_worthByKind_86 rfl (lv_at hl 0 rfl) ?_
                refine lv_iconst (v := 4) hx hb dX5_worthByKind_87 (by decide) ?_
                refine lv_icmp_ne (tgt := 104) hx hb dX5_worthByKind_88 (by decide) (fun c94 => ?_) (fun c94 => ?_)
                · rw [if_neg c94] at h122
                  obtain rfl := inj1 h122
                  exact kont89 _ _ _ hw (lv_sub hl [0, 1, 3, 4] rfl)
                · rw [if_pos c94] at h122
                  refine lv_iload_n hx hb dX5_worthByKind_91 rfl (lv_at hl 2 rfl) ?_
                  refine lv_iload_n hx hb dX5_worthByKind_92 rfl (lv_at hl 1 rfl) ?_
                  refine lv_iconst (v := 1) hx hb dX5_worthByKind_93 (by decide) ?_
                  refine lv_ixor hx hb dX5_worthByKind_94 ?_
                  obtain ⟨r95, k96, h126⟩ := ob1 h122
                  clear h122
                  refine g_si F (cX5_isIn_ok l d cy i2 (i1 ^^^ 1) r95 k96) cal_X5_isIn t_268 rfl ⟨by decide, by decide⟩ hw (w' := []) Cut.nil hl.1 (Nat.le_of_ble_eq_true rfl) rfl dX5_worthByKind_95 (fun H locs hw => ?_)
                  refine lv_if_eq (tgt := 104) hx hb dX5_worthByKind_98 (by decide) (fun c97 => ?_) (fun c97 => ?_)
                  · rw [if_pos c97] at h126
                    obtain rfl := inj1 h126
                    exact kont89 _ _ _ hw (lv_sub hl [0, 1, 3, 4] rfl)
                  · rw [if_neg c97] at h126
                    refine lv_iinc (v := (x70 + 4)) (lv' := [(8, .int (x70 + 4)), (0, .int i0), (1, .int i1), (2, .int i2), (3, .int i3)]) hx hb dX5_worthByKind_101 hl (k := 4) rfl rfl (by decide) rfl (fun ls hl => ?_)
                    obtain rfl := inj1 h126
                    exact kont89 _ _ _ hw (lv_sub hl [1, 2, 4, 0] rfl)
            clear h121
            refine lv_icmp_eq (tgt := 68) hx hb dX5_worthByKind_60 (by decide) (fun c72 => ?_) (fun c72 => ?_)
            · rw [if_pos c72] at h120
              refine lv_iload hx hb dX5_worthByKind_68 (lv_at hl 5 rfl) ?_
              refine lv_iload hx hb dX5_worthByKind_70 (lv_at hl 6 rfl) ?_
              obtain ⟨r73, k74, h127⟩ := ob1 h120
              clear h120
              refine g_si F (cX5_isIn_ok l d cy i5 (i1 / 2) r73 k74) cal_X5_isIn t_268 rfl ⟨by decide, by decide⟩ hw (w' := []) Cut.nil hl.1 (Nat.le_of_ble_eq_true rfl) rfl dX5_worthByKind_72 (fun H locs hw => ?_)
              refine lv_if_eq (tgt := 81) hx hb dX5_worthByKind_75 (by decide) (fun c75 => ?_) (fun c75 => ?_)
              · rw [if_pos c75] at h127
                obtain rfl := inj1 h127
                exact kont71 _ _ _ hw (lv_sub hl [1, 2, 3, 4, 0] rfl)
              · rw [if_neg c75] at h127
                refine lv_iinc (v := (x59 + 9)) (lv' := [(8, .int (x59 + 9)), (0, .int i0), (1, .int i1), (2, .int i2), (3, .int i3), (5, .int i5), (7, .int (i1 / 2))]) hx hb dX5_worthByKind_78 hl (k := 0) rfl rfl (by decide) rfl (fun ls hl => ?_)
                obtain rfl := inj1 h127
                exact kont71 _ _ _ hw (lv_sub hl [1, 2, 3, 4, 0] rfl)
            · rw [if_neg c72] at h120
              refine lv_iload_n hx hb dX5_worthByKind_63 rfl (lv_at hl 1 rfl) ?_
              refine lv_iconst (v := 3) hx hb dX5_worthByKind_64 (by decide) ?_
              refine lv_icmp_ne (tgt := 81) hx hb dX5_worthByKind_65 (by decide) (fun c76 => ?_) (fun c76 => ?_)
              · rw [if_neg c76] at h120
                obtain rfl := inj1 h120
                exact kont71 _ _ _ hw (lv_sub hl [1, 2, 3, 4, 0] rfl)
              · rw [if_pos c76] at h120
                refine lv_iload hx hb dX5_worthByKind_68 (lv_at hl 5 rfl) ?_
                refine lv_iload hx hb dX5_worthByKind_70 (lv_at hl 6 rfl) ?_
                obtain ⟨r77, k78, h128⟩ := ob1 h120
                clear h120
                refine g_si F (cX5_isIn_ok l d cy i5 (i1 / 2) r77 k78) cal_X5_isIn t_268 rfl ⟨by decide, by decide⟩ hw (w' := []) Cut.nil hl.1 (Nat.le_of_ble_eq_true rfl) rfl dX5_worthByKind_72 (fun H locs hw => ?_)
                refine lv_if_eq (tgt := 81) hx hb dX5_worthByKind_75 (by decide) (fun c79 => ?_) (fun c79 => ?_)
                · rw [if_pos c79] at h128
                  obtain rfl := inj1 h128
                  exact kont71 _ _ _ hw (lv_sub hl [1, 2, 3, 4, 0] rfl)
                · rw [if_neg c79] at h128
                  refine lv_iinc (v := (x59 + 9)) (lv' := [(8, .int (x59 + 9)), (0, .int i0), (1, .int i1), (2, .int i2), (3, .int i3), (5, .int i5), (7, .int (i1 / 2))]) hx hb dX5_worthByKind_78 hl (k := 0) rfl rfl (by decide) rfl (fun ls hl => ?_)
                  obtain rfl := inj1 h128
                  exact kont71 _ _ _ hw (lv_sub hl [1, 2, 3, 4, 0] rfl)
          clear h119
          refine lv_if_eq (tgt := 54) hx hb dX5_worthByKind_47 (by decide) (fun c61 => ?_) (fun c61 => ?_)
          · rw [if_pos c61] at h118
            refine lv_bipush (v := 6) hx hb dX5_worthByKind_54 (by decide) ?_
            obtain rfl := inj1 h118
            exact kont60 _ _ _ hw (lv_sub hl [2, 3, 4, 5, 7, 0] rfl)
          · rw [if_neg c61] at h118
            refine lv_iconst (v := 3) hx hb dX5_worthByKind_50 (by decide) ?_
            refine lv_goto (tgt := 56) hx hb dX5_worthByKind_51 (by decide) ?_
            obtain rfl := inj1 h118
            exact kont60 _ _ _ hw (lv_sub hl [2, 3, 4, 5, 7, 0] rfl)
        · rw [if_neg c55] at h104
          refine lv_iconst (v := 0) hx hb dX5_worthByKind_33 (by decide) ?_
          obtain rfl := inj1 h104
          exact hret _ _ _ _ hw dX5_worthByKind_34
    clear h104
    refine lv_if_ne (tgt := 20) hx hb dX5_worthByKind_13 (by decide) (fun c7 => ?_) (fun c7 => ?_)
    · rw [if_neg c7] at h103
      refine lv_iconst (v := 0) hx hb dX5_worthByKind_20 (by decide) ?_
      obtain rfl := inj1 h103
      exact kont6 _ _ _ hw (lv_sub hl [0, 1, 2, 3, 4, 5] rfl)
    · rw [if_pos c7] at h103
      refine lv_iconst (v := 1) hx hb dX5_worthByKind_16 (by decide) ?_
      refine lv_goto (tgt := 21) hx hb dX5_worthByKind_17 (by decide) ?_
      obtain rfl := inj1 h103
      exact kont6 _ _ _ hw (lv_sub hl [0, 1, 2, 3, 4, 5] rfl)
  · rw [if_pos c3] at h102
    refine lv_iconst (v := 0) hx hb dX5_worthByKind_8 (by decide) ?_
    obtain rfl := inj1 h102
    exact hret _ _ _ _ hw dX5_worthByKind_9
