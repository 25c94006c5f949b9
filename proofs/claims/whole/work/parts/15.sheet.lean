theorem t_42 : (Cond.initialized "SundayMarket$Sheet") ∈ gtbl := wd 42 (by decide +kernel) (by decide +kernel)
theorem t_171 : (Cond.fieldLink "SundayMarket$Sheet" 9 "SundayMarket$Sheet" "items" "[J") ∈ gtbl := wd 171 (by decide +kernel) (by decide +kernel)
theorem t_173 : (Cond.fieldLink "SundayMarket$Sheet" 15 "SundayMarket$Sheet" "lane" "I") ∈ gtbl := wd 173 (by decide +kernel) (by decide +kernel)
theorem t_175 : (Cond.fieldLink "SundayMarket$Sheet" 19 "SundayMarket$Sheet" "size" "I") ∈ gtbl := wd 175 (by decide +kernel) (by decide +kernel)
theorem t_673 : (Cond.instanceMethod yX2_troubleOf) ∈ gtbl := wd 673 (by decide +kernel) (by decide +kernel)
theorem t_674 : (Cond.selects "SundayMarket$Sheet" yX2_troubleOf yX2_troubleOf) ∈ gtbl := wd 674 (by decide +kernel) (by decide +kernel)
theorem t_675 : (Cond.code yX2_troubleOf prog_4_method_4_code 4 (some .int)) ∈ gtbl := wd 675 (by decide +kernel) (by decide +kernel)
theorem t_676 : (Cond.methodLink "SundayMarket$Sheet" 22 yX2_hasRoom) ∈ gtbl := wd 676 (by decide +kernel) (by decide +kernel)
theorem t_677 : (Cond.instanceMethod yX2_hasRoom) ∈ gtbl := wd 677 (by decide +kernel) (by decide +kernel)
theorem t_678 : (Cond.selects "SundayMarket$Sheet" yX2_hasRoom yX2_hasRoom) ∈ gtbl := wd 678 (by decide +kernel) (by decide +kernel)
theorem t_679 : (Cond.code yX2_hasRoom prog_4_method_3_code 3 (some .boolean)) ∈ gtbl := wd 679 (by decide +kernel) (by decide +kernel)
theorem t_699 : (Cond.instanceMethod yX2_put) ∈ gtbl := wd 699 (by decide +kernel) (by decide +kernel)
theorem t_700 : (Cond.selects "SundayMarket$Sheet" yX2_put yX2_put) ∈ gtbl := wd 700 (by decide +kernel) (by decide +kernel)
theorem t_701 : (Cond.code yX2_put prog_4_method_5_code 4 none) ∈ gtbl := wd 701 (by decide +kernel) (by decide +kernel)
theorem t_707 : (Cond.instanceMethod yX2_begin) ∈ gtbl := wd 707 (by decide +kernel) (by decide +kernel)
theorem t_708 : (Cond.selects "SundayMarket$Sheet" yX2_begin yX2_begin) ∈ gtbl := wd 708 (by decide +kernel) (by decide +kernel)
theorem t_709 : (Cond.code yX2_begin prog_4_method_2_code 4 none) ∈ gtbl := wd 709 (by decide +kernel) (by decide +kernel)
def fX2_begin_L12  : Nat → Int32 → (Nat → Int64) → Option ((Nat → Int64))
  | 0, _, _ => none
  | n + 1, v9, g10 =>
    if 24 ≤ v9 then
      some (g10)
    else
      bd1 (ix v9 24) fun j16 =>
      fX2_begin_L12 n (v9 + 1) (vp_updL g10 j16 0)
def fX2_begin (sh_items : Nat → Int64) (i1 : Int32) (i2 : Int32) : Option ((Nat → Int64) × Int32 × Int32) :=
  bd1 (fX2_begin_L12 fl 0 sh_items) fun q14 =>
  some (q14, i1, i2)
def fX2_hasRoom (sh_size : Int32) (i1 : Int32) (i2 : Int32) : Option (Int32) :=
  if i1 < 0 then
    some (0)
  else
    if i2 < 0 then
      some (0)
    else
      if (sh_size - i2) < i1 then
        some (0)
      else
        some (1)
def fX2_troubleOf (sh_lane : Int32) (sh_size : Int32) (i1 : Int32) (i2 : Int32) (i3 : Int32) : Option (Int32) :=
  if sh_lane = (-1) then
    some ((-11))
  else
    if sh_lane = i1 then
      bd1 (fX2_hasRoom sh_size i2 i3) fun r3 =>
      if r3 = 0 then
        some ((-13))
      else
        some (0)
    else
      some ((-12))
def fX2_put (sh_items : Nat → Int64) (sh_lane : Int32) (i1 : Int32) (i2 : Int64) : Option ((Nat → Int64)) :=
  if sh_lane = 0 then
    bd1 (ix i1 24) fun j1 =>
    some ((vp_updL sh_items j1 (Int32.toInt64 ((Int32.toInt8 (Int64.toInt32 i2)).toInt32))))
  else if sh_lane = 1 then
    bd1 (ix i1 24) fun j3 =>
    some ((vp_updL sh_items j3 (Int32.toInt64 ((Int32.toInt16 (Int64.toInt32 i2)).toInt32))))
  else if sh_lane = 2 then
    bd1 (ix i1 24) fun j5 =>
    some ((vp_updL sh_items j5 (Int32.toInt64 (Int64.toInt32 i2))))
  else 
    bd1 (ix i1 24) fun j7 =>
    some ((vp_updL sh_items j7 i2))
theorem cal_X2_begin : CalV yX2_begin cX2_begin 4 none RX2 2 := ⟨t_709, t_707, t_708, t_42, by decide +kernel⟩
set_option maxHeartbeats 4000000 in
set_option maxRecDepth 100000 in
theorem cX2_begin_ok (l : Launch) (d : va_G) (cy : Nat → ClassId) (sh0 sh1 : Nat) (sh_items : Nat → Int64) (sh_lane : Int32) (sh_size : Int32) (i1 : Int32) (i2 : Int32) (sh_items_r : Nat → Int64) (sh_lane_r : Int32) (sh_size_r : Int32) (h0 : fX2_begin sh_items i1 i2 = some (sh_items_r, sh_lane_r, sh_size_r)) : CV l yX2_begin cX2_begin 4 none 0 0 d cy [.ref sh0, .int i1, .int i2] (wS cy sh0 sh1 sh_items sh_lane sh_size) (wS cy sh0 sh1 sh_items_r sh_lane_r sh_size_r) := by
  refine CV.of (by decide) (Nat.le_of_ble_eq_true rfl) ?_
  intro p e s m args below meth c A ls Q F hret hw hl
  have hx := F.1
  have hb := F.2.1
  have hl : lv_has ls 4 [(0, .ref sh0), (1, .int i1), (2, .int i2)] := hl
  rw [fX2_begin] at h0
  refine lv_aload_n hx hb dX2_begin_0 rfl (lv_at hl 0 rfl) ?_
  refine lv_iload_n hx hb dX2_begin_1 rfl (lv_at hl 1 rfl) ?_
  refine g_put F inG2 tyX2 tyX2_ok nmX2 hw 0 rfl rfl 1 (by decide) t_173 (fun _ h9 => h9) rfl (ty := .int) (by decide +kernel) rfl rfl (Nat.le_of_ble_eq_true rfl) dX2_begin_2 (w' := wS cy sh0 sh1 sh_items i1 sh_size) rfl (fun H locs hw => ?_)
  refine lv_aload_n hx hb dX2_begin_5 rfl (lv_at hl 0 rfl) ?_
  refine lv_iload_n hx hb dX2_begin_6 rfl (lv_at hl 2 rfl) ?_
  refine g_put F inG2 tyX2 tyX2_ok nmX2 hw 0 rfl rfl 2 (by decide) t_175 (fun _ h9 => h9) rfl (ty := .int) (by decide +kernel) rfl rfl (Nat.le_of_ble_eq_true rfl) dX2_begin_7 (w' := wS cy sh0 sh1 sh_items i1 i2) rfl (fun H locs hw => ?_)
  refine lv_iconst (v := 0) hx hb dX2_begin_10 (by decide) ?_
  refine lv_istore_n (lv' := [(3, .int 0), (0, .ref sh0), (1, .int i1), (2, .int i2)]) hx hb dX2_begin_11 rfl hl (by decide) rfl (fun ls hl => ?_)
  obtain ⟨q14, h18, h19⟩ := ob1 h0
  clear h0
  have kont11 : ∀ (H : Heap) (locs : List Loc) (ls : Array Slot), Wd d A s.heap (wS cy sh0 sh1 q14 i1 i2) H locs → lv_has ls 4 [] → W p l e (rmo 0 0) s m args below meth c H locs 0 0 Q (F0 m 31 ls []) := by
    intro H locs ls hw hl
    clear h18
    obtain ⟨rfl, rfl, rfl⟩ := inj3 h19
    exact hret _ _ _ _ hw dX2_begin_31
  clear h19
  have loop13 : ∀ (n : Nat) (v9 : Int32) (g10 : Nat → Int64) (H : Heap) (locs : List Loc) (ls : Array Slot), Wd d A s.heap (wS cy sh0 sh1 g10 i1 i2) H locs → lv_has ls 4 [(0, .ref sh0), (3, .int v9)] → fX2_begin_L12 n v9 g10 = some (q14) → W p l e (rmo 0 0) s m args below meth c H locs 0 0 Q (F0 m 12 ls []) := by
    intro n
    induction n with
    | zero =>
      intro v9 g10 H locs ls hw hl h20
      rw [fX2_begin_L12] at h20
      cases h20
    | succ n ih12 =>
      intro v9 g10 H locs ls hw hl h21
      rw [fX2_begin_L12] at h21
      refine lv_iload_n hx hb dX2_begin_12 rfl (lv_at hl 1 rfl) ?_
      refine lv_bipush (v := 24) hx hb dX2_begin_13 (by decide) ?_
      refine lv_icmp_ge (tgt := 31) hx hb dX2_begin_15 (by decide) (fun c15 => ?_) (fun c15 => ?_)
      · rw [if_pos c15] at h21
        obtain rfl := inj1 h21
        exact kont11 _ _ _ hw (lv_sub hl [] rfl)
      · rw [if_neg c15] at h21
        refine lv_aload_n hx hb dX2_begin_18 rfl (lv_at hl 0 rfl) ?_
        refine g_get F inG2 hw 0 rfl rfl 0 (by decide) t_171 (fun _ h9 => h9) rfl dX2_begin_19 ?_
        refine lv_iload_n hx hb dX2_begin_22 rfl (lv_at hl 1 rfl) ?_
        refine lv_lconst (v := 0) hx hb dX2_begin_23 (by decide) ?_
        obtain ⟨j16, k17, h22⟩ := ob1 h21
        clear h21
        refine g_last F hw 1 rfl k17 dX2_begin_24 (w' := wS cy sh0 sh1 (vp_updL g10 j16 0) i1 i2) rfl (fun H locs hw => ?_)
        refine lv_iinc (v := (v9 + 1)) (lv' := [(3, .int (v9 + 1)), (0, .ref sh0)]) hx hb dX2_begin_25 hl (k := 1) rfl rfl (by decide) rfl (fun ls hl => ?_)
        refine lv_goto (tgt := 12) hx hb dX2_begin_28 (by decide) ?_
        exact ih12 (v9 + 1) (vp_updL g10 j16 0) _ _ _ hw (lv_sub hl [1, 0] rfl) h22
  exact loop13 fl 0 sh_items _ _ _ hw (lv_sub hl [1, 0] rfl) h18
theorem cal_X2_hasRoom : CalV yX2_hasRoom cX2_hasRoom 3 (some .boolean) RX2 2 := ⟨t_679, t_677, t_678, t_42, by decide +kernel⟩
set_option maxHeartbeats 4000000 in
set_option maxRecDepth 100000 in
theorem cX2_hasRoom_ok (l : Launch) (d : va_G) (cy : Nat → ClassId) (sh0 sh1 : Nat) (sh_items : Nat → Int64) (sh_lane : Int32) (sh_size : Int32) (i1 : Int32) (i2 : Int32) (r : Int32) (h0 : fX2_hasRoom sh_size i1 i2 = some (r)) : CI l yX2_hasRoom cX2_hasRoom 3 (some .boolean) 0 0 d cy [.ref sh0, .int i1, .int i2] (wS cy sh0 sh1 sh_items sh_lane sh_size) (wS cy sh0 sh1 sh_items sh_lane sh_size) r := by
  refine CZ.of (by decide) (Nat.le_of_ble_eq_true rfl) ?_
  intro p e s m args below meth c A ls Q F hret hw hl
  have hx := F.1
  have hb := F.2.1
  have hl : lv_has ls 3 [(0, .ref sh0), (1, .int i1), (2, .int i2)] := hl
  rw [fX2_hasRoom] at h0
  refine lv_iload_n hx hb dX2_hasRoom_0 rfl (lv_at hl 1 rfl) ?_
  refine lv_if_lt (tgt := 22) hx hb dX2_hasRoom_1 (by decide) (fun c1 => ?_) (fun c1 => ?_)
  · rw [if_pos c1] at h0
    refine lv_iconst (v := 0) hx hb dX2_hasRoom_22 (by decide) ?_
    obtain rfl := inj1 h0
    exact hret _ _ _ _ rfl hw dX2_hasRoom_23
  · rw [if_neg c1] at h0
    refine lv_iload_n hx hb dX2_hasRoom_4 rfl (lv_at hl 2 rfl) ?_
    refine lv_if_lt (tgt := 22) hx hb dX2_hasRoom_5 (by decide) (fun c2 => ?_) (fun c2 => ?_)
    · rw [if_pos c2] at h0
      refine lv_iconst (v := 0) hx hb dX2_hasRoom_22 (by decide) ?_
      obtain rfl := inj1 h0
      exact hret _ _ _ _ rfl hw dX2_hasRoom_23
    · rw [if_neg c2] at h0
      refine lv_iload_n hx hb dX2_hasRoom_8 rfl (lv_at hl 1 rfl) ?_
      refine lv_aload_n hx hb dX2_hasRoom_9 rfl (lv_at hl 0 rfl) ?_
      refine g_get F inG2 hw 0 rfl rfl 2 (by decide) t_175 (fun _ h9 => h9) rfl dX2_hasRoom_10 ?_
      refine lv_iload_n hx hb dX2_hasRoom_13 rfl (lv_at hl 2 rfl) ?_
      refine lv_isub hx hb dX2_hasRoom_14 ?_
      refine lv_icmp_gt (tgt := 22) hx hb dX2_hasRoom_15 (by decide) (fun c3 => ?_) (fun c3 => ?_)
      · rw [if_pos c3] at h0
        refine lv_iconst (v := 0) hx hb dX2_hasRoom_22 (by decide) ?_
        obtain rfl := inj1 h0
        exact hret _ _ _ _ rfl hw dX2_hasRoom_23
      · rw [if_neg c3] at h0
        refine lv_iconst (v := 1) hx hb dX2_hasRoom_18 (by decide) ?_
        refine lv_goto (tgt := 23) hx hb dX2_hasRoom_19 (by decide) ?_
        obtain rfl := inj1 h0
        exact hret _ _ _ _ rfl hw dX2_hasRoom_23
theorem cal_X2_troubleOf : CalV yX2_troubleOf cX2_troubleOf 4 (some .int) RX2 3 := ⟨t_675, t_673, t_674, t_42, by decide +kernel⟩
set_option maxHeartbeats 4000000 in
set_option maxRecDepth 100000 in
theorem cX2_troubleOf_ok (l : Launch) (d : va_G) (cy : Nat → ClassId) (sh0 sh1 : Nat) (sh_items : Nat → Int64) (sh_lane : Int32) (sh_size : Int32) (i1 : Int32) (i2 : Int32) (i3 : Int32) (r : Int32) (h0 : fX2_troubleOf sh_lane sh_size i1 i2 i3 = some (r)) : CI l yX2_troubleOf cX2_troubleOf 4 (some .int) 1 22 d cy [.ref sh0, .int i1, .int i2, .int i3] (wS cy sh0 sh1 sh_items sh_lane sh_size) (wS cy sh0 sh1 sh_items sh_lane sh_size) r := by
  refine CI.of (by decide) (Nat.le_of_ble_eq_true rfl) ?_
  intro p e s m args below meth c A ls Q F hret hw hl
  have hx := F.1
  have hb := F.2.1
  have hl : lv_has ls 4 [(0, .ref sh0), (1, .int i1), (2, .int i2), (3, .int i3)] := hl
  rw [fX2_troubleOf] at h0
  refine lv_aload_n hx hb dX2_troubleOf_0 rfl (lv_at hl 0 rfl) ?_
  refine g_get F inG2 hw 0 rfl rfl 1 (by decide) t_173 (fun _ h9 => h9) rfl dX2_troubleOf_1 ?_
  refine lv_iconst (v := (-1)) hx hb dX2_troubleOf_4 (by decide) ?_
  refine lv_icmp_ne (tgt := 11) hx hb dX2_troubleOf_5 (by decide) (fun c1 => ?_) (fun c1 => ?_)
  · rw [if_neg c1] at h0
    refine lv_aload_n hx hb dX2_troubleOf_11 rfl (lv_at hl 0 rfl) ?_
    refine g_get F inG2 hw 0 rfl rfl 1 (by decide) t_173 (fun _ h9 => h9) rfl dX2_troubleOf_12 ?_
    refine lv_iload_n hx hb dX2_troubleOf_15 rfl (lv_at hl 1 rfl) ?_
    refine lv_icmp_eq (tgt := 22) hx hb dX2_troubleOf_16 (by decide) (fun c2 => ?_) (fun c2 => ?_)
    · rw [if_pos c2] at h0
      refine lv_aload_n hx hb dX2_troubleOf_22 rfl (lv_at hl 0 rfl) ?_
      refine lv_iload_n hx hb dX2_troubleOf_23 rfl (lv_at hl 2 rfl) ?_
      refine lv_iload_n hx hb dX2_troubleOf_24 rfl (lv_at hl 3 rfl) ?_
      obtain ⟨r3, k4, h6⟩ := ob1 h0
      clear h0
      refine g_vi F (cX2_hasRoom_ok l d cy sh0 sh1 sh_items sh_lane sh_size i2 i3 r3 k4) cal_X2_hasRoom t_676 rfl ⟨by decide, by decide⟩ hw (w' := wS cy sh0 sh1 sh_items sh_lane sh_size) Cut.all 0 2 rfl rfl hl.1 (Nat.le_of_ble_eq_true rfl) rfl dX2_troubleOf_25 (fun H locs hw => ?_)
      refine lv_if_eq (tgt := 35) hx hb dX2_troubleOf_28 (by decide) (fun c5 => ?_) (fun c5 => ?_)
      · rw [if_pos c5] at h6
        refine lv_bipush (v := (-13)) hx hb dX2_troubleOf_35 (by decide) ?_
        obtain rfl := inj1 h6
        exact hret _ _ _ _ hw dX2_troubleOf_37
      · rw [if_neg c5] at h6
        refine lv_iconst (v := 0) hx hb dX2_troubleOf_31 (by decide) ?_
        refine lv_goto (tgt := 37) hx hb dX2_troubleOf_32 (by decide) ?_
        obtain rfl := inj1 h6
        exact hret _ _ _ _ hw dX2_troubleOf_37
    · rw [if_neg c2] at h0
      refine lv_bipush (v := (-12)) hx hb dX2_troubleOf_19 (by decide) ?_
      obtain rfl := inj1 h0
      exact hret _ _ _ _ hw dX2_troubleOf_21
  · rw [if_pos c1] at h0
    refine lv_bipush (v := (-11)) hx hb dX2_troubleOf_8 (by decide) ?_
    obtain rfl := inj1 h0
    exact hret _ _ _ _ hw dX2_troubleOf_10
theorem cal_X2_put : CalV yX2_put cX2_put 4 none RX2 2 := ⟨t_701, t_699, t_700, t_42, by decide +kernel⟩
set_option maxHeartbeats 4000000 in
set_option maxRecDepth 100000 in
theorem cX2_put_ok (l : Launch) (d : va_G) (cy : Nat → ClassId) (sh0 sh1 : Nat) (sh_items : Nat → Int64) (sh_lane : Int32) (sh_size : Int32) (i1 : Int32) (i2 : Int64) (sh_items_r : Nat → Int64) (h0 : fX2_put sh_items sh_lane i1 i2 = some (sh_items_r)) : CV l yX2_put cX2_put 4 none 0 0 d cy [.ref sh0, .int i1, .long i2] (wS cy sh0 sh1 sh_items sh_lane sh_size) (wS cy sh0 sh1 sh_items_r sh_lane sh_size) := by
  refine CV.of (by decide) (Nat.le_of_ble_eq_true rfl) ?_
  intro p e s m args below meth c A ls Q F hret hw hl
  have hx := F.1
  have hb := F.2.1
  have hl : lv_has ls 4 [(0, .ref sh0), (1, .int i1), (2, .long i2)] := hl
  rw [fX2_put] at h0
  refine lv_aload_n hx hb dX2_put_0 rfl (lv_at hl 0 rfl) ?_
  refine g_get F inG2 hw 0 rfl rfl 1 (by decide) t_173 (fun _ h9 => h9) rfl dX2_put_1 ?_
  by_cases c9 : sh_lane = 0
  · rw [if_pos c9] at h0
    refine lv_tableIn (off := 28) (tgt := 32) hx hb dX2_put_4 (by rw [c9]; decide) (by rw [c9]; decide) (by rw [c9]; rfl) (by decide) ?_
    refine lv_aload_n hx hb dX2_put_32 rfl (lv_at hl 0 rfl) ?_
    refine g_get F inG2 hw 0 rfl rfl 0 (by decide) t_171 (fun _ h9 => h9) rfl dX2_put_33 ?_
    refine lv_iload_n hx hb dX2_put_36 rfl (lv_at hl 1 rfl) ?_
    refine lv_lload_n hx hb dX2_put_37 rfl (lv_at hl 2 rfl) ?_
    refine lv_l2i hx hb dX2_put_38 rfl ?_
    refine lv_i2b hx hb dX2_put_39 rfl ?_
    refine lv_i2l hx hb dX2_put_40 rfl ?_
    obtain ⟨j1, k2, h10⟩ := ob1 h0
    clear h0
    refine g_last F hw 1 rfl k2 dX2_put_41 (w' := wS cy sh0 sh1 (vp_updL sh_items j1 (Int32.toInt64 ((Int32.toInt8 (Int64.toInt32 i2)).toInt32))) sh_lane sh_size) rfl (fun H locs hw => ?_)
    refine lv_goto (tgt := 77) hx hb dX2_put_42 (by decide) ?_
    obtain rfl := inj1 h10
    exact hret _ _ _ _ hw dX2_put_77
  rw [if_neg c9] at h0
  by_cases c11 : sh_lane = 1
  · rw [if_pos c11] at h0
    refine lv_tableIn (off := 41) (tgt := 45) hx hb dX2_put_4 (by rw [c11]; decide) (by rw [c11]; decide) (by rw [c11]; rfl) (by decide) ?_
    refine lv_aload_n hx hb dX2_put_45 rfl (lv_at hl 0 rfl) ?_
    refine g_get F inG2 hw 0 rfl rfl 0 (by decide) t_171 (fun _ h9 => h9) rfl dX2_put_46 ?_
    refine lv_iload_n hx hb dX2_put_49 rfl (lv_at hl 1 rfl) ?_
    refine lv_lload_n hx hb dX2_put_50 rfl (lv_at hl 2 rfl) ?_
    refine lv_l2i hx hb dX2_put_51 rfl ?_
    refine lv_i2s hx hb dX2_put_52 rfl ?_
    refine lv_i2l hx hb dX2_put_53 rfl ?_
    obtain ⟨j3, k4, h12⟩ := ob1 h0
    clear h0
    refine g_last F hw 1 rfl k4 dX2_put_54 (w' := wS cy sh0 sh1 (vp_updL sh_items j3 (Int32.toInt64 ((Int32.toInt16 (Int64.toInt32 i2)).toInt32))) sh_lane sh_size) rfl (fun H locs hw => ?_)
    refine lv_goto (tgt := 77) hx hb dX2_put_55 (by decide) ?_
    obtain rfl := inj1 h12
    exact hret _ _ _ _ hw dX2_put_77
  rw [if_neg c11] at h0
  by_cases c13 : sh_lane = 2
  · rw [if_pos c13] at h0
    refine lv_tableIn (off := 54) (tgt := 58) hx hb dX2_put_4 (by rw [c13]; decide) (by rw [c13]; decide) (by rw [c13]; rfl) (by decide) ?_
    refine lv_aload_n hx hb dX2_put_58 rfl (lv_at hl 0 rfl) ?_
    refine g_get F inG2 hw 0 rfl rfl 0 (by decide) t_171 (fun _ h9 => h9) rfl dX2_put_59 ?_
    refine lv_iload_n hx hb dX2_put_62 rfl (lv_at hl 1 rfl) ?_
    refine lv_lload_n hx hb dX2_put_63 rfl (lv_at hl 2 rfl) ?_
    refine lv_l2i hx hb dX2_put_64 rfl ?_
    refine lv_i2l hx hb dX2_put_65 rfl ?_
    obtain ⟨j5, k6, h14⟩ := ob1 h0
    clear h0
    refine g_last F hw 1 rfl k6 dX2_put_66 (w' := wS cy sh0 sh1 (vp_updL sh_items j5 (Int32.toInt64 (Int64.toInt32 i2))) sh_lane sh_size) rfl (fun H locs hw => ?_)
    refine lv_goto (tgt := 77) hx hb dX2_put_67 (by decide) ?_
    obtain rfl := inj1 h14
    exact hret _ _ _ _ hw dX2_put_77
  rw [if_neg c13] at h0
  have nc9 := lv_neT c9 (a := 0) (by decide)
  have nc11 := lv_neT c11 (a := 1) (by decide)
  have nc13 := lv_neT c13 (a := 2) (by decide)
  refine lv_tableOut (tgt := 70) hx hb dX2_put_4 (by omega) (by decide) ?_
  refine lv_aload_n hx hb dX2_put_70 rfl (lv_at hl 0 rfl) ?_
  refine g_get F inG2 hw 0 rfl rfl 0 (by decide) t_171 (fun _ h9 => h9) rfl dX2_put_71 ?_
  refine lv_iload_n hx hb dX2_put_74 rfl (lv_at hl 1 rfl) ?_
  refine lv_lload_n hx hb dX2_put_75 rfl (lv_at hl 2 rfl) ?_
  obtain ⟨j7, k8, h15⟩ := ob1 h0
  clear h0
  refine g_last F hw 1 rfl k8 dX2_put_76 (w' := wS cy sh0 sh1 (vp_updL sh_items j7 i2) sh_lane sh_size) rfl (fun H locs hw => ?_)
  obtain rfl := inj1 h15
  exact hret _ _ _ _ hw dX2_put_77
