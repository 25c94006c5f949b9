theorem t_1078 : (Cond.instanceMethod yX6_sheet) ∈ gtbl := wd 1078 (by decide +kernel) (by decide +kernel)
theorem t_1079 : (Cond.selects "SundayMarketModel" yX6_sheet yX6_sheet) ∈ gtbl := wd 1079 (by decide +kernel) (by decide +kernel)
theorem t_1080 : (Cond.code yX6_sheet prog_8_method_72_code 5 (some .int)) ∈ gtbl := wd 1080 (by decide +kernel) (by decide +kernel)
theorem t_1082 : (Cond.instanceMethod yX6_drop) ∈ gtbl := wd 1082 (by decide +kernel) (by decide +kernel)
theorem t_1083 : (Cond.selects "SundayMarketModel" yX6_drop yX6_drop) ∈ gtbl := wd 1083 (by decide +kernel) (by decide +kernel)
theorem t_1084 : (Cond.code yX6_drop prog_8_method_73_code 2 (some .int)) ∈ gtbl := wd 1084 (by decide +kernel) (by decide +kernel)
theorem t_1086 : (Cond.instanceMethod yX6_item) ∈ gtbl := wd 1086 (by decide +kernel) (by decide +kernel)
theorem t_1087 : (Cond.selects "SundayMarketModel" yX6_item yX6_item) ∈ gtbl := wd 1087 (by decide +kernel) (by decide +kernel)
theorem t_1088 : (Cond.code yX6_item prog_8_method_74_code 7 (some .int)) ∈ gtbl := wd 1088 (by decide +kernel) (by decide +kernel)
theorem t_1090 : (Cond.instanceMethod yX6_copy) ∈ gtbl := wd 1090 (by decide +kernel) (by decide +kernel)
theorem t_1091 : (Cond.selects "SundayMarketModel" yX6_copy yX6_copy) ∈ gtbl := wd 1091 (by decide +kernel) (by decide +kernel)
theorem t_1092 : (Cond.code yX6_copy prog_8_method_75_code 8 (some .int)) ∈ gtbl := wd 1092 (by decide +kernel) (by decide +kernel)
def fX6_sheet_L46 (i1 : Int32) : Nat → Int32 → (Nat → Int64) → Option ((Nat → Int64))
  | 0, _, _ => none
  | n + 1, v19, g20 =>
    if 24 ≤ v19 then
      some (g20)
    else
      bd1 (ix ((24 * i1) + v19) 96) fun j26 =>
      fX6_sheet_L46 i1 n (v19 + 1) (vp_updL g20 j26 0)
def fX6_sheet (m_lanes : Nat → Int32) (m_sizes : Nat → Int32) (m_items : Nat → Int64) (i1 : Int32) (i2 : Int32) (i3 : Int32) : Option (Int32 × (Nat → Int32) × (Nat → Int32) × (Nat → Int64)) :=
  bd1 (fX6_isSheet i1) fun r1 =>
  if r1 = 0 then
    some ((-1), m_lanes, m_sizes, m_items)
  else
    bd1 (fX6_isLane i2) fun r4 =>
    if r4 = 0 then
      some ((-1), m_lanes, m_sizes, m_items)
    else
      if i3 ≤ 24 then
        if 0 ≤ i3 then
          bd1 (ix i1 4) fun j9 =>
          bd1 (fX6_sheet_L46 i1 fl 0 m_items) fun q24 =>
          some (i3, (upd m_lanes j9 i2), (upd m_sizes j9 i3), q24)
        else
          some ((-14), m_lanes, m_sizes, m_items)
      else
        some ((-1), m_lanes, m_sizes, m_items)
def fX6_drop (m_lanes : Nat → Int32) (m_sizes : Nat → Int32) (i1 : Int32) : Option (Int32 × (Nat → Int32)) :=
  bd1 (fX6_isSheet i1) fun r1 =>
  if r1 = 0 then
    some ((-1), m_lanes)
  else
    bd1 (ix i1 4) fun j4 =>
    if 0 ≤ (m_lanes j4) then
      some ((m_sizes j4), (upd m_lanes j4 (-1)))
    else
      some ((-11), m_lanes)
def fX6_item (m_lanes : Nat → Int32) (m_sizes : Nat → Int32) (m_items : Nat → Int64) (i1 : Int32) (i2 : Int32) (i3 : Int32) (i4 : Int64) : Option (Int32 × (Nat → Int64)) :=
  bd1 (fX6_isSheet i1) fun r1 =>
  if r1 = 0 then
    some ((-1), m_items)
  else
    bd1 (fX6_isLane i2) fun r4 =>
    if r4 = 0 then
      some ((-1), m_items)
    else
      bd1 (fX6_why m_lanes m_sizes i1 i2 i3 1) fun r7 =>
      if 0 ≤ r7 then
        bd1 (if i2 = 0 then
            some ((Int32.toInt64 ((Int32.toInt8 (Int64.toInt32 i4)).toInt32)))
          else
            if i2 = 1 then
              some ((Int32.toInt64 ((Int32.toInt16 (Int64.toInt32 i4)).toInt32)))
            else
              if i2 = 2 then
                some ((Int32.toInt64 (Int64.toInt32 i4)))
              else
                some (i4)
          : Option Int64) fun x13 =>
        bd1 (ix ((24 * i1) + i3) 96) fun j18 =>
        some (1, (vp_updL m_items j18 x13))
      else
        some (r7, m_items)
def fX6_copy_L128 (i3 : Int32) (i4 : Int32) (i5 : Int32) (q41 : Nat → Int64) : Nat → Int32 → (Nat → Int64) → Option ((Nat → Int64))
  | 0, _, _ => none
  | n + 1, v59, g60 =>
    if i5 ≤ v59 then
      some (g60)
    else
      bd1 (ix v59 24) fun j66 =>
      bd1 (ix (((24 * i3) + i4) + v59) 96) fun j68 =>
      fX6_copy_L128 i3 i4 i5 q41 n (v59 + 1) (vp_updL g60 j68 (q41 j66))
def fX6_copy_L91 (i1 : Int32) (i2 : Int32) (i5 : Int32) (m_items : Nat → Int64) : Nat → Int32 → (Nat → Int64) → Option ((Nat → Int64))
  | 0, _, _ => none
  | n + 1, v36, g37 =>
    if i5 ≤ v36 then
      some (g37)
    else
      bd1 (ix (((24 * i1) + i2) + v36) 96) fun j43 =>
      bd1 (ix v36 24) fun j45 =>
      fX6_copy_L91 i1 i2 i5 m_items n (v36 + 1) (vp_updL g37 j45 (m_items j43))
def fX6_copy (m_lanes : Nat → Int32) (m_sizes : Nat → Int32) (m_items : Nat → Int64) (m_moved : Nat → Int64) (i1 : Int32) (i2 : Int32) (i3 : Int32) (i4 : Int32) (i5 : Int32) : Option (Int32 × (Nat → Int64) × (Nat → Int64)) :=
  bd1 (fX6_isSheet i1) fun r1 =>
  if r1 = 0 then
    some ((-1), m_items, m_moved)
  else
    bd1 (fX6_isSheet i3) fun r4 =>
    if r4 = 0 then
      some ((-1), m_items, m_moved)
    else
      bd1 (ix i1 4) fun j7 =>
      if (m_lanes j7) < 0 then
        some ((-11), m_items, m_moved)
      else
        bd1 (ix i3 4) fun j10 =>
        if 0 ≤ (m_lanes j10) then
          bd1 (fX6_why m_lanes m_sizes i3 (m_lanes j7) i4 i5) fun r13 =>
          bd1 (if r13 = 0 then
              bd1 (fX6_why m_lanes m_sizes i1 (m_lanes j7) i2 i5) fun r21 =>
              some (r21)
            else
              some (r13)
            : Option Int32) fun x18 =>
          if 0 ≤ x18 then
            bd1 (fX6_copy_L91 i1 i2 i5 m_items fl 0 m_moved) fun q41 =>
            bd1 (fX6_copy_L128 i3 i4 i5 q41 fl 0 m_items) fun q64 =>
            some (i5, q64, q41)
          else
            some (x18, m_items, m_moved)
        else
          some ((-11), m_items, m_moved)
theorem cal_X6_sheet : CalV yX6_sheet cX6_sheet 5 (some .int) RX6 3 := ⟨t_1080, t_1078, t_1079, t_43, by decide +kernel⟩
set_option maxHeartbeats 4000000 in
set_option maxRecDepth 100000 in
theorem cX6_sheet_ok (l : Launch) (d : va_G) (cy : Nat → ClassId) (m0 m1 m2 m3 m4 m5 m6 m7 m8 m9 m10 : Nat) (m_now : Nat → Int32) (m_tape : Nat → Int32) (m_typed : Int32) (m_place : Int32) (m_isFault : Int32) (m_readWet : Int32) (m_readHarvest : Int32) (m_read : Nat → Int32) (m_undone : Nat → Int32) (m_undos : Int32) (m_bestGain : Int32) (m_aside : Nat → Int32) (m_kept : Nat → Int32) (m_keptUndos : Int32) (m_isKept : Int32) (m_lanes : Nat → Int32) (m_sizes : Nat → Int32) (m_items : Nat → Int64) (m_moved : Nat → Int64) (i1 : Int32) (i2 : Int32) (i3 : Int32) (r : Int32) (m_lanes_r : Nat → Int32) (m_sizes_r : Nat → Int32) (m_items_r : Nat → Int64) (h0 : fX6_sheet m_lanes m_sizes m_items i1 i2 i3 = some (r, m_lanes_r, m_sizes_r, m_items_r)) : CI l yX6_sheet cX6_sheet 5 (some .int) 2 45 d cy [.ref m0, .int i1, .int i2, .int i3] (wM cy m0 m1 m2 m3 m4 m5 m6 m7 m8 m9 m10 m_now m_tape m_typed m_place m_isFault m_readWet m_readHarvest m_read m_undone m_undos m_bestGain m_aside m_kept m_keptUndos m_isKept m_lanes m_sizes m_items m_moved) (wM cy m0 m1 m2 m3 m4 m5 m6 m7 m8 m9 m10 m_now m_tape m_typed m_place m_isFault m_readWet m_readHarvest m_read m_undone m_undos m_bestGain m_aside m_kept m_keptUndos m_isKept m_lanes_r m_sizes_r m_items_r m_moved) r := by
  refine CI.of (by decide) (Nat.le_of_ble_eq_true rfl) ?_
  intro p e s m args below meth c A ls Q F hret hw hl
  have hx := F.1
  have hb := F.2.1
  have hl : lv_has ls 5 [(0, .ref m0), (1, .int i1), (2, .int i2), (3, .int i3)] := hl
  rw [fX6_sheet] at h0
  refine lv_iload_n hx hb dX6_sheet_0 rfl (lv_at hl 1 rfl) ?_
  obtain ⟨r1, k2, h28⟩ := ob1 h0
  clear h0
  refine g_si F (cX6_isSheet_ok l d cy i1 r1 k2) cal_X6_isSheet t_1058 rfl ⟨by decide, by decide⟩ hw (w' := wM cy m0 m1 m2 m3 m4 m5 m6 m7 m8 m9 m10 m_now m_tape m_typed m_place m_isFault m_readWet m_readHarvest m_read m_undone m_undos m_bestGain m_aside m_kept m_keptUndos m_isKept m_lanes m_sizes m_items m_moved) Cut.nil hl.1 (Nat.le_of_ble_eq_true rfl) rfl dX6_sheet_1 (fun H locs hw => ?_)
  refine lv_if_eq (tgt := 20) hx hb dX6_sheet_4 (by decide) (fun c3 => ?_) (fun c3 => ?_)
  · rw [if_pos c3] at h28
    refine lv_iconst (v := (-1)) hx hb dX6_sheet_20 (by decide) ?_
    obtain ⟨rfl, rfl, rfl, rfl⟩ := inj4 h28
    exact hret _ _ _ _ hw dX6_sheet_21
  · rw [if_neg c3] at h28
    refine lv_iload_n hx hb dX6_sheet_7 rfl (lv_at hl 2 rfl) ?_
    obtain ⟨r4, k5, h29⟩ := ob1 h28
    clear h28
    refine g_si F (cX6_isLane_ok l d cy i2 r4 k5) cal_X6_isLane t_1062 rfl ⟨by decide, by decide⟩ hw (w' := wM cy m0 m1 m2 m3 m4 m5 m6 m7 m8 m9 m10 m_now m_tape m_typed m_place m_isFault m_readWet m_readHarvest m_read m_undone m_undos m_bestGain m_aside m_kept m_keptUndos m_isKept m_lanes m_sizes m_items m_moved) Cut.nil hl.1 (Nat.le_of_ble_eq_true rfl) rfl dX6_sheet_8 (fun H locs hw => ?_)
    refine lv_if_eq (tgt := 20) hx hb dX6_sheet_11 (by decide) (fun c6 => ?_) (fun c6 => ?_)
    · rw [if_pos c6] at h29
      refine lv_iconst (v := (-1)) hx hb dX6_sheet_20 (by decide) ?_
      obtain ⟨rfl, rfl, rfl, rfl⟩ := inj4 h29
      exact hret _ _ _ _ hw dX6_sheet_21
    · rw [if_neg c6] at h29
      refine lv_iload_n hx hb dX6_sheet_14 rfl (lv_at hl 3 rfl) ?_
      refine lv_bipush (v := 24) hx hb dX6_sheet_15 (by decide) ?_
      refine lv_icmp_le (tgt := 22) hx hb dX6_sheet_17 (by decide) (fun c7 => ?_) (fun c7 => ?_)
      · rw [if_pos c7] at h29
        refine lv_iload_n hx hb dX6_sheet_22 rfl (lv_at hl 3 rfl) ?_
        refine lv_if_ge (tgt := 29) hx hb dX6_sheet_23 (by decide) (fun c8 => ?_) (fun c8 => ?_)
        · rw [if_pos c8] at h29
          refine lv_aload_n hx hb dX6_sheet_29 rfl (lv_at hl 0 rfl) ?_
          refine g_get F inG6 hw 0 rfl rfl 15 (by decide) t_745 (fun _ h9 => h9) rfl dX6_sheet_30 ?_
          refine lv_iload_n hx hb dX6_sheet_33 rfl (lv_at hl 1 rfl) ?_
          refine lv_iload_n hx hb dX6_sheet_34 rfl (lv_at hl 2 rfl) ?_
          obtain ⟨j9, k10, h30⟩ := ob1 h29
          clear h29
          refine g_iast F hw 7 rfl k10 dX6_sheet_35 (w' := wM cy m0 m1 m2 m3 m4 m5 m6 m7 m8 m9 m10 m_now m_tape m_typed m_place m_isFault m_readWet m_readHarvest m_read m_undone m_undos m_bestGain m_aside m_kept m_keptUndos m_isKept (upd m_lanes j9 i2) m_sizes m_items m_moved) rfl (fun H locs hw => ?_)
          refine lv_aload_n hx hb dX6_sheet_36 rfl (lv_at hl 0 rfl) ?_
          refine g_get F inG6 hw 0 rfl rfl 16 (by decide) t_746 (fun _ h9 => h9) rfl dX6_sheet_37 ?_
          refine lv_iload_n hx hb dX6_sheet_40 rfl (lv_at hl 1 rfl) ?_
          refine lv_iload_n hx hb dX6_sheet_41 rfl (lv_at hl 3 rfl) ?_
          refine g_iast F hw 8 rfl k10 dX6_sheet_42 (w' := wM cy m0 m1 m2 m3 m4 m5 m6 m7 m8 m9 m10 m_now m_tape m_typed m_place m_isFault m_readWet m_readHarvest m_read m_undone m_undos m_bestGain m_aside m_kept m_keptUndos m_isKept (upd m_lanes j9 i2) (upd m_sizes j9 i3) m_items m_moved) rfl (fun H locs hw => ?_)
          refine lv_iconst (v := 0) hx hb dX6_sheet_43 (by decide) ?_
          refine lv_istore (lv' := [(4, .int 0), (0, .ref m0), (1, .int i1), (2, .int i2), (3, .int i3)]) hx hb dX6_sheet_44 hl (by decide) rfl (fun ls hl => ?_)
          obtain ⟨q24, h31, h32⟩ := ob1 h30
          clear h30
          have kont21 : ∀ (H : Heap) (locs : List Loc) (ls : Array Slot), Wd d A s.heap (wM cy m0 m1 m2 m3 m4 m5 m6 m7 m8 m9 m10 m_now m_tape m_typed m_place m_isFault m_readWet m_readHarvest m_read m_undone m_undos m_bestGain m_aside m_kept m_keptUndos m_isKept (upd m_lanes j9 i2) (upd m_sizes j9 i3) q24 m_moved) H locs → lv_has ls 5 [(3, .int i3)] → W p l e (rmo 2 45) s m args below meth c H locs 0 0 Q (F0 m 72 ls []) := by
            intro H locs ls hw hl
            clear h31
            refine lv_iload_n hx hb dX6_sheet_72 rfl (lv_at hl 0 rfl) ?_
            obtain ⟨rfl, rfl, rfl, rfl⟩ := inj4 h32
            exact hret _ _ _ _ hw dX6_sheet_73
          clear h32
          have loop23 : ∀ (n : Nat) (v19 : Int32) (g20 : Nat → Int64) (H : Heap) (locs : List Loc) (ls : Array Slot), Wd d A s.heap (wM cy m0 m1 m2 m3 m4 m5 m6 m7 m8 m9 m10 m_now m_tape m_typed m_place m_isFault m_readWet m_readHarvest m_read m_undone m_undos m_bestGain m_aside m_kept m_keptUndos m_isKept (upd m_lanes j9 i2) (upd m_sizes j9 i3) g20 m_moved) H locs → lv_has ls 5 [(0, .ref m0), (1, .int i1), (3, .int i3), (4, .int v19)] → fX6_sheet_L46 i1 n v19 g20 = some (q24) → W p l e (rmo 2 45) s m args below meth c H locs 0 0 Q (F0 m 46 ls []) := by
            intro n
            induction n with
            | zero =>
              intro v19 g20 H locs ls hw hl h33
              rw [fX6_sheet_L46] at h33
              cases h33
            | succ n ih22 =>
              intro v19 g20 H locs ls hw hl h34
              rw [fX6_sheet_L46] at h34
              refine lv_iload hx hb dX6_sheet_46 (lv_at hl 3 rfl) ?_
              refine lv_bipush (v := 24) hx hb dX6_sheet_48 (by decide) ?_
              refine lv_icmp_ge (tgt := 72) hx hb dX6_sheet_50 (by decide) (fun c25 => ?_) (fun c25 => ?_)
              · rw [if_pos c25] at h34
                obtain rfl := inj1 h34
                exact kont21 _ _ _ hw (lv_sub hl [2] rfl)
              · rw [if_neg c25] at h34
                refine lv_aload_n hx hb dX6_sheet_53 rfl (lv_at hl 0 rfl) ?_
                refine g_get F inG6 hw 0 rfl rfl 17 (by decide) t_747 (fun _ h9 => h9) rfl dX6_sheet_54 ?_
                refine lv_bipush (v := 24) hx hb dX6_sheet_57 (by decide) ?_
                refine lv_iload_n hx hb dX6_sheet_59 rfl (lv_at hl 1 rfl) ?_
                refine lv_imul hx hb dX6_sheet_60 ?_
                refine lv_iload hx hb dX6_sheet_61 (lv_at hl 3 rfl) ?_
                refine lv_iadd hx hb dX6_sheet_63 ?_
                refine lv_lconst (v := 0) hx hb dX6_sheet_64 (by decide) ?_
                obtain ⟨j26, k27, h35⟩ := ob1 h34
                clear h34
                refine g_last F hw 9 rfl k27 dX6_sheet_65 (w' := wM cy m0 m1 m2 m3 m4 m5 m6 m7 m8 m9 m10 m_now m_tape m_typed m_place m_isFault m_readWet m_readHarvest m_read m_undone m_undos m_bestGain m_aside m_kept m_keptUndos m_isKept (upd m_lanes j9 i2) (upd m_sizes j9 i3) (vp_updL g20 j26 0) m_moved) rfl (fun H locs hw => ?_)
                refine lv_iinc (v := (v19 + 1)) (lv' := [(4, .int (v19 + 1)), (0, .ref m0), (1, .int i1), (3, .int i3)]) hx hb dX6_sheet_66 hl (k := 3) rfl rfl (by decide) rfl (fun ls hl => ?_)
                refine lv_goto (tgt := 46) hx hb dX6_sheet_69 (by decide) ?_
                exact ih22 (v19 + 1) (vp_updL g20 j26 0) _ _ _ hw (lv_sub hl [1, 2, 3, 0] rfl) h35
          exact loop23 fl 0 m_items _ _ _ hw (lv_sub hl [1, 2, 4, 0] rfl) h31
        · rw [if_neg c8] at h29
          refine lv_bipush (v := (-14)) hx hb dX6_sheet_26 (by decide) ?_
          obtain ⟨rfl, rfl, rfl, rfl⟩ := inj4 h29
          exact hret _ _ _ _ hw dX6_sheet_28
      · rw [if_neg c7] at h29
        refine lv_iconst (v := (-1)) hx hb dX6_sheet_20 (by decide) ?_
        obtain ⟨rfl, rfl, rfl, rfl⟩ := inj4 h29
        exact hret _ _ _ _ hw dX6_sheet_21
theorem cal_X6_drop : CalV yX6_drop cX6_drop 2 (some .int) RX6 1 := ⟨t_1084, t_1082, t_1083, t_43, by decide +kernel⟩
set_option maxHeartbeats 4000000 in
set_option maxRecDepth 100000 in
theorem cX6_drop_ok (l : Launch) (d : va_G) (cy : Nat → ClassId) (m0 m1 m2 m3 m4 m5 m6 m7 m8 m9 m10 : Nat) (m_now : Nat → Int32) (m_tape : Nat → Int32) (m_typed : Int32) (m_place : Int32) (m_isFault : Int32) (m_readWet : Int32) (m_readHarvest : Int32) (m_read : Nat → Int32) (m_undone : Nat → Int32) (m_undos : Int32) (m_bestGain : Int32) (m_aside : Nat → Int32) (m_kept : Nat → Int32) (m_keptUndos : Int32) (m_isKept : Int32) (m_lanes : Nat → Int32) (m_sizes : Nat → Int32) (m_items : Nat → Int64) (m_moved : Nat → Int64) (i1 : Int32) (r : Int32) (m_lanes_r : Nat → Int32) (h0 : fX6_drop m_lanes m_sizes i1 = some (r, m_lanes_r)) : CI l yX6_drop cX6_drop 2 (some .int) 2 45 d cy [.ref m0, .int i1] (wM cy m0 m1 m2 m3 m4 m5 m6 m7 m8 m9 m10 m_now m_tape m_typed m_place m_isFault m_readWet m_readHarvest m_read m_undone m_undos m_bestGain m_aside m_kept m_keptUndos m_isKept m_lanes m_sizes m_items m_moved) (wM cy m0 m1 m2 m3 m4 m5 m6 m7 m8 m9 m10 m_now m_tape m_typed m_place m_isFault m_readWet m_readHarvest m_read m_undone m_undos m_bestGain m_aside m_kept m_keptUndos m_isKept m_lanes_r m_sizes m_items m_moved) r := by
  refine CI.of (by decide) (Nat.le_of_ble_eq_true rfl) ?_
  intro p e s m args below meth c A ls Q F hret hw hl
  have hx := F.1
  have hb := F.2.1
  have hl : lv_has ls 2 [(0, .ref m0), (1, .int i1)] := hl
  rw [fX6_drop] at h0
  refine lv_iload_n hx hb dX6_drop_0 rfl (lv_at hl 1 rfl) ?_
  obtain ⟨r1, k2, h7⟩ := ob1 h0
  clear h0
  refine g_si F (cX6_isSheet_ok l d cy i1 r1 k2) cal_X6_isSheet t_1058 rfl ⟨by decide, by decide⟩ hw (w' := wM cy m0 m1 m2 m3 m4 m5 m6 m7 m8 m9 m10 m_now m_tape m_typed m_place m_isFault m_readWet m_readHarvest m_read m_undone m_undos m_bestGain m_aside m_kept m_keptUndos m_isKept m_lanes m_sizes m_items m_moved) Cut.nil hl.1 (Nat.le_of_ble_eq_true rfl) rfl dX6_drop_1 (fun H locs hw => ?_)
  refine lv_if_ne (tgt := 9) hx hb dX6_drop_4 (by decide) (fun c3 => ?_) (fun c3 => ?_)
  · rw [if_neg c3] at h7
    refine lv_aload_n hx hb dX6_drop_9 rfl (lv_at hl 0 rfl) ?_
    refine g_get F inG6 hw 0 rfl rfl 15 (by decide) t_745 (fun _ h9 => h9) rfl dX6_drop_10 ?_
    refine lv_iload_n hx hb dX6_drop_13 rfl (lv_at hl 1 rfl) ?_
    obtain ⟨j4, k5, h8⟩ := ob1 h7
    clear h7
    refine g_iald F hw 7 rfl k5 dX6_drop_14 ?_
    refine lv_if_ge (tgt := 21) hx hb dX6_drop_15 (by decide) (fun c6 => ?_) (fun c6 => ?_)
    · rw [if_pos c6] at h8
      refine lv_aload_n hx hb dX6_drop_21 rfl (lv_at hl 0 rfl) ?_
      refine g_get F inG6 hw 0 rfl rfl 15 (by decide) t_745 (fun _ h9 => h9) rfl dX6_drop_22 ?_
      refine lv_iload_n hx hb dX6_drop_25 rfl (lv_at hl 1 rfl) ?_
      refine lv_iconst (v := (-1)) hx hb dX6_drop_26 (by decide) ?_
      refine g_iast F hw 7 rfl k5 dX6_drop_27 (w' := wM cy m0 m1 m2 m3 m4 m5 m6 m7 m8 m9 m10 m_now m_tape m_typed m_place m_isFault m_readWet m_readHarvest m_read m_undone m_undos m_bestGain m_aside m_kept m_keptUndos m_isKept (upd m_lanes j4 (-1)) m_sizes m_items m_moved) rfl (fun H locs hw => ?_)
      refine lv_aload_n hx hb dX6_drop_28 rfl (lv_at hl 0 rfl) ?_
      refine g_get F inG6 hw 0 rfl rfl 16 (by decide) t_746 (fun _ h9 => h9) rfl dX6_drop_29 ?_
      refine lv_iload_n hx hb dX6_drop_32 rfl (lv_at hl 1 rfl) ?_
      refine g_iald F hw 8 rfl k5 dX6_drop_33 ?_
      obtain ⟨rfl, rfl⟩ := inj2 h8
      exact hret _ _ _ _ hw dX6_drop_34
    · rw [if_neg c6] at h8
      refine lv_bipush (v := (-11)) hx hb dX6_drop_18 (by decide) ?_
      obtain ⟨rfl, rfl⟩ := inj2 h8
      exact hret _ _ _ _ hw dX6_drop_20
  · rw [if_pos c3] at h7
    refine lv_iconst (v := (-1)) hx hb dX6_drop_7 (by decide) ?_
    obtain ⟨rfl, rfl⟩ := inj2 h7
    exact hret _ _ _ _ hw dX6_drop_8
theorem cal_X6_item : CalV yX6_item cX6_item 7 (some .int) RX6 4 := ⟨t_1088, t_1086, t_1087, t_43, by decide +kernel⟩
set_option maxHeartbeats 4000000 in
set_option maxRecDepth 100000 in
theorem cX6_item_ok (l : Launch) (d : va_G) (cy : Nat → ClassId) (m0 m1 m2 m3 m4 m5 m6 m7 m8 m9 m10 : Nat) (m_now : Nat → Int32) (m_tape : Nat → Int32) (m_typed : Int32) (m_place : Int32) (m_isFault : Int32) (m_readWet : Int32) (m_readHarvest : Int32) (m_read : Nat → Int32) (m_undone : Nat → Int32) (m_undos : Int32) (m_bestGain : Int32) (m_aside : Nat → Int32) (m_kept : Nat → Int32) (m_keptUndos : Int32) (m_isKept : Int32) (m_lanes : Nat → Int32) (m_sizes : Nat → Int32) (m_items : Nat → Int64) (m_moved : Nat → Int64) (i1 : Int32) (i2 : Int32) (i3 : Int32) (i4 : Int64) (r : Int32) (m_items_r : Nat → Int64) (h0 : fX6_item m_lanes m_sizes m_items i1 i2 i3 i4 = some (r, m_items_r)) : CI l yX6_item cX6_item 7 (some .int) 2 45 d cy [.ref m0, .int i1, .int i2, .int i3, .long i4] (wM cy m0 m1 m2 m3 m4 m5 m6 m7 m8 m9 m10 m_now m_tape m_typed m_place m_isFault m_readWet m_readHarvest m_read m_undone m_undos m_bestGain m_aside m_kept m_keptUndos m_isKept m_lanes m_sizes m_items m_moved) (wM cy m0 m1 m2 m3 m4 m5 m6 m7 m8 m9 m10 m_now m_tape m_typed m_place m_isFault m_readWet m_readHarvest m_read m_undone m_undos m_bestGain m_aside m_kept m_keptUndos m_isKept m_lanes m_sizes m_items_r m_moved) r := by
  refine CI.of (by decide) (Nat.le_of_ble_eq_true rfl) ?_
  intro p e s m args below meth c A ls Q F hret hw hl
  have hx := F.1
  have hb := F.2.1
  have hl : lv_has ls 7 [(0, .ref m0), (1, .int i1), (2, .int i2), (3, .int i3), (4, .long i4)] := hl
  rw [fX6_item] at h0
  refine lv_iload_n hx hb dX6_item_0 rfl (lv_at hl 1 rfl) ?_
  obtain ⟨r1, k2, h20⟩ := ob1 h0
  clear h0
  refine g_si F (cX6_isSheet_ok l d cy i1 r1 k2) cal_X6_isSheet t_1058 rfl ⟨by decide, by decide⟩ hw (w' := wM cy m0 m1 m2 m3 m4 m5 m6 m7 m8 m9 m10 m_now m_tape m_typed m_place m_isFault m_readWet m_readHarvest m_read m_undone m_undos m_bestGain m_aside m_kept m_keptUndos m_isKept m_lanes m_sizes m_items m_moved) Cut.nil hl.1 (Nat.le_of_ble_eq_true rfl) rfl dX6_item_1 (fun H locs hw => ?_)
  refine lv_if_eq (tgt := 14) hx hb dX6_item_4 (by decide) (fun c3 => ?_) (fun c3 => ?_)
  · rw [if_pos c3] at h20
    refine lv_iconst (v := (-1)) hx hb dX6_item_14 (by decide) ?_
    obtain ⟨rfl, rfl⟩ := inj2 h20
    exact hret _ _ _ _ hw dX6_item_15
  · rw [if_neg c3] at h20
    refine lv_iload_n hx hb dX6_item_7 rfl (lv_at hl 2 rfl) ?_
    obtain ⟨r4, k5, h21⟩ := ob1 h20
    clear h20
    refine g_si F (cX6_isLane_ok l d cy i2 r4 k5) cal_X6_isLane t_1062 rfl ⟨by decide, by decide⟩ hw (w' := wM cy m0 m1 m2 m3 m4 m5 m6 m7 m8 m9 m10 m_now m_tape m_typed m_place m_isFault m_readWet m_readHarvest m_read m_undone m_undos m_bestGain m_aside m_kept m_keptUndos m_isKept m_lanes m_sizes m_items m_moved) Cut.nil hl.1 (Nat.le_of_ble_eq_true rfl) rfl dX6_item_8 (fun H locs hw => ?_)
    refine lv_if_ne (tgt := 16) hx hb dX6_item_11 (by decide) (fun c6 => ?_) (fun c6 => ?_)
    · rw [if_neg c6] at h21
      refine lv_aload_n hx hb dX6_item_16 rfl (lv_at hl 0 rfl) ?_
      refine lv_iload_n hx hb dX6_item_17 rfl (lv_at hl 1 rfl) ?_
      refine lv_iload_n hx hb dX6_item_18 rfl (lv_at hl 2 rfl) ?_
      refine lv_iload_n hx hb dX6_item_19 rfl (lv_at hl 3 rfl) ?_
      refine lv_iconst (v := 1) hx hb dX6_item_20 (by decide) ?_
      obtain ⟨r7, k8, h22⟩ := ob1 h21
      clear h21
      refine g_vi F (cX6_why_ok l d cy m0 m1 m2 m3 m4 m5 m6 m7 m8 m9 m10 m_now m_tape m_typed m_place m_isFault m_readWet m_readHarvest m_read m_undone m_undos m_bestGain m_aside m_kept m_keptUndos m_isKept m_lanes m_sizes m_items m_moved i1 i2 i3 1 r7 k8) cal_X6_why t_1065 rfl ⟨by decide, by decide⟩ hw (w' := wM cy m0 m1 m2 m3 m4 m5 m6 m7 m8 m9 m10 m_now m_tape m_typed m_place m_isFault m_readWet m_readHarvest m_read m_undone m_undos m_bestGain m_aside m_kept m_keptUndos m_isKept m_lanes m_sizes m_items m_moved) Cut.all 0 6 rfl rfl hl.1 (Nat.le_of_ble_eq_true rfl) rfl dX6_item_21 (fun H locs hw => ?_)
      refine lv_istore (lv' := [(6, .int r7), (0, .ref m0), (1, .int i1), (2, .int i2), (3, .int i3), (4, .long i4)]) hx hb dX6_item_24 hl (by decide) rfl (fun ls hl => ?_)
      refine lv_iload hx hb dX6_item_26 (lv_at hl 0 rfl) ?_
      refine lv_if_ge (tgt := 34) hx hb dX6_item_28 (by decide) (fun c9 => ?_) (fun c9 => ?_)
      · rw [if_pos c9] at h22
        refine lv_aload_n hx hb dX6_item_34 rfl (lv_at hl 1 rfl) ?_
        refine g_get F inG6 hw 0 rfl rfl 17 (by decide) t_747 (fun _ h9 => h9) rfl dX6_item_35 ?_
        refine lv_bipush (v := 24) hx hb dX6_item_38 (by decide) ?_
        refine lv_iload_n hx hb dX6_item_40 rfl (lv_at hl 2 rfl) ?_
        refine lv_imul hx hb dX6_item_41 ?_
        refine lv_iload_n hx hb dX6_item_42 rfl (lv_at hl 4 rfl) ?_
        refine lv_iadd hx hb dX6_item_43 ?_
        refine lv_iload_n hx hb dX6_item_44 rfl (lv_at hl 3 rfl) ?_
        obtain ⟨x13, h23, h24⟩ := ob1 h22
        clear h22
        have kont14 : ∀ (H : Heap) (locs : List Loc) (ls : Array Slot), Wd d A s.heap (wM cy m0 m1 m2 m3 m4 m5 m6 m7 m8 m9 m10 m_now m_tape m_typed m_place m_isFault m_readWet m_readHarvest m_read m_undone m_undos m_bestGain m_aside m_kept m_keptUndos m_isKept m_lanes m_sizes m_items m_moved) H locs → lv_has ls 7 [] → W p l e (rmo 2 45) s m args below meth c H locs 0 0 Q (F0 m 83 ls [.long x13, .int ((24 * i1) + i3), .ref m9]) := by
          intro H locs ls hw hl
          clear h23
          obtain ⟨j18, k19, h25⟩ := ob1 h24
          clear h24
          refine g_last F hw 9 rfl k19 dX6_item_83 (w' := wM cy m0 m1 m2 m3 m4 m5 m6 m7 m8 m9 m10 m_now m_tape m_typed m_place m_isFault m_readWet m_readHarvest m_read m_undone m_undos m_bestGain m_aside m_kept m_keptUndos m_isKept m_lanes m_sizes (vp_updL m_items j18 x13) m_moved) rfl (fun H locs hw => ?_)
          refine lv_iconst (v := 1) hx hb dX6_item_84 (by decide) ?_
          obtain ⟨rfl, rfl⟩ := inj2 h25
          exact hret _ _ _ _ hw dX6_item_85
        clear h24
        refine lv_if_ne (tgt := 56) hx hb dX6_item_45 (by decide) (fun c15 => ?_) (fun c15 => ?_)
        · rw [if_neg c15] at h23
          refine lv_iload_n hx hb dX6_item_56 rfl (lv_at hl 3 rfl) ?_
          refine lv_iconst (v := 1) hx hb dX6_item_57 (by decide) ?_
          refine lv_icmp_ne (tgt := 69) hx hb dX6_item_58 (by decide) (fun c16 => ?_) (fun c16 => ?_)
          · rw [if_neg c16] at h23
            refine lv_iload_n hx hb dX6_item_69 rfl (lv_at hl 3 rfl) ?_
            refine lv_iconst (v := 2) hx hb dX6_item_70 (by decide) ?_
            refine lv_icmp_ne (tgt := 81) hx hb dX6_item_71 (by decide) (fun c17 => ?_) (fun c17 => ?_)
            · rw [if_neg c17] at h23
              refine lv_lload hx hb dX6_item_81 (lv_at hl 5 rfl) ?_
              obtain rfl := inj1 h23
              exact kont14 _ _ _ hw (lv_sub hl [] rfl)
            · rw [if_pos c17] at h23
              refine lv_lload hx hb dX6_item_74 (lv_at hl 5 rfl) ?_
              refine lv_l2i hx hb dX6_item_76 rfl ?_
              refine lv_i2l hx hb dX6_item_77 rfl ?_
              refine lv_goto (tgt := 83) hx hb dX6_item_78 (by decide) ?_
              obtain rfl := inj1 h23
              exact kont14 _ _ _ hw (lv_sub hl [] rfl)
          · rw [if_pos c16] at h23
            refine lv_lload hx hb dX6_item_61 (lv_at hl 5 rfl) ?_
            refine lv_l2i hx hb dX6_item_63 rfl ?_
            refine lv_i2s hx hb dX6_item_64 rfl ?_
            refine lv_i2l hx hb dX6_item_65 rfl ?_
            refine lv_goto (tgt := 83) hx hb dX6_item_66 (by decide) ?_
            obtain rfl := inj1 h23
            exact kont14 _ _ _ hw (lv_sub hl [] rfl)
        · rw [if_pos c15] at h23
          refine lv_lload hx hb dX6_item_48 (lv_at hl 5 rfl) ?_
          refine lv_l2i hx hb dX6_item_50 rfl ?_
          refine lv_i2b hx hb dX6_item_51 rfl ?_
          refine lv_i2l hx hb dX6_item_52 rfl ?_
          refine lv_goto (tgt := 83) hx hb dX6_item_53 (by decide) ?_
          obtain rfl := inj1 h23
          exact kont14 _ _ _ hw (lv_sub hl [] rfl)
      · rw [if_neg c9] at h22
        refine lv_iload hx hb dX6_item_31 (lv_at hl 0 rfl) ?_
        obtain ⟨rfl, rfl⟩ := inj2 h22
        exact hret _ _ _ _ hw dX6_item_33
    · rw [if_pos c6] at h21
      refine lv_iconst (v := (-1)) hx hb dX6_item_14 (by decide) ?_
      obtain ⟨rfl, rfl⟩ := inj2 h21
      exact hret _ _ _ _ hw dX6_item_15
theorem cal_X6_copy : CalV yX6_copy cX6_copy 8 (some .int) RX6 5 := ⟨t_1092, t_1090, t_1091, t_43, by decide +kernel⟩
set_option maxHeartbeats 4000000 in
set_option maxRecDepth 100000 in
theorem cX6_copy_ok (l : Launch) (d : va_G) (cy : Nat → ClassId) (m0 m1 m2 m3 m4 m5 m6 m7 m8 m9 m10 : Nat) (m_now : Nat → Int32) (m_tape : Nat → Int32) (m_typed : Int32) (m_place : Int32) (m_isFault : Int32) (m_readWet : Int32) (m_readHarvest : Int32) (m_read : Nat → Int32) (m_undone : Nat → Int32) (m_undos : Int32) (m_bestGain : Int32) (m_aside : Nat → Int32) (m_kept : Nat → Int32) (m_keptUndos : Int32) (m_isKept : Int32) (m_lanes : Nat → Int32) (m_sizes : Nat → Int32) (m_items : Nat → Int64) (m_moved : Nat → Int64) (i1 : Int32) (i2 : Int32) (i3 : Int32) (i4 : Int32) (i5 : Int32) (r : Int32) (m_items_r : Nat → Int64) (m_moved_r : Nat → Int64) (h0 : fX6_copy m_lanes m_sizes m_items m_moved i1 i2 i3 i4 i5 = some (r, m_items_r, m_moved_r)) : CI l yX6_copy cX6_copy 8 (some .int) 2 45 d cy [.ref m0, .int i1, .int i2, .int i3, .int i4, .int i5] (wM cy m0 m1 m2 m3 m4 m5 m6 m7 m8 m9 m10 m_now m_tape m_typed m_place m_isFault m_readWet m_readHarvest m_read m_undone m_undos m_bestGain m_aside m_kept m_keptUndos m_isKept m_lanes m_sizes m_items m_moved) (wM cy m0 m1 m2 m3 m4 m5 m6 m7 m8 m9 m10 m_now m_tape m_typed m_place m_isFault m_readWet m_readHarvest m_read m_undone m_undos m_bestGain m_aside m_kept m_keptUndos m_isKept m_lanes m_sizes m_items_r m_moved_r) r := by
  refine CI.of (by decide) (Nat.le_of_ble_eq_true rfl) ?_
  intro p e s m args below meth c A ls Q F hret hw hl
  have hx := F.1
  have hb := F.2.1
  have hl : lv_has ls 8 [(0, .ref m0), (1, .int i1), (2, .int i2), (3, .int i3), (4, .int i4), (5, .int i5)] := hl
  rw [fX6_copy] at h0
  refine lv_iload_n hx hb dX6_copy_0 rfl (lv_at hl 1 rfl) ?_
  obtain ⟨r1, k2, h70⟩ := ob1 h0
  clear h0
  refine g_si F (cX6_isSheet_ok l d cy i1 r1 k2) cal_X6_isSheet t_1058 rfl ⟨by decide, by decide⟩ hw (w' := wM cy m0 m1 m2 m3 m4 m5 m6 m7 m8 m9 m10 m_now m_tape m_typed m_place m_isFault m_readWet m_readHarvest m_read m_undone m_undos m_bestGain m_aside m_kept m_keptUndos m_isKept m_lanes m_sizes m_items m_moved) Cut.nil hl.1 (Nat.le_of_ble_eq_true rfl) rfl dX6_copy_1 (fun H locs hw => ?_)
  refine lv_if_eq (tgt := 14) hx hb dX6_copy_4 (by decide) (fun c3 => ?_) (fun c3 => ?_)
  · rw [if_pos c3] at h70
    refine lv_iconst (v := (-1)) hx hb dX6_copy_14 (by decide) ?_
    obtain ⟨rfl, rfl, rfl⟩ := inj3 h70
    exact hret _ _ _ _ hw dX6_copy_15
  · rw [if_neg c3] at h70
    refine lv_iload_n hx hb dX6_copy_7 rfl (lv_at hl 3 rfl) ?_
    obtain ⟨r4, k5, h71⟩ := ob1 h70
    clear h70
    refine g_si F (cX6_isSheet_ok l d cy i3 r4 k5) cal_X6_isSheet t_1058 rfl ⟨by decide, by decide⟩ hw (w' := wM cy m0 m1 m2 m3 m4 m5 m6 m7 m8 m9 m10 m_now m_tape m_typed m_place m_isFault m_readWet m_readHarvest m_read m_undone m_undos m_bestGain m_aside m_kept m_keptUndos m_isKept m_lanes m_sizes m_items m_moved) Cut.nil hl.1 (Nat.le_of_ble_eq_true rfl) rfl dX6_copy_8 (fun H locs hw => ?_)
    refine lv_if_ne (tgt := 16) hx hb dX6_copy_11 (by decide) (fun c6 => ?_) (fun c6 => ?_)
    · rw [if_neg c6] at h71
      refine lv_aload_n hx hb dX6_copy_16 rfl (lv_at hl 0 rfl) ?_
      refine g_get F inG6 hw 0 rfl rfl 15 (by decide) t_745 (fun _ h9 => h9) rfl dX6_copy_17 ?_
      refine lv_iload_n hx hb dX6_copy_20 rfl (lv_at hl 1 rfl) ?_
      obtain ⟨j7, k8, h72⟩ := ob1 h71
      clear h71
      refine g_iald F hw 7 rfl k8 dX6_copy_21 ?_
      refine lv_if_lt (tgt := 34) hx hb dX6_copy_22 (by decide) (fun c9 => ?_) (fun c9 => ?_)
      · rw [if_pos c9] at h72
        refine lv_bipush (v := (-11)) hx hb dX6_copy_34 (by decide) ?_
        obtain ⟨rfl, rfl, rfl⟩ := inj3 h72
        exact hret _ _ _ _ hw dX6_copy_36
      · rw [if_neg c9] at h72
        refine lv_aload_n hx hb dX6_copy_25 rfl (lv_at hl 0 rfl) ?_
        refine g_get F inG6 hw 0 rfl rfl 15 (by decide) t_745 (fun _ h9 => h9) rfl dX6_copy_26 ?_
        refine lv_iload_n hx hb dX6_copy_29 rfl (lv_at hl 3 rfl) ?_
        obtain ⟨j10, k11, h73⟩ := ob1 h72
        clear h72
        refine g_iald F hw 7 rfl k11 dX6_copy_30 ?_
        refine lv_if_ge (tgt := 37) hx hb dX6_copy_31 (by decide) (fun c12 => ?_) (fun c12 => ?_)
        · rw [if_pos c12] at h73
          refine lv_aload_n hx hb dX6_copy_37 rfl (lv_at hl 0 rfl) ?_
          refine lv_iload_n hx hb dX6_copy_38 rfl (lv_at hl 3 rfl) ?_
          refine lv_aload_n hx hb dX6_copy_39 rfl (lv_at hl 0 rfl) ?_
          refine g_get F inG6 hw 0 rfl rfl 15 (by decide) t_745 (fun _ h9 => h9) rfl dX6_copy_40 ?_
          refine lv_iload_n hx hb dX6_copy_43 rfl (lv_at hl 1 rfl) ?_
          refine g_iald F hw 7 rfl k8 dX6_copy_44 ?_
          refine lv_iload hx hb dX6_copy_45 (lv_at hl 4 rfl) ?_
          refine lv_iload hx hb dX6_copy_47 (lv_at hl 5 rfl) ?_
          obtain ⟨r13, k14, h74⟩ := ob1 h73
          clear h73
          refine g_vi F (cX6_why_ok l d cy m0 m1 m2 m3 m4 m5 m6 m7 m8 m9 m10 m_now m_tape m_typed m_place m_isFault m_readWet m_readHarvest m_read m_undone m_undos m_bestGain m_aside m_kept m_keptUndos m_isKept m_lanes m_sizes m_items m_moved i3 (m_lanes j7) i4 i5 r13 k14) cal_X6_why t_1065 rfl ⟨by decide, by decide⟩ hw (w' := wM cy m0 m1 m2 m3 m4 m5 m6 m7 m8 m9 m10 m_now m_tape m_typed m_place m_isFault m_readWet m_readHarvest m_read m_undone m_undos m_bestGain m_aside m_kept m_keptUndos m_isKept m_lanes m_sizes m_items m_moved) Cut.all 0 6 rfl rfl hl.1 (Nat.le_of_ble_eq_true rfl) rfl dX6_copy_49 (fun H locs hw => ?_)
          refine lv_istore (lv' := [(6, .int r13), (0, .ref m0), (1, .int i1), (2, .int i2), (3, .int i3), (4, .int i4), (5, .int i5)]) hx hb dX6_copy_52 hl (by decide) rfl (fun ls hl => ?_)
          refine lv_iload hx hb dX6_copy_54 (lv_at hl 0 rfl) ?_
          obtain ⟨x18, h75, h76⟩ := ob1 h74
          clear h74
          have kont19 : ∀ (H : Heap) (locs : List Loc) (ls : Array Slot), Wd d A s.heap (wM cy m0 m1 m2 m3 m4 m5 m6 m7 m8 m9 m10 m_now m_tape m_typed m_place m_isFault m_readWet m_readHarvest m_read m_undone m_undos m_bestGain m_aside m_kept m_keptUndos m_isKept m_lanes m_sizes m_items m_moved) H locs → lv_has ls 8 [(0, .ref m0), (1, .int i1), (2, .int i2), (3, .int i3), (4, .int i4), (5, .int i5)] → W p l e (rmo 2 45) s m args below meth c H locs 0 0 Q (F0 m 78 ls [.int x18]) := by
            intro H locs ls hw hl
            clear h75
            refine lv_istore (lv' := [(6, .int x18), (0, .ref m0), (1, .int i1), (2, .int i2), (3, .int i3), (4, .int i4), (5, .int i5)]) hx hb dX6_copy_78 hl (by decide) rfl (fun ls hl => ?_)
            refine lv_iload hx hb dX6_copy_80 (lv_at hl 0 rfl) ?_
            refine lv_if_ge (tgt := 88) hx hb dX6_copy_82 (by decide) (fun c23 => ?_) (fun c23 => ?_)
            · rw [if_pos c23] at h76
              refine lv_iconst (v := 0) hx hb dX6_copy_88 (by decide) ?_
              refine lv_istore (lv' := [(7, .int 0), (6, .int x18), (0, .ref m0), (1, .int i1), (2, .int i2), (3, .int i3), (4, .int i4), (5, .int i5)]) hx hb dX6_copy_89 hl (by decide) rfl (fun ls hl => ?_)
              obtain ⟨q41, h77, h78⟩ := ob1 h76
              clear h76
              have kont38 : ∀ (H : Heap) (locs : List Loc) (ls : Array Slot), Wd d A s.heap (wM cy m0 m1 m2 m3 m4 m5 m6 m7 m8 m9 m10 m_now m_tape m_typed m_place m_isFault m_readWet m_readHarvest m_read m_undone m_undos m_bestGain m_aside m_kept m_keptUndos m_isKept m_lanes m_sizes m_items q41) H locs → lv_has ls 8 [(0, .ref m0), (3, .int i3), (4, .int i4), (5, .int i5)] → W p l e (rmo 2 45) s m args below meth c H locs 0 0 Q (F0 m 125 ls []) := by
                intro H locs ls hw hl
                clear h77
                refine lv_iconst (v := 0) hx hb dX6_copy_125 (by decide) ?_
                refine lv_istore (lv' := [(7, .int 0), (0, .ref m0), (3, .int i3), (4, .int i4), (5, .int i5)]) hx hb dX6_copy_126 hl (by decide) rfl (fun ls hl => ?_)
                obtain ⟨q64, h79, h80⟩ := ob1 h78
                clear h78
                have kont61 : ∀ (H : Heap) (locs : List Loc) (ls : Array Slot), Wd d A s.heap (wM cy m0 m1 m2 m3 m4 m5 m6 m7 m8 m9 m10 m_now m_tape m_typed m_place m_isFault m_readWet m_readHarvest m_read m_undone m_undos m_bestGain m_aside m_kept m_keptUndos m_isKept m_lanes m_sizes q64 q41) H locs → lv_has ls 8 [(5, .int i5)] → W p l e (rmo 2 45) s m args below meth c H locs 0 0 Q (F0 m 163 ls []) := by
                  intro H locs ls hw hl
                  clear h79
                  refine lv_iload hx hb dX6_copy_163 (lv_at hl 0 rfl) ?_
                  obtain ⟨rfl, rfl, rfl⟩ := inj3 h80
                  exact hret _ _ _ _ hw dX6_copy_165
                clear h80
                have loop63 : ∀ (n : Nat) (v59 : Int32) (g60 : Nat → Int64) (H : Heap) (locs : List Loc) (ls : Array Slot), Wd d A s.heap (wM cy m0 m1 m2 m3 m4 m5 m6 m7 m8 m9 m10 m_now m_tape m_typed m_place m_isFault m_readWet m_readHarvest m_read m_undone m_undos m_bestGain m_aside m_kept m_keptUndos m_isKept m_lanes m_sizes g60 q41) H locs → lv_has ls 8 [(0, .ref m0), (3, .int i3), (4, .int i4), (5, .int i5), (7, .int v59)] → fX6_copy_L128 i3 i4 i5 q41 n v59 g60 = some (q64) → W p l e (rmo 2 45) s m args below meth c H locs 0 0 Q (F0 m 128 ls []) := by
                  intro n
                  induction n with
                  | zero =>
                    intro v59 g60 H locs ls hw hl h81
                    rw [fX6_copy_L128] at h81
                    cases h81
                  | succ n ih62 =>
                    intro v59 g60 H locs ls hw hl h82
                    rw [fX6_copy_L128] at h82
                    refine lv_iload hx hb dX6_copy_128 (lv_at hl 4 rfl) ?_
                    refine lv_iload hx hb dX6_copy_130 (lv_at hl 3 rfl) ?_
                    refine lv_icmp_ge (tgt := 163) hx hb dX6_copy_132 (by decide) (fun c65 => ?_) (fun c65 => ?_)
                    · rw [if_pos c65] at h82
                      obtain rfl := inj1 h82
                      exact kont61 _ _ _ hw (lv_sub hl [3] rfl)
                    · rw [if_neg c65] at h82
                      refine lv_aload_n hx hb dX6_copy_135 rfl (lv_at hl 0 rfl) ?_
                      refine g_get F inG6 hw 0 rfl rfl 17 (by decide) t_747 (fun _ h9 => h9) rfl dX6_copy_136 ?_
                      refine lv_bipush (v := 24) hx hb dX6_copy_139 (by decide) ?_
                      refine lv_iload_n hx hb dX6_copy_141 rfl (lv_at hl 1 rfl) ?_
                      refine lv_imul hx hb dX6_copy_142 ?_
                      refine lv_iload hx hb dX6_copy_143 (lv_at hl 2 rfl) ?_
                      refine lv_iadd hx hb dX6_copy_145 ?_
                      refine lv_iload hx hb dX6_copy_146 (lv_at hl 4 rfl) ?_
                      refine lv_iadd hx hb dX6_copy_148 ?_
                      refine lv_aload_n hx hb dX6_copy_149 rfl (lv_at hl 0 rfl) ?_
                      refine g_get F inG6 hw 0 rfl rfl 18 (by decide) t_748 (fun _ h9 => h9) rfl dX6_copy_150 ?_
                      refine lv_iload hx hb dX6_copy_153 (lv_at hl 4 rfl) ?_
                      obtain ⟨j66, k67, h83⟩ := ob1 h82
                      clear h82
                      refine g_lald F hw 10 rfl k67 dX6_copy_155 ?_
                      obtain ⟨j68, k69, h84⟩ := ob1 h83
                      clear h83
                      refine g_last F hw 9 rfl k69 dX6_copy_156 (w' := wM cy m0 m1 m2 m3 m4 m5 m6 m7 m8 m9 m10 m_now m_tape m_typed m_place m_isFault m_readWet m_readHarvest m_read m_undone m_undos m_bestGain m_aside m_kept m_keptUndos m_isKept m_lanes m_sizes (vp_updL g60 j68 (q41 j66)) q41) rfl (fun H locs hw => ?_)
                      refine lv_iinc (v := (v59 + 1)) (lv' := [(7, .int (v59 + 1)), (0, .ref m0), (3, .int i3), (4, .int i4), (5, .int i5)]) hx hb dX6_copy_157 hl (k := 4) rfl rfl (by decide) rfl (fun ls hl => ?_)
                      refine lv_goto (tgt := 128) hx hb dX6_copy_160 (by decide) ?_
                      exact ih62 (v59 + 1) (vp_updL g60 j68 (q41 j66)) _ _ _ hw (lv_sub hl [1, 2, 3, 4, 0] rfl) h84
                exact loop63 fl 0 m_items _ _ _ hw (lv_sub hl [1, 2, 3, 4, 0] rfl) h79
              clear h78
              have loop40 : ∀ (n : Nat) (v36 : Int32) (g37 : Nat → Int64) (H : Heap) (locs : List Loc) (ls : Array Slot), Wd d A s.heap (wM cy m0 m1 m2 m3 m4 m5 m6 m7 m8 m9 m10 m_now m_tape m_typed m_place m_isFault m_readWet m_readHarvest m_read m_undone m_undos m_bestGain m_aside m_kept m_keptUndos m_isKept m_lanes m_sizes m_items g37) H locs → lv_has ls 8 [(0, .ref m0), (1, .int i1), (2, .int i2), (3, .int i3), (4, .int i4), (5, .int i5), (7, .int v36)] → fX6_copy_L91 i1 i2 i5 m_items n v36 g37 = some (q41) → W p l e (rmo 2 45) s m args below meth c H locs 0 0 Q (F0 m 91 ls []) := by
                intro n
                induction n with
                | zero =>
                  intro v36 g37 H locs ls hw hl h85
                  rw [fX6_copy_L91] at h85
                  cases h85
                | succ n ih39 =>
                  intro v36 g37 H locs ls hw hl h86
                  rw [fX6_copy_L91] at h86
                  refine lv_iload hx hb dX6_copy_91 (lv_at hl 6 rfl) ?_
                  refine lv_iload hx hb dX6_copy_93 (lv_at hl 5 rfl) ?_
                  refine lv_icmp_ge (tgt := 125) hx hb dX6_copy_95 (by decide) (fun c42 => ?_) (fun c42 => ?_)
                  · rw [if_pos c42] at h86
                    obtain rfl := inj1 h86
                    exact kont38 _ _ _ hw (lv_sub hl [0, 3, 4, 5] rfl)
                  · rw [if_neg c42] at h86
                    refine lv_aload_n hx hb dX6_copy_98 rfl (lv_at hl 0 rfl) ?_
                    refine g_get F inG6 hw 0 rfl rfl 18 (by decide) t_748 (fun _ h9 => h9) rfl dX6_copy_99 ?_
                    refine lv_iload hx hb dX6_copy_102 (lv_at hl 6 rfl) ?_
                    refine lv_aload_n hx hb dX6_copy_104 rfl (lv_at hl 0 rfl) ?_
                    refine g_get F inG6 hw 0 rfl rfl 17 (by decide) t_747 (fun _ h9 => h9) rfl dX6_copy_105 ?_
                    refine lv_bipush (v := 24) hx hb dX6_copy_108 (by decide) ?_
                    refine lv_iload_n hx hb dX6_copy_110 rfl (lv_at hl 1 rfl) ?_
                    refine lv_imul hx hb dX6_copy_111 ?_
                    refine lv_iload_n hx hb dX6_copy_112 rfl (lv_at hl 2 rfl) ?_
                    refine lv_iadd hx hb dX6_copy_113 ?_
                    refine lv_iload hx hb dX6_copy_114 (lv_at hl 6 rfl) ?_
                    refine lv_iadd hx hb dX6_copy_116 ?_
                    obtain ⟨j43, k44, h87⟩ := ob1 h86
                    clear h86
                    refine g_lald F hw 9 rfl k44 dX6_copy_117 ?_
                    obtain ⟨j45, k46, h88⟩ := ob1 h87
                    clear h87
                    refine g_last F hw 10 rfl k46 dX6_copy_118 (w' := wM cy m0 m1 m2 m3 m4 m5 m6 m7 m8 m9 m10 m_now m_tape m_typed m_place m_isFault m_readWet m_readHarvest m_read m_undone m_undos m_bestGain m_aside m_kept m_keptUndos m_isKept m_lanes m_sizes m_items (vp_updL g37 j45 (m_items j43))) rfl (fun H locs hw => ?_)
                    refine lv_iinc (v := (v36 + 1)) (lv' := [(7, .int (v36 + 1)), (0, .ref m0), (1, .int i1), (2, .int i2), (3, .int i3), (4, .int i4), (5, .int i5)]) hx hb dX6_copy_119 hl (k := 6) rfl rfl (by decide) rfl (fun ls hl => ?_)
                    refine lv_goto (tgt := 91) hx hb dX6_copy_122 (by decide) ?_
                    exact ih39 (v36 + 1) (vp_updL g37 j45 (m_items j43)) _ _ _ hw (lv_sub hl [1, 2, 3, 4, 5, 6, 0] rfl) h88
              exact loop40 fl 0 m_moved _ _ _ hw (lv_sub hl [2, 3, 4, 5, 6, 7, 0] rfl) h77
            · rw [if_neg c23] at h76
              refine lv_iload hx hb dX6_copy_85 (lv_at hl 0 rfl) ?_
              obtain ⟨rfl, rfl, rfl⟩ := inj3 h76
              exact hret _ _ _ _ hw dX6_copy_87
          clear h76
          refine lv_if_ne (tgt := 76) hx hb dX6_copy_56 (by decide) (fun c20 => ?_) (fun c20 => ?_)
          · rw [if_neg c20] at h75
            refine lv_iload hx hb dX6_copy_76 (lv_at hl 0 rfl) ?_
            obtain rfl := inj1 h75
            exact kont19 _ _ _ hw (lv_sub hl [1, 2, 3, 4, 5, 6] rfl)
          · rw [if_pos c20] at h75
            refine lv_aload_n hx hb dX6_copy_59 rfl (lv_at hl 1 rfl) ?_
            refine lv_iload_n hx hb dX6_copy_60 rfl (lv_at hl 2 rfl) ?_
            refine lv_aload_n hx hb dX6_copy_61 rfl (lv_at hl 1 rfl) ?_
            refine g_get F inG6 hw 0 rfl rfl 15 (by decide) t_745 (fun _ h9 => h9) rfl dX6_copy_62 ?_
            refine lv_iload_n hx hb dX6_copy_65 rfl (lv_at hl 2 rfl) ?_
            refine g_iald F hw 7 rfl k8 dX6_copy_66 ?_
            refine lv_iload_n hx hb dX6_copy_67 rfl (lv_at hl 3 rfl) ?_
            refine lv_iload hx hb dX6_copy_68 (lv_at hl 6 rfl) ?_
            obtain ⟨r21, k22, h89⟩ := ob1 h75
            clear h75
            refine g_vi F (cX6_why_ok l d cy m0 m1 m2 m3 m4 m5 m6 m7 m8 m9 m10 m_now m_tape m_typed m_place m_isFault m_readWet m_readHarvest m_read m_undone m_undos m_bestGain m_aside m_kept m_keptUndos m_isKept m_lanes m_sizes m_items m_moved i1 (m_lanes j7) i2 i5 r21 k22) cal_X6_why t_1065 rfl ⟨by decide, by decide⟩ hw (w' := wM cy m0 m1 m2 m3 m4 m5 m6 m7 m8 m9 m10 m_now m_tape m_typed m_place m_isFault m_readWet m_readHarvest m_read m_undone m_undos m_bestGain m_aside m_kept m_keptUndos m_isKept m_lanes m_sizes m_items m_moved) Cut.all 0 6 rfl rfl hl.1 (Nat.le_of_ble_eq_true rfl) rfl dX6_copy_70 (fun H locs hw => ?_)
            refine lv_goto (tgt := 78) hx hb dX6_copy_73 (by decide) ?_
            obtain rfl := inj1 h89
            exact kont19 _ _ _ hw (lv_sub hl [1, 2, 3, 4, 5, 6] rfl)
        · rw [if_neg c12] at h73
          refine lv_bipush (v := (-11)) hx hb dX6_copy_34 (by decide) ?_
          obtain ⟨rfl, rfl, rfl⟩ := inj3 h73
          exact hret _ _ _ _ hw dX6_copy_36
    · rw [if_pos c6] at h71
      refine lv_iconst (v := (-1)) hx hb dX6_copy_14 (by decide) ?_
      obtain ⟨rfl, rfl, rfl⟩ := inj3 h71
      exact hret _ _ _ _ hw dX6_copy_15
