theorem t_39 : (Cond.initialized "SundayMarket$Goods") ∈ gtbl := wd 39 (by decide +kernel) (by decide +kernel)
theorem t_44 : (Cond.initialized "java/lang/System") ∈ gtbl := wd 44 (by decide +kernel) (by decide +kernel)
theorem t_72 : (Cond.fieldLink "SundayMarket$Goods" 9 "SundayMarket$Goods" "many" "[I") ∈ gtbl := wd 72 (by decide +kernel) (by decide +kernel)
theorem t_73 : (Cond.fieldLink "SundayMarket$Goods" 15 "SundayMarket$Goods" "sets" "[I") ∈ gtbl := wd 73 (by decide +kernel) (by decide +kernel)
theorem t_76 : (Cond.fieldLink "SundayMarket$Goods" 18 "SundayMarket$Goods" "chalk" "[I") ∈ gtbl := wd 76 (by decide +kernel) (by decide +kernel)
theorem t_79 : (Cond.fieldLink "SundayMarket$Goods" 21 "SundayMarket$Goods" "wet" "I") ∈ gtbl := wd 79 (by decide +kernel) (by decide +kernel)
theorem t_83 : (Cond.fieldLink "SundayMarket$Goods" 25 "SundayMarket$Goods" "harvest" "I") ∈ gtbl := wd 83 (by decide +kernel) (by decide +kernel)
theorem t_87 : (Cond.fieldLink "SundayMarket$Goods" 28 "SundayMarket$Goods" "draw" "I") ∈ gtbl := wd 87 (by decide +kernel) (by decide +kernel)
theorem t_226 : (Cond.instanceMethod yX0_setMany) ∈ gtbl := wd 226 (by decide +kernel) (by decide +kernel)
theorem t_227 : (Cond.selects "SundayMarket$Goods" yX0_setMany yX0_setMany) ∈ gtbl := wd 227 (by decide +kernel) (by decide +kernel)
theorem t_228 : (Cond.code yX0_setMany prog_2_method_5_code 5 none) ∈ gtbl := wd 228 (by decide +kernel) (by decide +kernel)
theorem t_246 : (Cond.instanceMethod yX0_manyInAll) ∈ gtbl := wd 246 (by decide +kernel) (by decide +kernel)
theorem t_247 : (Cond.selects "SundayMarket$Goods" yX0_manyInAll yX0_manyInAll) ∈ gtbl := wd 247 (by decide +kernel) (by decide +kernel)
theorem t_248 : (Cond.code yX0_manyInAll prog_2_method_4_code 4 (some .int)) ∈ gtbl := wd 248 (by decide +kernel) (by decide +kernel)
theorem t_249 : (Cond.methodLink "SundayMarket$Goods" 37 yX0_manyOf) ∈ gtbl := wd 249 (by decide +kernel) (by decide +kernel)
theorem t_250 : (Cond.instanceMethod yX0_manyOf) ∈ gtbl := wd 250 (by decide +kernel) (by decide +kernel)
theorem t_251 : (Cond.selects "SundayMarket$Goods" yX0_manyOf yX0_manyOf) ∈ gtbl := wd 251 (by decide +kernel) (by decide +kernel)
theorem t_252 : (Cond.code yX0_manyOf prog_2_method_3_code 3 (some .int)) ∈ gtbl := wd 252 (by decide +kernel) (by decide +kernel)
theorem t_310 : (Cond.static arraycopyName) ∈ gtbl := wd 310 (by decide +kernel) (by decide +kernel)
theorem t_311 : (Cond.native arraycopyName) ∈ gtbl := wd 311 (by decide +kernel) (by decide +kernel)
theorem t_313 : (Cond.instanceMethod yX0_copyGoods) ∈ gtbl := wd 313 (by decide +kernel) (by decide +kernel)
theorem t_314 : (Cond.selects "SundayMarket$Goods" yX0_copyGoods yX0_copyGoods) ∈ gtbl := wd 314 (by decide +kernel) (by decide +kernel)
theorem t_315 : (Cond.code yX0_copyGoods prog_2_method_2_code 2 none) ∈ gtbl := wd 315 (by decide +kernel) (by decide +kernel)
theorem t_316 : (Cond.methodLink "SundayMarket$Goods" 31 arraycopyName) ∈ gtbl := wd 316 (by decide +kernel) (by decide +kernel)
theorem t_498 : (Cond.instanceMethod yX0_move) ∈ gtbl := wd 498 (by decide +kernel) (by decide +kernel)
theorem t_499 : (Cond.selects "SundayMarket$Goods" yX0_move yX0_move) ∈ gtbl := wd 499 (by decide +kernel) (by decide +kernel)
theorem t_500 : (Cond.code yX0_move prog_2_method_6_code 4 none) ∈ gtbl := wd 500 (by decide +kernel) (by decide +kernel)
theorem t_501 : (Cond.methodLink "SundayMarket$Goods" 41 yX0_setMany) ∈ gtbl := wd 501 (by decide +kernel) (by decide +kernel)
theorem t_503 : (Cond.instanceMethod yX0_pay) ∈ gtbl := wd 503 (by decide +kernel) (by decide +kernel)
theorem t_504 : (Cond.selects "SundayMarket$Goods" yX0_pay yX0_pay) ∈ gtbl := wd 504 (by decide +kernel) (by decide +kernel)
theorem t_505 : (Cond.code yX0_pay prog_2_method_7_code 4 none) ∈ gtbl := wd 505 (by decide +kernel) (by decide +kernel)
def fX0_manyOf (g_many : Nat → Int32) (i1 : Int32) (i2 : Int32) : Option (Int32) :=
  bd1 (ix ((i1 * 12) + i2) 72) fun j1 =>
  some ((g_many j1))
def fX0_manyInAll_L4 (g_many : Nat → Int32) (i1 : Int32) : Nat → Int32 → Int32 → Option (Int32)
  | 0, _, _ => none
  | n + 1, v9, v10 =>
    if 12 ≤ v10 then
      some (v9)
    else
      bd1 (fX0_manyOf g_many i1 v10) fun r16 =>
      fX0_manyInAll_L4 g_many i1 n (v9 + r16) (v10 + 1)
def fX0_manyInAll (g_many : Nat → Int32) (i1 : Int32) : Option (Int32) :=
  bd1 (fX0_manyInAll_L4 g_many i1 fl 0 0) fun o14 =>
  some (o14)
def fX0_setMany (g_many : Nat → Int32) (g_sets : Nat → Int32) (i1 : Int32) (i2 : Int32) (i3 : Int32) : Option ((Nat → Int32) × (Nat → Int32)) :=
  bd1 (ix ((i1 * 12) + i2) 72) fun j1 =>
  bd1 (if i3 ≤ 0 then
      bd1 (ix i1 6) fun j11 =>
      some (((g_sets j11) &&& (((1 : Int32) <<< (i2 &&& 31)) ^^^ (-1))))
    else
      bd1 (ix i1 6) fun j13 =>
      some (((g_sets j13) ||| ((1 : Int32) <<< (i2 &&& 31))))
    : Option Int32) fun x8 =>
  bd1 (ix i1 6) fun j15 =>
  some ((upd g_many j1 i3), (upd g_sets j15 x8))
def fX0_move (g_many : Nat → Int32) (g_sets : Nat → Int32) (i1 : Int32) (i2 : Int32) (i3 : Int32) : Option ((Nat → Int32) × (Nat → Int32)) :=
  bd1 (fX0_manyOf g_many i1 i3) fun r1 =>
  bd2 (fX0_setMany g_many g_sets i1 i3 (r1 - 1)) fun f3 f4 =>
  bd1 (fX0_manyOf f3 i2 i3) fun r6 =>
  bd2 (fX0_setMany f3 f4 i2 i3 (r6 + 1)) fun f8 f9 =>
  some (f8, f9)
def fX0_pay (g_chalk : Nat → Int32) (i1 : Int32) (i2 : Int32) (i3 : Int32) : Option ((Nat → Int32)) :=
  bd1 (ix i1 6) fun j1 =>
  bd1 (ix i2 6) fun j3 =>
  some ((upd (upd g_chalk j1 ((g_chalk j1) - i3)) j3 (((upd g_chalk j1 ((g_chalk j1) - i3)) j3) + i3)))
def fX0_copyGoods (g_many : Nat → Int32) (g_sets : Nat → Int32) (g_chalk : Nat → Int32) (o_many : Nat → Int32) (o_sets : Nat → Int32) (o_chalk : Nat → Int32) (o_wet : Int32) (o_harvest : Int32) (o_draw : Int32) : Option ((Nat → Int32) × (Nat → Int32) × (Nat → Int32) × Int32 × Int32 × Int32) :=
  some ((va_cpy o_many g_many 0 0 72), (va_cpy o_sets g_sets 0 0 6), (va_cpy o_chalk g_chalk 0 0 6), o_wet, o_harvest, o_draw)
theorem cal_X0_manyOf : CalV yX0_manyOf cX0_manyOf 3 (some .int) RX0 2 := ⟨t_252, t_250, t_251, t_39, by decide +kernel⟩
set_option maxHeartbeats 4000000 in
set_option maxRecDepth 100000 in
theorem cX0_manyOf_ok (l : Launch) (d : va_G) (cy : Nat → ClassId) (g0 g1 g2 g3 : Nat) (g_many : Nat → Int32) (g_sets : Nat → Int32) (g_chalk : Nat → Int32) (g_wet : Int32) (g_harvest : Int32) (g_draw : Int32) (i1 : Int32) (i2 : Int32) (r : Int32) (h0 : fX0_manyOf g_many i1 i2 = some (r)) : CI l yX0_manyOf cX0_manyOf 3 (some .int) 0 0 d cy [.ref g0, .int i1, .int i2] (wG cy g0 g1 g2 g3 g_many g_sets g_chalk g_wet g_harvest g_draw) (wG cy g0 g1 g2 g3 g_many g_sets g_chalk g_wet g_harvest g_draw) r := by
  refine CI.of (by decide) (Nat.le_of_ble_eq_true rfl) ?_
  intro p e s m args below meth c A ls Q F hret hw hl
  have hx := F.1
  have hb := F.2.1
  have hl : lv_has ls 3 [(0, .ref g0), (1, .int i1), (2, .int i2)] := hl
  rw [fX0_manyOf] at h0
  refine lv_aload_n hx hb dX0_manyOf_0 rfl (lv_at hl 0 rfl) ?_
  refine g_get F inG0 hw 0 rfl rfl 0 (by decide) t_72 (fun _ h9 => h9) rfl dX0_manyOf_1 ?_
  refine lv_iload_n hx hb dX0_manyOf_4 rfl (lv_at hl 1 rfl) ?_
  refine lv_bipush (v := 12) hx hb dX0_manyOf_5 (by decide) ?_
  refine lv_imul hx hb dX0_manyOf_7 ?_
  refine lv_iload_n hx hb dX0_manyOf_8 rfl (lv_at hl 2 rfl) ?_
  refine lv_iadd hx hb dX0_manyOf_9 ?_
  obtain ⟨j1, k2, h3⟩ := ob1 h0
  clear h0
  refine g_iald F hw 1 rfl k2 dX0_manyOf_10 ?_
  obtain rfl := inj1 h3
  exact hret _ _ _ _ hw dX0_manyOf_11
theorem cal_X0_manyInAll : CalV yX0_manyInAll cX0_manyInAll 4 (some .int) RX0 1 := ⟨t_248, t_246, t_247, t_39, by decide +kernel⟩
set_option maxHeartbeats 4000000 in
set_option maxRecDepth 100000 in
theorem cX0_manyInAll_ok (l : Launch) (d : va_G) (cy : Nat → ClassId) (g0 g1 g2 g3 : Nat) (g_many : Nat → Int32) (g_sets : Nat → Int32) (g_chalk : Nat → Int32) (g_wet : Int32) (g_harvest : Int32) (g_draw : Int32) (i1 : Int32) (r : Int32) (h0 : fX0_manyInAll g_many i1 = some (r)) : CI l yX0_manyInAll cX0_manyInAll 4 (some .int) 1 22 d cy [.ref g0, .int i1] (wG cy g0 g1 g2 g3 g_many g_sets g_chalk g_wet g_harvest g_draw) (wG cy g0 g1 g2 g3 g_many g_sets g_chalk g_wet g_harvest g_draw) r := by
  refine CI.of (by decide) (Nat.le_of_ble_eq_true rfl) ?_
  intro p e s m args below meth c A ls Q F hret hw hl
  have hx := F.1
  have hb := F.2.1
  have hl : lv_has ls 4 [(0, .ref g0), (1, .int i1)] := hl
  rw [fX0_manyInAll] at h0
  refine lv_iconst (v := 0) hx hb dX0_manyInAll_0 (by decide) ?_
  refine lv_istore_n (lv' := [(2, .int 0), (0, .ref g0), (1, .int i1)]) hx hb dX0_manyInAll_1 rfl hl (by decide) rfl (fun ls hl => ?_)
  refine lv_iconst (v := 0) hx hb dX0_manyInAll_2 (by decide) ?_
  refine lv_istore_n (lv' := [(3, .int 0), (2, .int 0), (0, .ref g0), (1, .int i1)]) hx hb dX0_manyInAll_3 rfl hl (by decide) rfl (fun ls hl => ?_)
  obtain ⟨o14, h18, h19⟩ := ob1 h0
  clear h0
  have kont11 : ∀ (H : Heap) (locs : List Loc) (ls : Array Slot), Wd d A s.heap (wG cy g0 g1 g2 g3 g_many g_sets g_chalk g_wet g_harvest g_draw) H locs → lv_has ls 4 [(2, .int o14)] → W p l e (rmo 1 22) s m args below meth c H locs 0 0 Q (F0 m 25 ls []) := by
    intro H locs ls hw hl
    clear h18
    refine lv_iload_n hx hb dX0_manyInAll_25 rfl (lv_at hl 0 rfl) ?_
    obtain rfl := inj1 h19
    exact hret _ _ _ _ hw dX0_manyInAll_26
  clear h19
  have loop13 : ∀ (n : Nat) (v9 : Int32) (v10 : Int32) (H : Heap) (locs : List Loc) (ls : Array Slot), Wd d A s.heap (wG cy g0 g1 g2 g3 g_many g_sets g_chalk g_wet g_harvest g_draw) H locs → lv_has ls 4 [(0, .ref g0), (1, .int i1), (2, .int v9), (3, .int v10)] → fX0_manyInAll_L4 g_many i1 n v9 v10 = some (o14) → W p l e (rmo 1 22) s m args below meth c H locs 0 0 Q (F0 m 4 ls []) := by
    intro n
    induction n with
    | zero =>
      intro v9 v10 H locs ls hw hl h20
      rw [fX0_manyInAll_L4] at h20
      cases h20
    | succ n ih12 =>
      intro v9 v10 H locs ls hw hl h21
      rw [fX0_manyInAll_L4] at h21
      refine lv_iload_n hx hb dX0_manyInAll_4 rfl (lv_at hl 3 rfl) ?_
      refine lv_bipush (v := 12) hx hb dX0_manyInAll_5 (by decide) ?_
      refine lv_icmp_ge (tgt := 25) hx hb dX0_manyInAll_7 (by decide) (fun c15 => ?_) (fun c15 => ?_)
      · rw [if_pos c15] at h21
        obtain rfl := inj1 h21
        exact kont11 _ _ _ hw (lv_sub hl [2] rfl)
      · rw [if_neg c15] at h21
        refine lv_iload_n hx hb dX0_manyInAll_10 rfl (lv_at hl 2 rfl) ?_
        refine lv_aload_n hx hb dX0_manyInAll_11 rfl (lv_at hl 0 rfl) ?_
        refine lv_iload_n hx hb dX0_manyInAll_12 rfl (lv_at hl 1 rfl) ?_
        refine lv_iload_n hx hb dX0_manyInAll_13 rfl (lv_at hl 3 rfl) ?_
        obtain ⟨r16, k17, h22⟩ := ob1 h21
        clear h21
        refine g_vi F (cX0_manyOf_ok l d cy g0 g1 g2 g3 g_many g_sets g_chalk g_wet g_harvest g_draw i1 v10 r16 k17) cal_X0_manyOf t_249 rfl ⟨by decide, by decide⟩ hw (w' := wG cy g0 g1 g2 g3 g_many g_sets g_chalk g_wet g_harvest g_draw) Cut.all 0 0 rfl rfl hl.1 (Nat.le_of_ble_eq_true rfl) rfl dX0_manyInAll_14 (fun H locs hw => ?_)
        refine lv_iadd hx hb dX0_manyInAll_17 ?_
        refine lv_istore_n (lv' := [(2, .int (v9 + r16)), (0, .ref g0), (1, .int i1), (3, .int v10)]) hx hb dX0_manyInAll_18 rfl hl (by decide) rfl (fun ls hl => ?_)
        refine lv_iinc (v := (v10 + 1)) (lv' := [(3, .int (v10 + 1)), (2, .int (v9 + r16)), (0, .ref g0), (1, .int i1)]) hx hb dX0_manyInAll_19 hl (k := 3) rfl rfl (by decide) rfl (fun ls hl => ?_)
        refine lv_goto (tgt := 4) hx hb dX0_manyInAll_22 (by decide) ?_
        exact ih12 (v9 + r16) (v10 + 1) _ _ _ hw (lv_sub hl [2, 3, 1, 0] rfl) h22
  exact loop13 fl 0 0 _ _ _ hw (lv_sub hl [2, 3, 1, 0] rfl) h18
theorem cal_X0_setMany : CalV yX0_setMany cX0_setMany 5 none RX0 3 := ⟨t_228, t_226, t_227, t_39, by decide +kernel⟩
set_option maxHeartbeats 4000000 in
set_option maxRecDepth 100000 in
theorem cX0_setMany_ok (l : Launch) (d : va_G) (cy : Nat → ClassId) (g0 g1 g2 g3 : Nat) (g_many : Nat → Int32) (g_sets : Nat → Int32) (g_chalk : Nat → Int32) (g_wet : Int32) (g_harvest : Int32) (g_draw : Int32) (i1 : Int32) (i2 : Int32) (i3 : Int32) (g_many_r : Nat → Int32) (g_sets_r : Nat → Int32) (h0 : fX0_setMany g_many g_sets i1 i2 i3 = some (g_many_r, g_sets_r)) : CV l yX0_setMany cX0_setMany 5 none 0 0 d cy [.ref g0, .int i1, .int i2, .int i3] (wG cy g0 g1 g2 g3 g_many g_sets g_chalk g_wet g_harvest g_draw) (wG cy g0 g1 g2 g3 g_many_r g_sets_r g_chalk g_wet g_harvest g_draw) := by
  refine CV.of (by decide) (Nat.le_of_ble_eq_true rfl) ?_
  intro p e s m args below meth c A ls Q F hret hw hl
  have hx := F.1
  have hb := F.2.1
  have hl : lv_has ls 5 [(0, .ref g0), (1, .int i1), (2, .int i2), (3, .int i3)] := hl
  rw [fX0_setMany] at h0
  refine lv_aload_n hx hb dX0_setMany_0 rfl (lv_at hl 0 rfl) ?_
  refine g_get F inG0 hw 0 rfl rfl 0 (by decide) t_72 (fun _ h9 => h9) rfl dX0_setMany_1 ?_
  refine lv_iload_n hx hb dX0_setMany_4 rfl (lv_at hl 1 rfl) ?_
  refine lv_bipush (v := 12) hx hb dX0_setMany_5 (by decide) ?_
  refine lv_imul hx hb dX0_setMany_7 ?_
  refine lv_iload_n hx hb dX0_setMany_8 rfl (lv_at hl 2 rfl) ?_
  refine lv_iadd hx hb dX0_setMany_9 ?_
  refine lv_iload_n hx hb dX0_setMany_10 rfl (lv_at hl 3 rfl) ?_
  obtain ⟨j1, k2, h17⟩ := ob1 h0
  clear h0
  refine g_iast F hw 1 rfl k2 dX0_setMany_11 (w' := wG cy g0 g1 g2 g3 (upd g_many j1 i3) g_sets g_chalk g_wet g_harvest g_draw) rfl (fun H locs hw => ?_)
  refine lv_iconst (v := 1) hx hb dX0_setMany_12 (by decide) ?_
  refine lv_iload_n hx hb dX0_setMany_13 rfl (lv_at hl 2 rfl) ?_
  refine lv_ishl hx hb dX0_setMany_14 ?_
  refine lv_istore (lv' := [(4, .int ((1 : Int32) <<< (i2 &&& 31))), (0, .ref g0), (1, .int i1), (2, .int i2), (3, .int i3)]) hx hb dX0_setMany_15 hl (by decide) rfl (fun ls hl => ?_)
  refine lv_aload_n hx hb dX0_setMany_17 rfl (lv_at hl 1 rfl) ?_
  refine g_get F inG0 hw 0 rfl rfl 1 (by decide) t_73 (fun _ h9 => h9) rfl dX0_setMany_18 ?_
  refine lv_iload_n hx hb dX0_setMany_21 rfl (lv_at hl 2 rfl) ?_
  refine lv_iload_n hx hb dX0_setMany_22 rfl (lv_at hl 4 rfl) ?_
  obtain ⟨x8, h18, h19⟩ := ob1 h17
  clear h17
  have kont9 : ∀ (H : Heap) (locs : List Loc) (ls : Array Slot), Wd d A s.heap (wG cy g0 g1 g2 g3 (upd g_many j1 i3) g_sets g_chalk g_wet g_harvest g_draw) H locs → lv_has ls 5 [] → W p l e (rmo 0 0) s m args below meth c H locs 0 0 Q (F0 m 49 ls [.int x8, .int i1, .ref g2]) := by
    intro H locs ls hw hl
    clear h18
    obtain ⟨j15, k16, h20⟩ := ob1 h19
    clear h19
    refine g_iast F hw 2 rfl k16 dX0_setMany_49 (w' := wG cy g0 g1 g2 g3 (upd g_many j1 i3) (upd g_sets j15 x8) g_chalk g_wet g_harvest g_draw) rfl (fun H locs hw => ?_)
    obtain ⟨rfl, rfl⟩ := inj2 h20
    exact hret _ _ _ _ hw dX0_setMany_50
  clear h19
  refine lv_if_le (tgt := 38) hx hb dX0_setMany_23 (by decide) (fun c10 => ?_) (fun c10 => ?_)
  · rw [if_pos c10] at h18
    refine lv_aload_n hx hb dX0_setMany_38 rfl (lv_at hl 1 rfl) ?_
    refine g_get F inG0 hw 0 rfl rfl 1 (by decide) t_73 (fun _ h9 => h9) rfl dX0_setMany_39 ?_
    refine lv_iload_n hx hb dX0_setMany_42 rfl (lv_at hl 2 rfl) ?_
    obtain ⟨j11, k12, h21⟩ := ob1 h18
    clear h18
    refine g_iald F hw 2 rfl k12 dX0_setMany_43 ?_
    refine lv_iload hx hb dX0_setMany_44 (lv_at hl 0 rfl) ?_
    refine lv_iconst (v := (-1)) hx hb dX0_setMany_46 (by decide) ?_
    refine lv_ixor hx hb dX0_setMany_47 ?_
    refine lv_iand hx hb dX0_setMany_48 ?_
    obtain rfl := inj1 h21
    exact kont9 _ _ _ hw (lv_sub hl [] rfl)
  · rw [if_neg c10] at h18
    refine lv_aload_n hx hb dX0_setMany_26 rfl (lv_at hl 1 rfl) ?_
    refine g_get F inG0 hw 0 rfl rfl 1 (by decide) t_73 (fun _ h9 => h9) rfl dX0_setMany_27 ?_
    refine lv_iload_n hx hb dX0_setMany_30 rfl (lv_at hl 2 rfl) ?_
    obtain ⟨j13, k14, h22⟩ := ob1 h18
    clear h18
    refine g_iald F hw 2 rfl k14 dX0_setMany_31 ?_
    refine lv_iload hx hb dX0_setMany_32 (lv_at hl 0 rfl) ?_
    refine lv_ior hx hb dX0_setMany_34 ?_
    refine lv_goto (tgt := 49) hx hb dX0_setMany_35 (by decide) ?_
    obtain rfl := inj1 h22
    exact kont9 _ _ _ hw (lv_sub hl [] rfl)
theorem cal_X0_move : CalV yX0_move cX0_move 4 none RX0 3 := ⟨t_500, t_498, t_499, t_39, by decide +kernel⟩
set_option maxHeartbeats 4000000 in
set_option maxRecDepth 100000 in
theorem cX0_move_ok (l : Launch) (d : va_G) (cy : Nat → ClassId) (g0 g1 g2 g3 : Nat) (g_many : Nat → Int32) (g_sets : Nat → Int32) (g_chalk : Nat → Int32) (g_wet : Int32) (g_harvest : Int32) (g_draw : Int32) (i1 : Int32) (i2 : Int32) (i3 : Int32) (g_many_r : Nat → Int32) (g_sets_r : Nat → Int32) (h0 : fX0_move g_many g_sets i1 i2 i3 = some (g_many_r, g_sets_r)) : CV l yX0_move cX0_move 4 none 1 24 d cy [.ref g0, .int i1, .int i2, .int i3] (wG cy g0 g1 g2 g3 g_many g_sets g_chalk g_wet g_harvest g_draw) (wG cy g0 g1 g2 g3 g_many_r g_sets_r g_chalk g_wet g_harvest g_draw) := by
  refine CV.of (by decide) (Nat.le_of_ble_eq_true rfl) ?_
  intro p e s m args below meth c A ls Q F hret hw hl
  have hx := F.1
  have hb := F.2.1
  have hl : lv_has ls 4 [(0, .ref g0), (1, .int i1), (2, .int i2), (3, .int i3)] := hl
  rw [fX0_move] at h0
  refine lv_aload_n hx hb dX0_move_0 rfl (lv_at hl 0 rfl) ?_
  refine lv_iload_n hx hb dX0_move_1 rfl (lv_at hl 1 rfl) ?_
  refine lv_iload_n hx hb dX0_move_2 rfl (lv_at hl 3 rfl) ?_
  refine lv_aload_n hx hb dX0_move_3 rfl (lv_at hl 0 rfl) ?_
  refine lv_iload_n hx hb dX0_move_4 rfl (lv_at hl 1 rfl) ?_
  refine lv_iload_n hx hb dX0_move_5 rfl (lv_at hl 3 rfl) ?_
  obtain ⟨r1, k2, h11⟩ := ob1 h0
  clear h0
  refine g_vi F (cX0_manyOf_ok l d cy g0 g1 g2 g3 g_many g_sets g_chalk g_wet g_harvest g_draw i1 i3 r1 k2) cal_X0_manyOf t_249 rfl ⟨by decide, by decide⟩ hw (w' := wG cy g0 g1 g2 g3 g_many g_sets g_chalk g_wet g_harvest g_draw) Cut.all 0 0 rfl rfl hl.1 (Nat.le_of_ble_eq_true rfl) rfl dX0_move_6 (fun H locs hw => ?_)
  refine lv_iconst (v := 1) hx hb dX0_move_9 (by decide) ?_
  refine lv_isub hx hb dX0_move_10 ?_
  obtain ⟨f3, f4, k5, h12⟩ := ob2 h11
  clear h11
  refine g_vv F (cX0_setMany_ok l d cy g0 g1 g2 g3 g_many g_sets g_chalk g_wet g_harvest g_draw i1 i3 (r1 - 1) f3 f4 k5) cal_X0_setMany t_501 rfl ⟨by decide, by decide⟩ hw (w' := wG cy g0 g1 g2 g3 f3 f4 g_chalk g_wet g_harvest g_draw) Cut.all 0 0 rfl rfl hl.1 (Nat.le_of_ble_eq_true rfl) rfl dX0_move_11 (fun H locs hw => ?_)
  refine lv_aload_n hx hb dX0_move_14 rfl (lv_at hl 0 rfl) ?_
  refine lv_iload_n hx hb dX0_move_15 rfl (lv_at hl 2 rfl) ?_
  refine lv_iload_n hx hb dX0_move_16 rfl (lv_at hl 3 rfl) ?_
  refine lv_aload_n hx hb dX0_move_17 rfl (lv_at hl 0 rfl) ?_
  refine lv_iload_n hx hb dX0_move_18 rfl (lv_at hl 2 rfl) ?_
  refine lv_iload_n hx hb dX0_move_19 rfl (lv_at hl 3 rfl) ?_
  obtain ⟨r6, k7, h13⟩ := ob1 h12
  clear h12
  refine g_vi F (cX0_manyOf_ok l d cy g0 g1 g2 g3 f3 f4 g_chalk g_wet g_harvest g_draw i2 i3 r6 k7) cal_X0_manyOf t_249 rfl ⟨by decide, by decide⟩ hw (w' := wG cy g0 g1 g2 g3 f3 f4 g_chalk g_wet g_harvest g_draw) Cut.all 0 0 rfl rfl hl.1 (Nat.le_of_ble_eq_true rfl) rfl dX0_move_20 (fun H locs hw => ?_)
  refine lv_iconst (v := 1) hx hb dX0_move_23 (by decide) ?_
  refine lv_iadd hx hb dX0_move_24 ?_
  obtain ⟨f8, f9, k10, h14⟩ := ob2 h13
  clear h13
  refine g_vv F (cX0_setMany_ok l d cy g0 g1 g2 g3 f3 f4 g_chalk g_wet g_harvest g_draw i2 i3 (r6 + 1) f8 f9 k10) cal_X0_setMany t_501 rfl ⟨by decide, by decide⟩ hw (w' := wG cy g0 g1 g2 g3 f8 f9 g_chalk g_wet g_harvest g_draw) Cut.all 0 0 rfl rfl hl.1 (Nat.le_of_ble_eq_true rfl) rfl dX0_move_25 (fun H locs hw => ?_)
  obtain ⟨rfl, rfl⟩ := inj2 h14
  exact hret _ _ _ _ hw dX0_move_28
theorem cal_X0_pay : CalV yX0_pay cX0_pay 4 none RX0 3 := ⟨t_505, t_503, t_504, t_39, by decide +kernel⟩
set_option maxHeartbeats 4000000 in
set_option maxRecDepth 100000 in
theorem cX0_pay_ok (l : Launch) (d : va_G) (cy : Nat → ClassId) (g0 g1 g2 g3 : Nat) (g_many : Nat → Int32) (g_sets : Nat → Int32) (g_chalk : Nat → Int32) (g_wet : Int32) (g_harvest : Int32) (g_draw : Int32) (i1 : Int32) (i2 : Int32) (i3 : Int32) (g_chalk_r : Nat → Int32) (h0 : fX0_pay g_chalk i1 i2 i3 = some (g_chalk_r)) : CV l yX0_pay cX0_pay 4 none 0 0 d cy [.ref g0, .int i1, .int i2, .int i3] (wG cy g0 g1 g2 g3 g_many g_sets g_chalk g_wet g_harvest g_draw) (wG cy g0 g1 g2 g3 g_many g_sets g_chalk_r g_wet g_harvest g_draw) := by
  refine CV.of (by decide) (Nat.le_of_ble_eq_true rfl) ?_
  intro p e s m args below meth c A ls Q F hret hw hl
  have hx := F.1
  have hb := F.2.1
  have hl : lv_has ls 4 [(0, .ref g0), (1, .int i1), (2, .int i2), (3, .int i3)] := hl
  rw [fX0_pay] at h0
  refine lv_aload_n hx hb dX0_pay_0 rfl (lv_at hl 0 rfl) ?_
  refine g_get F inG0 hw 0 rfl rfl 2 (by decide) t_76 (fun _ h9 => h9) rfl dX0_pay_1 ?_
  refine lv_iload_n hx hb dX0_pay_4 rfl (lv_at hl 1 rfl) ?_
  refine lv_dup2_11 hx hb dX0_pay_5 rfl rfl ?_
  obtain ⟨j1, k2, h5⟩ := ob1 h0
  clear h0
  refine g_iald F hw 3 rfl k2 dX0_pay_6 ?_
  refine lv_iload_n hx hb dX0_pay_7 rfl (lv_at hl 3 rfl) ?_
  refine lv_isub hx hb dX0_pay_8 ?_
  refine g_iast F hw 3 rfl k2 dX0_pay_9 (w' := wG cy g0 g1 g2 g3 g_many g_sets (upd g_chalk j1 ((g_chalk j1) - i3)) g_wet g_harvest g_draw) rfl (fun H locs hw => ?_)
  refine lv_aload_n hx hb dX0_pay_10 rfl (lv_at hl 0 rfl) ?_
  refine g_get F inG0 hw 0 rfl rfl 2 (by decide) t_76 (fun _ h9 => h9) rfl dX0_pay_11 ?_
  refine lv_iload_n hx hb dX0_pay_14 rfl (lv_at hl 2 rfl) ?_
  refine lv_dup2_11 hx hb dX0_pay_15 rfl rfl ?_
  obtain ⟨j3, k4, h6⟩ := ob1 h5
  clear h5
  refine g_iald F hw 3 rfl k4 dX0_pay_16 ?_
  refine lv_iload_n hx hb dX0_pay_17 rfl (lv_at hl 3 rfl) ?_
  refine lv_iadd hx hb dX0_pay_18 ?_
  refine g_iast F hw 3 rfl k4 dX0_pay_19 (w' := wG cy g0 g1 g2 g3 g_many g_sets (upd (upd g_chalk j1 ((g_chalk j1) - i3)) j3 (((upd g_chalk j1 ((g_chalk j1) - i3)) j3) + i3)) g_wet g_harvest g_draw) rfl (fun H locs hw => ?_)
  obtain rfl := inj1 h6
  exact hret _ _ _ _ hw dX0_pay_20
theorem cal_X0_copyGoods : CalV yX0_copyGoods cX0_copyGoods 2 none RX0 1 := ⟨t_315, t_313, t_314, t_39, by decide +kernel⟩
set_option maxHeartbeats 4000000 in
set_option maxRecDepth 100000 in
theorem cX0_copyGoods_ok (l : Launch) (d : va_G) (cy : Nat → ClassId) (g0 g1 g2 g3 o0 o1 o2 o3 : Nat) (g_many : Nat → Int32) (g_sets : Nat → Int32) (g_chalk : Nat → Int32) (g_wet : Int32) (g_harvest : Int32) (g_draw : Int32) (o_many : Nat → Int32) (o_sets : Nat → Int32) (o_chalk : Nat → Int32) (o_wet : Int32) (o_harvest : Int32) (o_draw : Int32) (g_many_r : Nat → Int32) (g_sets_r : Nat → Int32) (g_chalk_r : Nat → Int32) (g_wet_r : Int32) (g_harvest_r : Int32) (g_draw_r : Int32) (h0 : fX0_copyGoods g_many g_sets g_chalk o_many o_sets o_chalk o_wet o_harvest o_draw = some (g_many_r, g_sets_r, g_chalk_r, g_wet_r, g_harvest_r, g_draw_r)) : CV l yX0_copyGoods cX0_copyGoods 2 none 1 60 d cy [.ref g0, .ref o0] (List.flatten [wG cy g0 g1 g2 g3 g_many g_sets g_chalk g_wet g_harvest g_draw, wG cy o0 o1 o2 o3 o_many o_sets o_chalk o_wet o_harvest o_draw]) (List.flatten [wG cy g0 g1 g2 g3 g_many_r g_sets_r g_chalk_r g_wet_r g_harvest_r g_draw_r, wG cy o0 o1 o2 o3 o_many o_sets o_chalk o_wet o_harvest o_draw]) := by
  refine CV.of (by decide) (Nat.le_of_ble_eq_true rfl) ?_
  intro p e s m args below meth c A ls Q F hret hw hl
  have hx := F.1
  have hb := F.2.1
  have hl : lv_has ls 2 [(0, .ref g0), (1, .ref o0)] := hl
  rw [fX0_copyGoods] at h0
  refine lv_aload_n hx hb dX0_copyGoods_0 rfl (lv_at hl 1 rfl) ?_
  refine g_get F inG0 hw 4 rfl rfl 0 (by decide) t_72 (fun _ h9 => h9) rfl dX0_copyGoods_1 ?_
  refine lv_iconst (v := 0) hx hb dX0_copyGoods_4 (by decide) ?_
  refine lv_aload_n hx hb dX0_copyGoods_5 rfl (lv_at hl 0 rfl) ?_
  refine g_get F inG0 hw 0 rfl rfl 0 (by decide) t_72 (fun _ h9 => h9) rfl dX0_copyGoods_6 ?_
  refine lv_iconst (v := 0) hx hb dX0_copyGoods_9 (by decide) ?_
  refine lv_bipush (v := 72) hx hb dX0_copyGoods_10 (by decide) ?_
  refine va_copyi (ty := .int) hx hb (F.2.2.2.2.1.trans hl.1.symm) F.2.2.2.2.2.1 (F.2.2.2.2.2.2.1 _ t_316) (F.2.2.2.2.2.2.1 _ t_311) (F.2.2.2.2.2.2.1 _ t_310) (F.2.2.2.2.2.2.1 _ t_44) F.2.2.2.2.2.2.2.1.1 hw.1 hw.2.1 hw.2.2 5 1 0 0 rfl rfl rfl rfl rfl (by decide) (by decide) (by decide) (by decide) (by decide) (fun _ _ => rfl) (by decide) (by decide +kernel) dX0_copyGoods_12 (fun H locs hP hD hS => ?_)
  have hw : Wd d A s.heap (List.flatten [wG cy g0 g1 g2 g3 (va_cpy o_many g_many 0 0 72) g_sets g_chalk g_wet g_harvest g_draw, wG cy o0 o1 o2 o3 o_many o_sets o_chalk o_wet o_harvest o_draw]) H locs := ⟨hP, hD, hS⟩
  refine lv_aload_n hx hb dX0_copyGoods_15 rfl (lv_at hl 1 rfl) ?_
  refine g_get F inG0 hw 4 rfl rfl 1 (by decide) t_73 (fun _ h9 => h9) rfl dX0_copyGoods_16 ?_
  refine lv_iconst (v := 0) hx hb dX0_copyGoods_19 (by decide) ?_
  refine lv_aload_n hx hb dX0_copyGoods_20 rfl (lv_at hl 0 rfl) ?_
  refine g_get F inG0 hw 0 rfl rfl 1 (by decide) t_73 (fun _ h9 => h9) rfl dX0_copyGoods_21 ?_
  refine lv_iconst (v := 0) hx hb dX0_copyGoods_24 (by decide) ?_
  refine lv_bipush (v := 6) hx hb dX0_copyGoods_25 (by decide) ?_
  refine va_copyi (ty := .int) hx hb (F.2.2.2.2.1.trans hl.1.symm) F.2.2.2.2.2.1 (F.2.2.2.2.2.2.1 _ t_316) (F.2.2.2.2.2.2.1 _ t_311) (F.2.2.2.2.2.2.1 _ t_310) (F.2.2.2.2.2.2.1 _ t_44) F.2.2.2.2.2.2.2.1.1 hw.1 hw.2.1 hw.2.2 6 2 0 0 rfl rfl rfl rfl rfl (by decide) (by decide) (by decide) (by decide) (by decide) (fun _ _ => rfl) (by decide) (by decide +kernel) dX0_copyGoods_27 (fun H locs hP hD hS => ?_)
  have hw : Wd d A s.heap (List.flatten [wG cy g0 g1 g2 g3 (va_cpy o_many g_many 0 0 72) (va_cpy o_sets g_sets 0 0 6) g_chalk g_wet g_harvest g_draw, wG cy o0 o1 o2 o3 o_many o_sets o_chalk o_wet o_harvest o_draw]) H locs := ⟨hP, hD, hS⟩
  refine lv_aload_n hx hb dX0_copyGoods_30 rfl (lv_at hl 1 rfl) ?_
  refine g_get F inG0 hw 4 rfl rfl 2 (by decide) t_76 (fun _ h9 => h9) rfl dX0_copyGoods_31 ?_
  refine lv_iconst (v := 0) hx hb dX0_copyGoods_34 (by decide) ?_
  refine lv_aload_n hx hb dX0_copyGoods_35 rfl (lv_at hl 0 rfl) ?_
  refine g_get F inG0 hw 0 rfl rfl 2 (by decide) t_76 (fun _ h9 => h9) rfl dX0_copyGoods_36 ?_
  refine lv_iconst (v := 0) hx hb dX0_copyGoods_39 (by decide) ?_
  refine lv_bipush (v := 6) hx hb dX0_copyGoods_40 (by decide) ?_
  refine va_copyi (ty := .int) hx hb (F.2.2.2.2.1.trans hl.1.symm) F.2.2.2.2.2.1 (F.2.2.2.2.2.2.1 _ t_316) (F.2.2.2.2.2.2.1 _ t_311) (F.2.2.2.2.2.2.1 _ t_310) (F.2.2.2.2.2.2.1 _ t_44) F.2.2.2.2.2.2.2.1.1 hw.1 hw.2.1 hw.2.2 7 3 0 0 rfl rfl rfl rfl rfl (by decide) (by decide) (by decide) (by decide) (by decide) (fun _ _ => rfl) (by decide) (by decide +kernel) dX0_copyGoods_42 (fun H locs hP hD hS => ?_)
  have hw : Wd d A s.heap (List.flatten [wG cy g0 g1 g2 g3 (va_cpy o_many g_many 0 0 72) (va_cpy o_sets g_sets 0 0 6) (va_cpy o_chalk g_chalk 0 0 6) g_wet g_harvest g_draw, wG cy o0 o1 o2 o3 o_many o_sets o_chalk o_wet o_harvest o_draw]) H locs := ⟨hP, hD, hS⟩
  refine lv_aload_n hx hb dX0_copyGoods_45 rfl (lv_at hl 0 rfl) ?_
  refine lv_aload_n hx hb dX0_copyGoods_46 rfl (lv_at hl 1 rfl) ?_
  refine g_get F inG0 hw 4 rfl rfl 3 (by decide) t_79 (fun _ h9 => h9) rfl dX0_copyGoods_47 ?_
  refine g_put F inG0 tyX0 tyX0_ok nmX0 hw 0 rfl rfl 3 (by decide) t_79 (fun _ h9 => h9) rfl (ty := .int) (by decide +kernel) rfl rfl (Nat.le_of_ble_eq_true rfl) dX0_copyGoods_50 (w' := List.flatten [wG cy g0 g1 g2 g3 (va_cpy o_many g_many 0 0 72) (va_cpy o_sets g_sets 0 0 6) (va_cpy o_chalk g_chalk 0 0 6) o_wet g_harvest g_draw, wG cy o0 o1 o2 o3 o_many o_sets o_chalk o_wet o_harvest o_draw]) rfl (fun H locs hw => ?_)
  refine lv_aload_n hx hb dX0_copyGoods_53 rfl (lv_at hl 0 rfl) ?_
  refine lv_aload_n hx hb dX0_copyGoods_54 rfl (lv_at hl 1 rfl) ?_
  refine g_get F inG0 hw 4 rfl rfl 4 (by decide) t_83 (fun _ h9 => h9) rfl dX0_copyGoods_55 ?_
  refine g_put F inG0 tyX0 tyX0_ok nmX0 hw 0 rfl rfl 4 (by decide) t_83 (fun _ h9 => h9) rfl (ty := .int) (by decide +kernel) rfl rfl (Nat.le_of_ble_eq_true rfl) dX0_copyGoods_58 (w' := List.flatten [wG cy g0 g1 g2 g3 (va_cpy o_many g_many 0 0 72) (va_cpy o_sets g_sets 0 0 6) (va_cpy o_chalk g_chalk 0 0 6) o_wet o_harvest g_draw, wG cy o0 o1 o2 o3 o_many o_sets o_chalk o_wet o_harvest o_draw]) rfl (fun H locs hw => ?_)
  refine lv_aload_n hx hb dX0_copyGoods_61 rfl (lv_at hl 0 rfl) ?_
  refine lv_aload_n hx hb dX0_copyGoods_62 rfl (lv_at hl 1 rfl) ?_
  refine g_get F inG0 hw 4 rfl rfl 5 (by decide) t_87 (fun _ h9 => h9) rfl dX0_copyGoods_63 ?_
  refine g_put F inG0 tyX0 tyX0_ok nmX0 hw 0 rfl rfl 5 (by decide) t_87 (fun _ h9 => h9) rfl (ty := .int) (by decide +kernel) rfl rfl (Nat.le_of_ble_eq_true rfl) dX0_copyGoods_66 (w' := List.flatten [wG cy g0 g1 g2 g3 (va_cpy o_many g_many 0 0 72) (va_cpy o_sets g_sets 0 0 6) (va_cpy o_chalk g_chalk 0 0 6) o_wet o_harvest o_draw, wG cy o0 o1 o2 o3 o_many o_sets o_chalk o_wet o_harvest o_draw]) rfl (fun H locs hw => ?_)
  obtain ⟨rfl, rfl, rfl, rfl, rfl, rfl⟩ := inj6 h0
  exact hret _ _ _ _ hw dX0_copyGoods_69
