theorem t_218 : (Cond.instanceMethod yX1_forget) ∈ gtbl := wd 218 (by decide +kernel) (by decide +kernel)
theorem t_219 : (Cond.selects "SundayMarket$Past" yX1_forget yX1_forget) ∈ gtbl := wd 219 (by decide +kernel) (by decide +kernel)
theorem t_220 : (Cond.code yX1_forget prog_3_method_3_code 1 none) ∈ gtbl := wd 220 (by decide +kernel) (by decide +kernel)
theorem t_489 : (Cond.instanceMethod yX1_remember) ∈ gtbl := wd 489 (by decide +kernel) (by decide +kernel)
theorem t_490 : (Cond.selects "SundayMarket$Past" yX1_remember yX1_remember) ∈ gtbl := wd 490 (by decide +kernel) (by decide +kernel)
theorem t_491 : (Cond.code yX1_remember prog_3_method_4_code 2 none) ∈ gtbl := wd 491 (by decide +kernel) (by decide +kernel)
theorem t_492 : (Cond.methodLink "SundayMarket$Past" 26 yX1_loseOldest) ∈ gtbl := wd 492 (by decide +kernel) (by decide +kernel)
theorem t_496 : (Cond.methodLink "SundayMarket$Past" 22 yX0_copyGoods) ∈ gtbl := wd 496 (by decide +kernel) (by decide +kernel)
theorem t_547 : (Cond.instanceMethod yX1_bringBack) ∈ gtbl := wd 547 (by decide +kernel) (by decide +kernel)
theorem t_548 : (Cond.selects "SundayMarket$Past" yX1_bringBack yX1_bringBack) ∈ gtbl := wd 548 (by decide +kernel) (by decide +kernel)
theorem t_549 : (Cond.code yX1_bringBack prog_3_method_6_code 2 none) ∈ gtbl := wd 549 (by decide +kernel) (by decide +kernel)
theorem t_655 : (Cond.instanceMethod yX1_copyPast) ∈ gtbl := wd 655 (by decide +kernel) (by decide +kernel)
theorem t_656 : (Cond.selects "SundayMarket$Past" yX1_copyPast yX1_copyPast) ∈ gtbl := wd 656 (by decide +kernel) (by decide +kernel)
theorem t_657 : (Cond.code yX1_copyPast prog_3_method_2_code 3 none) ∈ gtbl := wd 657 (by decide +kernel) (by decide +kernel)
def fX1_forget : Option (Int32) :=
  some (0)
def fX1_remember (p_known : Int32) (p_r0 : Nat → Nat) (p_r1 : Nat → Nat) (p_r2 : Nat → Nat) (p_r3 : Nat → Nat) (p_many : Nat → Nat → Int32) (p_sets : Nat → Nat → Int32) (p_chalk : Nat → Nat → Int32) (p_wet : Nat → Int32) (p_harvest : Nat → Int32) (p_draw : Nat → Int32) (g_many : Nat → Int32) (g_sets : Nat → Int32) (g_chalk : Nat → Int32) (g_wet : Int32) (g_harvest : Int32) (g_draw : Int32) : Option (Int32 × (Nat → Nat) × (Nat → Nat) × (Nat → Nat) × (Nat → Nat) × (Nat → Nat → Int32) × (Nat → Nat → Int32) × (Nat → Nat → Int32) × (Nat → Int32) × (Nat → Int32) × (Nat → Int32)) :=
  bd11 (if p_known = 8 then
      bd11 (fX1_loseOldest p_r0 p_r1 p_r2 p_r3 p_many p_sets p_chalk p_wet p_harvest p_draw) fun x27 f28 f29 f30 f31 f32 f33 f34 f35 f36 f37 =>
      some (x27, f28, f29, f30, f31, f32, f33, f34, f35, f36, f37)
    else
      some (p_known, p_r0, p_r1, p_r2, p_r3, p_many, p_sets, p_chalk, p_wet, p_harvest, p_draw)
    : Option (Int32 × (Nat → Nat) × (Nat → Nat) × (Nat → Nat) × (Nat → Nat) × (Nat → Nat → Int32) × (Nat → Nat → Int32) × (Nat → Nat → Int32) × (Nat → Int32) × (Nat → Int32) × (Nat → Int32))) fun x14 f15 f16 f17 f18 f19 f20 f21 f22 f23 f24 =>
  bd1 (ix x14 8) fun j39 =>
  bd6 (fX0_copyGoods (f19 j39) (f20 j39) (f21 j39) g_many g_sets g_chalk g_wet g_harvest g_draw) fun f41 f42 f43 x44 x45 x46 =>
  some ((x14 + 1), f15, f16, f17, f18, (va_up f19 j39 f41), (va_up f20 j39 f42), (va_up f21 j39 f43), (va_up f22 j39 x44), (va_up f23 j39 x45), (va_up f24 j39 x46))
def fX1_bringBack (p_known : Int32) (p_many : Nat → Nat → Int32) (p_sets : Nat → Nat → Int32) (p_chalk : Nat → Nat → Int32) (p_wet : Nat → Int32) (p_harvest : Nat → Int32) (p_draw : Nat → Int32) (g_many : Nat → Int32) (g_sets : Nat → Int32) (g_chalk : Nat → Int32) (g_wet : Int32) (g_harvest : Int32) (g_draw : Int32) : Option (Int32 × (Nat → Int32) × (Nat → Int32) × (Nat → Int32) × Int32 × Int32 × Int32) :=
  if p_known ≤ 0 then
    some (p_known, g_many, g_sets, g_chalk, g_wet, g_harvest, g_draw)
  else
    bd1 (ix (p_known - 1) 8) fun j2 =>
    bd6 (fX0_copyGoods g_many g_sets g_chalk (p_many j2) (p_sets j2) (p_chalk j2) (p_wet j2) (p_harvest j2) (p_draw j2)) fun f4 f5 f6 x7 x8 x9 =>
    some ((p_known - 1), f4, f5, f6, x7, x8, x9)
def fX1_copyPast_L10 (o_chalk : Nat → Nat → Int32) (o_draw : Nat → Int32) (o_harvest : Nat → Int32) (o_known : Int32) (o_many : Nat → Nat → Int32) (o_sets : Nat → Nat → Int32) (o_wet : Nat → Int32) : Nat → Int32 → (Nat → Nat → Int32) → (Nat → Int32) → (Nat → Int32) → (Nat → Nat → Int32) → (Nat → Nat → Int32) → (Nat → Int32) → Option ((Nat → Nat → Int32) × (Nat → Nat → Int32) × (Nat → Nat → Int32) × (Nat → Int32) × (Nat → Int32) × (Nat → Int32))
  | 0, _, _, _, _, _, _, _ => none
  | n + 1, v28, g29, g30, g31, g32, g33, g34 =>
    if o_known ≤ v28 then
      some (g32, g33, g29, g34, g31, g30)
    else
      bd1 (ix v28 8) fun j45 =>
      bd6 (fX0_copyGoods (g32 j45) (g33 j45) (g29 j45) (o_many j45) (o_sets j45) (o_chalk j45) (o_wet j45) (o_harvest j45) (o_draw j45)) fun f47 f48 f49 x50 x51 x52 =>
      fX1_copyPast_L10 o_chalk o_draw o_harvest o_known o_many o_sets o_wet n (v28 + 1) (va_up g29 j45 f49) (va_up g30 j45 x52) (va_up g31 j45 x51) (va_up g32 j45 f47) (va_up g33 j45 f48) (va_up g34 j45 x50)
def fX1_copyPast (p_many : Nat → Nat → Int32) (p_sets : Nat → Nat → Int32) (p_chalk : Nat → Nat → Int32) (p_wet : Nat → Int32) (p_harvest : Nat → Int32) (p_draw : Nat → Int32) (o_known : Int32) (o_many : Nat → Nat → Int32) (o_sets : Nat → Nat → Int32) (o_chalk : Nat → Nat → Int32) (o_wet : Nat → Int32) (o_harvest : Nat → Int32) (o_draw : Nat → Int32) : Option (Int32 × (Nat → Nat → Int32) × (Nat → Nat → Int32) × (Nat → Nat → Int32) × (Nat → Int32) × (Nat → Int32) × (Nat → Int32)) :=
  bd6 (fX1_copyPast_L10 o_chalk o_draw o_harvest o_known o_many o_sets o_wet fl 0 p_chalk p_draw p_harvest p_many p_sets p_wet) fun q38 q39 q40 q41 q42 q43 =>
  some (o_known, q38, q39, q40, q41, q42, q43)
theorem cal_X1_forget : CalV yX1_forget cX1_forget 1 none RX1 0 := ⟨t_220, t_218, t_219, t_40, by decide +kernel⟩
set_option maxHeartbeats 4000000 in
set_option maxRecDepth 100000 in
theorem cX1_forget_ok (l : Launch) (d : va_G) (cy : Nat → ClassId) (p0 p1 : Nat) (p_known : Int32) (p_r0 : Nat → Nat) (p_r1 : Nat → Nat) (p_r2 : Nat → Nat) (p_r3 : Nat → Nat) (p_many : Nat → Nat → Int32) (p_sets : Nat → Nat → Int32) (p_chalk : Nat → Nat → Int32) (p_wet : Nat → Int32) (p_harvest : Nat → Int32) (p_draw : Nat → Int32) (p_known_r : Int32) (h0 : fX1_forget = some (p_known_r)) : CV l yX1_forget cX1_forget 1 none 0 0 d cy [.ref p0] (wP cy p0 p1 p_known p_r0 p_r1 p_r2 p_r3 p_many p_sets p_chalk p_wet p_harvest p_draw) (wP cy p0 p1 p_known_r p_r0 p_r1 p_r2 p_r3 p_many p_sets p_chalk p_wet p_harvest p_draw) := by
  refine CV.of (by decide) (Nat.le_of_ble_eq_true rfl) ?_
  intro p e s m args below meth c A ls Q F hret hw hl
  have hx := F.1
  have hb := F.2.1
  have hl : lv_has ls 1 [(0, .ref p0)] := hl
  rw [fX1_forget] at h0
  refine lv_aload_n hx hb dX1_forget_0 rfl (lv_at hl 0 rfl) ?_
  refine lv_iconst (v := 0) hx hb dX1_forget_1 (by decide) ?_
  refine g_put F inG1 tyX1 tyX1_ok nmX1 hw 0 rfl rfl 1 (by decide) t_138 (fun _ h9 => h9) rfl (ty := .int) (by decide +kernel) rfl rfl (Nat.le_of_ble_eq_true rfl) dX1_forget_2 (w' := wP cy p0 p1 0 p_r0 p_r1 p_r2 p_r3 p_many p_sets p_chalk p_wet p_harvest p_draw) rfl (fun H locs hw => ?_)
  obtain rfl := inj1 h0
  exact hret _ _ _ _ hw dX1_forget_5
theorem cal_X1_remember : CalV yX1_remember cX1_remember 2 none RX1 1 := ⟨t_491, t_489, t_490, t_40, by decide +kernel⟩
set_option maxHeartbeats 4000000 in
set_option maxRecDepth 100000 in
theorem cX1_remember_ok (l : Launch) (d : va_G) (cy : Nat → ClassId) (p0 p1 g0 g1 g2 g3 : Nat) (p_known : Int32) (p_r0 : Nat → Nat) (p_r1 : Nat → Nat) (p_r2 : Nat → Nat) (p_r3 : Nat → Nat) (p_many : Nat → Nat → Int32) (p_sets : Nat → Nat → Int32) (p_chalk : Nat → Nat → Int32) (p_wet : Nat → Int32) (p_harvest : Nat → Int32) (p_draw : Nat → Int32) (g_many : Nat → Int32) (g_sets : Nat → Int32) (g_chalk : Nat → Int32) (g_wet : Int32) (g_harvest : Int32) (g_draw : Int32) (p_known_r : Int32) (p_r0_r : Nat → Nat) (p_r1_r : Nat → Nat) (p_r2_r : Nat → Nat) (p_r3_r : Nat → Nat) (p_many_r : Nat → Nat → Int32) (p_sets_r : Nat → Nat → Int32) (p_chalk_r : Nat → Nat → Int32) (p_wet_r : Nat → Int32) (p_harvest_r : Nat → Int32) (p_draw_r : Nat → Int32) (h0 : fX1_remember p_known p_r0 p_r1 p_r2 p_r3 p_many p_sets p_chalk p_wet p_harvest p_draw g_many g_sets g_chalk g_wet g_harvest g_draw = some (p_known_r, p_r0_r, p_r1_r, p_r2_r, p_r3_r, p_many_r, p_sets_r, p_chalk_r, p_wet_r, p_harvest_r, p_draw_r)) : CV l yX1_remember cX1_remember 2 none 2 81 d cy [.ref p0, .ref g0] (List.flatten [wP cy p0 p1 p_known p_r0 p_r1 p_r2 p_r3 p_many p_sets p_chalk p_wet p_harvest p_draw, wG cy g0 g1 g2 g3 g_many g_sets g_chalk g_wet g_harvest g_draw]) (List.flatten [wP cy p0 p1 p_known_r p_r0_r p_r1_r p_r2_r p_r3_r p_many_r p_sets_r p_chalk_r p_wet_r p_harvest_r p_draw_r, wG cy g0 g1 g2 g3 g_many g_sets g_chalk g_wet g_harvest g_draw]) := by
  refine CV.of (by decide) (Nat.le_of_ble_eq_true rfl) ?_
  intro p e s m args below meth c A ls Q F hret hw hl
  have hx := F.1
  have hb := F.2.1
  have hl : lv_has ls 2 [(0, .ref p0), (1, .ref g0)] := hl
  rw [fX1_remember] at h0
  refine lv_aload_n hx hb dX1_remember_0 rfl (lv_at hl 0 rfl) ?_
  refine g_get F inG1 hw 0 rfl rfl 1 (by decide) t_138 (fun _ h9 => h9) rfl dX1_remember_1 ?_
  refine lv_bipush (v := 8) hx hb dX1_remember_4 (by decide) ?_
  obtain ⟨x14, f15, f16, f17, f18, f19, f20, f21, f22, f23, f24, h48, h49⟩ := ob11 h0
  clear h0
  have kont25 : ∀ (H : Heap) (locs : List Loc) (ls : Array Slot), Wd d A s.heap (List.flatten [wP cy p0 p1 x14 f15 f16 f17 f18 f19 f20 f21 f22 f23 f24, wG cy g0 g1 g2 g3 g_many g_sets g_chalk g_wet g_harvest g_draw]) H locs → lv_has ls 2 [(0, .ref p0), (1, .ref g0)] → W p l e (rmo 2 81) s m args below meth c H locs 0 0 Q (F0 m 13 ls []) := by
    intro H locs ls hw hl
    clear h48
    refine lv_aload_n hx hb dX1_remember_13 rfl (lv_at hl 0 rfl) ?_
    refine g_get F inG1 hw 0 rfl rfl 0 (by decide) t_137 (fun _ h9 => h9) rfl dX1_remember_14 ?_
    refine lv_aload_n hx hb dX1_remember_17 rfl (lv_at hl 0 rfl) ?_
    refine g_get F inG1 hw 0 rfl rfl 1 (by decide) t_138 (fun _ h9 => h9) rfl dX1_remember_18 ?_
    obtain ⟨j39, k40, h50⟩ := ob1 h49
    clear h49
    rcases ix8 k40 with rfl | rfl | rfl | rfl | rfl | rfl | rfl | rfl
    · refine g_aald F 3 rfl hw 1 rfl k40 dX1_remember_21 ?_
      refine lv_aload_n hx hb dX1_remember_22 rfl (lv_at hl 1 rfl) ?_
      obtain ⟨f41, f42, f43, x44, x45, x46, k47, h51⟩ := ob6 h50
      clear h50
      refine g_vv F (cX0_copyGoods_ok l d cy (f15 0) (f16 0) (f17 0) (f18 0) g0 g1 g2 g3 (f19 0) (f20 0) (f21 0) (f22 0) (f23 0) (f24 0) g_many g_sets g_chalk g_wet g_harvest g_draw f41 f42 f43 x44 x45 x46 k47) cal_X0_copyGoods t_496 rfl ⟨by decide, by decide⟩ hw (w' := List.flatten [wP cy p0 p1 x14 f15 f16 f17 f18 (va_up f19 0 f41) (va_up f20 0 f42) (va_up f21 0 f43) (va_up f22 0 x44) (va_up f23 0 x45) (va_up f24 0 x46), wG cy g0 g1 g2 g3 g_many g_sets g_chalk g_wet g_harvest g_draw]) (SCut.cut (SCut.take cutP0 (SCut.take SCut.rf SCut.none))) 0 0 rfl rfl hl.1 (Nat.le_of_ble_eq_true rfl) rfl dX1_remember_23 (fun H locs hw => ?_)
      refine lv_aload_n hx hb dX1_remember_26 rfl (lv_at hl 0 rfl) ?_
      refine lv_dup hx hb dX1_remember_27 rfl ?_
      refine g_get F inG1 hw 0 rfl rfl 1 (by decide) t_138 (fun _ h9 => h9) rfl dX1_remember_28 ?_
      refine lv_iconst (v := 1) hx hb dX1_remember_31 (by decide) ?_
      refine lv_iadd hx hb dX1_remember_32 ?_
      refine g_put F inG1 tyX1 tyX1_ok nmX1 hw 0 rfl rfl 1 (by decide) t_138 (fun _ h9 => h9) rfl (ty := .int) (by decide +kernel) rfl rfl (Nat.le_of_ble_eq_true rfl) dX1_remember_33 (w' := List.flatten [wP cy p0 p1 (x14 + 1) f15 f16 f17 f18 (va_up f19 0 f41) (va_up f20 0 f42) (va_up f21 0 f43) (va_up f22 0 x44) (va_up f23 0 x45) (va_up f24 0 x46), wG cy g0 g1 g2 g3 g_many g_sets g_chalk g_wet g_harvest g_draw]) rfl (fun H locs hw => ?_)
      obtain ⟨rfl, rfl, rfl, rfl, rfl, rfl, rfl, rfl, rfl, rfl, rfl⟩ := inj11 h51
      exact hret _ _ _ _ hw dX1_remember_36
    · refine g_aald F 3 rfl hw 1 rfl k40 dX1_remember_21 ?_
      refine lv_aload_n hx hb dX1_remember_22 rfl (lv_at hl 1 rfl) ?_
      obtain ⟨f41, f42, f43, x44, x45, x46, k47, h52⟩ := ob6 h50
      clear h50
      refine g_vv F (cX0_copyGoods_ok l d cy (f15 1) (f16 1) (f17 1) (f18 1) g0 g1 g2 g3 (f19 1) (f20 1) (f21 1) (f22 1) (f23 1) (f24 1) g_many g_sets g_chalk g_wet g_harvest g_draw f41 f42 f43 x44 x45 x46 k47) cal_X0_copyGoods t_496 rfl ⟨by decide, by decide⟩ hw (w' := List.flatten [wP cy p0 p1 x14 f15 f16 f17 f18 (va_up f19 1 f41) (va_up f20 1 f42) (va_up f21 1 f43) (va_up f22 1 x44) (va_up f23 1 x45) (va_up f24 1 x46), wG cy g0 g1 g2 g3 g_many g_sets g_chalk g_wet g_harvest g_draw]) (SCut.cut (SCut.take cutP1 (SCut.take SCut.rf SCut.none))) 0 0 rfl rfl hl.1 (Nat.le_of_ble_eq_true rfl) rfl dX1_remember_23 (fun H locs hw => ?_)
      refine lv_aload_n hx hb dX1_remember_26 rfl (lv_at hl 0 rfl) ?_
      refine lv_dup hx hb dX1_remember_27 rfl ?_
      refine g_get F inG1 hw 0 rfl rfl 1 (by decide) t_138 (fun _ h9 => h9) rfl dX1_remember_28 ?_
      refine lv_iconst (v := 1) hx hb dX1_remember_31 (by decide) ?_
      refine lv_iadd hx hb dX1_remember_32 ?_
      refine g_put F inG1 tyX1 tyX1_ok nmX1 hw 0 rfl rfl 1 (by decide) t_138 (fun _ h9 => h9) rfl (ty := .int) (by decide +kernel) rfl rfl (Nat.le_of_ble_eq_true rfl) dX1_remember_33 (w' := List.flatten [wP cy p0 p1 (x14 + 1) f15 f16 f17 f18 (va_up f19 1 f41) (va_up f20 1 f42) (va_up f21 1 f43) (va_up f22 1 x44) (va_up f23 1 x45) (va_up f24 1 x46), wG cy g0 g1 g2 g3 g_many g_sets g_chalk g_wet g_harvest g_draw]) rfl (fun H locs hw => ?_)
      obtain ⟨rfl, rfl, rfl, rfl, rfl, rfl, rfl, rfl, rfl, rfl, rfl⟩ := inj11 h52
      exact hret _ _ _ _ hw dX1_remember_36
    · refine g_aald F 3 rfl hw 1 rfl k40 dX1_remember_21 ?_
      refine lv_aload_n hx hb dX1_remember_22 rfl (lv_at hl 1 rfl) ?_
      obtain ⟨f41, f42, f43, x44, x45, x46, k47, h53⟩ := ob6 h50
      clear h50
      refine g_vv F (cX0_copyGoods_ok l d cy (f15 2) (f16 2) (f17 2) (f18 2) g0 g1 g2 g3 (f19 2) (f20 2) (f21 2) (f22 2) (f23 2) (f24 2) g_many g_sets g_chalk g_wet g_harvest g_draw f41 f42 f43 x44 x45 x46 k47) cal_X0_copyGoods t_496 rfl ⟨by decide, by decide⟩ hw (w' := List.flatten [wP cy p0 p1 x14 f15 f16 f17 f18 (va_up f19 2 f41) (va_up f20 2 f42) (va_up f21 2 f43) (va_up f22 2 x44) (va_up f23 2 x45) (va_up f24 2 x46), wG cy g0 g1 g2 g3 g_many g_sets g_chalk g_wet g_harvest g_draw]) (SCut.cut (SCut.take cutP2 (SCut.take SCut.rf SCut.none))) 0 0 rfl rfl hl.1 (Nat.le_of_ble_eq_true rfl) rfl dX1_remember_23 (fun H locs hw => ?_)
      refine lv_aload_n hx hb dX1_remember_26 rfl (lv_at hl 0 rfl) ?_
      refine lv_dup hx hb dX1_remember_27 rfl ?_
      refine g_get F inG1 hw 0 rfl rfl 1 (by decide) t_138 (fun _ h9 => h9) rfl dX1_remember_28 ?_
      refine lv_iconst (v := 1) hx hb dX1_remember_31 (by decide) ?_
      refine lv_iadd hx hb dX1_remember_32 ?_
      refine g_put F inG1 tyX1 tyX1_ok nmX1 hw 0 rfl rfl 1 (by decide) t_138 (fun _ h9 => h9) rfl (ty := .int) (by decide +kernel) rfl rfl (Nat.le_of_ble_eq_true rfl) dX1_remember_33 (w' := List.flatten [wP cy p0 p1 (x14 + 1) f15 f16 f17 f18 (va_up f19 2 f41) (va_up f20 2 f42) (va_up f21 2 f43) (va_up f22 2 x44) (va_up f23 2 x45) (va_up f24 2 x46), wG cy g0 g1 g2 g3 g_many g_sets g_chalk g_wet g_harvest g_draw]) rfl (fun H locs hw => ?_)
      obtain ⟨rfl, rfl, rfl, rfl, rfl, rfl, rfl, rfl, rfl, rfl, rfl⟩ := inj11 h53
      exact hret _ _ _ _ hw dX1_remember_36
    · refine g_aald F 3 rfl hw 1 rfl k40 dX1_remember_21 ?_
      refine lv_aload_n hx hb dX1_remember_22 rfl (lv_at hl 1 rfl) ?_
      obtain ⟨f41, f42, f43, x44, x45, x46, k47, h54⟩ := ob6 h50
      clear h50
      refine g_vv F (cX0_copyGoods_ok l d cy (f15 3) (f16 3) (f17 3) (f18 3) g0 g1 g2 g3 (f19 3) (f20 3) (f21 3) (f22 3) (f23 3) (f24 3) g_many g_sets g_chalk g_wet g_harvest g_draw f41 f42 f43 x44 x45 x46 k47) cal_X0_copyGoods t_496 rfl ⟨by decide, by decide⟩ hw (w' := List.flatten [wP cy p0 p1 x14 f15 f16 f17 f18 (va_up f19 3 f41) (va_up f20 3 f42) (va_up f21 3 f43) (va_up f22 3 x44) (va_up f23 3 x45) (va_up f24 3 x46), wG cy g0 g1 g2 g3 g_many g_sets g_chalk g_wet g_harvest g_draw]) (SCut.cut (SCut.take cutP3 (SCut.take SCut.rf SCut.none))) 0 0 rfl rfl hl.1 (Nat.le_of_ble_eq_true rfl) rfl dX1_remember_23 (fun H locs hw => ?_)
      refine lv_aload_n hx hb dX1_remember_26 rfl (lv_at hl 0 rfl) ?_
      refine lv_dup hx hb dX1_remember_27 rfl ?_
      refine g_get F inG1 hw 0 rfl rfl 1 (by decide) t_138 (fun _ h9 => h9) rfl dX1_remember_28 ?_
      refine lv_iconst (v := 1) hx hb dX1_remember_31 (by decide) ?_
      refine lv_iadd hx hb dX1_remember_32 ?_
      refine g_put F inG1 tyX1 tyX1_ok nmX1 hw 0 rfl rfl 1 (by decide) t_138 (fun _ h9 => h9) rfl (ty := .int) (by decide +kernel) rfl rfl (Nat.le_of_ble_eq_true rfl) dX1_remember_33 (w' := List.flatten [wP cy p0 p1 (x14 + 1) f15 f16 f17 f18 (va_up f19 3 f41) (va_up f20 3 f42) (va_up f21 3 f43) (va_up f22 3 x44) (va_up f23 3 x45) (va_up f24 3 x46), wG cy g0 g1 g2 g3 g_many g_sets g_chalk g_wet g_harvest g_draw]) rfl (fun H locs hw => ?_)
      obtain ⟨rfl, rfl, rfl, rfl, rfl, rfl, rfl, rfl, rfl, rfl, rfl⟩ := inj11 h54
      exact hret _ _ _ _ hw dX1_remember_36
    · refine g_aald F 3 rfl hw 1 rfl k40 dX1_remember_21 ?_
      refine lv_aload_n hx hb dX1_remember_22 rfl (lv_at hl 1 rfl) ?_
      obtain ⟨f41, f42, f43, x44, x45, x46, k47, h55⟩ := ob6 h50
      clear h50
      refine g_vv F (cX0_copyGoods_ok l d cy (f15 4) (f16 4) (f17 4) (f18 4) g0 g1 g2 g3 (f19 4) (f20 4) (f21 4) (f22 4) (f23 4) (f24 4) g_many g_sets g_chalk g_wet g_harvest g_draw f41 f42 f43 x44 x45 x46 k47) cal_X0_copyGoods t_496 rfl ⟨by decide, by decide⟩ hw (w' := List.flatten [wP cy p0 p1 x14 f15 f16 f17 f18 (va_up f19 4 f41) (va_up f20 4 f42) (va_up f21 4 f43) (va_up f22 4 x44) (va_up f23 4 x45) (va_up f24 4 x46), wG cy g0 g1 g2 g3 g_many g_sets g_chalk g_wet g_harvest g_draw]) (SCut.cut (SCut.take cutP4 (SCut.take SCut.rf SCut.none))) 0 0 rfl rfl hl.1 (Nat.le_of_ble_eq_true rfl) rfl dX1_remember_23 (fun H locs hw => ?_)
      refine lv_aload_n hx hb dX1_remember_26 rfl (lv_at hl 0 rfl) ?_
      refine lv_dup hx hb dX1_remember_27 rfl ?_
      refine g_get F inG1 hw 0 rfl rfl 1 (by decide) t_138 (fun _ h9 => h9) rfl dX1_remember_28 ?_
      refine lv_iconst (v := 1) hx hb dX1_remember_31 (by decide) ?_
      refine lv_iadd hx hb dX1_remember_32 ?_
      refine g_put F inG1 tyX1 tyX1_ok nmX1 hw 0 rfl rfl 1 (by decide) t_138 (fun _ h9 => h9) rfl (ty := .int) (by decide +kernel) rfl rfl (Nat.le_of_ble_eq_true rfl) dX1_remember_33 (w' := List.flatten [wP cy p0 p1 (x14 + 1) f15 f16 f17 f18 (va_up f19 4 f41) (va_up f20 4 f42) (va_up f21 4 f43) (va_up f22 4 x44) (va_up f23 4 x45) (va_up f24 4 x46), wG cy g0 g1 g2 g3 g_many g_sets g_chalk g_wet g_harvest g_draw]) rfl (fun H locs hw => ?_)
      obtain ⟨rfl, rfl, rfl, rfl, rfl, rfl, rfl, rfl, rfl, rfl, rfl⟩ := inj11 h55
      exact hret _ _ _ _ hw dX1_remember_36
    · refine g_aald F 3 rfl hw 1 rfl k40 dX1_remember_21 ?_
      refine lv_aload_n hx hb dX1_remember_22 rfl (lv_at hl 1 rfl) ?_
      obtain ⟨f41, f42, f43, x44, x45, x46, k47, h56⟩ := ob6 h50
      clear h50
      refine g_vv F (cX0_copyGoods_ok l d cy (f15 5) (f16 5) (f17 5) (f18 5) g0 g1 g2 g3 (f19 5) (f20 5) (f21 5) (f22 5) (f23 5) (f24 5) g_many g_sets g_chalk g_wet g_harvest g_draw f41 f42 f43 x44 x45 x46 k47) cal_X0_copyGoods t_496 rfl ⟨by decide, by decide⟩ hw (w' := List.flatten [wP cy p0 p1 x14 f15 f16 f17 f18 (va_up f19 5 f41) (va_up f20 5 f42) (va_up f21 5 f43) (va_up f22 5 x44) (va_up f23 5 x45) (va_up f24 5 x46), wG cy g0 g1 g2 g3 g_many g_sets g_chalk g_wet g_harvest g_draw]) (SCut.cut (SCut.take cutP5 (SCut.take SCut.rf SCut.none))) 0 0 rfl rfl hl.1 (Nat.le_of_ble_eq_true rfl) rfl dX1_remember_23 (fun H locs hw => ?_)
      refine lv_aload_n hx hb dX1_remember_26 rfl (lv_at hl 0 rfl) ?_
      refine lv_dup hx hb dX1_remember_27 rfl ?_
      refine g_get F inG1 hw 0 rfl rfl 1 (by decide) t_138 (fun _ h9 => h9) rfl dX1_remember_28 ?_
      refine lv_iconst (v := 1) hx hb dX1_remember_31 (by decide) ?_
      refine lv_iadd hx hb dX1_remember_32 ?_
      refine g_put F inG1 tyX1 tyX1_ok nmX1 hw 0 rfl rfl 1 (by decide) t_138 (fun _ h9 => h9) rfl (ty := .int) (by decide +kernel) rfl rfl (Nat.le_of_ble_eq_true rfl) dX1_remember_33 (w' := List.flatten [wP cy p0 p1 (x14 + 1) f15 f16 f17 f18 (va_up f19 5 f41) (va_up f20 5 f42) (va_up f21 5 f43) (va_up f22 5 x44) (va_up f23 5 x45) (va_up f24 5 x46), wG cy g0 g1 g2 g3 g_many g_sets g_chalk g_wet g_harvest g_draw]) rfl (fun H locs hw => ?_)
      obtain ⟨rfl, rfl, rfl, rfl, rfl, rfl, rfl, rfl, rfl, rfl, rfl⟩ := inj11 h56
      exact hret _ _ _ _ hw dX1_remember_36
    · refine g_aald F 3 rfl hw 1 rfl k40 dX1_remember_21 ?_
      refine lv_aload_n hx hb dX1_remember_22 rfl (lv_at hl 1 rfl) ?_
      obtain ⟨f41, f42, f43, x44, x45, x46, k47, h57⟩ := ob6 h50
      clear h50
      refine g_vv F (cX0_copyGoods_ok l d cy (f15 6) (f16 6) (f17 6) (f18 6) g0 g1 g2 g3 (f19 6) (f20 6) (f21 6) (f22 6) (f23 6) (f24 6) g_many g_sets g_chalk g_wet g_harvest g_draw f41 f42 f43 x44 x45 x46 k47) cal_X0_copyGoods t_496 rfl ⟨by decide, by decide⟩ hw (w' := List.flatten [wP cy p0 p1 x14 f15 f16 f17 f18 (va_up f19 6 f41) (va_up f20 6 f42) (va_up f21 6 f43) (va_up f22 6 x44) (va_up f23 6 x45) (va_up f24 6 x46), wG cy g0 g1 g2 g3 g_many g_sets g_chalk g_wet g_harvest g_draw]) (SCut.cut (SCut.take cutP6 (SCut.take SCut.rf SCut.none))) 0 0 rfl rfl hl.1 (Nat.le_of_ble_eq_true rfl) rfl dX1_remember_23 (fun H locs hw => ?_)
      refine lv_aload_n hx hb dX1_remember_26 rfl (lv_at hl 0 rfl) ?_
      refine lv_dup hx hb dX1_remember_27 rfl ?_
      refine g_get F inG1 hw 0 rfl rfl 1 (by decide) t_138 (fun _ h9 => h9) rfl dX1_remember_28 ?_
      refine lv_iconst (v := 1) hx hb dX1_remember_31 (by decide) ?_
      refine lv_iadd hx hb dX1_remember_32 ?_
      refine g_put F inG1 tyX1 tyX1_ok nmX1 hw 0 rfl rfl 1 (by decide) t_138 (fun _ h9 => h9) rfl (ty := .int) (by decide +kernel) rfl rfl (Nat.le_of_ble_eq_true rfl) dX1_remember_33 (w' := List.flatten [wP cy p0 p1 (x14 + 1) f15 f16 f17 f18 (va_up f19 6 f41) (va_up f20 6 f42) (va_up f21 6 f43) (va_up f22 6 x44) (va_up f23 6 x45) (va_up f24 6 x46), wG cy g0 g1 g2 g3 g_many g_sets g_chalk g_wet g_harvest g_draw]) rfl (fun H locs hw => ?_)
      obtain ⟨rfl, rfl, rfl, rfl, rfl, rfl, rfl, rfl, rfl, rfl, rfl⟩ := inj11 h57
      exact hret _ _ _ _ hw dX1_remember_36
    · refine g_aald F 3 rfl hw 1 rfl k40 dX1_remember_21 ?_
      refine lv_aload_n hx hb dX1_remember_22 rfl (lv_at hl 1 rfl) ?_
      obtain ⟨f41, f42, f43, x44, x45, x46, k47, h58⟩ := ob6 h50
      clear h50
      refine g_vv F (cX0_copyGoods_ok l d cy (f15 7) (f16 7) (f17 7) (f18 7) g0 g1 g2 g3 (f19 7) (f20 7) (f21 7) (f22 7) (f23 7) (f24 7) g_many g_sets g_chalk g_wet g_harvest g_draw f41 f42 f43 x44 x45 x46 k47) cal_X0_copyGoods t_496 rfl ⟨by decide, by decide⟩ hw (w' := List.flatten [wP cy p0 p1 x14 f15 f16 f17 f18 (va_up f19 7 f41) (va_up f20 7 f42) (va_up f21 7 f43) (va_up f22 7 x44) (va_up f23 7 x45) (va_up f24 7 x46), wG cy g0 g1 g2 g3 g_many g_sets g_chalk g_wet g_harvest g_draw]) (SCut.cut (SCut.take cutP7 (SCut.take SCut.rf SCut.none))) 0 0 rfl rfl hl.1 (Nat.le_of_ble_eq_true rfl) rfl dX1_remember_23 (fun H locs hw => ?_)
      refine lv_aload_n hx hb dX1_remember_26 rfl (lv_at hl 0 rfl) ?_
      refine lv_dup hx hb dX1_remember_27 rfl ?_
      refine g_get F inG1 hw 0 rfl rfl 1 (by decide) t_138 (fun _ h9 => h9) rfl dX1_remember_28 ?_
      refine lv_iconst (v := 1) hx hb dX1_remember_31 (by decide) ?_
      refine lv_iadd hx hb dX1_remember_32 ?_
      refine g_put F inG1 tyX1 tyX1_ok nmX1 hw 0 rfl rfl 1 (by decide) t_138 (fun _ h9 => h9) rfl (ty := .int) (by decide +kernel) rfl rfl (Nat.le_of_ble_eq_true rfl) dX1_remember_33 (w' := List.flatten [wP cy p0 p1 (x14 + 1) f15 f16 f17 f18 (va_up f19 7 f41) (va_up f20 7 f42) (va_up f21 7 f43) (va_up f22 7 x44) (va_up f23 7 x45) (va_up f24 7 x46), wG cy g0 g1 g2 g3 g_many g_sets g_chalk g_wet g_harvest g_draw]) rfl (fun H locs hw => ?_)
      obtain ⟨rfl, rfl, rfl, rfl, rfl, rfl, rfl, rfl, rfl, rfl, rfl⟩ := inj11 h58
      exact hret _ _ _ _ hw dX1_remember_36
  clear h49
  refine lv_icmp_ne (tgt := 13) hx hb dX1_remember_6 (by decide) (fun c26 => ?_) (fun c26 => ?_)
  · rw [if_neg c26] at h48
    obtain ⟨rfl, rfl, rfl, rfl, rfl, rfl, rfl, rfl, rfl, rfl, rfl⟩ := inj11 h48
    exact kont25 _ _ _ hw (lv_sub hl [0, 1] rfl)
  · rw [if_pos c26] at h48
    refine lv_aload_n hx hb dX1_remember_9 rfl (lv_at hl 0 rfl) ?_
    obtain ⟨x27, f28, f29, f30, f31, f32, f33, f34, f35, f36, f37, k38, h59⟩ := ob11 h48
    clear h48
    refine g_vv F (cX1_loseOldest_ok l d cy p0 p1 p_known p_r0 p_r1 p_r2 p_r3 p_many p_sets p_chalk p_wet p_harvest p_draw x27 f28 f29 f30 f31 f32 f33 f34 f35 f36 f37 k38) cal_X1_loseOldest t_492 rfl ⟨by decide, by decide⟩ hw (w' := List.flatten [wP cy p0 p1 x27 f28 f29 f30 f31 f32 f33 f34 f35 f36 f37, wG cy g0 g1 g2 g3 g_many g_sets g_chalk g_wet g_harvest g_draw]) (SCut.cut (SCut.one (SCut.take SCut.rf (SCut.skip SCut.none)))) 0 1 rfl rfl hl.1 (Nat.le_of_ble_eq_true rfl) rfl dX1_remember_10 (fun H locs hw => ?_)
    obtain ⟨rfl, rfl, rfl, rfl, rfl, rfl, rfl, rfl, rfl, rfl, rfl⟩ := inj11 h59
    exact kont25 _ _ _ hw (lv_sub hl [0, 1] rfl)
theorem cal_X1_bringBack : CalV yX1_bringBack cX1_bringBack 2 none RX1 1 := ⟨t_549, t_547, t_548, t_40, by decide +kernel⟩
set_option maxHeartbeats 4000000 in
set_option maxRecDepth 100000 in
theorem cX1_bringBack_ok (l : Launch) (d : va_G) (cy : Nat → ClassId) (p0 p1 g0 g1 g2 g3 : Nat) (p_known : Int32) (p_r0 : Nat → Nat) (p_r1 : Nat → Nat) (p_r2 : Nat → Nat) (p_r3 : Nat → Nat) (p_many : Nat → Nat → Int32) (p_sets : Nat → Nat → Int32) (p_chalk : Nat → Nat → Int32) (p_wet : Nat → Int32) (p_harvest : Nat → Int32) (p_draw : Nat → Int32) (g_many : Nat → Int32) (g_sets : Nat → Int32) (g_chalk : Nat → Int32) (g_wet : Int32) (g_harvest : Int32) (g_draw : Int32) (p_known_r : Int32) (g_many_r : Nat → Int32) (g_sets_r : Nat → Int32) (g_chalk_r : Nat → Int32) (g_wet_r : Int32) (g_harvest_r : Int32) (g_draw_r : Int32) (h0 : fX1_bringBack p_known p_many p_sets p_chalk p_wet p_harvest p_draw g_many g_sets g_chalk g_wet g_harvest g_draw = some (p_known_r, g_many_r, g_sets_r, g_chalk_r, g_wet_r, g_harvest_r, g_draw_r)) : CV l yX1_bringBack cX1_bringBack 2 none 2 81 d cy [.ref p0, .ref g0] (List.flatten [wP cy p0 p1 p_known p_r0 p_r1 p_r2 p_r3 p_many p_sets p_chalk p_wet p_harvest p_draw, wG cy g0 g1 g2 g3 g_many g_sets g_chalk g_wet g_harvest g_draw]) (List.flatten [wP cy p0 p1 p_known_r p_r0 p_r1 p_r2 p_r3 p_many p_sets p_chalk p_wet p_harvest p_draw, wG cy g0 g1 g2 g3 g_many_r g_sets_r g_chalk_r g_wet_r g_harvest_r g_draw_r]) := by
  refine CV.of (by decide) (Nat.le_of_ble_eq_true rfl) ?_
  intro p e s m args below meth c A ls Q F hret hw hl
  have hx := F.1
  have hb := F.2.1
  have hl : lv_has ls 2 [(0, .ref p0), (1, .ref g0)] := hl
  rw [fX1_bringBack] at h0
  refine lv_aload_n hx hb dX1_bringBack_0 rfl (lv_at hl 0 rfl) ?_
  refine g_get F inG1 hw 0 rfl rfl 1 (by decide) t_138 (fun _ h9 => h9) rfl dX1_bringBack_1 ?_
  refine lv_if_le (tgt := 30) hx hb dX1_bringBack_4 (by decide) (fun c1 => ?_) (fun c1 => ?_)
  · rw [if_pos c1] at h0
    obtain ⟨rfl, rfl, rfl, rfl, rfl, rfl, rfl⟩ := inj7 h0
    exact hret _ _ _ _ hw dX1_bringBack_30
  · rw [if_neg c1] at h0
    refine lv_aload_n hx hb dX1_bringBack_7 rfl (lv_at hl 0 rfl) ?_
    refine lv_dup hx hb dX1_bringBack_8 rfl ?_
    refine g_get F inG1 hw 0 rfl rfl 1 (by decide) t_138 (fun _ h9 => h9) rfl dX1_bringBack_9 ?_
    refine lv_iconst (v := 1) hx hb dX1_bringBack_12 (by decide) ?_
    refine lv_isub hx hb dX1_bringBack_13 ?_
    refine g_put F inG1 tyX1 tyX1_ok nmX1 hw 0 rfl rfl 1 (by decide) t_138 (fun _ h9 => h9) rfl (ty := .int) (by decide +kernel) rfl rfl (Nat.le_of_ble_eq_true rfl) dX1_bringBack_14 (w' := List.flatten [wP cy p0 p1 (p_known - 1) p_r0 p_r1 p_r2 p_r3 p_many p_sets p_chalk p_wet p_harvest p_draw, wG cy g0 g1 g2 g3 g_many g_sets g_chalk g_wet g_harvest g_draw]) rfl (fun H locs hw => ?_)
    refine lv_aload_n hx hb dX1_bringBack_17 rfl (lv_at hl 1 rfl) ?_
    refine lv_aload_n hx hb dX1_bringBack_18 rfl (lv_at hl 0 rfl) ?_
    refine g_get F inG1 hw 0 rfl rfl 0 (by decide) t_137 (fun _ h9 => h9) rfl dX1_bringBack_19 ?_
    refine lv_aload_n hx hb dX1_bringBack_22 rfl (lv_at hl 0 rfl) ?_
    refine g_get F inG1 hw 0 rfl rfl 1 (by decide) t_138 (fun _ h9 => h9) rfl dX1_bringBack_23 ?_
    obtain ⟨j2, k3, h11⟩ := ob1 h0
    clear h0
    rcases ix8 k3 with rfl | rfl | rfl | rfl | rfl | rfl | rfl | rfl
    · refine g_aald F 3 rfl hw 1 rfl k3 dX1_bringBack_26 ?_
      obtain ⟨f4, f5, f6, x7, x8, x9, k10, h12⟩ := ob6 h11
      clear h11
      refine g_vv F (cX0_copyGoods_ok l d cy g0 g1 g2 g3 (p_r0 0) (p_r1 0) (p_r2 0) (p_r3 0) g_many g_sets g_chalk g_wet g_harvest g_draw (p_many 0) (p_sets 0) (p_chalk 0) (p_wet 0) (p_harvest 0) (p_draw 0) f4 f5 f6 x7 x8 x9 k10) cal_X0_copyGoods t_496 rfl ⟨by decide, by decide⟩ hw (w' := List.flatten [wP cy p0 p1 (p_known - 1) p_r0 p_r1 p_r2 p_r3 p_many p_sets p_chalk p_wet p_harvest p_draw, wG cy g0 g1 g2 g3 f4 f5 f6 x7 x8 x9]) (SCut.cut (SCut.ord [_, _] [_, _] [1, 0] (show List.Perm [1, 0] (List.range 2) by decide) rfl (SCut.take cutP0 (SCut.take SCut.rf SCut.none)))) 0 0 rfl rfl hl.1 (Nat.le_of_ble_eq_true rfl) rfl dX1_bringBack_27 (fun H locs hw => ?_)
      obtain ⟨rfl, rfl, rfl, rfl, rfl, rfl, rfl⟩ := inj7 h12
      exact hret _ _ _ _ hw dX1_bringBack_30
    · refine g_aald F 3 rfl hw 1 rfl k3 dX1_bringBack_26 ?_
      obtain ⟨f4, f5, f6, x7, x8, x9, k10, h13⟩ := ob6 h11
      clear h11
      refine g_vv F (cX0_copyGoods_ok l d cy g0 g1 g2 g3 (p_r0 1) (p_r1 1) (p_r2 1) (p_r3 1) g_many g_sets g_chalk g_wet g_harvest g_draw (p_many 1) (p_sets 1) (p_chalk 1) (p_wet 1) (p_harvest 1) (p_draw 1) f4 f5 f6 x7 x8 x9 k10) cal_X0_copyGoods t_496 rfl ⟨by decide, by decide⟩ hw (w' := List.flatten [wP cy p0 p1 (p_known - 1) p_r0 p_r1 p_r2 p_r3 p_many p_sets p_chalk p_wet p_harvest p_draw, wG cy g0 g1 g2 g3 f4 f5 f6 x7 x8 x9]) (SCut.cut (SCut.ord [_, _] [_, _] [1, 0] (show List.Perm [1, 0] (List.range 2) by decide) rfl (SCut.take cutP1 (SCut.take SCut.rf SCut.none)))) 0 0 rfl rfl hl.1 (Nat.le_of_ble_eq_true rfl) rfl dX1_bringBack_27 (fun H locs hw => ?_)
      obtain ⟨rfl, rfl, rfl, rfl, rfl, rfl, rfl⟩ := inj7 h13
      exact hret _ _ _ _ hw dX1_bringBack_30
    · refine g_aald F 3 rfl hw 1 rfl k3 dX1_bringBack_26 ?_
      obtain ⟨f4, f5, f6, x7, x8, x9, k10, h14⟩ := ob6 h11
      clear h11
      refine g_vv F (cX0_copyGoods_ok l d cy g0 g1 g2 g3 (p_r0 2) (p_r1 2) (p_r2 2) (p_r3 2) g_many g_sets g_chalk g_wet g_harvest g_draw (p_many 2) (p_sets 2) (p_chalk 2) (p_wet 2) (p_harvest 2) (p_draw 2) f4 f5 f6 x7 x8 x9 k10) cal_X0_copyGoods t_496 rfl ⟨by decide, by decide⟩ hw (w' := List.flatten [wP cy p0 p1 (p_known - 1) p_r0 p_r1 p_r2 p_r3 p_many p_sets p_chalk p_wet p_harvest p_draw, wG cy g0 g1 g2 g3 f4 f5 f6 x7 x8 x9]) (SCut.cut (SCut.ord [_, _] [_, _] [1, 0] (show List.Perm [1, 0] (List.range 2) by decide) rfl (SCut.take cutP2 (SCut.take SCut.rf SCut.none)))) 0 0 rfl rfl hl.1 (Nat.le_of_ble_eq_true rfl) rfl dX1_bringBack_27 (fun H locs hw => ?_)
      obtain ⟨rfl, rfl, rfl, rfl, rfl, rfl, rfl⟩ := inj7 h14
      exact hret _ _ _ _ hw dX1_bringBack_30
    · refine g_aald F 3 rfl hw 1 rfl k3 dX1_bringBack_26 ?_
      obtain ⟨f4, f5, f6, x7, x8, x9, k10, h15⟩ := ob6 h11
      clear h11
      refine g_vv F (cX0_copyGoods_ok l d cy g0 g1 g2 g3 (p_r0 3) (p_r1 3) (p_r2 3) (p_r3 3) g_many g_sets g_chalk g_wet g_harvest g_draw (p_many 3) (p_sets 3) (p_chalk 3) (p_wet 3) (p_harvest 3) (p_draw 3) f4 f5 f6 x7 x8 x9 k10) cal_X0_copyGoods t_496 rfl ⟨by decide, by decide⟩ hw (w' := List.flatten [wP cy p0 p1 (p_known - 1) p_r0 p_r1 p_r2 p_r3 p_many p_sets p_chalk p_wet p_harvest p_draw, wG cy g0 g1 g2 g3 f4 f5 f6 x7 x8 x9]) (SCut.cut (SCut.ord [_, _] [_, _] [1, 0] (show List.Perm [1, 0] (List.range 2) by decide) rfl (SCut.take cutP3 (SCut.take SCut.rf SCut.none)))) 0 0 rfl rfl hl.1 (Nat.le_of_ble_eq_true rfl) rfl dX1_bringBack_27 (fun H locs hw => ?_)
      obtain ⟨rfl, rfl, rfl, rfl, rfl, rfl, rfl⟩ := inj7 h15
      exact hret _ _ _ _ hw dX1_bringBack_30
    · refine g_aald F 3 rfl hw 1 rfl k3 dX1_bringBack_26 ?_
      obtain ⟨f4, f5, f6, x7, x8, x9, k10, h16⟩ := ob6 h11
      clear h11
      refine g_vv F (cX0_copyGoods_ok l d cy g0 g1 g2 g3 (p_r0 4) (p_r1 4) (p_r2 4) (p_r3 4) g_many g_sets g_chalk g_wet g_harvest g_draw (p_many 4) (p_sets 4) (p_chalk 4) (p_wet 4) (p_harvest 4) (p_draw 4) f4 f5 f6 x7 x8 x9 k10) cal_X0_copyGoods t_496 rfl ⟨by decide, by decide⟩ hw (w' := List.flatten [wP cy p0 p1 (p_known - 1) p_r0 p_r1 p_r2 p_r3 p_many p_sets p_chalk p_wet p_harvest p_draw, wG cy g0 g1 g2 g3 f4 f5 f6 x7 x8 x9]) (SCut.cut (SCut.ord [_, _] [_, _] [1, 0] (show List.Perm [1, 0] (List.range 2) by decide) rfl (SCut.take cutP4 (SCut.take SCut.rf SCut.none)))) 0 0 rfl rfl hl.1 (Nat.le_of_ble_eq_true rfl) rfl dX1_bringBack_27 (fun H locs hw => ?_)
      obtain ⟨rfl, rfl, rfl, rfl, rfl, rfl, rfl⟩ := inj7 h16
      exact hret _ _ _ _ hw dX1_bringBack_30
    · refine g_aald F 3 rfl hw 1 rfl k3 dX1_bringBack_26 ?_
      obtain ⟨f4, f5, f6, x7, x8, x9, k10, h17⟩ := ob6 h11
      clear h11
      refine g_vv F (cX0_copyGoods_ok l d cy g0 g1 g2 g3 (p_r0 5) (p_r1 5) (p_r2 5) (p_r3 5) g_many g_sets g_chalk g_wet g_harvest g_draw (p_many 5) (p_sets 5) (p_chalk 5) (p_wet 5) (p_harvest 5) (p_draw 5) f4 f5 f6 x7 x8 x9 k10) cal_X0_copyGoods t_496 rfl ⟨by decide, by decide⟩ hw (w' := List.flatten [wP cy p0 p1 (p_known - 1) p_r0 p_r1 p_r2 p_r3 p_many p_sets p_chalk p_wet p_harvest p_draw, wG cy g0 g1 g2 g3 f4 f5 f6 x7 x8 x9]) (SCut.cut (SCut.ord [_, _] [_, _] [1, 0] (show List.Perm [1, 0] (List.range 2) by decide) rfl (SCut.take cutP5 (SCut.take SCut.rf SCut.none)))) 0 0 rfl rfl hl.1 (Nat.le_of_ble_eq_true rfl) rfl dX1_bringBack_27 (fun H locs hw => ?_)
      obtain ⟨rfl, rfl, rfl, rfl, rfl, rfl, rfl⟩ := inj7 h17
      exact hret _ _ _ _ hw dX1_bringBack_30
    · refine g_aald F 3 rfl hw 1 rfl k3 dX1_bringBack_26 ?_
      obtain ⟨f4, f5, f6, x7, x8, x9, k10, h18⟩ := ob6 h11
      clear h11
      refine g_vv F (cX0_copyGoods_ok l d cy g0 g1 g2 g3 (p_r0 6) (p_r1 6) (p_r2 6) (p_r3 6) g_many g_sets g_chalk g_wet g_harvest g_draw (p_many 6) (p_sets 6) (p_chalk 6) (p_wet 6) (p_harvest 6) (p_draw 6) f4 f5 f6 x7 x8 x9 k10) cal_X0_copyGoods t_496 rfl ⟨by decide, by decide⟩ hw (w' := List.flatten [wP cy p0 p1 (p_known - 1) p_r0 p_r1 p_r2 p_r3 p_many p_sets p_chalk p_wet p_harvest p_draw, wG cy g0 g1 g2 g3 f4 f5 f6 x7 x8 x9]) (SCut.cut (SCut.ord [_, _] [_, _] [1, 0] (show List.Perm [1, 0] (List.range 2) by decide) rfl (SCut.take cutP6 (SCut.take SCut.rf SCut.none)))) 0 0 rfl rfl hl.1 (Nat.le_of_ble_eq_true rfl) rfl dX1_bringBack_27 (fun H locs hw => ?_)
      obtain ⟨rfl, rfl, rfl, rfl, rfl, rfl, rfl⟩ := inj7 h18
      exact hret _ _ _ _ hw dX1_bringBack_30
    · refine g_aald F 3 rfl hw 1 rfl k3 dX1_bringBack_26 ?_
      obtain ⟨f4, f5, f6, x7, x8, x9, k10, h19⟩ := ob6 h11
      clear h11
      refine g_vv F (cX0_copyGoods_ok l d cy g0 g1 g2 g3 (p_r0 7) (p_r1 7) (p_r2 7) (p_r3 7) g_many g_sets g_chalk g_wet g_harvest g_draw (p_many 7) (p_sets 7) (p_chalk 7) (p_wet 7) (p_harvest 7) (p_draw 7) f4 f5 f6 x7 x8 x9 k10) cal_X0_copyGoods t_496 rfl ⟨by decide, by decide⟩ hw (w' := List.flatten [wP cy p0 p1 (p_known - 1) p_r0 p_r1 p_r2 p_r3 p_many p_sets p_chalk p_wet p_harvest p_draw, wG cy g0 g1 g2 g3 f4 f5 f6 x7 x8 x9]) (SCut.cut (SCut.ord [_, _] [_, _] [1, 0] (show List.Perm [1, 0] (List.range 2) by decide) rfl (SCut.take cutP7 (SCut.take SCut.rf SCut.none)))) 0 0 rfl rfl hl.1 (Nat.le_of_ble_eq_true rfl) rfl dX1_bringBack_27 (fun H locs hw => ?_)
      obtain ⟨rfl, rfl, rfl, rfl, rfl, rfl, rfl⟩ := inj7 h19
      exact hret _ _ _ _ hw dX1_bringBack_30
theorem cal_X1_copyPast : CalV yX1_copyPast cX1_copyPast 3 none RX1 1 := ⟨t_657, t_655, t_656, t_40, by decide +kernel⟩
set_option maxHeartbeats 4000000 in
set_option maxRecDepth 100000 in
theorem cX1_copyPast_ok (l : Launch) (d : va_G) (cy : Nat → ClassId) (p0 p1 o0 o1 : Nat) (p_known : Int32) (p_r0 : Nat → Nat) (p_r1 : Nat → Nat) (p_r2 : Nat → Nat) (p_r3 : Nat → Nat) (p_many : Nat → Nat → Int32) (p_sets : Nat → Nat → Int32) (p_chalk : Nat → Nat → Int32) (p_wet : Nat → Int32) (p_harvest : Nat → Int32) (p_draw : Nat → Int32) (o_known : Int32) (o_r0 : Nat → Nat) (o_r1 : Nat → Nat) (o_r2 : Nat → Nat) (o_r3 : Nat → Nat) (o_many : Nat → Nat → Int32) (o_sets : Nat → Nat → Int32) (o_chalk : Nat → Nat → Int32) (o_wet : Nat → Int32) (o_harvest : Nat → Int32) (o_draw : Nat → Int32) (p_known_r : Int32) (p_many_r : Nat → Nat → Int32) (p_sets_r : Nat → Nat → Int32) (p_chalk_r : Nat → Nat → Int32) (p_wet_r : Nat → Int32) (p_harvest_r : Nat → Int32) (p_draw_r : Nat → Int32) (h0 : fX1_copyPast p_many p_sets p_chalk p_wet p_harvest p_draw o_known o_many o_sets o_chalk o_wet o_harvest o_draw = some (p_known_r, p_many_r, p_sets_r, p_chalk_r, p_wet_r, p_harvest_r, p_draw_r)) : CV l yX1_copyPast cX1_copyPast 3 none 2 81 d cy [.ref p0, .ref o0] (List.flatten [wP cy p0 p1 p_known p_r0 p_r1 p_r2 p_r3 p_many p_sets p_chalk p_wet p_harvest p_draw, wP cy o0 o1 o_known o_r0 o_r1 o_r2 o_r3 o_many o_sets o_chalk o_wet o_harvest o_draw]) (List.flatten [wP cy p0 p1 p_known_r p_r0 p_r1 p_r2 p_r3 p_many_r p_sets_r p_chalk_r p_wet_r p_harvest_r p_draw_r, wP cy o0 o1 o_known o_r0 o_r1 o_r2 o_r3 o_many o_sets o_chalk o_wet o_harvest o_draw]) := by
  refine CV.of (by decide) (Nat.le_of_ble_eq_true rfl) ?_
  intro p e s m args below meth c A ls Q F hret hw hl
  have hx := F.1
  have hb := F.2.1
  have hl : lv_has ls 3 [(0, .ref p0), (1, .ref o0)] := hl
  rw [fX1_copyPast] at h0
  refine lv_aload_n hx hb dX1_copyPast_0 rfl (lv_at hl 0 rfl) ?_
  refine lv_aload_n hx hb dX1_copyPast_1 rfl (lv_at hl 1 rfl) ?_
  refine g_get F inG1 hw 34 rfl rfl 1 (by decide) t_138 (fun _ h9 => h9) rfl dX1_copyPast_2 ?_
  refine g_put F inG1 tyX1 tyX1_ok nmX1 hw 0 rfl rfl 1 (by decide) t_138 (fun _ h9 => h9) rfl (ty := .int) (by decide +kernel) rfl rfl (Nat.le_of_ble_eq_true rfl) dX1_copyPast_5 (w' := List.flatten [wP cy p0 p1 o_known p_r0 p_r1 p_r2 p_r3 p_many p_sets p_chalk p_wet p_harvest p_draw, wP cy o0 o1 o_known o_r0 o_r1 o_r2 o_r3 o_many o_sets o_chalk o_wet o_harvest o_draw]) rfl (fun H locs hw => ?_)
  refine lv_iconst (v := 0) hx hb dX1_copyPast_8 (by decide) ?_
  refine lv_istore_n (lv' := [(2, .int 0), (0, .ref p0), (1, .ref o0)]) hx hb dX1_copyPast_9 rfl hl (by decide) rfl (fun ls hl => ?_)
  obtain ⟨q38, q39, q40, q41, q42, q43, h54, h55⟩ := ob6 h0
  clear h0
  have kont35 : ∀ (H : Heap) (locs : List Loc) (ls : Array Slot), Wd d A s.heap (List.flatten [wP cy p0 p1 o_known p_r0 p_r1 p_r2 p_r3 q38 q39 q40 q41 q42 q43, wP cy o0 o1 o_known o_r0 o_r1 o_r2 o_r3 o_many o_sets o_chalk o_wet o_harvest o_draw]) H locs → lv_has ls 3 [] → W p l e (rmo 2 81) s m args below meth c H locs 0 0 Q (F0 m 39 ls []) := by
    intro H locs ls hw hl
    clear h54
    obtain ⟨rfl, rfl, rfl, rfl, rfl, rfl, rfl⟩ := inj7 h55
    exact hret _ _ _ _ hw dX1_copyPast_39
  clear h55
  have loop37 : ∀ (n : Nat) (v28 : Int32) (g29 : Nat → Nat → Int32) (g30 : Nat → Int32) (g31 : Nat → Int32) (g32 : Nat → Nat → Int32) (g33 : Nat → Nat → Int32) (g34 : Nat → Int32) (H : Heap) (locs : List Loc) (ls : Array Slot), Wd d A s.heap (List.flatten [wP cy p0 p1 o_known p_r0 p_r1 p_r2 p_r3 g32 g33 g29 g34 g31 g30, wP cy o0 o1 o_known o_r0 o_r1 o_r2 o_r3 o_many o_sets o_chalk o_wet o_harvest o_draw]) H locs → lv_has ls 3 [(0, .ref p0), (1, .ref o0), (2, .int v28)] → fX1_copyPast_L10 o_chalk o_draw o_harvest o_known o_many o_sets o_wet n v28 g29 g30 g31 g32 g33 g34 = some (q38, q39, q40, q41, q42, q43) → W p l e (rmo 2 81) s m args below meth c H locs 0 0 Q (F0 m 10 ls []) := by
    intro n
    induction n with
    | zero =>
      intro v28 g29 g30 g31 g32 g33 g34 H locs ls hw hl h56
      rw [fX1_copyPast_L10] at h56
      cases h56
    | succ n ih36 =>
      intro v28 g29 g30 g31 g32 g33 g34 H locs ls hw hl h57
      rw [fX1_copyPast_L10] at h57
      refine lv_iload_n hx hb dX1_copyPast_10 rfl (lv_at hl 2 rfl) ?_
      refine lv_aload_n hx hb dX1_copyPast_11 rfl (lv_at hl 0 rfl) ?_
      refine g_get F inG1 hw 0 rfl rfl 1 (by decide) t_138 (fun _ h9 => h9) rfl dX1_copyPast_12 ?_
      refine lv_icmp_ge (tgt := 39) hx hb dX1_copyPast_15 (by decide) (fun c44 => ?_) (fun c44 => ?_)
      · rw [if_pos c44] at h57
        obtain ⟨rfl, rfl, rfl, rfl, rfl, rfl⟩ := inj6 h57
        exact kont35 _ _ _ hw (lv_sub hl [] rfl)
      · rw [if_neg c44] at h57
        refine lv_aload_n hx hb dX1_copyPast_18 rfl (lv_at hl 0 rfl) ?_
        refine g_get F inG1 hw 0 rfl rfl 0 (by decide) t_137 (fun _ h9 => h9) rfl dX1_copyPast_19 ?_
        refine lv_iload_n hx hb dX1_copyPast_22 rfl (lv_at hl 2 rfl) ?_
        obtain ⟨j45, k46, h58⟩ := ob1 h57
        clear h57
        rcases ix8 k46 with rfl | rfl | rfl | rfl | rfl | rfl | rfl | rfl
        · refine g_aald F 3 rfl hw 1 rfl k46 dX1_copyPast_23 ?_
          refine lv_aload_n hx hb dX1_copyPast_24 rfl (lv_at hl 1 rfl) ?_
          refine g_get F inG1 hw 34 rfl rfl 0 (by decide) t_137 (fun _ h9 => h9) rfl dX1_copyPast_25 ?_
          refine lv_iload_n hx hb dX1_copyPast_28 rfl (lv_at hl 2 rfl) ?_
          refine g_aald F 3 rfl hw 35 rfl k46 dX1_copyPast_29 ?_
          obtain ⟨f47, f48, f49, x50, x51, x52, k53, h59⟩ := ob6 h58
          clear h58
          refine g_vv F (cX0_copyGoods_ok l d cy (p_r0 0) (p_r1 0) (p_r2 0) (p_r3 0) (o_r0 0) (o_r1 0) (o_r2 0) (o_r3 0) (g32 0) (g33 0) (g29 0) (g34 0) (g31 0) (g30 0) (o_many 0) (o_sets 0) (o_chalk 0) (o_wet 0) (o_harvest 0) (o_draw 0) f47 f48 f49 x50 x51 x52 k53) cal_X0_copyGoods t_496 rfl ⟨by decide, by decide⟩ hw (w' := List.flatten [wP cy p0 p1 o_known p_r0 p_r1 p_r2 p_r3 (va_up g32 0 f47) (va_up g33 0 f48) (va_up g29 0 f49) (va_up g34 0 x50) (va_up g31 0 x51) (va_up g30 0 x52), wP cy o0 o1 o_known o_r0 o_r1 o_r2 o_r3 o_many o_sets o_chalk o_wet o_harvest o_draw]) (SCut.cut (SCut.take cutP0 (SCut.take cutP0 SCut.none))) 0 0 rfl rfl hl.1 (Nat.le_of_ble_eq_true rfl) rfl dX1_copyPast_30 (fun H locs hw => ?_)
          refine lv_iinc (v := (v28 + 1)) (lv' := [(2, .int (v28 + 1)), (0, .ref p0), (1, .ref o0)]) hx hb dX1_copyPast_33 hl (k := 2) rfl rfl (by decide) rfl (fun ls hl => ?_)
          refine lv_goto (tgt := 10) hx hb dX1_copyPast_36 (by decide) ?_
          exact ih36 (v28 + 1) (va_up g29 0 f49) (va_up g30 0 x52) (va_up g31 0 x51) (va_up g32 0 f47) (va_up g33 0 f48) (va_up g34 0 x50) _ _ _ hw (lv_sub hl [1, 2, 0] rfl) h59
        · refine g_aald F 3 rfl hw 1 rfl k46 dX1_copyPast_23 ?_
          refine lv_aload_n hx hb dX1_copyPast_24 rfl (lv_at hl 1 rfl) ?_
          refine g_get F inG1 hw 34 rfl rfl 0 (by decide) t_137 (fun _ h9 => h9) rfl dX1_copyPast_25 ?_
          refine lv_iload_n hx hb dX1_copyPast_28 rfl (lv_at hl 2 rfl) ?_
          refine g_aald F 3 rfl hw 35 rfl k46 dX1_copyPast_29 ?_
          obtain ⟨f47, f48, f49, x50, x51, x52, k53, h60⟩ := ob6 h58
          clear h58
          refine g_vv F (cX0_copyGoods_ok l d cy (p_r0 1) (p_r1 1) (p_r2 1) (p_r3 1) (o_r0 1) (o_r1 1) (o_r2 1) (o_r3 1) (g32 1) (g33 1) (g29 1) (g34 1) (g31 1) (g30 1) (o_many 1) (o_sets 1) (o_chalk 1) (o_wet 1) (o_harvest 1) (o_draw 1) f47 f48 f49 x50 x51 x52 k53) cal_X0_copyGoods t_496 rfl ⟨by decide, by decide⟩ hw (w' := List.flatten [wP cy p0 p1 o_known p_r0 p_r1 p_r2 p_r3 (va_up g32 1 f47) (va_up g33 1 f48) (va_up g29 1 f49) (va_up g34 1 x50) (va_up g31 1 x51) (va_up g30 1 x52), wP cy o0 o1 o_known o_r0 o_r1 o_r2 o_r3 o_many o_sets o_chalk o_wet o_harvest o_draw]) (SCut.cut (SCut.take cutP1 (SCut.take cutP1 SCut.none))) 0 0 rfl rfl hl.1 (Nat.le_of_ble_eq_true rfl) rfl dX1_copyPast_30 (fun H locs hw => ?_)
          refine lv_iinc (v := (v28 + 1)) (lv' := [(2, .int (v28 + 1)), (0, .ref p0), (1, .ref o0)]) hx hb dX1_copyPast_33 hl (k := 2) rfl rfl (by decide) rfl (fun ls hl => ?_)
          refine lv_goto (tgt := 10) hx hb dX1_copyPast_36 (by decide) ?_
          exact ih36 (v28 + 1) (va_up g29 1 f49) (va_up g30 1 x52) (va_up g31 1 x51) (va_up g32 1 f47) (va_up g33 1 f48) (va_up g34 1 x50) _ _ _ hw (lv_sub hl [1, 2, 0] rfl) h60
        · refine g_aald F 3 rfl hw 1 rfl k46 dX1_copyPast_23 ?_
          refine lv_aload_n hx hb dX1_copyPast_24 rfl (lv_at hl 1 rfl) ?_
          refine g_get F inG1 hw 34 rfl rfl 0 (by decide) t_137 (fun _ h9 => h9) rfl dX1_copyPast_25 ?_
          refine lv_iload_n hx hb dX1_copyPast_28 rfl (lv_at hl 2 rfl) ?_
          refine g_aald F 3 rfl hw 35 rfl k46 dX1_copyPast_29 ?_
          obtain ⟨f47, f48, f49, x50, x51, x52, k53, h61⟩ := ob6 h58
          clear h58
          refine g_vv F (cX0_copyGoods_ok l d cy (p_r0 2) (p_r1 2) (p_r2 2) (p_r3 2) (o_r0 2) (o_r1 2) (o_r2 2) (o_r3 2) (g32 2) (g33 2) (g29 2) (g34 2) (g31 2) (g30 2) (o_many 2) (o_sets 2) (o_chalk 2) (o_wet 2) (o_harvest 2) (o_draw 2) f47 f48 f49 x50 x51 x52 k53) cal_X0_copyGoods t_496 rfl ⟨by decide, by decide⟩ hw (w' := List.flatten [wP cy p0 p1 o_known p_r0 p_r1 p_r2 p_r3 (va_up g32 2 f47) (va_up g33 2 f48) (va_up g29 2 f49) (va_up g34 2 x50) (va_up g31 2 x51) (va_up g30 2 x52), wP cy o0 o1 o_known o_r0 o_r1 o_r2 o_r3 o_many o_sets o_chalk o_wet o_harvest o_draw]) (SCut.cut (SCut.take cutP2 (SCut.take cutP2 SCut.none))) 0 0 rfl rfl hl.1 (Nat.le_of_ble_eq_true rfl) rfl dX1_copyPast_30 (fun H locs hw => ?_)
          refine lv_iinc (v := (v28 + 1)) (lv' := [(2, .int (v28 + 1)), (0, .ref p0), (1, .ref o0)]) hx hb dX1_copyPast_33 hl (k := 2) rfl rfl (by decide) rfl (fun ls hl => ?_)
          refine lv_goto (tgt := 10) hx hb dX1_copyPast_36 (by decide) ?_
          exact ih36 (v28 + 1) (va_up g29 2 f49) (va_up g30 2 x52) (va_up g31 2 x51) (va_up g32 2 f47) (va_up g33 2 f48) (va_up g34 2 x50) _ _ _ hw (lv_sub hl [1, 2, 0] rfl) h61
        · refine g_aald F 3 rfl hw 1 rfl k46 dX1_copyPast_23 ?_
          refine lv_aload_n hx hb dX1_copyPast_24 rfl (lv_at hl 1 rfl) ?_
          refine g_get F inG1 hw 34 rfl rfl 0 (by decide) t_137 (fun _ h9 => h9) rfl dX1_copyPast_25 ?_
          refine lv_iload_n hx hb dX1_copyPast_28 rfl (lv_at hl 2 rfl) ?_
          refine g_aald F 3 rfl hw 35 rfl k46 dX1_copyPast_29 ?_
          obtain ⟨f47, f48, f49, x50, x51, x52, k53, h62⟩ := ob6 h58
          clear h58
          refine g_vv F (cX0_copyGoods_ok l d cy (p_r0 3) (p_r1 3) (p_r2 3) (p_r3 3) (o_r0 3) (o_r1 3) (o_r2 3) (o_r3 3) (g32 3) (g33 3) (g29 3) (g34 3) (g31 3) (g30 3) (o_many 3) (o_sets 3) (o_chalk 3) (o_wet 3) (o_harvest 3) (o_draw 3) f47 f48 f49 x50 x51 x52 k53) cal_X0_copyGoods t_496 rfl ⟨by decide, by decide⟩ hw (w' := List.flatten [wP cy p0 p1 o_known p_r0 p_r1 p_r2 p_r3 (va_up g32 3 f47) (va_up g33 3 f48) (va_up g29 3 f49) (va_up g34 3 x50) (va_up g31 3 x51) (va_up g30 3 x52), wP cy o0 o1 o_known o_r0 o_r1 o_r2 o_r3 o_many o_sets o_chalk o_wet o_harvest o_draw]) (SCut.cut (SCut.take cutP3 (SCut.take cutP3 SCut.none))) 0 0 rfl rfl hl.1 (Nat.le_of_ble_eq_true rfl) rfl dX1_copyPast_30 (fun H locs hw => ?_)
          refine lv_iinc (v := (v28 + 1)) (lv' := [(2, .int (v28 + 1)), (0, .ref p0), (1, .ref o0)]) hx hb dX1_copyPast_33 hl (k := 2) rfl rfl (by decide) rfl (fun ls hl => ?_)
          refine lv_goto (tgt := 10) hx hb dX1_copyPast_36 (by decide) ?_
          exact ih36 (v28 + 1) (va_up g29 3 f49) (va_up g30 3 x52) (va_up g31 3 x51) (va_up g32 3 f47) (va_up g33 3 f48) (va_up g34 3 x50) _ _ _ hw (lv_sub hl [1, 2, 0] rfl) h62
        · refine g_aald F 3 rfl hw 1 rfl k46 dX1_copyPast_23 ?_
          refine lv_aload_n hx hb dX1_copyPast_24 rfl (lv_at hl 1 rfl) ?_
          refine g_get F inG1 hw 34 rfl rfl 0 (by decide) t_137 (fun _ h9 => h9) rfl dX1_copyPast_25 ?_
          refine lv_iload_n hx hb dX1_copyPast_28 rfl (lv_at hl 2 rfl) ?_
          refine g_aald F 3 rfl hw 35 rfl k46 dX1_copyPast_29 ?_
          obtain ⟨f47, f48, f49, x50, x51, x52, k53, h63⟩ := ob6 h58
          clear h58
          refine g_vv F (cX0_copyGoods_ok l d cy (p_r0 4) (p_r1 4) (p_r2 4) (p_r3 4) (o_r0 4) (o_r1 4) (o_r2 4) (o_r3 4) (g32 4) (g33 4) (g29 4) (g34 4) (g31 4) (g30 4) (o_many 4) (o_sets 4) (o_chalk 4) (o_wet 4) (o_harvest 4) (o_draw 4) f47 f48 f49 x50 x51 x52 k53) cal_X0_copyGoods t_496 rfl ⟨by decide, by decide⟩ hw (w' := List.flatten [wP cy p0 p1 o_known p_r0 p_r1 p_r2 p_r3 (va_up g32 4 f47) (va_up g33 4 f48) (va_up g29 4 f49) (va_up g34 4 x50) (va_up g31 4 x51) (va_up g30 4 x52), wP cy o0 o1 o_known o_r0 o_r1 o_r2 o_r3 o_many o_sets o_chalk o_wet o_harvest o_draw]) (SCut.cut (SCut.take cutP4 (SCut.take cutP4 SCut.none))) 0 0 rfl rfl hl.1 (Nat.le_of_ble_eq_true rfl) rfl dX1_copyPast_30 (fun H locs hw => ?_)
          refine lv_iinc (v := (v28 + 1)) (lv' := [(2, .int (v28 + 1)), (0, .ref p0), (1, .ref o0)]) hx hb dX1_copyPast_33 hl (k := 2) rfl rfl (by decide) rfl (fun ls hl => ?_)
          refine lv_goto (tgt := 10) hx hb dX1_copyPast_36 (by decide) ?_
          exact ih36 (v28 + 1) (va_up g29 4 f49) (va_up g30 4 x52) (va_up g31 4 x51) (va_up g32 4 f47) (va_up g33 4 f48) (va_up g34 4 x50) _ _ _ hw (lv_sub hl [1, 2, 0] rfl) h63
        · refine g_aald F 3 rfl hw 1 rfl k46 dX1_copyPast_23 ?_
          refine lv_aload_n hx hb dX1_copyPast_24 rfl (lv_at hl 1 rfl) ?_
          refine g_get F inG1 hw 34 rfl rfl 0 (by decide) t_137 (fun _ h9 => h9) rfl dX1_copyPast_25 ?_
          refine lv_iload_n hx hb dX1_copyPast_28 rfl (lv_at hl 2 rfl) ?_
          refine g_aald F 3 rfl hw 35 rfl k46 dX1_copyPast_29 ?_
          obtain ⟨f47, f48, f49, x50, x51, x52, k53, h64⟩ := ob6 h58
          clear h58
          refine g_vv F (cX0_copyGoods_ok l d cy (p_r0 5) (p_r1 5) (p_r2 5) (p_r3 5) (o_r0 5) (o_r1 5) (o_r2 5) (o_r3 5) (g32 5) (g33 5) (g29 5) (g34 5) (g31 5) (g30 5) (o_many 5) (o_sets 5) (o_chalk 5) (o_wet 5) (o_harvest 5) (o_draw 5) f47 f48 f49 x50 x51 x52 k53) cal_X0_copyGoods t_496 rfl ⟨by decide, by decide⟩ hw (w' := List.flatten [wP cy p0 p1 o_known p_r0 p_r1 p_r2 p_r3 (va_up g32 5 f47) (va_up g33 5 f48) (va_up g29 5 f49) (va_up g34 5 x50) (va_up g31 5 x51) (va_up g30 5 x52), wP cy o0 o1 o_known o_r0 o_r1 o_r2 o_r3 o_many o_sets o_chalk o_wet o_harvest o_draw]) (SCut.cut (SCut.take cutP5 (SCut.take cutP5 SCut.none))) 0 0 rfl rfl hl.1 (Nat.le_of_ble_eq_true rfl) rfl dX1_copyPast_30 (fun H locs hw => ?_)
          refine lv_iinc (v := (v28 + 1)) (lv' := [(2, .int (v28 + 1)), (0, .ref p0), (1, .ref o0)]) hx hb dX1_copyPast_33 hl (k := 2) rfl rfl (by decide) rfl (fun ls hl => ?_)
          refine lv_goto (tgt := 10) hx hb dX1_copyPast_36 (by decide) ?_
          exact ih36 (v28 + 1) (va_up g29 5 f49) (va_up g30 5 x52) (va_up g31 5 x51) (va_up g32 5 f47) (va_up g33 5 f48) (va_up g34 5 x50) _ _ _ hw (lv_sub hl [1, 2, 0] rfl) h64
        · refine g_aald F 3 rfl hw 1 rfl k46 dX1_copyPast_23 ?_
          refine lv_aload_n hx hb dX1_copyPast_24 rfl (lv_at hl 1 rfl) ?_
          refine g_get F inG1 hw 34 rfl rfl 0 (by decide) t_137 (fun _ h9 => h9) rfl dX1_copyPast_25 ?_
          refine lv_iload_n hx hb dX1_copyPast_28 rfl (lv_at hl 2 rfl) ?_
          refine g_aald F 3 rfl hw 35 rfl k46 dX1_copyPast_29 ?_
          obtain ⟨f47, f48, f49, x50, x51, x52, k53, h65⟩ := ob6 h58
          clear h58
          refine g_vv F (cX0_copyGoods_ok l d cy (p_r0 6) (p_r1 6) (p_r2 6) (p_r3 6) (o_r0 6) (o_r1 6) (o_r2 6) (o_r3 6) (g32 6) (g33 6) (g29 6) (g34 6) (g31 6) (g30 6) (o_many 6) (o_sets 6) (o_chalk 6) (o_wet 6) (o_harvest 6) (o_draw 6) f47 f48 f49 x50 x51 x52 k53) cal_X0_copyGoods t_496 rfl ⟨by decide, by decide⟩ hw (w' := List.flatten [wP cy p0 p1 o_known p_r0 p_r1 p_r2 p_r3 (va_up g32 6 f47) (va_up g33 6 f48) (va_up g29 6 f49) (va_up g34 6 x50) (va_up g31 6 x51) (va_up g30 6 x52), wP cy o0 o1 o_known o_r0 o_r1 o_r2 o_r3 o_many o_sets o_chalk o_wet o_harvest o_draw]) (SCut.cut (SCut.take cutP6 (SCut.take cutP6 SCut.none))) 0 0 rfl rfl hl.1 (Nat.le_of_ble_eq_true rfl) rfl dX1_copyPast_30 (fun H locs hw => ?_)
          refine lv_iinc (v := (v28 + 1)) (lv' := [(2, .int (v28 + 1)), (0, .ref p0), (1, .ref o0)]) hx hb dX1_copyPast_33 hl (k := 2) rfl rfl (by decide) rfl (fun ls hl => ?_)
          refine lv_goto (tgt := 10) hx hb dX1_copyPast_36 (by decide) ?_
          exact ih36 (v28 + 1) (va_up g29 6 f49) (va_up g30 6 x52) (va_up g31 6 x51) (va_up g32 6 f47) (va_up g33 6 f48) (va_up g34 6 x50) _ _ _ hw (lv_sub hl [1, 2, 0] rfl) h65
        · refine g_aald F 3 rfl hw 1 rfl k46 dX1_copyPast_23 ?_
          refine lv_aload_n hx hb dX1_copyPast_24 rfl (lv_at hl 1 rfl) ?_
          refine g_get F inG1 hw 34 rfl rfl 0 (by decide) t_137 (fun _ h9 => h9) rfl dX1_copyPast_25 ?_
          refine lv_iload_n hx hb dX1_copyPast_28 rfl (lv_at hl 2 rfl) ?_
          refine g_aald F 3 rfl hw 35 rfl k46 dX1_copyPast_29 ?_
          obtain ⟨f47, f48, f49, x50, x51, x52, k53, h66⟩ := ob6 h58
          clear h58
          refine g_vv F (cX0_copyGoods_ok l d cy (p_r0 7) (p_r1 7) (p_r2 7) (p_r3 7) (o_r0 7) (o_r1 7) (o_r2 7) (o_r3 7) (g32 7) (g33 7) (g29 7) (g34 7) (g31 7) (g30 7) (o_many 7) (o_sets 7) (o_chalk 7) (o_wet 7) (o_harvest 7) (o_draw 7) f47 f48 f49 x50 x51 x52 k53) cal_X0_copyGoods t_496 rfl ⟨by decide, by decide⟩ hw (w' := List.flatten [wP cy p0 p1 o_known p_r0 p_r1 p_r2 p_r3 (va_up g32 7 f47) (va_up g33 7 f48) (va_up g29 7 f49) (va_up g34 7 x50) (va_up g31 7 x51) (va_up g30 7 x52), wP cy o0 o1 o_known o_r0 o_r1 o_r2 o_r3 o_many o_sets o_chalk o_wet o_harvest o_draw]) (SCut.cut (SCut.take cutP7 (SCut.take cutP7 SCut.none))) 0 0 rfl rfl hl.1 (Nat.le_of_ble_eq_true rfl) rfl dX1_copyPast_30 (fun H locs hw => ?_)
          refine lv_iinc (v := (v28 + 1)) (lv' := [(2, .int (v28 + 1)), (0, .ref p0), (1, .ref o0)]) hx hb dX1_copyPast_33 hl (k := 2) rfl rfl (by decide) rfl (fun ls hl => ?_)
          refine lv_goto (tgt := 10) hx hb dX1_copyPast_36 (by decide) ?_
          exact ih36 (v28 + 1) (va_up g29 7 f49) (va_up g30 7 x52) (va_up g31 7 x51) (va_up g32 7 f47) (va_up g33 7 f48) (va_up g34 7 x50) _ _ _ hw (lv_sub hl [1, 2, 0] rfl) h66
  exact loop37 fl 0 p_chalk p_draw p_harvest p_many p_sets p_wet _ _ _ hw (lv_sub hl [1, 2, 0] rfl) h54
