theorem t_40 : (Cond.initialized "SundayMarket$Past") ∈ gtbl := wd 40 (by decide +kernel) (by decide +kernel)
theorem t_137 : (Cond.fieldLink "SundayMarket$Past" 11 "SundayMarket$Past" "rows" "[LSundayMarket$Goods;") ∈ gtbl := wd 137 (by decide +kernel) (by decide +kernel)
theorem t_138 : (Cond.fieldLink "SundayMarket$Past" 17 "SundayMarket$Past" "known" "I") ∈ gtbl := wd 138 (by decide +kernel) (by decide +kernel)
theorem t_493 : (Cond.instanceMethod yX1_loseOldest) ∈ gtbl := wd 493 (by decide +kernel) (by decide +kernel)
theorem t_494 : (Cond.selects "SundayMarket$Past" yX1_loseOldest yX1_loseOldest) ∈ gtbl := wd 494 (by decide +kernel) (by decide +kernel)
theorem t_495 : (Cond.code yX1_loseOldest prog_3_method_5_code 3 none) ∈ gtbl := wd 495 (by decide +kernel) (by decide +kernel)
def rot8 {α : Type} (f : Nat → α) : Nat → α := fun i => if i = 7 then f 0 else if i < 7 then f (i + 1) else f i
def fX1_loseOldest (p_r0 : Nat → Nat) (p_r1 : Nat → Nat) (p_r2 : Nat → Nat) (p_r3 : Nat → Nat) (p_many : Nat → Nat → Int32) (p_sets : Nat → Nat → Int32) (p_chalk : Nat → Nat → Int32) (p_wet : Nat → Int32) (p_harvest : Nat → Int32) (p_draw : Nat → Int32) : Option (Int32 × (Nat → Nat) × (Nat → Nat) × (Nat → Nat) × (Nat → Nat) × (Nat → Nat → Int32) × (Nat → Nat → Int32) × (Nat → Nat → Int32) × (Nat → Int32) × (Nat → Int32) × (Nat → Int32)) := some (7, rot8 p_r0, rot8 p_r1, rot8 p_r2, rot8 p_r3, rot8 p_many, rot8 p_sets, rot8 p_chalk, rot8 p_wet, rot8 p_harvest, rot8 p_draw)
def wPg (cy : Nat → ClassId) (g : Nat → Option Nat) (a0 a1 : Nat) (known : Int32) (r0 : Nat → Nat) (r1 : Nat → Nat) (r2 : Nat → Nat) (r3 : Nat → Nat) (many : Nat → Nat → Int32) (sets : Nat → Nat → Int32) (chalk : Nat → Nat → Int32) (wet : Nat → Int32) (harvest : Nat → Int32) (draw : Nat → Int32) : va_W := [(a0, .inr (1, [.ref a1, .int known])), (a1, .inl (cy 3, 8, .inr (.inr (.inr (.inr g))))), (r0 0, .inr (0, [.ref (r1 0), .ref (r2 0), .ref (r3 0), .int (wet 0), .int (harvest 0), .int (draw 0)])), (r1 0, .inl (cy 0, 72, .inl (many 0))), (r2 0, .inl (cy 0, 6, .inl (sets 0))), (r3 0, .inl (cy 0, 6, .inl (chalk 0))), (r0 1, .inr (0, [.ref (r1 1), .ref (r2 1), .ref (r3 1), .int (wet 1), .int (harvest 1), .int (draw 1)])), (r1 1, .inl (cy 0, 72, .inl (many 1))), (r2 1, .inl (cy 0, 6, .inl (sets 1))), (r3 1, .inl (cy 0, 6, .inl (chalk 1))), (r0 2, .inr (0, [.ref (r1 2), .ref (r2 2), .ref (r3 2), .int (wet 2), .int (harvest 2), .int (draw 2)])), (r1 2, .inl (cy 0, 72, .inl (many 2))), (r2 2, .inl (cy 0, 6, .inl (sets 2))), (r3 2, .inl (cy 0, 6, .inl (chalk 2))), (r0 3, .inr (0, [.ref (r1 3), .ref (r2 3), .ref (r3 3), .int (wet 3), .int (harvest 3), .int (draw 3)])), (r1 3, .inl (cy 0, 72, .inl (many 3))), (r2 3, .inl (cy 0, 6, .inl (sets 3))), (r3 3, .inl (cy 0, 6, .inl (chalk 3))), (r0 4, .inr (0, [.ref (r1 4), .ref (r2 4), .ref (r3 4), .int (wet 4), .int (harvest 4), .int (draw 4)])), (r1 4, .inl (cy 0, 72, .inl (many 4))), (r2 4, .inl (cy 0, 6, .inl (sets 4))), (r3 4, .inl (cy 0, 6, .inl (chalk 4))), (r0 5, .inr (0, [.ref (r1 5), .ref (r2 5), .ref (r3 5), .int (wet 5), .int (harvest 5), .int (draw 5)])), (r1 5, .inl (cy 0, 72, .inl (many 5))), (r2 5, .inl (cy 0, 6, .inl (sets 5))), (r3 5, .inl (cy 0, 6, .inl (chalk 5))), (r0 6, .inr (0, [.ref (r1 6), .ref (r2 6), .ref (r3 6), .int (wet 6), .int (harvest 6), .int (draw 6)])), (r1 6, .inl (cy 0, 72, .inl (many 6))), (r2 6, .inl (cy 0, 6, .inl (sets 6))), (r3 6, .inl (cy 0, 6, .inl (chalk 6))), (r0 7, .inr (0, [.ref (r1 7), .ref (r2 7), .ref (r3 7), .int (wet 7), .int (harvest 7), .int (draw 7)])), (r1 7, .inl (cy 0, 72, .inl (many 7))), (r2 7, .inl (cy 0, 6, .inl (sets 7))), (r3 7, .inl (cy 0, 6, .inl (chalk 7)))]
theorem rot_c (p_r0 : Nat → Nat) : (va_up (va_up (va_up (va_up (va_up (va_up (va_up (va_up (fun i => some (p_r0 i)) 0 (some (p_r0 1))) 1 (some (p_r0 2))) 2 (some (p_r0 3))) 3 (some (p_r0 4))) 4 (some (p_r0 5))) 5 (some (p_r0 6))) 6 (some (p_r0 7))) 7 (some (p_r0 0))) = fun i => some (rot8 p_r0 i) := by
  funext i
  rcases Nat.lt_or_ge i 8 with h | h
  · have h2 : i = 0 ∨ i = 1 ∨ i = 2 ∨ i = 3 ∨ i = 4 ∨ i = 5 ∨ i = 6 ∨ i = 7 := by omega
    rcases h2 with rfl | rfl | rfl | rfl | rfl | rfl | rfl | rfl <;> rfl
  · simp [va_up, rot8, show ¬ i = 0 by omega, show ¬ i = 1 by omega, show ¬ i = 2 by omega, show ¬ i = 3 by omega, show ¬ i = 4 by omega, show ¬ i = 5 by omega, show ¬ i = 6 by omega, show ¬ i = 7 by omega, show ¬ i < 7 by omega]
theorem cal_X1_loseOldest : CalV yX1_loseOldest cX1_loseOldest 3 none RX1 0 := ⟨t_495, t_493, t_494, t_40, by decide +kernel⟩
set_option maxHeartbeats 4000000 in
set_option maxRecDepth 100000 in
theorem cX1_loseOldest_ok (l : Launch) (d : va_G) (cy : Nat → ClassId) (p0 p1 : Nat) (p_known : Int32) (p_r0 : Nat → Nat) (p_r1 : Nat → Nat) (p_r2 : Nat → Nat) (p_r3 : Nat → Nat) (p_many : Nat → Nat → Int32) (p_sets : Nat → Nat → Int32) (p_chalk : Nat → Nat → Int32) (p_wet : Nat → Int32) (p_harvest : Nat → Int32) (p_draw : Nat → Int32) (p_known_r : Int32) (p_r0_r : Nat → Nat) (p_r1_r : Nat → Nat) (p_r2_r : Nat → Nat) (p_r3_r : Nat → Nat) (p_many_r : Nat → Nat → Int32) (p_sets_r : Nat → Nat → Int32) (p_chalk_r : Nat → Nat → Int32) (p_wet_r : Nat → Int32) (p_harvest_r : Nat → Int32) (p_draw_r : Nat → Int32) (h0 : fX1_loseOldest p_r0 p_r1 p_r2 p_r3 p_many p_sets p_chalk p_wet p_harvest p_draw = some (p_known_r, p_r0_r, p_r1_r, p_r2_r, p_r3_r, p_many_r, p_sets_r, p_chalk_r, p_wet_r, p_harvest_r, p_draw_r)) : CV l yX1_loseOldest cX1_loseOldest 3 none 0 0 d cy [.ref p0] (wP cy p0 p1 p_known p_r0 p_r1 p_r2 p_r3 p_many p_sets p_chalk p_wet p_harvest p_draw) (wP cy p0 p1 p_known_r p_r0_r p_r1_r p_r2_r p_r3_r p_many_r p_sets_r p_chalk_r p_wet_r p_harvest_r p_draw_r) := by
  refine CV.of (by decide) (Nat.le_of_ble_eq_true rfl) ?_
  intro p e s m args below meth c A ls Q F hret hw hl
  have hx := F.1
  have hb := F.2.1
  have hK := F.2.2.2.2.2.2.2.1.1
  have hl : lv_has ls 3 [(0, .ref p0)] := hl
  rw [fX1_loseOldest] at h0
  obtain ⟨rfl, rfl, rfl, rfl, rfl, rfl, rfl, rfl, rfl, rfl, rfl⟩ := inj11 h0
  have hw : Wd d A s.heap (wPg cy (fun i => some (p_r0 i)) p0 p1 p_known p_r0 p_r1 p_r2 p_r3 p_many p_sets p_chalk p_wet p_harvest p_draw) s.heap [] := hw
  refine lv_aload_n hx hb dX1_loseOldest_0 rfl (lv_at hl 0 rfl) ?_
  refine g_get F inG1 hw 0 rfl rfl 0 (by decide) t_137 (fun _ h9 => h9) rfl dX1_loseOldest_1 ?_
  refine lv_iconst (v := 0) hx hb dX1_loseOldest_4 (by decide) ?_
  refine va_aldq hx hb hK hw.1 1 3 rfl rfl (show ¬ ((0 : Int32) < 0 ∨ 8 ≤ (0 : Int32).toNatClampNeg) by decide) dX1_loseOldest_5 ?_
  refine W.eq (g2 := F0 m 6 ls [.ref (p_r0 0)]) rfl ?_
  refine lv_astore_n (lv' := [(1, .ref (p_r0 0)), (0, .ref p0)]) hx hb dX1_loseOldest_6 rfl hl (by decide) rfl (fun ls hl => ?_)
  refine lv_iconst (v := 1) hx hb dX1_loseOldest_7 (by decide) ?_
  refine lv_istore_n (lv' := [(2, .int 1), (1, .ref (p_r0 0)), (0, .ref p0)]) hx hb dX1_loseOldest_8 rfl hl (by decide) rfl (fun ls hl => ?_)
  refine lv_iload_n hx hb dX1_loseOldest_9 rfl (lv_at hl 0 rfl) ?_
  refine lv_bipush (v := 8) hx hb dX1_loseOldest_10 (by decide) ?_
  refine lv_icmp_ge (tgt := 35) hx hb dX1_loseOldest_12 (by decide) (fun cq => absurd cq (by decide)) (fun _ => ?_)
  refine lv_aload_n hx hb dX1_loseOldest_15 rfl (lv_at hl 2 rfl) ?_
  refine g_get F inG1 hw 0 rfl rfl 0 (by decide) t_137 (fun _ h9 => h9) rfl dX1_loseOldest_16 ?_
  refine lv_iload_n hx hb dX1_loseOldest_19 rfl (lv_at hl 0 rfl) ?_
  refine lv_iconst (v := 1) hx hb dX1_loseOldest_20 (by decide) ?_
  refine lv_isub hx hb dX1_loseOldest_21 ?_
  refine lv_aload_n hx hb dX1_loseOldest_22 rfl (lv_at hl 2 rfl) ?_
  refine g_get F inG1 hw 0 rfl rfl 0 (by decide) t_137 (fun _ h9 => h9) rfl dX1_loseOldest_23 ?_
  refine lv_iload_n hx hb dX1_loseOldest_26 rfl (lv_at hl 0 rfl) ?_
  refine va_aldq hx hb hK hw.1 1 3 rfl rfl (show ¬ ((1 : Int32) < 0 ∨ 8 ≤ (1 : Int32).toNatClampNeg) by decide) dX1_loseOldest_27 ?_
  refine W.eq (g2 := F0 m 28 ls [.ref (p_r0 1), .int (1 - 1), .ref p1]) rfl ?_
  refine va_astq hx hb hK hw.1 hw.2.1 hw.2.2 1 3 6 0 rfl rfl rfl rfl (show ¬ ((1 - 1 : Int32) < 0 ∨ 8 ≤ (1 - 1 : Int32).toNatClampNeg) by decide) dX1_loseOldest_28 (fun H locs hP hD hS => ?_)
  have hw : Wd d A s.heap (wPg cy (va_up (fun i => some (p_r0 i)) 0 (some (p_r0 1))) p0 p1 p_known p_r0 p_r1 p_r2 p_r3 p_many p_sets p_chalk p_wet p_harvest p_draw) H locs := ⟨hP, hD, hS⟩
  clear hP hD hS
  refine lv_iinc (v := 2) (lv' := [(2, .int 2), (1, .ref (p_r0 0)), (0, .ref p0)]) hx hb dX1_loseOldest_29 hl (k := 0) rfl (by decide) (by decide) rfl (fun ls hl => ?_)
  refine lv_goto (tgt := 9) hx hb dX1_loseOldest_32 (by decide) ?_
  refine lv_iload_n hx hb dX1_loseOldest_9 rfl (lv_at hl 0 rfl) ?_
  refine lv_bipush (v := 8) hx hb dX1_loseOldest_10 (by decide) ?_
  refine lv_icmp_ge (tgt := 35) hx hb dX1_loseOldest_12 (by decide) (fun cq => absurd cq (by decide)) (fun _ => ?_)
  refine lv_aload_n hx hb dX1_loseOldest_15 rfl (lv_at hl 2 rfl) ?_
  refine g_get F inG1 hw 0 rfl rfl 0 (by decide) t_137 (fun _ h9 => h9) rfl dX1_loseOldest_16 ?_
  refine lv_iload_n hx hb dX1_loseOldest_19 rfl (lv_at hl 0 rfl) ?_
  refine lv_iconst (v := 1) hx hb dX1_loseOldest_20 (by decide) ?_
  refine lv_isub hx hb dX1_loseOldest_21 ?_
  refine lv_aload_n hx hb dX1_loseOldest_22 rfl (lv_at hl 2 rfl) ?_
  refine g_get F inG1 hw 0 rfl rfl 0 (by decide) t_137 (fun _ h9 => h9) rfl dX1_loseOldest_23 ?_
  refine lv_iload_n hx hb dX1_loseOldest_26 rfl (lv_at hl 0 rfl) ?_
  refine va_aldq hx hb hK hw.1 1 3 rfl rfl (show ¬ ((2 : Int32) < 0 ∨ 8 ≤ (2 : Int32).toNatClampNeg) by decide) dX1_loseOldest_27 ?_
  refine W.eq (g2 := F0 m 28 ls [.ref (p_r0 2), .int (2 - 1), .ref p1]) rfl ?_
  refine va_astq hx hb hK hw.1 hw.2.1 hw.2.2 1 3 10 0 rfl rfl rfl rfl (show ¬ ((2 - 1 : Int32) < 0 ∨ 8 ≤ (2 - 1 : Int32).toNatClampNeg) by decide) dX1_loseOldest_28 (fun H locs hP hD hS => ?_)
  have hw : Wd d A s.heap (wPg cy (va_up (va_up (fun i => some (p_r0 i)) 0 (some (p_r0 1))) 1 (some (p_r0 2))) p0 p1 p_known p_r0 p_r1 p_r2 p_r3 p_many p_sets p_chalk p_wet p_harvest p_draw) H locs := ⟨hP, hD, hS⟩
  clear hP hD hS
  refine lv_iinc (v := 3) (lv' := [(2, .int 3), (1, .ref (p_r0 0)), (0, .ref p0)]) hx hb dX1_loseOldest_29 hl (k := 0) rfl (by decide) (by decide) rfl (fun ls hl => ?_)
  refine lv_goto (tgt := 9) hx hb dX1_loseOldest_32 (by decide) ?_
  refine lv_iload_n hx hb dX1_loseOldest_9 rfl (lv_at hl 0 rfl) ?_
  refine lv_bipush (v := 8) hx hb dX1_loseOldest_10 (by decide) ?_
  refine lv_icmp_ge (tgt := 35) hx hb dX1_loseOldest_12 (by decide) (fun cq => absurd cq (by decide)) (fun _ => ?_)
  refine lv_aload_n hx hb dX1_loseOldest_15 rfl (lv_at hl 2 rfl) ?_
  refine g_get F inG1 hw 0 rfl rfl 0 (by decide) t_137 (fun _ h9 => h9) rfl dX1_loseOldest_16 ?_
  refine lv_iload_n hx hb dX1_loseOldest_19 rfl (lv_at hl 0 rfl) ?_
  refine lv_iconst (v := 1) hx hb dX1_loseOldest_20 (by decide) ?_
  refine lv_isub hx hb dX1_loseOldest_21 ?_
  refine lv_aload_n hx hb dX1_loseOldest_22 rfl (lv_at hl 2 rfl) ?_
  refine g_get F inG1 hw 0 rfl rfl 0 (by decide) t_137 (fun _ h9 => h9) rfl dX1_loseOldest_23 ?_
  refine lv_iload_n hx hb dX1_loseOldest_26 rfl (lv_at hl 0 rfl) ?_
  refine va_aldq hx hb hK hw.1 1 3 rfl rfl (show ¬ ((3 : Int32) < 0 ∨ 8 ≤ (3 : Int32).toNatClampNeg) by decide) dX1_loseOldest_27 ?_
  refine W.eq (g2 := F0 m 28 ls [.ref (p_r0 3), .int (3 - 1), .ref p1]) rfl ?_
  refine va_astq hx hb hK hw.1 hw.2.1 hw.2.2 1 3 14 0 rfl rfl rfl rfl (show ¬ ((3 - 1 : Int32) < 0 ∨ 8 ≤ (3 - 1 : Int32).toNatClampNeg) by decide) dX1_loseOldest_28 (fun H locs hP hD hS => ?_)
  have hw : Wd d A s.heap (wPg cy (va_up (va_up (va_up (fun i => some (p_r0 i)) 0 (some (p_r0 1))) 1 (some (p_r0 2))) 2 (some (p_r0 3))) p0 p1 p_known p_r0 p_r1 p_r2 p_r3 p_many p_sets p_chalk p_wet p_harvest p_draw) H locs := ⟨hP, hD, hS⟩
  clear hP hD hS
  refine lv_iinc (v := 4) (lv' := [(2, .int 4), (1, .ref (p_r0 0)), (0, .ref p0)]) hx hb dX1_loseOldest_29 hl (k := 0) rfl (by decide) (by decide) rfl (fun ls hl => ?_)
  refine lv_goto (tgt := 9) hx hb dX1_loseOldest_32 (by decide) ?_
  refine lv_iload_n hx hb dX1_loseOldest_9 rfl (lv_at hl 0 rfl) ?_
  refine lv_bipush (v := 8) hx hb dX1_loseOldest_10 (by decide) ?_
  refine lv_icmp_ge (tgt := 35) hx hb dX1_loseOldest_12 (by decide) (fun cq => absurd cq (by decide)) (fun _ => ?_)
  refine lv_aload_n hx hb dX1_loseOldest_15 rfl (lv_at hl 2 rfl) ?_
  refine g_get F inG1 hw 0 rfl rfl 0 (by decide) t_137 (fun _ h9 => h9) rfl dX1_loseOldest_16 ?_
  refine lv_iload_n hx hb dX1_loseOldest_19 rfl (lv_at hl 0 rfl) ?_
  refine lv_iconst (v := 1) hx hb dX1_loseOldest_20 (by decide) ?_
  refine lv_isub hx hb dX1_loseOldest_21 ?_
  refine lv_aload_n hx hb dX1_loseOldest_22 rfl (lv_at hl 2 rfl) ?_
  refine g_get F inG1 hw 0 rfl rfl 0 (by decide) t_137 (fun _ h9 => h9) rfl dX1_loseOldest_23 ?_
  refine lv_iload_n hx hb dX1_loseOldest_26 rfl (lv_at hl 0 rfl) ?_
  refine va_aldq hx hb hK hw.1 1 3 rfl rfl (show ¬ ((4 : Int32) < 0 ∨ 8 ≤ (4 : Int32).toNatClampNeg) by decide) dX1_loseOldest_27 ?_
  refine W.eq (g2 := F0 m 28 ls [.ref (p_r0 4), .int (4 - 1), .ref p1]) rfl ?_
  refine va_astq hx hb hK hw.1 hw.2.1 hw.2.2 1 3 18 0 rfl rfl rfl rfl (show ¬ ((4 - 1 : Int32) < 0 ∨ 8 ≤ (4 - 1 : Int32).toNatClampNeg) by decide) dX1_loseOldest_28 (fun H locs hP hD hS => ?_)
  have hw : Wd d A s.heap (wPg cy (va_up (va_up (va_up (va_up (fun i => some (p_r0 i)) 0 (some (p_r0 1))) 1 (some (p_r0 2))) 2 (some (p_r0 3))) 3 (some (p_r0 4))) p0 p1 p_known p_r0 p_r1 p_r2 p_r3 p_many p_sets p_chalk p_wet p_harvest p_draw) H locs := ⟨hP, hD, hS⟩
  clear hP hD hS
  refine lv_iinc (v := 5) (lv' := [(2, .int 5), (1, .ref (p_r0 0)), (0, .ref p0)]) hx hb dX1_loseOldest_29 hl (k := 0) rfl (by decide) (by decide) rfl (fun ls hl => ?_)
  refine lv_goto (tgt := 9) hx hb dX1_loseOldest_32 (by decide) ?_
  refine lv_iload_n hx hb dX1_loseOldest_9 rfl (lv_at hl 0 rfl) ?_
  refine lv_bipush (v := 8) hx hb dX1_loseOldest_10 (by decide) ?_
  refine lv_icmp_ge (tgt := 35) hx hb dX1_loseOldest_12 (by decide) (fun cq => absurd cq (by decide)) (fun _ => ?_)
  refine lv_aload_n hx hb dX1_loseOldest_15 rfl (lv_at hl 2 rfl) ?_
  refine g_get F inG1 hw 0 rfl rfl 0 (by decide) t_137 (fun _ h9 => h9) rfl dX1_loseOldest_16 ?_
  refine lv_iload_n hx hb dX1_loseOldest_19 rfl (lv_at hl 0 rfl) ?_
  refine lv_iconst (v := 1) hx hb dX1_loseOldest_20 (by decide) ?_
  refine lv_isub hx hb dX1_loseOldest_21 ?_
  refine lv_aload_n hx hb dX1_loseOldest_22 rfl (lv_at hl 2 rfl) ?_
  refine g_get F inG1 hw 0 rfl rfl 0 (by decide) t_137 (fun _ h9 => h9) rfl dX1_loseOldest_23 ?_
  refine lv_iload_n hx hb dX1_loseOldest_26 rfl (lv_at hl 0 rfl) ?_
  refine va_aldq hx hb hK hw.1 1 3 rfl rfl (show ¬ ((5 : Int32) < 0 ∨ 8 ≤ (5 : Int32).toNatClampNeg) by decide) dX1_loseOldest_27 ?_
  refine W.eq (g2 := F0 m 28 ls [.ref (p_r0 5), .int (5 - 1), .ref p1]) rfl ?_
  refine va_astq hx hb hK hw.1 hw.2.1 hw.2.2 1 3 22 0 rfl rfl rfl rfl (show ¬ ((5 - 1 : Int32) < 0 ∨ 8 ≤ (5 - 1 : Int32).toNatClampNeg) by decide) dX1_loseOldest_28 (fun H locs hP hD hS => ?_)
  have hw : Wd d A s.heap (wPg cy (va_up (va_up (va_up (va_up (va_up (fun i => some (p_r0 i)) 0 (some (p_r0 1))) 1 (some (p_r0 2))) 2 (some (p_r0 3))) 3 (some (p_r0 4))) 4 (some (p_r0 5))) p0 p1 p_known p_r0 p_r1 p_r2 p_r3 p_many p_sets p_chalk p_wet p_harvest p_draw) H locs := ⟨hP, hD, hS⟩
  clear hP hD hS
  refine lv_iinc (v := 6) (lv' := [(2, .int 6), (1, .ref (p_r0 0)), (0, .ref p0)]) hx hb dX1_loseOldest_29 hl (k := 0) rfl (by decide) (by decide) rfl (fun ls hl => ?_)
  refine lv_goto (tgt := 9) hx hb dX1_loseOldest_32 (by decide) ?_
  refine lv_iload_n hx hb dX1_loseOldest_9 rfl (lv_at hl 0 rfl) ?_
  refine lv_bipush (v := 8) hx hb dX1_loseOldest_10 (by decide) ?_
  refine lv_icmp_ge (tgt := 35) hx hb dX1_loseOldest_12 (by decide) (fun cq => absurd cq (by decide)) (fun _ => ?_)
  refine lv_aload_n hx hb dX1_loseOldest_15 rfl (lv_at hl 2 rfl) ?_
  refine g_get F inG1 hw 0 rfl rfl 0 (by decide) t_137 (fun _ h9 => h9) rfl dX1_loseOldest_16 ?_
  refine lv_iload_n hx hb dX1_loseOldest_19 rfl (lv_at hl 0 rfl) ?_
  refine lv_iconst (v := 1) hx hb dX1_loseOldest_20 (by decide) ?_
  refine lv_isub hx hb dX1_loseOldest_21 ?_
  refine lv_aload_n hx hb dX1_loseOldest_22 rfl (lv_at hl 2 rfl) ?_
  refine g_get F inG1 hw 0 rfl rfl 0 (by decide) t_137 (fun _ h9 => h9) rfl dX1_loseOldest_23 ?_
  refine lv_iload_n hx hb dX1_loseOldest_26 rfl (lv_at hl 0 rfl) ?_
  refine va_aldq hx hb hK hw.1 1 3 rfl rfl (show ¬ ((6 : Int32) < 0 ∨ 8 ≤ (6 : Int32).toNatClampNeg) by decide) dX1_loseOldest_27 ?_
  refine W.eq (g2 := F0 m 28 ls [.ref (p_r0 6), .int (6 - 1), .ref p1]) rfl ?_
  refine va_astq hx hb hK hw.1 hw.2.1 hw.2.2 1 3 26 0 rfl rfl rfl rfl (show ¬ ((6 - 1 : Int32) < 0 ∨ 8 ≤ (6 - 1 : Int32).toNatClampNeg) by decide) dX1_loseOldest_28 (fun H locs hP hD hS => ?_)
  have hw : Wd d A s.heap (wPg cy (va_up (va_up (va_up (va_up (va_up (va_up (fun i => some (p_r0 i)) 0 (some (p_r0 1))) 1 (some (p_r0 2))) 2 (some (p_r0 3))) 3 (some (p_r0 4))) 4 (some (p_r0 5))) 5 (some (p_r0 6))) p0 p1 p_known p_r0 p_r1 p_r2 p_r3 p_many p_sets p_chalk p_wet p_harvest p_draw) H locs := ⟨hP, hD, hS⟩
  clear hP hD hS
  refine lv_iinc (v := 7) (lv' := [(2, .int 7), (1, .ref (p_r0 0)), (0, .ref p0)]) hx hb dX1_loseOldest_29 hl (k := 0) rfl (by decide) (by decide) rfl (fun ls hl => ?_)
  refine lv_goto (tgt := 9) hx hb dX1_loseOldest_32 (by decide) ?_
  refine lv_iload_n hx hb dX1_loseOldest_9 rfl (lv_at hl 0 rfl) ?_
  refine lv_bipush (v := 8) hx hb dX1_loseOldest_10 (by decide) ?_
  refine lv_icmp_ge (tgt := 35) hx hb dX1_loseOldest_12 (by decide) (fun cq => absurd cq (by decide)) (fun _ => ?_)
  refine lv_aload_n hx hb dX1_loseOldest_15 rfl (lv_at hl 2 rfl) ?_
  refine g_get F inG1 hw 0 rfl rfl 0 (by decide) t_137 (fun _ h9 => h9) rfl dX1_loseOldest_16 ?_
  refine lv_iload_n hx hb dX1_loseOldest_19 rfl (lv_at hl 0 rfl) ?_
  refine lv_iconst (v := 1) hx hb dX1_loseOldest_20 (by decide) ?_
  refine lv_isub hx hb dX1_loseOldest_21 ?_
  refine lv_aload_n hx hb dX1_loseOldest_22 rfl (lv_at hl 2 rfl) ?_
  refine g_get F inG1 hw 0 rfl rfl 0 (by decide) t_137 (fun _ h9 => h9) rfl dX1_loseOldest_23 ?_
  refine lv_iload_n hx hb dX1_loseOldest_26 rfl (lv_at hl 0 rfl) ?_
  refine va_aldq hx hb hK hw.1 1 3 rfl rfl (show ¬ ((7 : Int32) < 0 ∨ 8 ≤ (7 : Int32).toNatClampNeg) by decide) dX1_loseOldest_27 ?_
  refine W.eq (g2 := F0 m 28 ls [.ref (p_r0 7), .int (7 - 1), .ref p1]) rfl ?_
  refine va_astq hx hb hK hw.1 hw.2.1 hw.2.2 1 3 30 0 rfl rfl rfl rfl (show ¬ ((7 - 1 : Int32) < 0 ∨ 8 ≤ (7 - 1 : Int32).toNatClampNeg) by decide) dX1_loseOldest_28 (fun H locs hP hD hS => ?_)
  have hw : Wd d A s.heap (wPg cy (va_up (va_up (va_up (va_up (va_up (va_up (va_up (fun i => some (p_r0 i)) 0 (some (p_r0 1))) 1 (some (p_r0 2))) 2 (some (p_r0 3))) 3 (some (p_r0 4))) 4 (some (p_r0 5))) 5 (some (p_r0 6))) 6 (some (p_r0 7))) p0 p1 p_known p_r0 p_r1 p_r2 p_r3 p_many p_sets p_chalk p_wet p_harvest p_draw) H locs := ⟨hP, hD, hS⟩
  clear hP hD hS
  refine lv_iinc (v := 8) (lv' := [(2, .int 8), (1, .ref (p_r0 0)), (0, .ref p0)]) hx hb dX1_loseOldest_29 hl (k := 0) rfl (by decide) (by decide) rfl (fun ls hl => ?_)
  refine lv_goto (tgt := 9) hx hb dX1_loseOldest_32 (by decide) ?_
  refine lv_iload_n hx hb dX1_loseOldest_9 rfl (lv_at hl 0 rfl) ?_
  refine lv_bipush (v := 8) hx hb dX1_loseOldest_10 (by decide) ?_
  refine lv_icmp_ge (tgt := 35) hx hb dX1_loseOldest_12 (by decide) (fun _ => ?_) (fun cq => absurd (by decide) cq)
  refine lv_aload_n hx hb dX1_loseOldest_35 rfl (lv_at hl 2 rfl) ?_
  refine g_get F inG1 hw 0 rfl rfl 0 (by decide) t_137 (fun _ h9 => h9) rfl dX1_loseOldest_36 ?_
  refine lv_bipush (v := 7) hx hb dX1_loseOldest_39 (by decide) ?_
  refine lv_aload_n hx hb dX1_loseOldest_41 rfl (lv_at hl 1 rfl) ?_
  refine va_astq hx hb hK hw.1 hw.2.1 hw.2.2 1 3 2 0 rfl rfl rfl rfl (show ¬ ((7 : Int32) < 0 ∨ 8 ≤ (7 : Int32).toNatClampNeg) by decide) dX1_loseOldest_42 (fun H locs hP hD hS => ?_)
  have hw : Wd d A s.heap (wPg cy (va_up (va_up (va_up (va_up (va_up (va_up (va_up (va_up (fun i => some (p_r0 i)) 0 (some (p_r0 1))) 1 (some (p_r0 2))) 2 (some (p_r0 3))) 3 (some (p_r0 4))) 4 (some (p_r0 5))) 5 (some (p_r0 6))) 6 (some (p_r0 7))) 7 (some (p_r0 0))) p0 p1 p_known p_r0 p_r1 p_r2 p_r3 p_many p_sets p_chalk p_wet p_harvest p_draw) H locs := ⟨hP, hD, hS⟩
  refine lv_aload_n hx hb dX1_loseOldest_43 rfl (lv_at hl 2 rfl) ?_
  refine lv_bipush (v := 7) hx hb dX1_loseOldest_44 (by decide) ?_
  refine g_put F inG1 tyX1 tyX1_ok nmX1 hw 0 rfl rfl 1 (by decide) t_138 (fun _ h9 => h9) rfl (ty := .int) (by decide +kernel) rfl rfl (Nat.le_of_ble_eq_true rfl) dX1_loseOldest_46 (w' := wPg cy (va_up (va_up (va_up (va_up (va_up (va_up (va_up (va_up (fun i => some (p_r0 i)) 0 (some (p_r0 1))) 1 (some (p_r0 2))) 2 (some (p_r0 3))) 3 (some (p_r0 4))) 4 (some (p_r0 5))) 5 (some (p_r0 6))) 6 (some (p_r0 7))) 7 (some (p_r0 0))) p0 p1 7 p_r0 p_r1 p_r2 p_r3 p_many p_sets p_chalk p_wet p_harvest p_draw) rfl (fun H locs hw => ?_)
  rw [rot_c] at hw
  refine hret _ _ _ _ ⟨hw.1.sub [0, 1, 6, 7, 8, 9, 10, 11, 12, 13, 14, 15, 16, 17, 18, 19, 20, 21, 22, 23, 24, 25, 26, 27, 28, 29, 30, 31, 32, 33, 2, 3, 4, 5] rfl, hw.2.1.sub [0, 1, 6, 7, 8, 9, 10, 11, 12, 13, 14, 15, 16, 17, 18, 19, 20, 21, 22, 23, 24, 25, 26, 27, 28, 29, 30, 31, 32, 33, 2, 3, 4, 5] (by decide) rfl, hw.2.2⟩ dX1_loseOldest_49
