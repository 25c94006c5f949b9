section RY
variable {letters tape : Nat → Int32} {length typed : Int32}
variable {people fewest : Int32} {kinds loves many sets chalk : Nat → Int32} {wet harvest draw : Int32} {now : Nat → Int32}
variable {known : Int32} {pmany psets pchalk : Nat → Nat → Int32} {pwet pharvest pdraw : Nat → Int32} {undone : Nat → Int32} {undos : Int32}
theorem copyTown_x (a1 a2 a3 a4 a5 : Nat → Int32) : fX4_copyTown a1 a2 a3 a4 a5 people fewest kinds loves many sets chalk wet harvest draw = some (people, fewest, va_cpy kinds a1 0 0 6, va_cpy loves a2 0 0 6, va_cpy many a3 0 0 72, va_cpy sets a4 0 0 6, va_cpy chalk a5 0 0 6, wet, harvest, draw) := rfl
theorem AR.none (letters tape : Nat → Int32) : AR letters 0 tape 0 := ⟨0, by decide, rfl, rfl, fun j hj => absurd hj (by omega)⟩
theorem t_read (hT : TR people fewest kinds loves many sets chalk wet harvest draw now) (hP : PR known pmany psets pchalk pwet pharvest pdraw undone undos) (hI : II now undone undos) (hA : AR letters length tape typed) (tk tl tm ts tc rd : Nat → Int32) : ∃ r pe fe ki lv ma se ch we ha dr kn t1 t2 t3 t4 t5 t6 t7 t8 t9 t10 le pl now_r ty mp mf mw mh rd_r un, fX5_read people fewest kinds loves many sets chalk wet harvest draw known tk tl tm ts tc letters length = some (r, pe, fe, ki, lv, ma, se, ch, we, ha, dr, kn, t1, t2, t3, t4, t5, t6, t7, t8, t9, t10, le, pl) ∧ fX6_read now tape typed rd undos = some (r, now_r, ty, mp, mf, mw, mh, rd_r, un) ∧ TR pe fe ki lv ma se ch we ha dr now_r ∧ PR kn pmany psets pchalk pwet pharvest pdraw undone un ∧ II now_r undone un ∧ AR letters le tape ty := by
  obtain ⟨n, hn, e1, e2, hl⟩ := hA
  have hA : TA letters tape n := ⟨hn, hl⟩
  rw [e1, e2, rdR_u]
  unfold fX5_read fX3_tell
  rw [copyTown_x, bS10]
  rcases sun2 hA with ⟨q, a, b, a2, b2, h, w1, w2⟩ | ⟨q, w, v, h, hw, hv, w1, w2⟩
  · rw [w1, w2, bS4, bS4, i00, bS10, show fX3_wipe = some (0, 0) from rfl, bS2, i00, if_neg (show ¬ (1 : Int32) = 0 by decide), bS2, must_F, bS2, rdR_F]
    exact ⟨_, _, _, _, _, _, _, _, _, _, _, _, _, _, _, _, _, _, _, _, _, _, _, _, _, _, _, _, _, _, _, _, rfl, rfl, hT, hP, hI, AR.none letters tape⟩
  · rw [w1, w2, bS4, bS4, i10, i00]
    rcases takes2 hA h h rfl (k := 59) (by decide) (by decide) with ⟨p, p1, t1, t2⟩ | ⟨p, r, p1, p2, p3, t1, t2, t3⟩
    · rw [show fX3_takes letters (nI n) (nI q) 59 = some (1, nI (p + 1)) from t1, t2, bS2, bS2, i10, if_pos (show nI 59 = 59 from rfl), bS2, must_1, bS2]
      rcases ppl2 hA (show p + 1 ≤ n by omega) rd (hT.blank tk tl tm ts tc hw hv) with ⟨q', a1, a2, a3, a4, a5, a6, r, rd2, o1, o2, o3⟩ | ⟨m2, kinds2, loves2, many2, sets2, chalk2, rd2, o1, o2, o3, o4, o5, o6⟩
      · unfold rdR
        rw [show fX3_tellPeople letters (nI n) (nI (p + 1)) 0 (va_cpy kinds tk 0 0 6) (va_cpy loves tl 0 0 6) (va_cpy many tm 0 0 72) (va_cpy sets ts 0 0 6) (va_cpy chalk tc 0 0 6) = _ from o2, bS8, i00, bS10, show fX3_wipe = some (0, 0) from rfl, bS2, i00, o3, isb1, bS0, if_neg (show ¬ (1 : Int32) = 0 by decide), bS2, if_neg (show ¬ (1 : Int32) = 0 by decide)]
        exact ⟨_, _, _, _, _, _, _, _, _, _, _, _, _, _, _, _, _, _, _, _, _, _, _, _, _, _, _, _, _, _, _, _, rfl, rfl, hT, hP, hI, AR.none letters tape⟩
      · unfold rdR
        have z0 : upd (upd (upd now 0 0) 2 (nI w)) 3 (nI v) 0 = nI 0 := by rw [pk_un (by decide), pk_un (by decide), pk_us]; rfl
        have el : ∀ p, p < m2 → loves2 p = rd2 (5 * p + 1) := fun p hp => by
          rw [(o5.2.2.2.1 p (by omega)).1, apN_l m2 o2 p hp]
        rw [show fX3_tellPeople letters (nI n) (nI (p + 1)) 0 (va_cpy kinds tk 0 0 6) (va_cpy loves tl 0 0 6) (va_cpy many tm 0 0 72) (va_cpy sets ts 0 0 6) (va_cpy chalk tc 0 0 6) = _ from o3, bS8, i10, there_x o2 el, bS1, o4, isb0, bS0, i00, there_m o2, bS1]
        cases hB : allB (lvB rd2 m2) 0 m2
        · rw [if_neg (show ¬ false = true by decide), i00, i00, bS10, show fX3_wipe = some (0, 0) from rfl, bS2, i00, bS2, i10]
          exact ⟨_, _, _, _, _, _, _, _, _, _, _, _, _, _, _, _, _, _, _, _, _, _, _, _, _, _, _, _, _, _, _, _, rfl, rfl, hT, hP, hI, AR.none letters tape⟩
        · rw [if_pos rfl, i10, i10, bS10, show fX3_wipe = some (0, 0) from rfl, bS2, i10, copyTown_x, bS10, show fX1_forget = some 0 from rfl, bS1, bS2, i00, i0, bS1, show ix 2 95 = some 2 by decide, bS1, show ix 3 95 = some 3 by decide, bS1, show fX6_read_L144 (nI m2) rd2 fl 0 (upd (upd (upd now 0 0) 2 (nI w)) 3 (nI v)) undos = _ from read144 (rd := rd2) o2 z0 m2 fl 0 undos (Nat.zero_add _) (by unfold fl; omega), bS2, if_neg (show ¬ m2 = 0 by omega)]
          exact ⟨_, _, _, _, _, _, _, _, _, _, _, _, _, _, _, _, _, _, _, _, _, _, _, _, _, _, _, _, _, _, _, _, rfl, rfl, o5.cg (fun p hp => sb_cpy0 hp) (fun p hp => sb_cpy0 hp) (fun p hp => sb_cpy0 hp) (fun p hp => sb_cpy0 hp) (fun p hp => sb_cpy0 hp) (fun _ _ => rfl), ⟨0, by decide, rfl, rfl, fun i hi => absurd hi (by omega)⟩, ⟨NI.read o2 z0 o6, 0, by decide, rfl, fun i hi => absurd hi (by omega)⟩, AR.none letters tape⟩
    · rw [show fX3_takes letters (nI n) (nI q) 59 = some (0, nI p) from t1, t2, bS2, bS2, i00, if_neg (show ¬ r = 59 from t3), bS10, show fX3_wipe = some (0, 0) from rfl, bS2, i00, bS2, must_0, bS2, rdR_F]
      exact ⟨_, _, _, _, _, _, _, _, _, _, _, _, _, _, _, _, _, _, _, _, _, _, _, _, _, _, _, _, _, _, _, _, rfl, rfl, hT, hP, hI, AR.none letters tape⟩
end RY
