section PA
variable {people fewest : Int32} {kinds loves many sets chalk : Nat → Int32} {wet harvest draw : Int32} {now : Nat → Int32}
variable {known : Int32} {pmany psets pchalk : Nat → Nat → Int32} {pwet pharvest pdraw : Nat → Int32} {undone : Nat → Int32} {undos : Int32}
theorem t_sell (hT : TR people fewest kinds loves many sets chalk wet harvest draw now) (hP : PR known pmany psets pchalk pwet pharvest pdraw undone undos) (hI : II now undone undos) (r0 r1 r2 r3 : Nat → Nat) (i1 i2 i3 i4 : Int32) : ∃ r many_r sets_r chalk_r known_r s0 s1 s2 s3 pmany_r psets_r pchalk_r pwet_r pharvest_r pdraw_r now_r undone_r undos_r, fX5_sell people fewest many sets chalk wet harvest draw known r0 r1 r2 r3 pmany psets pchalk pwet pharvest pdraw i1 i2 i3 i4 = some (r, many_r, sets_r, chalk_r, known_r, s0, s1, s2, s3, pmany_r, psets_r, pchalk_r, pwet_r, pharvest_r, pdraw_r) ∧ fX6_sell now undone undos i1 i2 i3 i4 = some (r, now_r, undone_r, undos_r) ∧ TR people fewest kinds loves many_r sets_r chalk_r wet harvest draw now_r ∧ PR known_r pmany_r psets_r pchalk_r pwet_r pharvest_r pdraw_r undone_r undos_r ∧ II now_r undone_r undos_r := by
  have hn6 := hT.ok.1.1
  have hk := hT.ok
  unfold fX5_sell fX6_sell
  rcases two_c hT i1 i2 with ⟨p, q, p0, q0, hp, hq, hn, e1, e2, h3, h4⟩ | ⟨h3, h4⟩
  · simp only [h3, h4, bS1, i10]
    rcases half_c i3 with ⟨h, g1, g2, g3, g4⟩ | ⟨g3, g4⟩
    · simp only [g3, g4, bS1, i10]
      rcases wi_n i4 99 (by decide) (b := 99) (b2 := 99) rfl rfl with ⟨v, f1, f2, f3, f4⟩ | ⟨f3, f4⟩
      · simp only [f3, f4, bS1, i10]
        rw [e1, e2, g2, may_x hT hp hq g1, may_m hk hp g1, bS1, bS1, chalk_m now hq, bS1]
        by_cases c : mayN now p h = true
        · rw [if_pos c, if_neg (show ¬ (1 : Int32) = 0 by decide)]
          by_cases d : i4 ≤ now (7 + 3 * q)
          · rw [if_pos (show mayN now p h = true ∧ i4 ≤ now (7 + 3 * q) from ⟨c, d⟩), if_neg (show ¬ (1 : Int32) = 0 by decide), if_pos d]
            obtain ⟨a1, a2, a3, a4, a5, a6, a7, a8, a9, a10, a11, a12, a13, b1, b2, b3, b4⟩ := t_remember (now := now) hP hT.2.2.2.2 r0 r1 r2 r3
            rw [b1, b2, bS11, bS2]
            obtain ⟨m2, s2, c1, c2⟩ := hT.move hp hq hn g1
            rw [c1, bS2, goes_m now hp hq hn g1, bS1]
            obtain ⟨k2, d1, d2⟩ := c2.pay hq hp (fun z => hn z.symm) i4
            rw [d1, bS1, ix_n hp (by decide), bS1, pays_m _ hq, bS1, pay_m _ hq hp (fun z => hn z.symm), bS1, chalk_m _ hp, bS1]
            refine ⟨_, _, _, _, _, _, _, _, _, _, _, _, _, _, _, _, _, _, rfl, by rw [d2.e_chalk hp], d2, b3, ?_⟩
            have g0 : gN now p q h 0 = now 0 := gN_lo (by decide)
            have gP : nP (gN now p q h) = nP now := congrArg Int32.toNatClampNeg g0
            have y0 : yN (gN now p q h) q p i4 0 = now 0 := (yN_o (by omega) (by omega)).trans g0
            have n1 : NI (gN now p q h) := hI.1.move hn6 p0 q0 hn g1 (by
              have c3 := c
              unfold mayN hs at c3
              simp only [Bool.and_eq_true, decide_eq_true_eq] at c3
              rw [← Nat.add_assoc]
              exact c3.1)
            refine ⟨n1.pay (by rw [gP]; exact hn6) (by rw [gP]; exact q0) (by rw [gP]; exact p0) (fun z => hn z.symm) (by rw [f2, nI_toInt (by omega)]; omega) (by rw [gN_lo (by omega)]; exact Int32.le_iff_toInt_le.mp d), ?_⟩
            rw [y0]
            exact b4 _ hn6 hI.1 hI.2
          · rw [if_neg (show ¬ (mayN now p h = true ∧ i4 ≤ now (7 + 3 * q)) from fun z => d z.2), if_pos rfl, if_neg d]
            exact ⟨_, _, _, _, _, _, _, _, _, _, _, _, _, _, _, _, _, _, rfl, rfl, hT, hP, hI⟩
        · rw [if_neg c, if_pos rfl, if_neg (show ¬ (mayN now p h = true ∧ i4 ≤ now (7 + 3 * q)) from fun z => c z.1), if_pos rfl]
          exact ⟨_, _, _, _, _, _, _, _, _, _, _, _, _, _, _, _, _, _, rfl, rfl, hT, hP, hI⟩
      · simp only [f3, f4, bS1, i00]
        exact ⟨_, _, _, _, _, _, _, _, _, _, _, _, _, _, _, _, _, _, rfl, rfl, hT, hP, hI⟩
    · simp only [g3, g4, bS1, i00]
      exact ⟨_, _, _, _, _, _, _, _, _, _, _, _, _, _, _, _, _, _, rfl, rfl, hT, hP, hI⟩
  · simp only [h3, h4, bS1, i00]
    exact ⟨_, _, _, _, _, _, _, _, _, _, _, _, _, _, _, _, _, _, rfl, rfl, hT, hP, hI⟩
theorem t_give (hT : TR people fewest kinds loves many sets chalk wet harvest draw now) (hP : PR known pmany psets pchalk pwet pharvest pdraw undone undos) (hI : II now undone undos) (r0 r1 r2 r3 : Nat → Nat) (i1 i2 i3 : Int32) : ∃ r chalk_r known_r s0 s1 s2 s3 pmany_r psets_r pchalk_r pwet_r pharvest_r pdraw_r now_r undone_r undos_r, fX5_give people many sets chalk wet harvest draw known r0 r1 r2 r3 pmany psets pchalk pwet pharvest pdraw i1 i2 i3 = some (r, chalk_r, known_r, s0, s1, s2, s3, pmany_r, psets_r, pchalk_r, pwet_r, pharvest_r, pdraw_r) ∧ fX6_give now undone undos i1 i2 i3 = some (r, now_r, undone_r, undos_r) ∧ TR people fewest kinds loves many sets chalk_r wet harvest draw now_r ∧ PR known_r pmany_r psets_r pchalk_r pwet_r pharvest_r pdraw_r undone_r undos_r ∧ II now_r undone_r undos_r := by
  have hn6 := hT.ok.1.1
  unfold fX5_give fX6_give
  rcases two_c hT i1 i2 with ⟨p, q, p0, q0, hp, hq, hn, e1, e2, h3, h4⟩ | ⟨h3, h4⟩
  · simp only [h3, h4, bS1, i10]
    rcases wi_ab i3 1 99 1 99 rfl rfl with ⟨f1, f2, f3, f4⟩ | ⟨f3, f4⟩
    · simp only [f3, f4, bS1, i10]
      rw [e1, e2, ix_n hp (by decide), bS1, chalk_m now hp, bS1, hT.e_chalk hp]
      by_cases d : i3 ≤ now (7 + 3 * p)
      · rw [if_pos d, if_pos d]
        obtain ⟨a1, a2, a3, a4, a5, a6, a7, a8, a9, a10, a11, a12, a13, b1, b2, b3, b4⟩ := t_remember (now := now) hP hT.2.2.2.2 r0 r1 r2 r3
        obtain ⟨k2, d1, d2⟩ := hT.pay hp hq hn i3
        rw [b1, b2, bS11, bS2, d1, bS1, pays_m _ hp, bS1, pay_m _ hp hq hn, bS1, chalk_m _ hp, bS1]
        refine ⟨_, _, _, _, _, _, _, _, _, _, _, _, _, _, _, _, rfl, by rw [d2.e_chalk hp], d2, b3, hI.1.pay hn6 p0 q0 hn (by have : (1 : Int32).toInt = 1 := rfl; omega) (Int32.le_iff_toInt_le.mp d), ?_⟩
        rw [yN_o (by omega) (by omega)]
        exact b4 _ hn6 hI.1 hI.2
      · rw [if_neg d, if_neg d]
        exact ⟨_, _, _, _, _, _, _, _, _, _, _, _, _, _, _, _, rfl, rfl, hT, hP, hI⟩
    · simp only [f3, f4, bS1, i00]
      exact ⟨_, _, _, _, _, _, _, _, _, _, _, _, _, _, _, _, rfl, rfl, hT, hP, hI⟩
  · simp only [h3, h4, bS1, i00]
    exact ⟨_, _, _, _, _, _, _, _, _, _, _, _, _, _, _, _, rfl, rfl, hT, hP, hI⟩
theorem nle {a b : Nat} (ha : a < 2 ^ 31) (hb : b < 2 ^ 31) : nI a ≤ nI b ↔ a ≤ b := by
  rw [Int32.le_iff_toInt_le, nI_toInt ha, nI_toInt hb]
  omega
theorem nle1 {a : Nat} (ha : a < 2 ^ 31) : ¬ nI a ≤ (-1 : Int32) := by
  rw [Int32.le_iff_toInt_le, nI_toInt ha, show (-1 : Int32).toInt = -1 from rfl]
  omega
theorem n_ne4 {a : Nat} (ha : a < 2 ^ 31) : ¬ nI a = (-4 : Int32) := by
  intro z
  have := congrArg Int32.toInt z
  rw [nI_toInt ha, show (-4 : Int32).toInt = -4 from rfl] at this
  omega
theorem wN_le (now : Nat → Int32) (p h : Nat) : wN now p h ≤ 20 := wbk_le _ _ _ _ _ _
/-- the dearest half that one has, the first of them, on both sides -/
theorem dear_L (hT : TR people fewest kinds loves many sets chalk wet harvest draw now) {p : Nat} (hp : p < 6) : ∀ d n i b w, i + d = 12 → d < n → (b = (-4 : Int32) ∧ w = (-1 : Int32) ∨ ∃ k, k < 12 ∧ b = nI k ∧ w = nI (wN now p k) ∧ 0 < now (23 + 12 * p + k)) → ∃ r, fX4_dearestHalf_L8 harvest many sets wet (nI p) kinds loves n b w (nI i) = some r ∧ fX6_seize_L17 (nI p) now n b (nI i) = some r ∧ (r = -4 ∨ ∃ k, k < 12 ∧ r = nI k ∧ 0 < now (23 + 12 * p + k)) := by
  have hk := hT.ok
  intro d
  induction d with
  | zero =>
    intro n i b w hi hn hI
    obtain ⟨m, rfl⟩ : ∃ m, n = m + 1 := ⟨n - 1, by omega⟩
    have : i = 12 := by omega
    subst this
    rw [fX4_dearestHalf_L8, fX6_seize_L17, if_pos p12, if_pos p12]
    refine ⟨b, rfl, rfl, ?_⟩
    rcases hI with ⟨h, -⟩ | ⟨k, h1, h2, -, h4⟩
    · exact Or.inl h
    · exact Or.inr ⟨k, h1, h2, h4⟩
  | succ d ih =>
    intro n i b w hi hn hI
    obtain ⟨m, rfl⟩ : ∃ m, n = m + 1 := ⟨n - 1, by omega⟩
    have h12 : i < 12 := by omega
    have hw := wN_le now p i
    rw [fX4_dearestHalf_L8, fX6_seize_L17, if_neg (n12 h12), if_neg (n12 h12), manyOf_x (fun j hj => hT.e_many hj) hp h12, bS1, hasOne_m now hp h12, bS1, worthOfHalf_x hT hp h12, bS1, bS1, worthOf_m hk hp h12, bS1, nI_1]
    unfold hs
    by_cases c : 0 < now (23 + 12 * p + i)
    · rw [if_neg (Int32.not_le.mpr c), if_pos (show decide (0 < now (23 + 12 * p + i)) = true by simp [c]), if_neg (show ¬ (1 : Int32) = 0 by decide)]
      rcases hI with ⟨h1, h2⟩ | ⟨k, h1, h2, h3, h4⟩
      · rw [h1, h2, if_neg (nle1 (by omega)), if_pos rfl, bS2, bS1]
        exact ih m (i + 1) _ _ (by omega) (by omega) (Or.inr ⟨i, h12, rfl, rfl, c⟩)
      · have hw2 := wN_le now p k
        rw [h2, h3, if_neg (n_ne4 (show k < 2 ^ 31 by omega)), worthOf_m hk hp h1, bS1]
        by_cases d2 : nI (wN now p i) ≤ nI (wN now p k)
        · rw [if_pos d2, if_pos d2, bS2, bS1]
          exact ih m (i + 1) _ _ (by omega) (by omega) (Or.inr ⟨k, h1, rfl, rfl, h4⟩)
        · rw [if_neg d2, if_neg d2, bS2, bS1]
          exact ih m (i + 1) _ _ (by omega) (by omega) (Or.inr ⟨i, h12, rfl, rfl, c⟩)
    · rw [if_pos (Int32.not_lt.mp c), if_neg (show ¬ decide (0 < now (23 + 12 * p + i)) = true by simp [c]), if_pos rfl, bS2, bS1]
      exact ih m (i + 1) _ _ (by omega) (by omega) hI
theorem t_seize (hT : TR people fewest kinds loves many sets chalk wet harvest draw now) (hP : PR known pmany psets pchalk pwet pharvest pdraw undone undos) (hI : II now undone undos) (r0 r1 r2 r3 : Nat → Nat) (i1 i2 : Int32) : ∃ r many_r sets_r known_r s0 s1 s2 s3 pmany_r psets_r pchalk_r pwet_r pharvest_r pdraw_r now_r undone_r undos_r, fX5_seize people kinds loves many sets chalk wet harvest draw known r0 r1 r2 r3 pmany psets pchalk pwet pharvest pdraw i1 i2 = some (r, many_r, sets_r, known_r, s0, s1, s2, s3, pmany_r, psets_r, pchalk_r, pwet_r, pharvest_r, pdraw_r) ∧ fX6_seize now undone undos i1 i2 = some (r, now_r, undone_r, undos_r) ∧ TR people fewest kinds loves many_r sets_r chalk wet harvest draw now_r ∧ PR known_r pmany_r psets_r pchalk_r pwet_r pharvest_r pdraw_r undone_r undos_r ∧ II now_r undone_r undos_r := by
  have hn6 := hT.ok.1.1
  unfold fX5_seize fX6_seize
  rcases two_c hT i1 i2 with ⟨p, q, p0, q0, hp, hq, hn, e1, e2, h3, h4⟩ | ⟨h3, h4⟩
  · simp only [h3, h4, bS1, i10]
    unfold fX4_dearestHalf
    obtain ⟨b, x1, x2, x3⟩ := dear_L hT hp 12 fl 0 (-4) (-1) rfl (by decide) (Or.inl ⟨rfl, rfl⟩)
    rw [e1, e2, show fX4_dearestHalf_L8 harvest many sets wet (nI p) kinds loves fl (-4) (-1) 0 = some b from x1, show fX6_seize_L17 (nI p) now fl (-4) 0 = some b from x2, bS1, bS1, bS1]
    rcases x3 with rfl | ⟨h, g1, rfl, g5⟩
    · rw [if_pos rfl, if_pos rfl]
      exact ⟨_, _, _, _, _, _, _, _, _, _, _, _, _, _, _, _, _, rfl, rfl, hT, hP, hI⟩
    · have n4 := n_ne4 (show h < 2 ^ 31 by omega)
      rw [if_neg n4, if_neg n4]
      obtain ⟨a1, a2, a3, a4, a5, a6, a7, a8, a9, a10, a11, a12, a13, b1, b2, b3, b4⟩ := t_remember (now := now) hP hT.2.2.2.2 r0 r1 r2 r3
      obtain ⟨m2, s2, c1, c2⟩ := hT.move hp hq hn g1
      rw [b1, b2, bS11, bS2, c1, bS2, goes_m now hp hq hn g1, bS1]
      refine ⟨_, _, _, _, _, _, _, _, _, _, _, _, _, _, _, _, _, rfl, rfl, c2, b3, hI.1.move hn6 p0 q0 hn g1 (by rw [← Nat.add_assoc]; exact g5), ?_⟩
      rw [gN_lo (by decide)]
      exact b4 _ hn6 hI.1 hI.2
  · simp only [h3, h4, bS1, i00]
    exact ⟨_, _, _, _, _, _, _, _, _, _, _, _, _, _, _, _, _, rfl, rfl, hT, hP, hI⟩
theorem xor_s {w s : Nat} (hw : w < 64) (hs : s < 6) : w ^^^ 2 ^ s < 64 := Nat.xor_lt_two_pow (n := 6) hw (Nat.pow_lt_pow_right (by decide) hs)
theorem make_b {w s : Nat} (hw : w < 64) (hs : s < 6) : nI w ^^^ ((1 : Int32) <<< (nI s &&& 31)) = nI (w ^^^ 2 ^ s) := by
  rw [one_sh (by omega), x1_n]
theorem t_make (hT : TR people fewest kinds loves many sets chalk wet harvest draw now) (hP : PR known pmany psets pchalk pwet pharvest pdraw undone undos) (hI : II now undone undos) (r0 r1 r2 r3 : Nat → Nat) (i1 i2 i3 : Int32) : ∃ r wet_r harvest_r known_r s0 s1 s2 s3 pmany_r psets_r pchalk_r pwet_r pharvest_r pdraw_r now_r undone_r undos_r, fX5_make many sets chalk wet harvest draw known r0 r1 r2 r3 pmany psets pchalk pwet pharvest pdraw i1 i2 i3 = some (r, wet_r, harvest_r, known_r, s0, s1, s2, s3, pmany_r, psets_r, pchalk_r, pwet_r, pharvest_r, pdraw_r) ∧ fX6_make now undone undos i1 i2 i3 = some (r, now_r, undone_r, undos_r) ∧ TR people fewest kinds loves many sets chalk wet_r harvest_r draw now_r ∧ PR known_r pmany_r psets_r pchalk_r pwet_r pharvest_r pdraw_r undone_r undos_r ∧ II now_r undone_r undos_r := by
  have hn6 := hT.ok.1.1
  have hk := hT.ok
  have w1 := hk.2.2.1.1
  have w2 := hk.2.2.2.1.1
  unfold fX5_make fX6_make
  rcases sun_c i1 with ⟨s, h1, h2, h3, h4⟩ | ⟨h3, h4⟩
  · simp only [h3, h4, bS1, i10]
    rcases flag_c i2 with ⟨f1, f3, f4⟩ | ⟨f3, f4⟩
    · simp only [f3, f4, bS1, i10]
      rcases flag_c i3 with ⟨g1, g3, g4⟩ | ⟨g3, g4⟩
      · simp only [g3, g4, bS1, i10]
        have x17 : (if i3 = 1 then some (1 : Int32) else some 0) = some i3 := by
          rcases g1 with rfl | rfl <;> rfl
        rw [h2]
        obtain ⟨a1, a2, a3, a4, a5, a6, a7, a8, a9, a10, a11, a12, a13, b1, b2, b3, b4⟩ := t_remember (now := now) hP hT.2.2.2.2 r0 r1 r2 r3
        simp only [x17, b1, b2, bS1, bS2, bS11]
        rcases f1 with rfl | rfl
        · simp only [if_true, bS1]
          rw [show ix (2 + 0) 95 = some 2 by decide, bS1, hT.e_wet, isIn_n (by omega) (by omega), bS1, hk.2.2.1.2, bit_n (by omega) (by omega)]
          have e : (if (nW now).testBit s = true then (1 : Int32) else 0) = nI (if (nW now).testBit s = true then 1 else 0) := by split <;> rfl
          rw [e]
          by_cases c : nI (if (nW now).testBit s = true then 1 else 0) = i3
          · rw [if_pos c, if_pos c, ← hT.e_wet]
            exact ⟨_, _, _, _, _, _, _, _, _, _, _, _, _, _, _, _, _, rfl, rfl, hT, hP, hI⟩
          · rw [if_neg c, if_neg c, make_b w1 h1, pk_us]
            refine ⟨_, _, _, _, _, _, _, _, _, _, _, _, _, _, _, _, _, rfl, rfl, ?_, b3, hI.1.cg hn6 (pk_un (by omega)) (fun z hz => pk_un (by omega)) (fun z hz => pk_un (by omega)), by rw [pk_un (by omega)]; exact b4 _ hn6 hI.1 hI.2⟩
            refine hT.re (pk_un (by omega)) (pk_un (by omega)) (fun p hp => pk_un (by omega)) (fun p hp => pk_un (by omega)) ?_
            obtain ⟨c1, c2, c3, c4, c5, c6, c7, c8, c9⟩ := hT.2.2.2.2
            refine ⟨fun j hj => ?_, fun j hj => ?_, fun j hj => ?_, ?_, ?_, ?_, ?_, ?_, ?_⟩
            · show many j = upd now _ _ (23 + j)
              rw [pk_un (by omega)]; exact c1 j hj
            · show chalk j = upd now _ _ (7 + 3 * j)
              rw [pk_un (by omega)]; exact c2 j hj
            · rw [c3 j hj]
              congr 1
              apply hvN_cg 12
              intro z hz
              show now (23 + (12 * j + z)) = upd now _ _ (23 + (12 * j + z))
              rw [pk_un (by omega)]
            · rw [pk_us]
            · rw [pk_un (by omega)]; exact c5
            · rw [pk_un (by omega)]; exact c6
            · rw [pk_us]; exact ⟨_, xor_s w1 h1, rfl⟩
            · rw [pk_un (by omega)]; exact c8
            · rw [pk_un (by omega)]; exact c9
        · simp only [i10, bS1]
          rw [show ix (2 + 1) 95 = some 3 by decide, bS1, hT.e_harvest, isIn_n (by omega) (by omega), bS1, hk.2.2.2.1.2, bit_n (by omega) (by omega)]
          have e : (if (nH now).testBit s = true then (1 : Int32) else 0) = nI (if (nH now).testBit s = true then 1 else 0) := by split <;> rfl
          rw [e]
          by_cases c : nI (if (nH now).testBit s = true then 1 else 0) = i3
          · rw [if_pos c, if_pos c, ← hT.e_harvest]
            exact ⟨_, _, _, _, _, _, _, _, _, _, _, _, _, _, _, _, _, rfl, rfl, hT, hP, hI⟩
          · rw [if_neg c, if_neg c, make_b w2 h1, pk_us]
            refine ⟨_, _, _, _, _, _, _, _, _, _, _, _, _, _, _, _, _, rfl, rfl, ?_, b3, hI.1.cg hn6 (pk_un (by omega)) (fun z hz => pk_un (by omega)) (fun z hz => pk_un (by omega)), by rw [pk_un (by omega)]; exact b4 _ hn6 hI.1 hI.2⟩
            refine hT.re (pk_un (by omega)) (pk_un (by omega)) (fun p hp => pk_un (by omega)) (fun p hp => pk_un (by omega)) ?_
            obtain ⟨c1, c2, c3, c4, c5, c6, c7, c8, c9⟩ := hT.2.2.2.2
            refine ⟨fun j hj => ?_, fun j hj => ?_, fun j hj => ?_, ?_, ?_, ?_, ?_, ?_, ?_⟩
            · show many j = upd now _ _ (23 + j)
              rw [pk_un (by omega)]; exact c1 j hj
            · show chalk j = upd now _ _ (7 + 3 * j)
              rw [pk_un (by omega)]; exact c2 j hj
            · rw [c3 j hj]
              congr 1
              apply hvN_cg 12
              intro z hz
              show now (23 + (12 * j + z)) = upd now _ _ (23 + (12 * j + z))
              rw [pk_un (by omega)]
            · rw [pk_un (by omega)]; exact c4
            · rw [pk_us]
            · rw [pk_un (by omega)]; exact c6
            · rw [pk_un (by omega)]; exact c7
            · rw [pk_us]; exact ⟨_, xor_s w2 h1, rfl⟩
            · rw [pk_un (by omega)]; exact c9
      · simp only [g3, g4, bS1, i00]
        exact ⟨_, _, _, _, _, _, _, _, _, _, _, _, _, _, _, _, _, rfl, rfl, hT, hP, hI⟩
    · simp only [f3, f4, bS1, i00]
      exact ⟨_, _, _, _, _, _, _, _, _, _, _, _, _, _, _, _, _, rfl, rfl, hT, hP, hI⟩
  · simp only [h3, h4, bS1, i00]
    exact ⟨_, _, _, _, _, _, _, _, _, _, _, _, _, _, _, _, _, rfl, rfl, hT, hP, hI⟩
end PA
