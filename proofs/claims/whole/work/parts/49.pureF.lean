/-! ===== drift ===== -/
theorem draw_eq (x : Int32) : Int64.toInt32 ((Int32.toInt64 x * 1103515245 + 12345) &&& 2147483647) = (x * 1103515245 + 12345) &&& 2147483647 := by
  simp
theorem draw_n (x : Int32) : ∃ W, W < 2 ^ 31 ∧ (x &&& 2147483647) = nI W := by
  refine ⟨x.toBitVec.toNat % 2 ^ 31, Nat.mod_lt _ (by decide), ?_⟩
  have e : x = nI x.toBitVec.toNat := by
    apply Int32.toBitVec_inj.mp
    show x.toBitVec = BitVec.ofNat 32 x.toBitVec.toNat
    simp
  have h := and_n x.toBitVec.toNat 2147483647
  rw [← e] at h
  rw [show (2147483647 : Int32) = nI 2147483647 from rfl, h]
  congr 1
  exact Nat.and_two_pow_sub_one_eq_mod _ 31
theorem bS15 {α1 α2 α3 α4 α5 α6 α7 α8 α9 α10 α11 α12 α13 α14 α15 β : Type} (a1 : α1) (a2 : α2) (a3 : α3) (a4 : α4) (a5 : α5) (a6 : α6) (a7 : α7) (a8 : α8) (a9 : α9) (a10 : α10) (a11 : α11) (a12 : α12) (a13 : α13) (a14 : α14) (a15 : α15) (k : α1 → α2 → α3 → α4 → α5 → α6 → α7 → α8 → α9 → α10 → α11 → α12 → α13 → α14 → α15 → Option β) : bd15 (some (a1, a2, a3, a4, a5, a6, a7, a8, a9, a10, a11, a12, a13, a14, a15)) k = k a1 a2 a3 a4 a5 a6 a7 a8 a9 a10 a11 a12 a13 a14 a15 := rfl
section PF
variable {people fewest : Int32} {kinds loves many sets chalk : Nat → Int32} {wet harvest draw : Int32} {now : Nat → Int32}
theorem TR.drawn (hT : TR people fewest kinds loves many sets chalk wet harvest draw now) {W : Nat} (hW : W < 2 ^ 31) : TR people fewest kinds loves many sets chalk wet harvest (nI W) (upd now 4 (nI W)) := by
  refine hT.re (pk_un (by omega)) (pk_un (by omega)) (fun p hp => pk_un (by omega)) (fun p hp => pk_un (by omega)) ?_
  obtain ⟨c1, c2, c3, c4, c5, c6, c7, c8, c9⟩ := hT.2.2.2.2
  refine ⟨fun j hj => ?_, fun j hj => ?_, fun j hj => ?_, ?_, ?_, ?_, ?_, ?_, ?_⟩
  · show many j = upd now _ _ (23 + j)
    rw [pk_un (by omega)]; exact c1 j hj
  · show chalk j = upd now _ _ (7 + 3 * j)
    rw [pk_un (by omega)]; exact c2 j hj
  · rw [c3 j hj]
    congr 1
    apply hvN_cg 12
    intro z hz
    show now (23 + (12 * j + z)) = upd now _ _ (23 + (12 * j + z))
    rw [pk_un (by omega)]
  · rw [pk_un (by omega)]; exact c4
  · rw [pk_un (by omega)]; exact c5
  · rw [pk_us]
  · rw [pk_un (by omega)]; exact c7
  · rw [pk_un (by omega)]; exact c8
  · rw [pk_us]; exact ⟨W, hW, rfl⟩
/-- a sale by draw, on both sides -/
theorem t_trades (hT : TR people fewest kinds loves many sets chalk wet harvest draw now) (hI : NI now) {p q h : Nat} (p0 : p < nP now) (q0 : q < nP now) (g1 : h < 12) : ∃ many_r sets_r chalk_r now_r, (if nI p = nI q then some (many, sets, chalk, draw) else bd1 (fX0_manyOf many (nI p) (nI h)) fun r5 => if r5 = 0 then some (many, sets, chalk, draw) else bd3 (fX4_middleOfSale kinds loves many sets wet harvest (nI p) (nI q) (nI h)) fun r8 f9 f10 => bd1 (fX4_maySell fewest f9 f10 chalk (nI p) (nI q) (nI h) r8) fun r12 => if r12 = 0 then some (f9, f10, chalk, draw) else bd2 (fX0_move f9 f10 (nI p) (nI q) (nI h)) fun f15 f16 => bd1 (fX0_pay chalk (nI q) (nI p) r8) fun f18 => some (f15, f16, f18, draw)) = some (many_r, sets_r, chalk_r, draw) ∧ fX6_trades now (nI p) (nI q) (nI h) = some now_r ∧ TR people fewest kinds loves many_r sets_r chalk_r wet harvest draw now_r ∧ NI now_r ∧ now_r 0 = now 0 := by
  have hk := hT.ok
  have h6 := hk.1.1
  have hp : p < 6 := by omega
  have hq : q < 6 := by omega
  unfold fX6_trades
  by_cases c : nI p = nI q
  · rw [if_pos c, if_pos c]
    exact ⟨_, _, _, _, rfl, rfl, hT, hI, rfl⟩
  · have hn : p ≠ q := fun z => c (by rw [z])
    rw [if_neg c, if_neg c, manyOf_x (fun j hj => hT.e_many hj) hp g1, bS1, may_m hk hp g1, bS1]
    by_cases c0 : now (23 + 12 * p + h) = 0
    · have : mayN now p h = false := by
        unfold mayN
        rw [(has_0 hI p0 g1).mp c0]
        rfl
      rw [if_pos c0, this, if_pos (by decide)]
      exact ⟨_, _, _, _, rfl, rfl, hT, hI, rfl⟩
    · obtain ⟨m2, s2, x1, x2, x3⟩ := mid_x hT hp hq hn g1
      rw [if_neg c0, x1, bS3, may_x x2 hp hq g1, bS1, mid_m hk hp hq hn g1 x3, bS2, chalk_m now hq, bS1]
      by_cases cm : mayN now p h = true
      · rw [if_pos cm, if_neg (show ¬ (1 : Int32) = 0 by decide)]
        by_cases d : midN now p q h ≤ now (7 + 3 * q)
        · rw [if_pos (show mayN now p h = true ∧ midN now p q h ≤ now (7 + 3 * q) from ⟨cm, d⟩), if_neg (show ¬ (1 : Int32) = 0 by decide), if_neg (Int32.not_lt.mpr d)]
          obtain ⟨m3, s3, c1, c2⟩ := x2.move hp hq hn g1
          obtain ⟨k2, d1, d2⟩ := c2.pay hq hp (fun z => hn z.symm) (midN now p q h)
          rw [c1, bS2, d1, bS1, goes_m now hp hq hn g1, bS1, pays_m _ hq, bS1, pay_m _ hq hp (fun z => hn z.symm), bS1]
          have g0 : gN now p q h 0 = now 0 := gN_lo (by decide)
          have gP : nP (gN now p q h) = nP now := congrArg Int32.toNatClampNeg g0
          have y0 : yN (gN now p q h) q p (midN now p q h) 0 = now 0 := (yN_o (by omega) (by omega)).trans g0
          have n1 : NI (gN now p q h) := hI.move h6 p0 q0 hn g1 (by
            have c3 := cm
            unfold mayN hs at c3
            simp only [Bool.and_eq_true, decide_eq_true_eq] at c3
            rw [← Nat.add_assoc]
            exact c3.1)
          exact ⟨_, _, _, _, rfl, rfl, d2, n1.pay (by rw [gP]; exact h6) (by rw [gP]; exact q0) (by rw [gP]; exact p0) (fun z => hn z.symm) (mid_nn _ _ _ _) (by rw [gN_lo (by omega)]; exact Int32.le_iff_toInt_le.mp d), y0⟩
        · rw [if_neg (show ¬ (mayN now p h = true ∧ midN now p q h ≤ now (7 + 3 * q)) from fun z => d z.2), if_pos rfl, if_pos (Int32.not_le.mp d)]
          exact ⟨_, _, _, _, rfl, rfl, x2, hI, rfl⟩
      · rw [if_neg cm, if_pos rfl, if_neg (show ¬ (mayN now p h = true ∧ midN now p q h ≤ now (7 + 3 * q)) from fun z => cm z.1), if_pos rfl]
        exact ⟨_, _, _, _, rfl, rfl, x2, hI, rfl⟩
/-- what one draw does to the reference's row -/
def drM (g : Nat → Int32) : Option (Nat → Int32) :=
  bd1 (ix 4 95) fun j62 =>
  bd1 (ix 0 95) fun j64 =>
  bd1 (if ((upd g j62 (Int64.toInt32 ((((Int32.toInt64 (g j62)) * 1103515245) + 12345) &&& 2147483647))) j64) ≤ 0 then
      some ((upd g j62 (Int64.toInt32 ((((Int32.toInt64 (g j62)) * 1103515245) + 12345) &&& 2147483647))))
    else
      bd0 (nz ((upd g j62 (Int64.toInt32 ((((Int32.toInt64 (g j62)) * 1103515245) + 12345) &&& 2147483647))) j64)) <|
      bd0 (nz ((upd g j62 (Int64.toInt32 ((((Int32.toInt64 (g j62)) * 1103515245) + 12345) &&& 2147483647))) j64)) <|
      bd1 (fX6_trades (upd g j62 (Int64.toInt32 ((((Int32.toInt64 (g j62)) * 1103515245) + 12345) &&& 2147483647))) ((((upd g j62 (Int64.toInt32 ((((Int32.toInt64 (g j62)) * 1103515245) + 12345) &&& 2147483647))) j62) / 65536) - (((upd g j62 (Int64.toInt32 ((((Int32.toInt64 (g j62)) * 1103515245) + 12345) &&& 2147483647))) j62) / 65536) / ((upd g j62 (Int64.toInt32 ((((Int32.toInt64 (g j62)) * 1103515245) + 12345) &&& 2147483647))) j64) * ((upd g j62 (Int64.toInt32 ((((Int32.toInt64 (g j62)) * 1103515245) + 12345) &&& 2147483647))) j64)) ((((upd g j62 (Int64.toInt32 ((((Int32.toInt64 (g j62)) * 1103515245) + 12345) &&& 2147483647))) j62) / 1024) - (((upd g j62 (Int64.toInt32 ((((Int32.toInt64 (g j62)) * 1103515245) + 12345) &&& 2147483647))) j62) / 1024) / ((upd g j62 (Int64.toInt32 ((((Int32.toInt64 (g j62)) * 1103515245) + 12345) &&& 2147483647))) j64) * ((upd g j62 (Int64.toInt32 ((((Int32.toInt64 (g j62)) * 1103515245) + 12345) &&& 2147483647))) j64)) ((((upd g j62 (Int64.toInt32 ((((Int32.toInt64 (g j62)) * 1103515245) + 12345) &&& 2147483647))) j62) / 128) - (((upd g j62 (Int64.toInt32 ((((Int32.toInt64 (g j62)) * 1103515245) + 12345) &&& 2147483647))) j62) / 128) / 12 * 12)) fun f76 =>
      some (f76)
    : Option ((Nat → Int32))) fun f71 => some f71
theorem drM_L (i1 : Int32) (n : Nat) (v : Int32) (g u : Nat → Int32) (k : Int32) : fX6_drift_L16 i1 (n + 1) v g u k = if i1 ≤ v then some (g, u, k) else bd2 (fX6_notes g u k) fun f59 x60 => bd1 (drM g) fun f71 => fX6_drift_L16 i1 n (v + 1) f71 f59 x60 := by
  rw [fX6_drift_L16]
  unfold drM
  simp only [show ix 4 95 = some 4 by decide, i0, bS1]
  generalize (if upd g 4 (Int64.toInt32 ((Int32.toInt64 (g 4) * 1103515245 + 12345) &&& 2147483647)) 0 ≤ 0 then _ else _ : Option (Nat → Int32)) = o
  cases o <;> rfl
theorem t_once (hT : TR people fewest kinds loves many sets chalk wet harvest draw now) (hI : NI now) : ∃ many_r sets_r chalk_r draw_r now_r, fX4_driftOnce people fewest kinds loves many sets chalk wet harvest draw = some (many_r, sets_r, chalk_r, draw_r) ∧ drM now = some now_r ∧ TR people fewest kinds loves many_r sets_r chalk_r wet harvest draw_r now_r ∧ NI now_r ∧ now_r 0 = now 0 := by
  have h6 := hT.ok.1.1
  have e0 := hT.ok.1.2
  obtain ⟨W, hW, eW⟩ := draw_n (draw * 1103515245 + 12345)
  have eM : Int64.toInt32 ((Int32.toInt64 (now 4) * 1103515245 + 12345) &&& 2147483647) = nI W := by rw [draw_eq, ← hT.e_draw]; exact eW
  have hT2 := hT.drawn hW
  have hI2 : NI (upd now 4 (nI W)) := hI.cg h6 (pk_un (by omega)) (fun p hp => pk_un (by omega)) (fun p hp => pk_un (by omega))
  have n0 : upd now 4 (nI W) 0 = nI (nP now) := (pk_un (by omega)).trans e0
  unfold fX4_driftOnce drM
  simp only [eW, eM, show ix 4 95 = some 4 by decide, i0, bS1, n0]
  rw [pk_us, hT.e_people]
  by_cases c : nP now = 0
  · rw [if_pos (by rw [c]; rfl), if_pos (by rw [c]; decide), bS1]
    exact ⟨_, _, _, _, _, rfl, rfl, by rw [← hT.e_people]; exact hT2, hI2, pk_un (by omega)⟩
  · have z1 : ¬ nI (nP now) = 0 := fun z => c ((nI_eq (b := 0) (by omega) (by decide)).mp z)
    have z2 : ¬ nI (nP now) ≤ 0 := fun z => c (by have := (nle (a := nP now) (b := 0) (by omega) (by decide)).mp z; omega)
    have z3 : nz (nI (nP now)) = some () := by unfold nz; rw [if_neg z1]
    have d1 : nI W / 65536 = nI (W / 65536) := pk_div (a := W) (d := 65536) hW (by decide) (by decide)
    have d2 : nI W / 1024 = nI (W / 1024) := pk_div (a := W) (d := 1024) hW (by decide) (by decide)
    have d3 : nI W / 128 = nI (W / 128) := pk_div (a := W) (d := 128) hW (by decide) (by decide)
    have r1 : nI (W / 65536) - nI (W / 65536) / nI (nP now) * nI (nP now) = nI (W / 65536 % nP now) := pk_rem (by omega) (by omega) (by omega)
    have r2 : nI (W / 1024) - nI (W / 1024) / nI (nP now) * nI (nP now) = nI (W / 1024 % nP now) := pk_rem (by omega) (by omega) (by omega)
    have r3 : nI (W / 128) - nI (W / 128) / 12 * 12 = nI (W / 128 % 12) := pk_rem (a := W / 128) (d := 12) (by omega) (by decide) (by decide)
    rw [if_neg z1, if_neg z2, z3, bS0, bS0, bS0, bS0, d1, d2, d3, r1, r2, r3]
    have nn : nP (upd now 4 (nI W)) = nP now := congrArg Int32.toNatClampNeg (pk_un (by omega))
    obtain ⟨a, b, k, w, y1, y2, y3, y4, y5⟩ := t_trades hT2 hI2 (p := W / 65536 % nP now) (q := W / 1024 % nP now) (h := W / 128 % 12) (by rw [nn]; exact Nat.mod_lt _ (by omega)) (by rw [nn]; exact Nat.mod_lt _ (by omega)) (Nat.mod_lt _ (by decide))
    rw [y1, y2, bS1, bS1]
    exact ⟨_, _, _, _, _, rfl, rfl, by rw [← hT.e_people]; exact y3, y4, y5.trans (pk_un (by omega))⟩
theorem drift_L {i1 : Int32} {N : Nat} (e1 : i1 = nI N) (hN : N ≤ 40) {wet harvest fewest : Int32} {kinds loves : Nat → Int32} {people : Int32} : ∀ d n i (many sets chalk : Nat → Int32) (draw : Int32) (known : Int32) (r0 r1 r2 r3 : Nat → Nat) (pmany psets pchalk : Nat → Nat → Int32) (pwet pharvest pdraw now undone : Nat → Int32) (undos : Int32), i + d = N → d < n → TR people fewest kinds loves many sets chalk wet harvest draw now → PR known pmany psets pchalk pwet pharvest pdraw undone undos → II now undone undos → ∃ many_r sets_r chalk_r draw_r known_r s0 s1 s2 s3 pmany_r psets_r pchalk_r pwet_r pharvest_r pdraw_r now_r undone_r undos_r, fX5_drift_L14 i1 harvest wet fewest kinds loves people n (nI i) chalk draw many sets pchalk pdraw pharvest known pmany r0 r1 r2 r3 psets pwet = some (many_r, sets_r, chalk_r, draw_r, known_r, s0, s1, s2, s3, pmany_r, psets_r, pchalk_r, pwet_r, pharvest_r, pdraw_r) ∧ fX6_drift_L16 i1 n (nI i) now undone undos = some (now_r, undone_r, undos_r) ∧ TR people fewest kinds loves many_r sets_r chalk_r wet harvest draw_r now_r ∧ PR known_r pmany_r psets_r pchalk_r pwet_r pharvest_r pdraw_r undone_r undos_r ∧ II now_r undone_r undos_r := by
  intro d
  induction d with
  | zero =>
    intro n i many sets chalk draw known r0 r1 r2 r3 pmany psets pchalk pwet pharvest pdraw now undone undos hi hn hT hP hI
    obtain ⟨m, rfl⟩ : ∃ m, n = m + 1 := ⟨n - 1, by omega⟩
    have c : i1 ≤ nI i := by rw [e1]; exact le_ge (by omega) (by omega)
    rw [fX5_drift_L14, drM_L, if_pos c, if_pos c]
    exact ⟨_, _, _, _, _, _, _, _, _, _, _, _, _, _, _, _, _, _, rfl, rfl, hT, hP, hI⟩
  | succ d ih =>
    intro n i many sets chalk draw known r0 r1 r2 r3 pmany psets pchalk pwet pharvest pdraw now undone undos hi hn hT hP hI
    obtain ⟨m, rfl⟩ : ∃ m, n = m + 1 := ⟨n - 1, by omega⟩
    have c : ¬ i1 ≤ nI i := by rw [e1]; exact nI_ge (by omega) (by omega)
    obtain ⟨a1, a2, a3, a4, a5, a6, a7, a8, a9, a10, a11, a12, a13, b1, b2, b3, b4⟩ := t_remember (now := now) hP hT.2.2.2.2 r0 r1 r2 r3
    obtain ⟨x1, x2, x3, x4, x5, y1, y2, y3, y4, y5⟩ := t_once hT hI.1
    rw [fX5_drift_L14, drM_L, if_neg c, if_neg c, b1, b2, bS11, bS2, y1, y2, bS4, bS1, nI_1]
    exact ih m (i + 1) _ _ _ _ _ _ _ _ _ _ _ _ _ _ _ _ _ _ (by omega) (by omega) y3 b3 ⟨y4, by rw [y5]; exact b4 _ hT.ok.1.1 hI.1 hI.2⟩
variable {known : Int32} {pmany psets pchalk : Nat → Nat → Int32} {pwet pharvest pdraw : Nat → Int32} {undone : Nat → Int32} {undos : Int32}
theorem t_drift (hT : TR people fewest kinds loves many sets chalk wet harvest draw now) (hP : PR known pmany psets pchalk pwet pharvest pdraw undone undos) (hI : II now undone undos) (r0 r1 r2 r3 : Nat → Nat) (i1 : Int32) : ∃ r many_r sets_r chalk_r draw_r known_r s0 s1 s2 s3 pmany_r psets_r pchalk_r pwet_r pharvest_r pdraw_r now_r undone_r undos_r, fX5_drift people fewest kinds loves many sets chalk wet harvest draw known r0 r1 r2 r3 pmany psets pchalk pwet pharvest pdraw i1 = some (r, many_r, sets_r, chalk_r, draw_r, known_r, s0, s1, s2, s3, pmany_r, psets_r, pchalk_r, pwet_r, pharvest_r, pdraw_r) ∧ fX6_drift now undone undos i1 = some (r, now_r, undone_r, undos_r) ∧ TR people fewest kinds loves many_r sets_r chalk_r wet harvest draw_r now_r ∧ PR known_r pmany_r psets_r pchalk_r pwet_r pharvest_r pdraw_r undone_r undos_r ∧ II now_r undone_r undos_r := by
  unfold fX5_drift fX6_drift
  rcases wi_ab i1 1 40 1 40 rfl rfl with ⟨f1, f2, f3, f4⟩ | ⟨f3, f4⟩
  · simp only [f3, f4, bS1, i10]
    obtain ⟨N, n1, n2⟩ := inN (n := 40) (i := i1) ⟨Int.le_trans (by decide) f1, f2⟩ (by decide)
    obtain ⟨a1, a2, a3, a4, a5, a6, a7, a8, a9, a10, a11, a12, a13, a14, a15, a16, a17, a18, b1, b2, b3, b4, b5⟩ := drift_L n2 n1 N fl 0 many sets chalk draw known r0 r1 r2 r3 pmany psets pchalk pwet pharvest pdraw now undone undos (by omega) (by unfold fl; omega) hT hP hI
    rw [show fX5_drift_L14 i1 harvest wet fewest kinds loves people fl 0 chalk draw many sets pchalk pdraw pharvest known pmany r0 r1 r2 r3 psets pwet = _ from b1, show fX6_drift_L16 i1 fl 0 now undone undos = _ from b2, bS15, bS3, worthOfAll_x b3, bS1, worthAll_m b3.ok, bS1]
    exact ⟨_, _, _, _, _, _, _, _, _, _, _, _, _, _, _, _, _, _, _, rfl, rfl, b3, b4, b5⟩
  · simp only [f3, f4, bS1, i00]
    exact ⟨_, _, _, _, _, _, _, _, _, _, _, _, _, _, _, _, _, _, _, rfl, rfl, hT, hP, hI⟩
end PF
