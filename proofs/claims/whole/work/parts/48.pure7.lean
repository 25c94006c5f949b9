/-! ===== how many bits ===== -/
def bcN (N : Nat) : Nat := sf (fun h => if N.testBit h then 1 else 0) 0 12
set_option maxRecDepth 100000 in
theorem bc_all : ∀ a, a < 64 → ∀ b, b < 64 → fJ6_bitCount_0f7a4 (nI (64 * a + b)) = some (nI (bcN (64 * a + b))) ∧ fX6_many_L4 13 0 (nI (64 * a + b)) = some (nI (bcN (64 * a + b))) := by decide +kernel
theorem many_up : ∀ n a i r, fX6_many_L4 n a i = some r → ∀ m, n ≤ m → fX6_many_L4 m a i = some r := by
  intro n
  induction n with
  | zero => intro a i r h; cases h
  | succ n ih =>
    intro a i r h m hm
    obtain ⟨m, rfl⟩ : ∃ k, m = k + 1 := ⟨m - 1, by omega⟩
    rw [fX6_many_L4] at h ⊢
    by_cases c : i = 0
    · rw [if_pos c] at h ⊢; exact h
    · rw [if_neg c] at h ⊢; exact ih _ _ _ h m (by omega)
theorem bc_x {N : Nat} (h : N < 4096) : fJ6_bitCount_0f7a4 (nI N) = some (nI (bcN N)) := by
  have := (bc_all (N / 64) (by omega) (N % 64) (by omega)).1
  rwa [show 64 * (N / 64) + N % 64 = N by omega] at this
theorem bc_m {N : Nat} (h : N < 4096) : fX6_many (nI N) = some (nI (bcN N)) := by
  have := (bc_all (N / 64) (by omega) (N % 64) (by omega)).2
  rw [show 64 * (N / 64) + N % 64 = N by omega] at this
  unfold fX6_many
  rw [many_up _ _ _ _ this fl (by decide), bS1]
theorem bcN_le (N : Nat) : bcN N ≤ 12 := by
  unfold bcN
  refine Nat.le_trans (sf_le (c := 1) 12 0 (fun j => ?_)) (by decide)
  split <;> decide
/-! ===== goods that change ===== -/
theorem hvN_cg {f g : Nat → Int32} : ∀ n, (∀ h, h < n → f h = g h) → hvN f n = hvN g n := by
  intro n
  induction n with
  | zero => intro _; rfl
  | succ n ih =>
    intro h
    show hvN f n + (if 0 < f n then 2 ^ n else 0) = hvN g n + (if 0 < g n then 2 ^ n else 0)
    rw [ih (fun k hk => h k (by omega)), h n (by omega)]
theorem GR.cg {many sets chalk : Nat → Int32} {wet harvest draw mw mh md : Int32} {mc mm : Nat → Int32} {many2 sets2 chalk2 : Nat → Int32} {wet2 harvest2 draw2 mw2 mh2 md2 : Int32} {mc2 mm2 : Nat → Int32} (h : GR many sets chalk wet harvest draw mw mh md mc mm) (a1 : ∀ j, j < 72 → many2 j = many j) (a2 : ∀ j, j < 6 → sets2 j = sets j) (a3 : ∀ j, j < 6 → chalk2 j = chalk j) (a4 : wet2 = wet) (a5 : harvest2 = harvest) (a6 : draw2 = draw) (b1 : mw2 = mw) (b2 : mh2 = mh) (b3 : md2 = md) (b4 : ∀ j, j < 6 → mc2 j = mc j) (b5 : ∀ j, j < 72 → mm2 j = mm j) : GR many2 sets2 chalk2 wet2 harvest2 draw2 mw2 mh2 md2 mc2 mm2 := by
  obtain ⟨c1, c2, c3, c4, c5, c6, c7, c8, c9⟩ := h
  subst a4 a5 a6 b1 b2 b3
  refine ⟨fun j hj => by rw [a1 j hj, b5 j hj, c1 j hj], fun p hp => by rw [a3 p hp, b4 p hp, c2 p hp], fun p hp => ?_, c4, c5, c6, c7, c8, c9⟩
  rw [a2 p hp, c3 p hp]
  congr 1
  exact hvN_cg 12 (fun h hh => (b5 _ (by omega)).symm)
section TR7
variable {people fewest : Int32} {kinds loves many sets chalk : Nat → Int32} {wet harvest draw : Int32} {now : Nat → Int32}
theorem TR.re {many2 sets2 chalk2 : Nat → Int32} {wet2 harvest2 draw2 : Int32} {now2 : Nat → Int32} (hT : TR people fewest kinds loves many sets chalk wet harvest draw now) (h0 : now2 0 = now 0) (h1 : now2 1 = now 1) (h2 : ∀ p, p < 6 → now2 (5 + 3 * p) = now (5 + 3 * p)) (h3 : ∀ p, p < 6 → now2 (6 + 3 * p) = now (6 + 3 * p)) (h : GR many2 sets2 chalk2 wet2 harvest2 draw2 (now2 2) (now2 3) (now2 4) (fun p => now2 (7 + 3 * p)) (fun j => now2 (23 + j))) : TR people fewest kinds loves many2 sets2 chalk2 wet2 harvest2 draw2 now2 := by
  obtain ⟨a1, a2, a3, a4, -⟩ := hT
  refine ⟨by rw [h0]; exact a1, by rw [h1]; exact a2, fun p hp => by rw [h2 p hp]; exact a3 p hp, fun p hp => by rw [h3 p hp]; exact a4 p hp, h⟩
end TR7
/-- a bit set or cleared -/
theorem hv_upd {f : Nat → Int32} {h : Nat} (hh : h < 12) (v : Int32) : nI (hvN (upd f h v) 12) = if v ≤ 0 then nI (hvN f 12) &&& (((1 : Int32) <<< (nI h &&& 31)) ^^^ (-1)) else nI (hvN f 12) ||| ((1 : Int32) <<< (nI h &&& 31)) := by
  rw [one_sh (by omega)]
  by_cases c : v ≤ 0
  · rw [if_pos c, show (-1 : Int32) = nI 4294967295 from rfl, x1_n, and_n]
    congr 1
    apply Nat.eq_of_testBit_eq
    intro j
    rw [Nat.testBit_and, Nat.testBit_xor, hvN_bit, hvN_bit, Nat.testBit_two_pow, show (4294967295 : Nat) = 2 ^ 32 - 1 from rfl, Nat.testBit_two_pow_sub_one]
    by_cases d : j = h
    · subst d
      rw [pk_us]
      simp [Int32.not_lt.mpr c, show j < 32 by omega]
    · rw [pk_un d]
      by_cases e : j < 12
      · simp [show ¬ h = j from fun q => d q.symm, show j < 32 by omega]
      · simp [e]
  · rw [if_neg c, or_n]
    congr 1
    apply Nat.eq_of_testBit_eq
    intro j
    rw [Nat.testBit_or, hvN_bit, hvN_bit, Nat.testBit_two_pow]
    by_cases d : j = h
    · subst d
      rw [pk_us]
      simp [Int32.not_le.mp c, hh]
    · rw [pk_un d]
      simp [show ¬ h = j from fun q => d q.symm]
section GR7
variable {many sets chalk : Nat → Int32} {wet harvest draw mw mh md : Int32} {mc mm : Nat → Int32}
theorem GR.set (hG : GR many sets chalk wet harvest draw mw mh md mc mm) {p h : Nat} (hp : p < 6) (hh : h < 12) (v : Int32) : ∃ sets2, fX0_setMany many sets (nI p) (nI h) v = some (upd many (12 * p + h) v, sets2) ∧ GR (upd many (12 * p + h) v) sets2 chalk wet harvest draw mw mh md mc (upd mm (12 * p + h) v) := by
  obtain ⟨c1, c2, c3, c4⟩ := hG
  unfold fX0_setMany
  have e0 : nI (hvN (fun z => upd mm (12 * p + h) v (12 * p + z)) 12) = nI (hvN (upd (fun z => mm (12 * p + z)) h v) 12) := by
    congr 1
    apply hvN_cg
    intro z _
    by_cases c : z = h
    · subst c; rw [pk_us, pk_us]
    · rw [pk_un c, pk_un (by omega)]
  rw [i12, ix_n (by omega) (by decide), bS1, ix_n hp (by decide), bS1, bS1, c3 p hp]
  refine ⟨upd sets p (nI (hvN (fun z => upd mm (12 * p + h) v (12 * p + z)) 12)), ?_, fun j hj => ?_, c2, fun q hq => ?_, c4⟩
  · rw [e0, hv_upd hh]
    by_cases c : v ≤ 0
    · rw [if_pos c, if_pos c, bS1, bS1]
    · rw [if_neg c, if_neg c, bS1, bS1]
  · by_cases c : j = 12 * p + h
    · subst c; rw [pk_us, pk_us]
    · rw [pk_un c, pk_un c]; exact c1 j hj
  · by_cases c : q = p
    · subst c; rw [pk_us]
    · rw [pk_un c, c3 q hq]
      congr 1
      apply hvN_cg
      intro z hz
      rw [pk_un (by omega)]
theorem GR.move (hG : GR many sets chalk wet harvest draw mw mh md mc mm) {p q h : Nat} (hp : p < 6) (hq : q < 6) (hn : p ≠ q) (hh : h < 12) : ∃ many2 sets2, fX0_move many sets (nI p) (nI q) (nI h) = some (many2, sets2) ∧ GR many2 sets2 chalk wet harvest draw mw mh md mc (upd (upd mm (12 * p + h) (mm (12 * p + h) + -1)) (12 * q + h) (mm (12 * q + h) + 1)) := by
  unfold fX0_move
  have hm : ∀ {many mm : Nat → Int32} {p : Nat}, (∀ j, j < 72 → many j = mm j) → p < 6 → fX0_manyOf many (nI p) (nI h) = some (mm (12 * p + h)) := by
    intro many mm p h1 h2
    unfold fX0_manyOf
    rw [i12, ix_n (by omega) (by decide), bS1, h1 _ (by omega)]
  rw [hm hG.1 hp, bS1, Int32.sub_eq_add_neg]
  obtain ⟨s2, e1, g1⟩ := hG.set hp hh (mm (12 * p + h) + -1)
  rw [e1, bS2, hm g1.1 hq, bS1, pk_un (by omega)]
  obtain ⟨s3, e2, g2⟩ := g1.set hq hh (mm (12 * q + h) + 1)
  rw [e2, bS2]
  exact ⟨_, _, rfl, g2⟩
theorem GR.pay (hG : GR many sets chalk wet harvest draw mw mh md mc mm) {p q : Nat} (hp : p < 6) (hq : q < 6) (hn : p ≠ q) (v : Int32) : ∃ chalk2, fX0_pay chalk (nI p) (nI q) v = some chalk2 ∧ GR many sets chalk2 wet harvest draw mw mh md (upd (upd mc p (mc p - v)) q (mc q + v)) mm := by
  unfold fX0_pay
  rw [ix_n hp (by decide), bS1, ix_n hq (by decide), bS1]
  obtain ⟨c1, c2, c3⟩ := hG
  refine ⟨_, rfl, c1, fun j hj => ?_, c3⟩
  by_cases c : j = q
  · subst c; rw [pk_us, pk_us, pk_un (fun z => hn z.symm), c2 j hj]
  · rw [pk_un c, pk_un c]
    by_cases d : j = p
    · subst d; rw [pk_us, pk_us, c2 j hj]
    · rw [pk_un d, pk_un d]; exact c2 j hj
end GR7
