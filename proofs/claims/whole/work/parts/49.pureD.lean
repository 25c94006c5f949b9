/-! ===== what a sale gains, for how much it goes ===== -/
theorem r_a (a b c d : Int32) : a - b + (c - d) = a - b + c - d := by grind
theorem r_b (a b c : Int32) : a + c - (b + c) = a - b := by grind
theorem r_c (a : Int32) : a + -1 + 1 = a := by grind
theorem r_d (a : Int32) : a + 1 + -1 = a := by grind
section PD
variable {people fewest : Int32} {kinds loves many sets chalk : Nat → Int32} {wet harvest draw : Int32} {now : Nat → Int32}
theorem gN_back {p q h : Nat} (hn : p ≠ q) (hh : h < 12) : gN (gN now p q h) q p h = now := by
  funext k
  have e1 : gN now p q h (23 + (12 * q + h)) = now (23 + (12 * q + h)) + 1 := by unfold gN; rw [pk_us]
  have e2 : gN now p q h (23 + (12 * p + h)) = now (23 + (12 * p + h)) + -1 := by unfold gN; rw [pk_un (by omega), pk_us]
  have e3 : gN (gN now p q h) q p h = upd (upd (gN now p q h) (23 + (12 * q + h)) (gN now p q h (23 + (12 * q + h)) + -1)) (23 + (12 * p + h)) (gN now p q h (23 + (12 * p + h)) + 1) := rfl
  rw [e3, e1, e2, r_c, r_d]
  by_cases c : k = 23 + (12 * p + h)
  · subst c; rw [pk_us]
  · rw [pk_un c]
    by_cases d : k = 23 + (12 * q + h)
    · subst d; rw [pk_us]
    · rw [pk_un d]
      unfold gN
      rw [pk_un d, pk_un c]
/-- to and fro, on both sides -/
theorem TR.back (hT : TR people fewest kinds loves many sets chalk wet harvest draw now) {p q h : Nat} (hp : p < 6) (hq : q < 6) (hn : p ≠ q) (hh : h < 12) : ∃ many2 sets2 many3 sets3, fX0_move many sets (nI p) (nI q) (nI h) = some (many2, sets2) ∧ TR people fewest kinds loves many2 sets2 chalk wet harvest draw (gN now p q h) ∧ fX0_move many2 sets2 (nI q) (nI p) (nI h) = some (many3, sets3) ∧ TR people fewest kinds loves many3 sets3 chalk wet harvest draw now := by
  obtain ⟨m2, s2, e1, t1⟩ := hT.move hp hq hn hh
  obtain ⟨m3, s3, e2, t2⟩ := t1.move hq hp (fun z => hn z.symm) hh
  rw [gN_back hn hh] at t2
  exact ⟨m2, s2, m3, s3, e1, t1, e2, t2⟩
/-- the middle price -/
def midN (now : Nat → Int32) (p q h : Nat) : Int32 :=
  if 0 ≤ ((nI (wP_ now p) - nI (wP_ (gN now p q h) p) + nI (wP_ (gN now p q h) q) - nI (wP_ now q)) / 2) then ((nI (wP_ now p) - nI (wP_ (gN now p q h) p) + nI (wP_ (gN now p q h) q) - nI (wP_ now q)) / 2) else 0
theorem mid_nn (now : Nat → Int32) (p q h : Nat) : 0 ≤ (midN now p q h).toInt := by
  unfold midN
  split
  · rename_i c
    exact Int32.le_iff_toInt_le.mp c
  · decide
theorem mid_m (hk : OKM now) {p q h : Nat} (hp : p < 6) (hq : q < 6) (hn : p ≠ q) (hh : h < 12) (hk2 : OKM (gN now p q h)) : fX6_middleOf now (nI p) (nI q) (nI h) = some (midN now p q h, now) := by
  unfold fX6_middleOf
  rw [worth_m hk hp, bS1, worth_m hk hq, bS1, goes_m now hp hq hn hh, bS1, worth_m hk2 hp, bS1, worth_m hk2 hq, bS1, goes_m _ hq hp (fun z => hn z.symm) hh, bS1, gN_back hn hh]
  unfold midN
  split <;> rfl
theorem mid_x (hT : TR people fewest kinds loves many sets chalk wet harvest draw now) {p q h : Nat} (hp : p < 6) (hq : q < 6) (hn : p ≠ q) (hh : h < 12) : ∃ many2 sets2, fX4_middleOfSale kinds loves many sets wet harvest (nI p) (nI q) (nI h) = some (midN now p q h, many2, sets2) ∧ TR people fewest kinds loves many2 sets2 chalk wet harvest draw now ∧ OKM (gN now p q h) := by
  obtain ⟨m2, s2, m3, s3, e1, t1, e2, t2⟩ := hT.back hp hq hn hh
  refine ⟨m3, s3, ?_, t2, t1.ok⟩
  unfold fX4_middleOfSale
  rw [worthOf_x hT hp, bS1, worthOf_x hT hq, bS1, e1, bS2, worthOf_x t1 hp, bS1, worthOf_x t1 hq, bS1, e2, bS2, r_a]
  unfold midN
  congr 2
  generalize (nI (wP_ now p) - nI (wP_ (gN now p q h) p) + nI (wP_ (gN now p q h) q) - nI (wP_ now q)) / 2 = v
  by_cases c : 0 < v
  · rw [if_pos c, if_pos (Int32.le_of_lt c)]
  · rw [if_neg c]
    by_cases d : 0 ≤ v
    · rw [if_pos d]
      exact Int32.le_antisymm d (Int32.not_lt.mp c)
    · rw [if_neg d]
/-- one has a half: more than none, which is not 0 -/
theorem has_0 (hI : NI now) {p h : Nat} (hp : p < nP now) (hh : h < 12) : (now (23 + 12 * p + h) = 0) ↔ hs now p h = false := by
  have h1 : 0 ≤ (now (23 + (12 * p + h))).toInt := (hI.2 h hh).1 p hp
  rw [← Nat.add_assoc] at h1
  unfold hs
  rw [decide_eq_false_iff_not, Int32.lt_iff_toInt_lt]
  constructor
  · intro e; rw [e]; decide
  · intro e
    apply Int32.toInt_inj.mp
    have : (0 : Int32).toInt = 0 := rfl
    omega
theorem t_middle (hT : TR people fewest kinds loves many sets chalk wet harvest draw now) (hI : NI now) (i1 i2 i3 : Int32) : ∃ r many_r sets_r now_r, fX5_middle people kinds loves many sets wet harvest i1 i2 i3 = some (r, many_r, sets_r) ∧ fX6_middle now i1 i2 i3 = some (r, now_r) ∧ now_r = now ∧ TR people fewest kinds loves many_r sets_r chalk wet harvest draw now_r := by
  have hk := hT.ok
  unfold fX5_middle fX6_middle
  rcases two_c hT i1 i2 with ⟨p, q, p0, q0, hp, hq, hn, e1, e2, h3, h4⟩ | ⟨h3, h4⟩
  · simp only [h3, h4, bS1, i10]
    rcases half_c i3 with ⟨h, g1, g2, g3, g4⟩ | ⟨g3, g4⟩
    · simp only [g3, g4, bS1, i10]
      rw [e1, e2, g2, manyOf_x (fun j hj => hT.e_many hj) hp g1, bS1, hasOne_m now hp g1, bS1]
      by_cases c : now (23 + 12 * p + h) = 0
      · rw [if_pos c, (has_0 hI p0 g1).mp c, if_pos (by decide)]
        exact ⟨_, _, _, _, rfl, rfl, rfl, hT⟩
      · have c2 : hs now p h = true := by
          cases e : hs now p h
          · exact absurd ((has_0 hI p0 g1).mpr e) c
          · rfl
        obtain ⟨m2, s2, x1, x2, x3⟩ := mid_x hT hp hq hn g1
        rw [if_neg c, c2, if_neg (by decide), x1, bS3, mid_m hk hp hq hn g1 x3, bS2]
        exact ⟨_, _, _, _, rfl, rfl, rfl, x2⟩
    · simp only [g3, g4, bS1, i00]
      exact ⟨_, _, _, _, rfl, rfl, rfl, hT⟩
  · simp only [h3, h4, bS1, i00]
    exact ⟨_, _, _, _, rfl, rfl, rfl, hT⟩
end PD
