/-! ===== the town, read off the reference's row of numbers ===== -/
abbrev nP (now : Nat → Int32) : Nat := (now 0).toNatClampNeg
abbrev nF (now : Nat → Int32) : Nat := (now 1).toNatClampNeg
abbrev nW (now : Nat → Int32) : Nat := (now 2).toNatClampNeg
abbrev nH (now : Nat → Int32) : Nat := (now 3).toNatClampNeg
abbrev kd (now : Nat → Int32) (p : Nat) : Nat := (now (5 + 3 * p)).toNatClampNeg
abbrev lo (now : Nat → Int32) (p : Nat) : Nat := (now (6 + 3 * p)).toNatClampNeg
/-- whether one has a half -/
def hs (now : Nat → Int32) (p h : Nat) : Bool := decide (0 < now (23 + 12 * p + h))
/-- the loved one's halves, if it is another one -/
def lvs (now : Nat → Int32) (p h : Nat) : Bool := if lo now p = p then false else hs now (lo now p) h
/-- what a half is worth to one -/
def wN (now : Nat → Int32) (p h : Nat) : Nat := wbk (kd now p) h (hs now p) (lvs now p) (nW now).testBit (nH now).testBit
/-- worth of one, of all -/
def wP_ (now : Nat → Int32) (p : Nat) : Nat := sf (wN now p) 0 12
def wA_ (now : Nat → Int32) : Nat := sf (wP_ now) 0 (nP now)
def setM (now : Nat → Int32) (p : Nat) : Nat := hvN (fun h => now (23 + (12 * p + h))) 12
/-- the reference's town is in order -/
def OKM (now : Nat → Int32) : Prop :=
  (nP now ≤ 6 ∧ now 0 = nI (nP now)) ∧ (nF now ≤ 12 ∧ now 1 = nI (nF now)) ∧ (nW now < 64 ∧ now 2 = nI (nW now)) ∧ (nH now < 64 ∧ now 3 = nI (nH now)) ∧ (∃ w, w < 2 ^ 31 ∧ now 4 = nI w) ∧ (∀ p, p < 6 → kd now p < 5 ∧ now (5 + 3 * p) = nI (kd now p)) ∧ ∀ p, p < 6 → lo now p < 6 ∧ now (6 + 3 * p) = nI (lo now p)
theorem cl_n {x : Int32} {n N : Nat} (h : x = nI n) (hn : n < N) (hN : N < 2 ^ 31) : x.toNatClampNeg < N ∧ x = nI x.toNatClampNeg := by
  subst h
  rw [nI_clamp (by omega)]
  exact ⟨hn, rfl⟩
section TRs
variable {people fewest : Int32} {kinds loves many sets chalk : Nat → Int32} {wet harvest draw : Int32} {now : Nat → Int32}
theorem TR.ok (h : TR people fewest kinds loves many sets chalk wet harvest draw now) : OKM now := by
  obtain ⟨⟨-, n, hn, en⟩, ⟨-, f, hf, ef⟩, hk, hl, -, -, -, -, -, -, ⟨w, hw, ew⟩, ⟨v, hv, ev⟩, d⟩ := h
  have a1 := cl_n en (show n < 7 by omega) (by decide)
  have a2 := cl_n ef (show f < 13 by omega) (by decide)
  refine ⟨⟨Nat.le_of_lt_succ a1.1, a1.2⟩, ⟨Nat.le_of_lt_succ a2.1, a2.2⟩, cl_n ew hw (by decide), cl_n ev hv (by decide), d, fun p hp => ?_, fun p hp => ?_⟩
  · obtain ⟨-, k, h1, h2⟩ := hk p hp
    exact cl_n h2 h1 (by decide)
  · obtain ⟨-, k, h1, h2⟩ := hl p hp
    exact cl_n h2 h1 (by decide)
theorem TR.e_people (h : TR people fewest kinds loves many sets chalk wet harvest draw now) : people = nI (nP now) := h.1.1.trans h.ok.1.2
theorem TR.e_fewest (h : TR people fewest kinds loves many sets chalk wet harvest draw now) : fewest = nI (nF now) := h.2.1.1.trans h.ok.2.1.2
theorem TR.e_kind (h : TR people fewest kinds loves many sets chalk wet harvest draw now) {p : Nat} (hp : p < 6) : kinds p = nI (kd now p) := (h.2.2.1 p hp).1.trans (h.ok.2.2.2.2.2.1 p hp).2
theorem TR.e_love (h : TR people fewest kinds loves many sets chalk wet harvest draw now) {p : Nat} (hp : p < 6) : loves p = nI (lo now p) := (h.2.2.2.1 p hp).1.trans (h.ok.2.2.2.2.2.2 p hp).2
theorem TR.e_wet (h : TR people fewest kinds loves many sets chalk wet harvest draw now) : wet = nI (nW now) := h.2.2.2.2.2.2.2.1.trans h.ok.2.2.1.2
theorem TR.e_harvest (h : TR people fewest kinds loves many sets chalk wet harvest draw now) : harvest = nI (nH now) := h.2.2.2.2.2.2.2.2.1.trans h.ok.2.2.2.1.2
theorem TR.e_set (h : TR people fewest kinds loves many sets chalk wet harvest draw now) {p : Nat} (hp : p < 6) : sets p = nI (setM now p) := h.2.2.2.2.2.2.1 p hp
theorem TR.e_many (h : TR people fewest kinds loves many sets chalk wet harvest draw now) {j : Nat} (hj : j < 72) : many j = now (23 + j) := h.2.2.2.2.1 j hj
theorem TR.e_chalk (h : TR people fewest kinds loves many sets chalk wet harvest draw now) {p : Nat} (hp : p < 6) : chalk p = now (7 + 3 * p) := h.2.2.2.2.2.1 p hp
end TRs
theorem setM_lt (now : Nat → Int32) (p : Nat) : setM now p < 4096 := hvN_lt _ 12
theorem setM_bit (now : Nat → Int32) (p : Nat) {h : Nat} (hh : h < 12) : (setM now p).testBit h = hs now p h := by
  unfold setM
  rw [hvN_bit]
  simp [hh, hs, Nat.add_assoc]
theorem setM_bits (now : Nat → Int32) (p : Nat) : (setM now p).testBit = fun h => decide (h < 12) && hs now p h := by
  funext h
  unfold setM
  rw [hvN_bit]
  simp [hs, Nat.add_assoc]
theorem wbk_cg {k h : Nat} {s s2 l l2 w v : Nat → Bool} (hh : h < 12) (hs : ∀ j, j < 12 → s j = s2 j) (hl : ∀ j, j < 12 → l j = l2 j) : wbk k h s l w v = wbk k h s2 l2 w v := by
  unfold wbk
  rw [hs h hh, hs (h ^^^ 1) (xor1_lt h hh), hl h hh]
-- the class's side
theorem i12 (p h : Nat) : nI p * 12 + nI h = nI (12 * p + h) := by
  rw [show (12 : Int32) = nI 12 from rfl, pk_mul, nI_add, Nat.mul_comm]
theorem manyOf_x {many now : Nat → Int32} (hm : ∀ j, j < 72 → many j = now (23 + j)) {p h : Nat} (hp : p < 6) (hh : h < 12) : fX0_manyOf many (nI p) (nI h) = some (now (23 + 12 * p + h)) := by
  unfold fX0_manyOf
  rw [i12, ix_n (by omega) (by decide), bS1, hm _ (by omega), Nat.add_assoc]
section XS
variable {people fewest : Int32} {kinds loves many sets chalk : Nat → Int32} {wet harvest draw : Int32} {now : Nat → Int32}
theorem lovedSet_x (hT : TR people fewest kinds loves many sets chalk wet harvest draw now) {p q : Nat} (hp : p < 6) (hq : q < 6) : fX4_lovedSet sets (nI p) (nI q) = some (nI (if q = p then 0 else setM now q)) := by
  unfold fX4_lovedSet
  by_cases c : q = p
  · rw [if_pos c, if_pos (by rw [c])]
    rfl
  · rw [if_neg c, if_neg (fun z => c ((nI_eq (by omega) (by omega)).mp z)), ix_n hq (by decide), bS1, hT.e_set hq]
theorem worthOfHalf_x (hT : TR people fewest kinds loves many sets chalk wet harvest draw now) {p h : Nat} (hp : p < 6) (hh : h < 12) : fX4_worthOfHalf kinds loves sets wet harvest (nI p) (nI h) = some (nI (wN now p h)) := by
  have hk := hT.ok
  have hl := (hk.2.2.2.2.2.2 p hp).1
  unfold fX4_worthOfHalf
  rw [ix_n hp (by decide), bS1, hT.e_love hp, lovedSet_x hT hp hl, bS1, hT.e_kind hp, hT.e_set hp, hT.e_wet, hT.e_harvest]
  rw [worthByKind_n (hk.2.2.2.2.2.1 p hp).1 hh (setM_lt _ _) (by split; decide; exact setM_lt _ _) hk.2.2.1.1 hk.2.2.2.1.1, bS1]
  congr 2
  apply wbk_cg hh
  · intro j hj
    exact setM_bit now p hj
  · intro j hj
    unfold lvs
    by_cases c : lo now p = p
    · rw [if_pos c, if_pos c]
      exact Nat.zero_testBit j
    · rw [if_neg c, if_neg c]
      exact setM_bit now _ hj
end XS
-- the reference's side
theorem i23 (p h : Nat) : 23 + 12 * nI p + nI h = nI (23 + 12 * p + h) := by
  rw [show (12 : Int32) = nI 12 from rfl, show (23 : Int32) = nI 23 from rfl, pk_mul, nI_add, nI_add]
theorem i5 (p w : Nat) : 5 + 3 * nI p + nI w = nI (5 + 3 * p + w) := by
  rw [show (3 : Int32) = nI 3 from rfl, show (5 : Int32) = nI 5 from rfl, pk_mul, nI_add, nI_add]
theorem manyOf_m (now : Nat → Int32) {p h : Nat} (hp : p < 6) (hh : h < 12) : fX6_manyOf now (nI p) (nI h) = some (now (23 + 12 * p + h)) := by
  unfold fX6_manyOf
  rw [i23, ix_n (by omega) (by decide), bS1]
theorem hasOne_m (now : Nat → Int32) {p h : Nat} (hp : p < 6) (hh : h < 12) : fX6_hasOne now (nI p) (nI h) = some (if hs now p h then 1 else 0) := by
  unfold fX6_hasOne hs
  rw [manyOf_m now hp hh, bS1]
  by_cases c : 0 < now (23 + 12 * p + h)
  · rw [if_neg (Int32.not_le.mpr c)]; simp [c]
  · rw [if_pos (Int32.not_lt.mp c)]; simp [c]
theorem ofPerson_m (now : Nat → Int32) {p w : Nat} (hp : p < 6) (hw : w < 3) : fX6_ofPerson now (nI p) (nI w) = some (now (5 + 3 * p + w)) := by
  unfold fX6_ofPerson
  rw [i5, ix_n (by omega) (by decide), bS1]
set_option maxHeartbeats 2000000 in
theorem worthOf_m {now : Nat → Int32} (hk : OKM now) {p h : Nat} (hp : p < 6) (hh : h < 12) : fX6_worthOf now (nI p) (nI h) = some (nI (wN now p h)) := by
  have hx := xor1_lt h hh
  have hl := (hk.2.2.2.2.2.2 p hp)
  have hkd := (hk.2.2.2.2.2.1 p hp)
  have e1 : nI h / 2 = nI (h / 2) := pk_div (a := h) (d := 2) (by omega) (by decide) (by decide)
  have e2 : nI h - nI (h / 2) * 2 = nI (h % 2) := by rw [← e1]; exact pk_rem (a := h) (d := 2) (by omega) (by decide) (by decide)
  have e3 : nI h ^^^ 1 = nI (h ^^^ 1) := x1_n h 1
  have o1 : fX6_ofPerson now (nI p) 1 = some (nI (lo now p)) := by
    rw [← hl.2]
    exact (ofPerson_m now hp (show 1 < 3 by decide)).trans (by congr 2; omega)
  have o0 : fX6_ofPerson now (nI p) 0 = some (nI (kd now p)) := by
    rw [← hkd.2]
    exact ofPerson_m now hp (show 0 < 3 by decide)
  have i2 : ix 2 95 = some 2 := by decide
  have i3 : ix 3 95 = some 3 := by decide
  unfold fX6_worthOf wN
  rw [hasOne_m now hp hh, bS1]
  unfold fX6_worthIf
  have hb2 : (now 2 >>> (nI (h / 2) &&& 31)) &&& 1 = nI (if (nW now).testBit (h / 2) then 1 else 0) := by
    rw [hk.2.2.1.2, bit_n (by have := hk.2.2.1.1; omega) (by omega)]
  have hb3 : (now 3 >>> (nI (h / 2) &&& 31)) &&& 1 = nI (if (nH now).testBit (h / 2) then 1 else 0) := by
    rw [hk.2.2.2.1.2, bit_n (by have := hk.2.2.2.1.1; omega) (by omega)]
  have hh1 := hasOne_m now hp hx
  have hh2 := hasOne_m now hl.1 hh
  simp only [i2, i3, bS1, e1, hb2, hb3, e3, hh1, o1, o0, e2, hh2]
  have hm : h % 2 = 0 ∨ h % 2 = 1 := by omega
  have hlv : lvs now p h = if lo now p = p then false else hs now (lo now p) h := rfl
  have hq : (nI (lo now p) = nI p) ↔ lo now p = p := nI_eq (by have := hl.1; omega) (by omega)
  unfold wbk
  rw [hlv]
  generalize hs now p h = b1
  generalize hs now p (h ^^^ 1) = b2
  generalize hs now (lo now p) h = b3
  generalize (nW now).testBit (h / 2) = b4
  generalize (nH now).testBit (h / 2) = b5
  have hkk := hkd.1
  generalize kd now p = k at hkk
  simp only [bS1, hq]
  by_cases c : lo now p = p
  · simp only [if_pos c]
    rcases (show k = 0 ∨ k = 1 ∨ k = 2 ∨ k = 3 ∨ k = 4 by omega) with rfl | rfl | rfl | rfl | rfl <;> rcases hm with hm | hm <;> rw [hm] <;> cases b1 <;> cases b2 <;> cases b4 <;> cases b5 <;> rfl
  · simp only [if_neg c]
    rcases (show k = 0 ∨ k = 1 ∨ k = 2 ∨ k = 3 ∨ k = 4 by omega) with rfl | rfl | rfl | rfl | rfl <;> rcases hm with hm | hm <;> rw [hm] <;> cases b1 <;> cases b2 <;> cases b3 <;> cases b4 <;> cases b5 <;> rfl
