/-! ===== the best sale ===== -/
theorem wbk_mono {k h : Nat} {s s2 l l2 w v : Nat → Bool} (a : ∀ j, s j = true → s2 j = true) (b : ∀ j, l j = true → l2 j = true) : wbk k h s l w v ≤ wbk k h s2 l2 w v := by
  unfold wbk
  have a1 := a h
  have a2 := a (h ^^^ 1)
  have b1 := b h
  revert a1 a2 b1
  generalize s h = x1
  generalize s2 h = x2
  generalize s (h ^^^ 1) = x3
  generalize s2 (h ^^^ 1) = x4
  generalize l h = x5
  generalize l2 h = x6
  intro a1 a2 b1
  cases x1 <;> cases x2 <;> cases x3 <;> cases x4 <;> cases x5 <;> cases x6 <;> simp at a1 a2 b1 ⊢ <;> (repeat' split) <;> first | omega | simp_all
theorem sf_mono {f g : Nat → Nat} : ∀ d i, (∀ j, i ≤ j → j < i + d → f j ≤ g j) → sf f i d ≤ sf g i d := by
  intro d
  induction d with
  | zero => intro i _; exact Nat.le_refl _
  | succ d ih =>
    intro i h
    show f i + sf f (i + 1) d ≤ g i + sf g (i + 1) d
    have h1 := h i (by omega) (by omega)
    have h2 := ih (i + 1) (fun j h1 h2 => h j (by omega) (by omega))
    omega
section PG
variable {people fewest : Int32} {kinds loves many sets chalk : Nat → Int32} {wet harvest draw : Int32} {now : Nat → Int32}
theorem hs_mono {p q h : Nat} (hb : hs now q h = true) (hh : h < 12) (v : 0 < now (23 + (12 * p + h))) {z y : Nat} (hy : y < 12) (e : hs (gN now p q h) z y = true) : hs now z y = true := by
  by_cases c : y = h
  · subst c
    by_cases d : z = q
    · rw [d]; exact hb
    · by_cases f : z = p
      · rw [f]
        unfold hs
        rw [Nat.add_assoc]
        simp [v]
      · unfold hs gN at e
        unfold hs
        rw [pk_un (by omega), pk_un (by omega)] at e
        exact e
  · rw [hs_gN hh z hy c] at e
    exact e
theorem wN_mono {p q h : Nat} (hb : hs now q h = true) (hh : h < 12) (v : 0 < now (23 + (12 * p + h))) {z y : Nat} (hz : z < 6) (hy : y < 12) : wN (gN now p q h) z y ≤ wN now z y := by
  have e1 : kd (gN now p q h) z = kd now z := congrArg Int32.toNatClampNeg (gN_lo (by omega))
  have e2 : lo (gN now p q h) z = lo now z := congrArg Int32.toNatClampNeg (gN_lo (by omega))
  have e3 : nW (gN now p q h) = nW now := congrArg Int32.toNatClampNeg (gN_lo (by omega))
  have e4 : nH (gN now p q h) = nH now := congrArg Int32.toNatClampNeg (gN_lo (by omega))
  unfold wN
  rw [e1, e3, e4]
  have f1 : wbk (kd now z) y (hs (gN now p q h) z) (lvs (gN now p q h) z) (nW now).testBit (nH now).testBit = wbk (kd now z) y (fun j => if j < 12 then hs (gN now p q h) z j else false) (fun j => if j < 12 then lvs (gN now p q h) z j else false) (nW now).testBit (nH now).testBit := wbk_cg hy (fun j hj => by rw [if_pos hj]) (fun j hj => by rw [if_pos hj])
  rw [f1]
  apply wbk_mono
  · intro j hj
    by_cases c : j < 12
    · rw [if_pos c] at hj; exact hs_mono hb hh v c hj
    · rw [if_neg c] at hj; cases hj
  · intro j hj
    by_cases c : j < 12
    · rw [if_pos c] at hj
      unfold lvs at hj ⊢
      rw [e2] at hj
      by_cases d : lo now z = z
      · rw [if_pos d] at hj; cases hj
      · rw [if_neg d] at hj ⊢; exact hs_mono hb hh v c hj
    · rw [if_neg c] at hj; cases hj
theorem wA_mono {p q h : Nat} (hb : hs now q h = true) (h6 : nP now ≤ 6) (hh : h < 12) (v : 0 < now (23 + (12 * p + h))) : wA_ (gN now p q h) ≤ wA_ now := by
  have e0 : nP (gN now p q h) = nP now := congrArg Int32.toNatClampNeg (gN_lo (by omega))
  unfold wA_
  rw [e0]
  apply sf_mono
  intro z _ hz
  apply sf_mono
  intro y _ hy
  exact wN_mono hb hh v (by omega) (by omega)
theorem wA_le (now : Nat → Int32) (h6 : nP now ≤ 6) : wA_ now ≤ 1440 := by
  unfold wA_
  have h1 : ∀ z, wP_ now z ≤ 240 := fun z => Nat.le_trans (sf_le (c := 20) 12 0 (fun j => wN_le now z j)) (by decide)
  have h2 := sf_le (c := 240) (nP now) 0 h1
  have h3 : nP now * 240 ≤ 6 * 240 := Nat.mul_le_mul_right _ h6
  omega
/-- what a sale gains -/
def gaN (now : Nat → Int32) (p q h : Nat) : Int32 := nI (wA_ (gN now p q h)) - nI (wA_ now)
theorem gaN_i (h6 : nP now ≤ 6) (p q h : Nat) : (gaN now p q h).toInt = (wA_ (gN now p q h) : Int) - (wA_ now : Int) := by
  have e0 : nP (gN now p q h) = nP now := congrArg Int32.toNatClampNeg (gN_lo (by omega))
  have h1 := wA_le now h6
  have h2 := wA_le (gN now p q h) (by rw [e0]; exact h6)
  unfold gaN
  exact pk_sub_toInt (by omega) (by omega)
end PG
