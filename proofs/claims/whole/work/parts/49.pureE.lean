/-! ===== gain: only the Sunday's halves change ===== -/
theorem sf12 (f : Nat → Nat) : ∀ s, s < 6 → sf f 0 12 = f (2 * s) + f (2 * s + 1) + sf (fun h => if h / 2 = s then 0 else f h) 0 12 := by
  intro s hs
  rcases (show s = 0 ∨ s = 1 ∨ s = 2 ∨ s = 3 ∨ s = 4 ∨ s = 5 by omega) with rfl | rfl | rfl | rfl | rfl | rfl <;> simp [sf] <;> omega
theorem sf_add (f g : Nat → Nat) : ∀ d i, sf (fun z => f z + g z) i d = sf f i d + sf g i d := by
  intro d
  induction d with
  | zero => intro i; rfl
  | succ d ih =>
    intro i
    show f i + g i + sf (fun z => f z + g z) (i + 1) d = f i + sf f (i + 1) d + (g i + sf g (i + 1) d)
    rw [ih]
    omega
section PE
variable {people fewest : Int32} {kinds loves many sets chalk : Nat → Int32} {wet harvest draw : Int32} {now : Nat → Int32}
def onN (now : Nat → Int32) (s : Nat) : Nat := sf (fun z => wN now z (2 * s) + wN now z (2 * s + 1)) 0 (nP now)
def reN (now : Nat → Int32) (s : Nat) : Nat := sf (fun z => sf (fun h => if h / 2 = s then 0 else wN now z h) 0 12) 0 (nP now)
theorem wA_on (now : Nat → Int32) {s : Nat} (hs : s < 6) : wA_ now = onN now s + reN now s := by
  unfold wA_ onN reN
  rw [← sf_add]
  apply sf_cg
  intro z _ _
  exact sf12 (wN now z) s hs
theorem hs_gN {p q h : Nat} (hh : h < 12) (z : Nat) {y : Nat} (hy : y < 12) (hn : y ≠ h) : hs (gN now p q h) z y = hs now z y := by
  unfold hs gN
  rw [pk_un (by omega), pk_un (by omega)]
theorem x1_div : ∀ h, h < 12 → (h ^^^ 1) / 2 = h / 2 := by decide
theorem wN_gN {p q h : Nat} (hh : h < 12) (z : Nat) (hz : z < 6) {y : Nat} (hy : y < 12) (hn : y / 2 ≠ h / 2) : wN (gN now p q h) z y = wN now z y := by
  have e1 : kd (gN now p q h) z = kd now z := congrArg Int32.toNatClampNeg (gN_lo (by omega))
  have e2 : lo (gN now p q h) z = lo now z := congrArg Int32.toNatClampNeg (gN_lo (by omega))
  have e3 : nW (gN now p q h) = nW now := congrArg Int32.toNatClampNeg (gN_lo (by omega))
  have e4 : nH (gN now p q h) = nH now := congrArg Int32.toNatClampNeg (gN_lo (by omega))
  have hx := xor1_lt y hy
  have e5 := hs_gN (now := now) (p := p) (q := q) hh z hy (fun c => hn (by rw [c]))
  have e6 := hs_gN (now := now) (p := p) (q := q) hh z hx (fun c => hn (by rw [← x1_div y hy, c]))
  have e7 : lvs (gN now p q h) z y = lvs now z y := by
    unfold lvs
    rw [e2]
    rw [hs_gN hh _ hy (fun c => hn (by rw [c]))]
  unfold wN wbk
  rw [e1, e3, e4, e5, e6, e7]
theorem reN_gN {p q h : Nat} (hh : h < 12) (h6 : nP now ≤ 6) : reN (gN now p q h) (h / 2) = reN now (h / 2) := by
  have e0 : nP (gN now p q h) = nP now := congrArg Int32.toNatClampNeg (gN_lo (by omega))
  unfold reN
  rw [e0]
  apply sf_cg
  intro z _ hz
  apply sf_cg
  intro y _ hy
  by_cases c : y / 2 = h / 2
  · rw [if_pos c, if_pos c]
  · rw [if_neg c, if_neg c]
    exact wN_gN hh z (by omega) (by omega) c
theorem gain_eq {p q h : Nat} (hh : h < 12) (h6 : nP now ≤ 6) : nI (wA_ (gN now p q h)) - nI (wA_ now) = nI (onN (gN now p q h) (h / 2)) - nI (onN now (h / 2)) := by
  rw [wA_on (gN now p q h) (show h / 2 < 6 by omega), wA_on now (show h / 2 < 6 by omega), reN_gN hh h6, ← nI_add, ← nI_add, r_b]
theorem onAll_x (hT : TR people fewest kinds loves many sets chalk wet harvest draw now) {s : Nat} (hs : s < 6) : fX4_worthOfAllOn people kinds loves sets wet harvest (nI s) = some (nI (onN now s)) := by
  have h6 := hT.ok.1.1
  have e1 : (2 : Int32) * nI s = nI (2 * s) := by rw [show (2 : Int32) = nI 2 from rfl, pk_mul]
  unfold fX4_worthOfAllOn
  rw [sumL (fX4_worthOfAllOn_L4 harvest sets wet (nI s) kinds loves people) (fun z => wN now z (2 * s) + wN now z (2 * s + 1)) (nP now) (by omega) (fun n a => by rw [fX4_worthOfAllOn_L4, hT.e_people, if_pos (le_ge (Nat.le_refl _) (by omega))]) (fun n a i hi => by
    rw [fX4_worthOfAllOn_L4, hT.e_people, if_neg (nI_ge hi (by omega)), e1, worthOfHalf_x hT (by omega) (by omega), bS1, nI_1, worthOfHalf_x hT (by omega) (by omega), bS1, nI_add, nI_1]), bS1]
  rfl
theorem gain_x (hT : TR people fewest kinds loves many sets chalk wet harvest draw now) {p q h : Nat} (hp : p < 6) (hq : q < 6) (hn : p ≠ q) (hh : h < 12) : ∃ many2 sets2, fX4_gainOfSale people kinds loves many sets wet harvest (nI p) (nI q) (nI h) = some (nI (wA_ (gN now p q h)) - nI (wA_ now), many2, sets2) ∧ TR people fewest kinds loves many2 sets2 chalk wet harvest draw now ∧ OKM (gN now p q h) := by
  obtain ⟨m2, s2, m3, s3, e1, t1, e2, t2⟩ := hT.back hp hq hn hh
  refine ⟨m3, s3, ?_, t2, t1.ok⟩
  unfold fX4_gainOfSale
  rw [show nI h / 2 = nI (h / 2) from pk_div (a := h) (d := 2) (by omega) (by decide) (by decide), onAll_x hT (by omega), bS1, e1, bS2, onAll_x t1 (by omega), bS1, e2, bS2, gain_eq hh hT.ok.1.1]
theorem gain_m (hk : OKM now) {p q h : Nat} (hp : p < 6) (hq : q < 6) (hn : p ≠ q) (hh : h < 12) (hk2 : OKM (gN now p q h)) : fX6_gainOf now (nI p) (nI q) (nI h) = some (nI (wA_ (gN now p q h)) - nI (wA_ now), now) := by
  unfold fX6_gainOf
  rw [worthAll_m hk, bS1, goes_m now hp hq hn hh, bS1, worthAll_m hk2, bS1, goes_m _ hq hp (fun z => hn z.symm) hh, bS1, gN_back hn hh]
theorem t_gain (hT : TR people fewest kinds loves many sets chalk wet harvest draw now) (hI : NI now) (i1 i2 i3 : Int32) : ∃ r many_r sets_r now_r, fX5_gain people kinds loves many sets wet harvest i1 i2 i3 = some (r, many_r, sets_r) ∧ fX6_gain now i1 i2 i3 = some (r, now_r) ∧ now_r = now ∧ TR people fewest kinds loves many_r sets_r chalk wet harvest draw now_r := by
  have hk := hT.ok
  unfold fX5_gain fX6_gain
  rcases two_c hT i1 i2 with ⟨p, q, p0, q0, hp, hq, hn, e1, e2, h3, h4⟩ | ⟨h3, h4⟩
  · simp only [h3, h4, bS1, i10]
    rcases half_c i3 with ⟨h, g1, g2, g3, g4⟩ | ⟨g3, g4⟩
    · simp only [g3, g4, bS1, i10]
      rw [e1, e2, g2, manyOf_x (fun j hj => hT.e_many hj) hp g1, bS1, hasOne_m now hp g1, bS1]
      by_cases c : now (23 + 12 * p + h) = 0
      · rw [if_pos c, (has_0 hI p0 g1).mp c, if_pos (by decide)]
        exact ⟨_, _, _, _, rfl, rfl, rfl, hT⟩
      · have c2 : hs now p h = true := by
          cases e : hs now p h
          · exact absurd ((has_0 hI p0 g1).mpr e) c
          · rfl
        obtain ⟨m2, s2, x1, x2, x3⟩ := gain_x hT hp hq hn g1
        rw [if_neg c, c2, if_neg (by decide), x1, bS3, gain_m hk hp hq hn g1 x3, bS2]
        exact ⟨_, _, _, _, rfl, rfl, rfl, x2⟩
    · simp only [g3, g4, bS1, i00]
      exact ⟨_, _, _, _, rfl, rfl, rfl, hT⟩
  · simp only [h3, h4, bS1, i00]
    exact ⟨_, _, _, _, rfl, rfl, rfl, hT⟩
end PE
