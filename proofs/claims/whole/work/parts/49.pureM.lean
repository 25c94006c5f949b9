/-! ===== what so many more would be worth ===== -/
theorem fo_addw (b : Nat) (w : Nat → Int32) : ∀ (d i : Nat) (g : Nat → Int32) (k : Nat), fo (fun g j => upd g (b + j) (g (b + j) + w j)) g i d k = if b + i ≤ k ∧ k < b + i + d then g k + w (k - b) else g k := by
  intro d
  induction d with
  | zero =>
    intro i g k
    rw [if_neg (by omega)]
    rfl
  | succ d ih =>
    intro i g k
    show fo (fun g j => upd g (b + j) (g (b + j) + w j)) (upd g (b + i) (g (b + i) + w i)) (i + 1) d k = _
    rw [ih]
    by_cases c : k = b + i
    · subst c
      rw [if_neg (by omega), pk_us, if_pos (by omega), show b + i - b = i by omega]
    · rw [pk_un c]
      by_cases c2 : b + (i + 1) ≤ k ∧ k < b + (i + 1) + d
      · rw [if_pos c2, if_pos (by omega)]
      · rw [if_neg c2, if_neg (by omega)]
section PM
variable {people fewest : Int32} {kinds loves many sets chalk : Nat → Int32} {wet harvest draw : Int32} {now : Nat → Int32}
theorem more97 {p v : Nat} (hp : p < 6) (hv : v < 4096) (g : Nat → Int32) : fX6_more_L97 (nI p) (nI v) fl 0 g = some (fo (fun g j => upd g (23 + 12 * p + j) (g (23 + 12 * p + j) + nI (if v.testBit j then 1 else 0))) g 0 12) :=
  rowL (fX6_more_L97 (nI p) (nI v)) (fun g j => upd g (23 + 12 * p + j) (g (23 + 12 * p + j) + nI (if v.testBit j then 1 else 0))) 12 (by decide) (fun n a => by rw [fX6_more_L97, if_pos p12]) (fun n a i hi => by
    rw [fX6_more_L97, if_neg (n12 hi), bit_n (by omega) (by omega), gets_m _ hp hi, bS1, nI_1, ← Nat.add_assoc]) g
theorem and_0 {a b : Nat} (ha : a < 4096) : nI a &&& nI b = 0 ↔ a &&& b = 0 := by
  rw [and_n]
  exact nI_eq (b := 0) (Nat.lt_of_le_of_lt Nat.and_le_left (by omega)) (by decide)
theorem more_w (hk : OKM now) (hI : NI now) {p v : Nat} (p0 : p < nP now) (hv : v < 4096) (hd : v &&& setM now p = 0) {g : Nat → Int32} (hg : ∀ j, j < 95 → g j = now j) : fX6_worth (fo (fun g j => upd g (23 + 12 * p + j) (g (23 + 12 * p + j) + nI (if v.testBit j then 1 else 0))) g 0 12) (nI p) = some (nI (evN now p (setM now p ||| v))) := by
  have h6 := hk.1.1
  have hp : p < 6 := by omega
  have q1 : ∀ k, k < 23 → fo (fun g j => upd g (23 + 12 * p + j) (g (23 + 12 * p + j) + nI (if v.testBit j then 1 else 0))) g 0 12 k = now k := fun k hk => by
    rw [fo_addw, if_neg (by omega)]; exact hg k (by omega)
  rw [worth_m (hk.cg q1) hp, row_w (now := now) (S := setM now p ||| v) hp (hk.2.2.2.2.2.2 p hp).1 (fun k _ h => q1 k h) (q1 3 (by decide)) (fun z hz hn h hh => by
    rw [fo_addw, if_neg (by omega)]; exact hg _ (by omega)) (fun h hh => by
    rw [Nat.testBit_or, setM_bit now p hh]
    have e : hs (fo (fun g j => upd g (23 + 12 * p + j) (g (23 + 12 * p + j) + nI (if v.testBit j then 1 else 0))) g 0 12) p h = decide (0 < now (23 + 12 * p + h) + nI (if v.testBit h then 1 else 0)) := by
      unfold hs
      rw [fo_addw, if_pos (by omega), hg _ (by omega), show 23 + 12 * p + h - (23 + 12 * p) = h by omega]
    rw [e]
    have b : (v &&& setM now p).testBit h = false := by rw [hd]; exact Nat.zero_testBit h
    rw [Nat.testBit_and, setM_bit now p hh] at b
    cases c : v.testBit h
    · rw [if_neg (by decide), show nI 0 = (0 : Int32) from rfl, Int32.add_zero, Bool.or_false]
      rfl
    · rw [c, Bool.true_and] at b
      rw [(has_0 hI p0 hh).mpr b, b]
      decide), show nW (fo (fun g j => upd g (23 + 12 * p + j) (g (23 + 12 * p + j) + nI (if v.testBit j then 1 else 0))) g 0 12) = nW now from congrArg Int32.toNatClampNeg (q1 2 (by decide))]
  rfl
theorem or_lt {a b : Nat} (ha : a < 4096) (hb : b < 4096) : a ||| b < 4096 := Nat.or_lt_two_pow (n := 12) ha hb
theorem more_L (hT : TR people fewest kinds loves many sets chalk wet harvest draw now) (hI : NI now) {p : Nat} (p0 : p < nP now) {f17 : Nat → Int32} (h9 : ∀ j, j < 95 → f17 j = now j) {i2 i3 : Int32} : ∀ d n v b s (g : Nat → Int32), v + d = 4096 → d < n → (∀ j, j < 95 → g j = now j) → ∃ b2 s2 g2, fX5_more_L70 (nI p) i2 i3 harvest sets wet kinds loves p n b s (nI v) = some (b2, s2) ∧ fX6_more_L69 (nI p) i2 i3 (nI (setM now p)) f17 n s b (nI v) g = some (g2, s2, b2) ∧ ∀ j, j < 95 → g2 j = now j := by
  have hk := hT.ok
  have h6 := hk.1.1
  have hp : p < 6 := by omega
  intro d
  induction d with
  | zero =>
    intro n v b s g hv hn hg
    obtain ⟨m, rfl⟩ : ∃ m, n = m + 1 := ⟨n - 1, by omega⟩
    have : v = 4096 := by omega
    subst this
    rw [fX5_more_L70, fX6_more_L69, if_pos (show (4095 : Int32) < nI 4096 by decide), if_pos (show (4096 : Int32) ≤ nI 4096 by decide)]
    exact ⟨_, _, _, rfl, rfl, hg⟩
  | succ d ih =>
    intro n v b s g hv hn hg
    obtain ⟨m, rfl⟩ : ∃ m, n = m + 1 := ⟨n - 1, by omega⟩
    have hv2 : v < 4096 := by omega
    have c1 : ¬ (4095 : Int32) < nI v := Int32.not_lt.mpr ((nle (b := 4095) (by omega) (by decide)).mpr (by omega))
    have c2 : ¬ (4096 : Int32) ≤ nI v := nI_ge (b := 4096) (by omega) (by decide)
    have hS := setM_lt now p
    rw [fX5_more_L70, fX6_more_L69, if_neg c1, if_neg c2, bc_x hv2, bS1, bc_m hv2, bS1, hT.e_set hp, nI_1, or_n, worthOfSet_x hT hp (or_lt hS hv2), bS1, show sf (fun h => wbk (kd now p) h (setM now p ||| v).testBit (lvs now p) (nW now).testBit (nH now).testBit) 0 12 = evN now p (setM now p ||| v) from rfl]
    by_cases c : v &&& setM now p = 0
    · have c3 := (and_0 (b := setM now p) hv2).mpr c
      rw [if_pos c3, if_pos c3]
      by_cases e : i2 < nI (bcN v)
      · rw [if_pos e, if_pos e, bS2, bS3]
        exact ih m (v + 1) _ _ _ (by omega) (by omega) hg
      · rw [if_neg e, if_neg e, more97 hp hv2, bS1, more_w hk hI p0 hv2 c hg, bS1, bS1, backs_m, Int32.mul_comm i3]
        have fin : ∀ g3 : Nat → Int32, ∀ j, j < 95 → fo (fun g j => upd g (0 + j) (f17 j)) g3 0 95 j = now j := fun g3 j hj => by
          rw [fo_upd, if_pos (by omega), Nat.sub_zero]; exact h9 j hj
        by_cases le : nI (evN now p (setM now p ||| v)) - nI (bcN v) * i3 ≤ b
        · rw [if_pos le, if_pos le, if_pos le, bS2, bS1, bS1, bS1, bS3]
          exact ih m (v + 1) _ _ _ (by omega) (by omega) (fin _)
        · rw [if_neg le, if_neg le, if_neg le, bS2, bS1, bS1, bS1, bS3]
          exact ih m (v + 1) _ _ _ (by omega) (by omega) (fin _)
    · have c3 : ¬ nI v &&& nI (setM now p) = 0 := fun z => c ((and_0 hv2).mp z)
      rw [if_neg c3, if_neg c3, bS3]
      by_cases e : i2 < nI (bcN v)
      · rw [if_pos e, bS2]
        exact ih m (v + 1) _ _ _ (by omega) (by omega) hg
      · rw [if_neg e, bS2]
        exact ih m (v + 1) _ _ _ (by omega) (by omega) hg
theorem t_more (hT : TR people fewest kinds loves many sets chalk wet harvest draw now) (hI : NI now) (aside : Nat → Int32) (i1 i2 i3 i4 : Int32) : ∃ r now_r aside_r, fX5_more people kinds loves sets wet harvest i1 i2 i3 i4 = some r ∧ fX6_more now aside i1 i2 i3 i4 = some (r, now_r, aside_r) ∧ ∀ j, j < 95 → now_r j = now j := by
  have hk := hT.ok
  unfold fX5_more fX6_more
  rcases per_c hT i1 with ⟨p, p0, h1, h2, h3, h4⟩ | ⟨h3, h4⟩
  · simp only [h3, h4, bS1, i10]
    rcases wi_ab i2 0 4 0 4 rfl rfl with ⟨-, -, g3, g4⟩ | ⟨g3, g4⟩
    · simp only [g3, g4, bS1, i10]
      rcases wi_ab i3 0 20 0 20 rfl rfl with ⟨-, -, e3, e4⟩ | ⟨e3, e4⟩
      · simp only [e3, e4, bS1, i10]
        rcases flag_c i4 with ⟨f1, f3, f4⟩ | ⟨f3, f4⟩
        · simp only [f3, f4, bS1, i10]
          have h9 : ∀ j, j < 95 → fo (fun g j => upd g (0 + j) (now j)) aside 0 95 j = now j := fun j hj => by rw [fo_upd, if_pos (by omega), Nat.sub_zero]
          obtain ⟨b2, s2, g2, y1, y2, y3⟩ := more_L hT hI p0 h9 (i2 := i2) (i3 := i3) 4095 fl 1 (nI (wP_ now p)) 0 now (by omega) (by decide) (fun _ _ => rfl)
          rw [h2, ix_n h1 (by decide), bS1, worthOf_x hT h1, bS1, halves_m h1, bS1, worth_m hk h1, bS1, asides_m, bS1, show fX5_more_L70 (nI p) i2 i3 harvest sets wet kinds loves p fl (nI (wP_ now p)) 0 1 = _ from y1, show fX6_more_L69 (nI p) i2 i3 (nI (setM now p)) (fo (fun g j => upd g (0 + j) (now j)) aside 0 95) fl 0 (nI (wP_ now p)) 1 now = _ from y2, bS2, bS3]
          by_cases c : i4 = 0
          · simp only [if_pos c]
            exact ⟨_, _, _, rfl, rfl, y3⟩
          · simp only [if_neg c]
            exact ⟨_, _, _, rfl, rfl, y3⟩
        · simp only [f3, f4, bS1, i00]
          exact ⟨_, _, _, rfl, rfl, fun _ _ => rfl⟩
      · simp only [e3, e4, bS1, i00]
        exact ⟨_, _, _, rfl, rfl, fun _ _ => rfl⟩
    · simp only [g3, g4, bS1, i00]
      exact ⟨_, _, _, rfl, rfl, fun _ _ => rfl⟩
  · simp only [h3, h4, bS1, i00]
    exact ⟨_, _, _, rfl, rfl, fun _ _ => rfl⟩
end PM
