/-! ===== another one's halves in one's own row ===== -/
section PL
variable {people fewest : Int32} {kinds loves many sets chalk : Nat → Int32} {wet harvest draw : Int32} {now : Nat → Int32}
theorem row_w {g : Nat → Int32} {p S : Nat} (hp : p < 6) (hl : lo now p < 6) (e : ∀ k, 5 ≤ k → k < 23 → g k = now k) (e3 : g 3 = now 3) (eo : ∀ z, z < 6 → z ≠ p → ∀ h, h < 12 → g (23 + 12 * z + h) = now (23 + 12 * z + h)) (hS : ∀ h, h < 12 → hs g p h = S.testBit h) : wP_ g p = sf (fun h => wbk (kd now p) h S.testBit (lvs now p) (nW g).testBit (nH now).testBit) 0 12 := by
  unfold wP_
  apply sf_cg
  intro h _ hh
  have e1 : kd g p = kd now p := congrArg Int32.toNatClampNeg (e _ (by omega) (by omega))
  have e2 : lo g p = lo now p := congrArg Int32.toNatClampNeg (e _ (by omega) (by omega))
  have e4 : nH g = nH now := congrArg Int32.toNatClampNeg e3
  unfold wN
  rw [e1, e4]
  apply wbk_cg (by omega) hS
  intro j hj
  unfold lvs
  rw [e2]
  by_cases c : lo now p = p
  · rw [if_pos c, if_pos c]
  · rw [if_neg c, if_neg c]
    unfold hs
    rw [eo _ hl c j hj]
theorem OKM.cg {g : Nat → Int32} (h : OKM now) (e : ∀ k, k < 23 → g k = now k) : OKM g := by
  obtain ⟨a1, a2, a3, a4, a5, a6, a7⟩ := h
  unfold OKM nP nF nW nH kd lo at *
  rw [e 0 (by decide), e 1 (by decide), e 2 (by decide), e 3 (by decide), e 4 (by decide)]
  refine ⟨a1, a2, a3, a4, a5, fun p hp => ?_, fun p hp => ?_⟩
  · rw [e _ (by omega)]; exact a6 p hp
  · rw [e _ (by omega)]; exact a7 p hp
theorem envy57 {p z : Nat} (hp : p < 6) (hz : z < 6) (f g : Nat → Int32) : fX6_envy_L57 (nI p) f (nI z) fl 0 g = some (fo (fun g j => upd g (23 + 12 * p + j) (f (23 + 12 * z + j))) g 0 12) :=
  rowL (fX6_envy_L57 (nI p) f (nI z)) (fun g j => upd g (23 + 12 * p + j) (f (23 + 12 * z + j))) 12 (by decide) (fun n a => by rw [fX6_envy_L57, if_pos p12]) (fun n a i hi => by
    rw [fX6_envy_L57, if_neg (n12 hi), i23, ix_n (by omega) (by decide), bS1, i23, ix_n (by omega) (by decide), bS1, nI_1]) g
/-- what another one's halves would be worth to one -/
def evN (now : Nat → Int32) (p S : Nat) : Nat := sf (fun h => wbk (kd now p) h S.testBit (lvs now p) (nW now).testBit (nH now).testBit) 0 12
theorem evN_le (p S : Nat) : evN now p S ≤ 240 := Nat.le_trans (sf_le (c := 20) 12 0 (fun j => wbk_le _ _ _ _ _ _)) (by decide)
theorem evN_own (p : Nat) : evN now p (setM now p) = wP_ now p := by
  unfold evN wP_
  apply sf_cg
  intro h _ hh
  unfold wN
  exact wbk_cg (by omega) (fun j hj => setM_bit now p hj) (fun _ _ => rfl)
theorem envy_L (hT : TR people fewest kinds loves many sets chalk wet harvest draw now) {p : Nat} (hp : p < 6) {f9 : Nat → Int32} (h9 : ∀ j, j < 95 → f9 j = now j) : ∀ d n i b at_ (g : Nat → Int32), i + d = nP now → d < n → (∀ j, j < 95 → g j = now j) → wP_ now p ≤ b → b ≤ 240 → ∃ b2 at2 g2, fX5_envy_L36 (nI p) harvest sets wet kinds loves people n (nI b) at_ (nI i) = some (b2, at2) ∧ fX6_envy_L37 (nI p) f9 n (nI b) at_ (nI i) g = some (g2, b2, at2) ∧ ∀ j, j < 95 → g2 j = now j := by
  have hk := hT.ok
  have h6 := hk.1.1
  intro d
  induction d with
  | zero =>
    intro n i b at_ g hi hn hg hb hb2
    obtain ⟨m, rfl⟩ : ∃ m, n = m + 1 := ⟨n - 1, by omega⟩
    have c : nI (nP now) ≤ nI i := le_ge (by omega) (by omega)
    rw [fX5_envy_L36, fX6_envy_L37, i0, bS1, if_pos (show people ≤ nI i by rw [hT.e_people]; exact c), if_pos (show g 0 ≤ nI i by rw [hg 0 (by decide), hk.1.2]; exact c)]
    exact ⟨_, _, _, rfl, rfl, hg⟩
  | succ d ih =>
    intro n i b at_ g hi hn hg hb hb2
    obtain ⟨m, rfl⟩ : ∃ m, n = m + 1 := ⟨n - 1, by omega⟩
    have c : ¬ nI (nP now) ≤ nI i := nI_ge (by omega) (by omega)
    have hi6 : i < 6 := by omega
    have hle := evN_le (now := now) p (setM now i)
    rw [fX5_envy_L36, fX6_envy_L37, i0, bS1, if_neg (show ¬ people ≤ nI i by rw [hT.e_people]; exact c), if_neg (show ¬ g 0 ≤ nI i by rw [hg 0 (by decide), hk.1.2]; exact c), ix_n hi6 (by decide), bS1, hT.e_set hi6, worthOfSet_x hT hp (setM_lt _ _), bS1, show sf (fun h => wbk (kd now p) h (setM now i).testBit (lvs now p) (nW now).testBit (nH now).testBit) 0 12 = evN now p (setM now i) from rfl, nI_1]
    by_cases e : i = p
    · have ow : evN now p (setM now i) ≤ b := by rw [e, evN_own]; exact hb
      rw [if_pos (show nI i = nI p by rw [e]), if_pos ((nle (by omega) (by omega)).mpr ow), bS2, bS3]
      exact ih m (i + 1) _ _ _ (by omega) (by omega) hg hb hb2
    · rw [if_neg (fun z => e ((nI_eq (by omega) (by omega)).mp z)), envy57 hp hi6, bS1]
      have q1 : ∀ k, k < 23 → fo (fun g j => upd g (23 + 12 * p + j) (f9 (23 + 12 * i + j))) g 0 12 k = now k := fun k hk => by
        rw [fo_upd, if_neg (by omega)]; exact hg k (by omega)
      have q2 : OKM (fo (fun g j => upd g (23 + 12 * p + j) (f9 (23 + 12 * i + j))) g 0 12) := hk.cg q1
      have q3 : wP_ (fo (fun g j => upd g (23 + 12 * p + j) (f9 (23 + 12 * i + j))) g 0 12) p = evN now p (setM now i) := by
        rw [row_w (now := now) (S := setM now i) hp (hk.2.2.2.2.2.2 p hp).1 (fun k _ h => q1 k h) (q1 3 (by decide)) (fun z hz hn h hh => by
          rw [fo_upd, if_neg (by omega)]; exact hg _ (by omega)) (fun h hh => by
          rw [setM_bit now i hh]
          unfold hs
          rw [fo_upd, if_pos (by omega), h9 _ (by omega), show 23 + 12 * i + (23 + 12 * p + h - (23 + 12 * p)) = 23 + 12 * i + h by omega]), show nW (fo (fun g j => upd g (23 + 12 * p + j) (f9 (23 + 12 * i + j))) g 0 12) = nW now from congrArg Int32.toNatClampNeg (q1 2 (by decide))]
        rfl
      rw [worth_m q2 hp, q3, bS1, backs_m]
      have fin : ∀ g3 : Nat → Int32, ∀ j, j < 95 → fo (fun g j => upd g (0 + j) (f9 j)) g3 0 95 j = now j := fun g3 j hj => by
        rw [fo_upd, if_pos (by omega), Nat.sub_zero]; exact h9 j hj
      by_cases le : evN now p (setM now i) ≤ b
      · have le2 := (nle (a := evN now p (setM now i)) (b := b) (by omega) (by omega)).mpr le
        rw [if_pos le2, if_pos le2, if_pos le2, bS2, bS1, bS1, bS1, bS3]
        exact ih m (i + 1) _ _ _ (by omega) (by omega) (fin _) hb hb2
      · have le2 : ¬ nI (evN now p (setM now i)) ≤ nI b := fun z => le ((nle (by omega) (by omega)).mp z)
        rw [if_neg le2, if_neg le2, if_neg le2, bS2, bS1, bS1, bS1, bS3]
        exact ih m (i + 1) _ _ _ (by omega) (by omega) (fin _) (by omega) (by omega)
theorem t_envy (hT : TR people fewest kinds loves many sets chalk wet harvest draw now) (aside : Nat → Int32) (i1 i2 : Int32) : ∃ r now_r aside_r, fX5_envy people kinds loves sets wet harvest i1 i2 = some r ∧ fX6_envy now aside i1 i2 = some (r, now_r, aside_r) ∧ ∀ j, j < 95 → now_r j = now j := by
  have hk := hT.ok
  have h6 := hk.1.1
  unfold fX5_envy fX6_envy
  rcases per_c hT i1 with ⟨p, p0, h1, h2, h3, h4⟩ | ⟨h3, h4⟩
  · simp only [h3, h4, bS1, i10]
    rcases flag_c i2 with ⟨f1, f3, f4⟩ | ⟨f3, f4⟩
    · simp only [f3, f4, bS1, i10]
      have h9 : ∀ j, j < 95 → fo (fun g j => upd g (0 + j) (now j)) aside 0 95 j = now j := fun j hj => by rw [fo_upd, if_pos (by omega), Nat.sub_zero]
      have hw : wP_ now p ≤ 240 := Nat.le_trans (sf_le (c := 20) 12 0 (fun j => wN_le now p j)) (by decide)
      obtain ⟨b2, a2, g2, y1, y2, y3⟩ := envy_L hT h1 h9 (nP now) fl 0 (wP_ now p) (-4) now (by omega) (by unfold fl; omega) (fun _ _ => rfl) (Nat.le_refl _) hw
      rw [h2, worthOf_x hT h1, bS1, worth_m hk h1, bS1, asides_m, bS1, show fX5_envy_L36 (nI p) harvest sets wet kinds loves people fl (nI (wP_ now p)) (-4) 0 = _ from y1, show fX6_envy_L37 (nI p) (fo (fun g j => upd g (0 + j) (now j)) aside 0 95) fl (nI (wP_ now p)) (-4) 0 now = _ from y2, bS2, bS3]
      by_cases c : i2 = 0
      · by_cases d : a2 = -4
        · simp only [if_pos c, if_pos d]
          exact ⟨_, _, _, rfl, rfl, y3⟩
        · simp only [if_pos c, if_neg d]
          exact ⟨_, _, _, rfl, rfl, y3⟩
      · by_cases d : a2 = -4
        · simp only [if_neg c, if_pos d]
          exact ⟨_, _, _, rfl, rfl, y3⟩
        · simp only [if_neg c, if_neg d]
          exact ⟨_, _, _, rfl, rfl, y3⟩
    · simp only [f3, f4, bS1, i00]
      exact ⟨_, _, _, rfl, rfl, fun _ _ => rfl⟩
  · simp only [h3, h4, bS1, i00]
    exact ⟨_, _, _, rfl, rfl, fun _ _ => rfl⟩
end PL
