/-! ===== the fewest for so long a row ===== -/
theorem msk_n {k v : Nat} (h1 : 1 ≤ k) (h : v + k ≤ 12) : (((1 : Int32) <<< (nI k &&& 31)) - 1) <<< (nI v &&& 31) = nI ((2 ^ k - 1) * 2 ^ v) ∧ (2 ^ k - 1) * 2 ^ v < 4096 := by
  have hp : 2 ^ k * 2 ^ v ≤ 2 ^ 12 := by rw [← Nat.pow_add]; exact Nat.pow_le_pow_right (by decide) (by omega)
  have hk : 2 ^ k ≤ 2 ^ 12 := Nat.pow_le_pow_right (by decide) (by omega)
  have hv : 1 ≤ 2 ^ v := Nat.one_le_two_pow
  have hk1 : 2 ≤ 2 ^ k := Nat.pow_le_pow_right (n := 2) (by decide) h1
  have hm : (2 ^ k - 1) * 2 ^ v < 4096 := by
    rw [Nat.sub_mul]
    omega
  refine ⟨?_, hm⟩
  rw [one_sh (by omega), nsub1 (by omega) (by omega)]
  exact pk_shlN (n := 2 ^ k - 1) (nI v &&& 31) v (sh_n v (by omega)) (by omega)
section PK
variable {people fewest : Int32} {kinds loves many sets chalk : Nat → Int32} {wet harvest draw : Int32} {now : Nat → Int32}
theorem and_4095 {M : Nat} (h : M < 4096) (X : Nat) : (4095 &&& X) &&& M = M &&& X := by
  apply Nat.eq_of_testBit_eq
  intro j
  rw [Nat.testBit_and, Nat.testBit_and, Nat.testBit_and, show (4095 : Nat) = 2 ^ 12 - 1 from rfl, Nat.testBit_two_pow_sub_one]
  by_cases c : j < 12
  · simp [c, Bool.and_comm]
  · have : M.testBit j = false := Nat.testBit_lt_two_pow (Nat.lt_of_lt_of_le h (Nat.pow_le_pow_right (n := 2) (by decide) (show 12 ≤ j by omega)))
    simp [this]
/-- how many are lacking -/
def lkN (N k v : Nat) : Nat := bcN ((2 ^ k - 1) * 2 ^ v &&& (N ^^^ 4294967295))
theorem lk_x {N k v : Nat} (h1 : 1 ≤ k) (h : v + k ≤ 12) : fJ6_bitCount_0f7a4 ((4095 &&& (nI N ^^^ (-1))) &&& ((((1 : Int32) <<< (nI k &&& 31)) - 1) <<< (nI v &&& 31))) = some (nI (lkN N k v)) := by
  obtain ⟨e, hm⟩ := msk_n h1 h
  rw [e, show (-1 : Int32) = nI 4294967295 from rfl, x1_n, show (4095 : Int32) = nI 4095 from rfl, and_n, and_n, and_4095 hm, bc_x (Nat.lt_of_le_of_lt Nat.and_le_left hm)]
  rfl
theorem lk_m {N k v : Nat} (h1 : 1 ≤ k) (h : v + k ≤ 12) : fX6_many (((((1 : Int32) <<< (nI k &&& 31)) - 1) <<< (nI v &&& 31)) &&& (nI N ^^^ (-1))) = some (nI (lkN N k v)) := by
  obtain ⟨e, hm⟩ := msk_n h1 h
  rw [e, show (-1 : Int32) = nI 4294967295 from rfl, x1_n, and_n, bc_m (Nat.lt_of_le_of_lt Nat.and_le_left hm)]
  rfl
theorem str_L {N k p : Nat} (h1 : 1 ≤ k) (hk : k ≤ 12) (hs : sets p = nI N) : ∀ d n v a b, v + k + d = 13 → d < n → ∃ r, fX5_stretch_L67 (nI k) sets p n a b (nI v) = some r ∧ fX6_stretch_L49 (nI k) (nI N) n a b (nI v) = some r := by
  intro d
  induction d with
  | zero =>
    intro n v a b hv hn
    obtain ⟨m, rfl⟩ : ∃ m, n = m + 1 := ⟨n - 1, by omega⟩
    have c : (12 : Int32) < nI v + nI k := by rw [nI_add, show v + k = 13 by omega]; decide
    rw [fX5_stretch_L67, fX6_stretch_L49, if_pos c, if_pos c]
    exact ⟨_, rfl, rfl⟩
  | succ d ih =>
    intro n v a b hv hn
    obtain ⟨m, rfl⟩ : ∃ m, n = m + 1 := ⟨n - 1, by omega⟩
    have c : ¬ (12 : Int32) < nI v + nI k := by
      rw [nI_add]
      exact Int32.not_lt.mpr ((nle (b := 12) (by omega) (by decide)).mpr (by omega))
    rw [fX5_stretch_L67, fX6_stretch_L49, if_neg c, if_neg c, hs, lk_x h1 (by omega), bS1, lk_m h1 (by omega), bS1, nI_1]
    by_cases e : a ≤ nI (lkN N k v)
    · rw [if_pos e, if_pos e, if_pos e, bS2, bS1, bS1]
      exact ih m (v + 1) _ _ (by omega) (by omega)
    · rw [if_neg e, if_neg e, if_neg e, bS2, bS1, bS1]
      exact ih m (v + 1) _ _ (by omega) (by omega)
theorem t_stretch (hT : TR people fewest kinds loves many sets chalk wet harvest draw now) (i1 i2 i3 : Int32) : ∃ r : Int32, fX5_stretch people sets i1 i2 i3 = some r ∧ fX6_stretch now i1 i2 i3 = some r := by
  unfold fX5_stretch fX6_stretch
  rcases per_c hT i1 with ⟨p, p0, h1, h2, h3, h4⟩ | ⟨h3, h4⟩
  · simp only [h3, h4, bS1, i10]
    rcases wi_ab i2 1 12 1 12 rfl rfl with ⟨g1, g2, g3, g4⟩ | ⟨g3, g4⟩
    · simp only [g3, g4, bS1, i10]
      rcases flag_c i3 with ⟨f1, f3, f4⟩ | ⟨f3, f4⟩
      · simp only [f3, f4, bS1, i10]
        obtain ⟨k, k1, k2⟩ := inN (n := 12) (i := i2) ⟨Int.le_trans (by decide) g1, g2⟩ (by decide)
        have k3 : 1 ≤ k := by
          rw [k2, nI_toInt (by omega)] at g1
          have : (1 : Int32).toInt = 1 := rfl
          omega
        have hs := hT.e_set h1
        rw [h2, k2, ix_n h1 (by decide), bS1, halves_m h1, bS1]
        have c : ¬ (12 : Int32) < 0 + nI k := by
          rw [show (0 : Int32) = nI 0 from rfl, nI_add]
          exact Int32.not_lt.mpr ((nle (b := 12) (by omega) (by decide)).mpr (by omega))
        have hb : lkN (setM now p) k 0 ≤ 12 := bcN_le _
        have x1 : fX5_stretch_L67 (nI k) sets p fl 13 0 0 = fX5_stretch_L67 (nI k) sets p 199999 (nI (lkN (setM now p) k 0)) 0 (nI 1) := by
          show fX5_stretch_L67 (nI k) sets p (199999 + 1) 13 0 0 = _
          rw [fX5_stretch_L67, if_neg c, hs, show (0 : Int32) = nI 0 from rfl, lk_x k3 (by omega), bS1, if_neg (show ¬ (13 : Int32) ≤ nI (lkN (setM now p) k 0) from nI_ge (b := 13) (by omega) (by decide)), bS2, nI_1]
        have x2 : fX6_stretch_L49 (nI k) (nI (setM now p)) fl 99 0 0 = fX6_stretch_L49 (nI k) (nI (setM now p)) 199999 (nI (lkN (setM now p) k 0)) 0 (nI 1) := by
          show fX6_stretch_L49 (nI k) (nI (setM now p)) (199999 + 1) 99 0 0 = _
          have n99 : ¬ (99 : Int32) ≤ nI (lkN (setM now p) k 0) := nI_ge (b := 99) (by omega) (by decide)
          rw [fX6_stretch_L49, if_neg c, show (0 : Int32) = nI 0 from rfl, lk_m k3 (by omega), bS1, if_neg n99, if_neg n99, bS1, bS1, nI_1]
        obtain ⟨⟨r1, r2⟩, y1, y2⟩ := str_L k3 k1 hs (12 - k) 199999 1 (nI (lkN (setM now p) k 0)) 0 (by omega) (by omega)
        rw [x1, x2, y1, y2, bS2]
        by_cases c : i3 = 0
        · rw [if_pos c]
          exact ⟨_, rfl, rfl⟩
        · rw [if_neg c]
          exact ⟨_, rfl, rfl⟩
      · simp only [f3, f4, bS1, i00]
        exact ⟨_, rfl, rfl⟩
    · simp only [g3, g4, bS1, i00]
      exact ⟨_, rfl, rfl⟩
  · simp only [h3, h4, bS1, i00]
    exact ⟨_, rfl, rfl⟩
end PK
