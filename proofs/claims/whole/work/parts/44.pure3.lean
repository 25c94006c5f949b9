/-! ===== sums: worth of one, of all; sets ===== -/
theorem sumL (L : Nat → Int32 → Int32 → Option Int32) (f : Nat → Nat) (N : Nat) (hN : N < 150000) (h0 : ∀ n a, L (n + 1) a (nI N) = some a) (hs : ∀ n a i, i < N → L (n + 1) a (nI i) = L n (a + nI (f i)) (nI (i + 1))) : L fl 0 0 = some (nI (sf f 0 N)) := by
  have key := (foldLoop L (fun x j => x + nI (f j)) (fun _ => True) N (fun n a _ => h0 n a) (fun n a i hi _ => ⟨trivial, hs n a i hi⟩) N fl (nI 0) 0 (Nat.zero_add N) (by unfold fl; omega) trivial).1
  rw [fo_sf, Nat.zero_add] at key
  exact key
theorem foldL (L : Nat → Int32 → Int32 → Option Int32) (f : Nat → Int32) (N : Nat) (hN : N < 150000) (h0 : ∀ n a, L (n + 1) a (nI N) = some a) (hs : ∀ n a i, i < N → L (n + 1) a (nI i) = L n (a + f i) (nI (i + 1))) : L fl 0 0 = some (fo (fun x j => x + f j) 0 0 N) :=
  (foldLoop L (fun x j => x + f j) (fun _ => True) N (fun n a _ => h0 n a) (fun n a i hi _ => ⟨trivial, hs n a i hi⟩) N fl 0 0 (Nat.zero_add N) (by unfold fl; omega) trivial).1
theorem p12 : (12 : Int32) ≤ nI 12 := by decide
theorem n12 {i : Nat} (h : i < 12) : ¬ (12 : Int32) ≤ nI i := nI_ge (b := 12) h (by decide)
theorem le_ge {a b : Nat} (h : b ≤ a) (ha : a < 2 ^ 31) : nI b ≤ nI a := nI_le h ha
section XS3
variable {people fewest : Int32} {kinds loves many sets chalk : Nat → Int32} {wet harvest draw : Int32} {now : Nat → Int32}
theorem worthInRain_x (hT : TR people fewest kinds loves many sets chalk wet harvest draw now) {p S w : Nat} (hp : p < 6) (hS : S < 4096) (hw : w < 64) : fX4_worthInRain kinds loves sets harvest (nI p) (nI S) (nI w) = some (nI (sf (fun h => wbk (kd now p) h S.testBit (lvs now p) w.testBit (nH now).testBit) 0 12)) := by
  have hk := hT.ok
  have hl := (hk.2.2.2.2.2.2 p hp).1
  unfold fX4_worthInRain
  rw [ix_n hp (by decide), bS1, hT.e_love hp, lovedSet_x hT hp hl, bS1, hT.e_harvest]
  have hr : (if lo now p = p then 0 else setM now (lo now p)) < 4096 := by split; decide; exact setM_lt _ _
  rw [sumL (fX4_worthInRain_L19 (nI (nH now)) (nI p) (nI S) (nI w) kinds (nI (if lo now p = p then 0 else setM now (lo now p)))) (fun h => wbk (kd now p) h S.testBit (lvs now p) w.testBit (nH now).testBit) 12 (by decide) (fun n a => by rw [fX4_worthInRain_L19, if_pos p12]) (fun n a i hi => by
    rw [fX4_worthInRain_L19, if_neg (n12 hi), ix_n hp (by decide), bS1, hT.e_kind hp, worthByKind_n (hk.2.2.2.2.2.1 p hp).1 hi hS hr hw hk.2.2.2.1.1, bS1, nI_1]
    congr 2
    congr 1
    apply wbk_cg hi (fun _ _ => rfl)
    intro j hj
    unfold lvs
    by_cases c : lo now p = p
    · rw [if_pos c, if_pos c]; exact Nat.zero_testBit j
    · rw [if_neg c, if_neg c]; exact setM_bit now _ hj), bS1]
theorem worthOf_x (hT : TR people fewest kinds loves many sets chalk wet harvest draw now) {p : Nat} (hp : p < 6) : fX4_worthOf kinds loves sets wet harvest (nI p) = some (nI (wP_ now p)) := by
  unfold fX4_worthOf
  rw [ix_n hp (by decide), bS1, hT.e_set hp, hT.e_wet, worthInRain_x hT hp (setM_lt _ _) hT.ok.2.2.1.1, bS1]
  congr 2
  apply sf_cg
  intro j _ hj
  exact wbk_cg (by omega) (fun i hi => setM_bit now p hi) (fun _ _ => rfl)
theorem worthOfSet_x (hT : TR people fewest kinds loves many sets chalk wet harvest draw now) {p S : Nat} (hp : p < 6) (hS : S < 4096) : fX4_worthOfSet kinds loves sets wet harvest (nI p) (nI S) = some (nI (sf (fun h => wbk (kd now p) h S.testBit (lvs now p) (nW now).testBit (nH now).testBit) 0 12)) := by
  unfold fX4_worthOfSet
  rw [hT.e_wet, worthInRain_x hT hp hS hT.ok.2.2.1.1, bS1]
theorem worthOfAll_x (hT : TR people fewest kinds loves many sets chalk wet harvest draw now) : fX4_worthOfAll people kinds loves sets wet harvest = some (nI (wA_ now)) := by
  have h6 := hT.ok.1.1
  unfold fX4_worthOfAll
  rw [hT.e_people, sumL (fX4_worthOfAll_L4 harvest sets wet kinds loves (nI (nP now))) (wP_ now) (nP now) (by omega) (fun n a => by rw [fX4_worthOfAll_L4, if_pos (le_ge (Nat.le_refl _) (by omega))]) (fun n a i hi => by
    rw [fX4_worthOfAll_L4, if_neg (nI_ge hi (by omega)), worthOf_x hT (by omega), bS1, nI_1]), bS1]
  rfl
theorem manyInAll_x (hT : TR people fewest kinds loves many sets chalk wet harvest draw now) {p : Nat} (hp : p < 6) : fX0_manyInAll many (nI p) = some (fo (fun x j => x + now (23 + 12 * p + j)) 0 0 12) := by
  unfold fX0_manyInAll
  rw [foldL (fX0_manyInAll_L4 many (nI p)) (fun j => now (23 + 12 * p + j)) 12 (by decide) (fun n a => by rw [fX0_manyInAll_L4, if_pos p12]) (fun n a i hi => by
    rw [fX0_manyInAll_L4, if_neg (n12 hi), manyOf_x (fun j hj => hT.e_many hj) hp hi, bS1, nI_1]), bS1]
theorem chalkOfAll_x (hT : TR people fewest kinds loves many sets chalk wet harvest draw now) : fX4_chalkOfAll people chalk = some (fo (fun x j => x + now (7 + 3 * j)) 0 0 (nP now)) := by
  have h6 := hT.ok.1.1
  unfold fX4_chalkOfAll
  rw [hT.e_people, foldL (fX4_chalkOfAll_L4 chalk (nI (nP now))) (fun j => now (7 + 3 * j)) (nP now) (by omega) (fun n a => by rw [fX4_chalkOfAll_L4, if_pos (le_ge (Nat.le_refl _) (by omega))]) (fun n a i hi => by
    rw [fX4_chalkOfAll_L4, if_neg (nI_ge hi (by omega)), ix_n (by omega) (by decide), bS1, hT.e_chalk (by omega), nI_1]), bS1]
end XS3
section MS3
variable {now : Nat → Int32}
theorem i0 : ix 0 95 = some 0 := by decide
theorem worth_m (hk : OKM now) {p : Nat} (hp : p < 6) : fX6_worth now (nI p) = some (nI (wP_ now p)) := by
  unfold fX6_worth
  rw [sumL (fX6_worth_L4 (nI p) now) (wN now p) 12 (by decide) (fun n a => by rw [fX6_worth_L4, if_pos p12]) (fun n a i hi => by
    rw [fX6_worth_L4, if_neg (n12 hi), worthOf_m hk hp hi, bS1, nI_1]), bS1]
  rfl
theorem worthAll_m (hk : OKM now) : fX6_worthAll now = some (nI (wA_ now)) := by
  have h6 := hk.1.1
  unfold fX6_worthAll
  rw [sumL (fX6_worthAll_L4 now) (wP_ now) (nP now) (by omega) (fun n a => by rw [fX6_worthAll_L4, i0, bS1, hk.1.2, if_pos (le_ge (Nat.le_refl _) (by omega))]) (fun n a i hi => by
    rw [fX6_worthAll_L4, i0, bS1, hk.1.2, if_neg (nI_ge hi (by omega)), worth_m hk (by omega), bS1, nI_1]), bS1]
  rfl
theorem manyAll_m {p : Nat} (hp : p < 6) : fX6_manyAll now (nI p) = some (fo (fun x j => x + now (23 + 12 * p + j)) 0 0 12) := by
  unfold fX6_manyAll
  rw [foldL (fX6_manyAll_L4 (nI p) now) (fun j => now (23 + 12 * p + j)) 12 (by decide) (fun n a => by rw [fX6_manyAll_L4, if_pos p12]) (fun n a i hi => by
    rw [fX6_manyAll_L4, if_neg (n12 hi), manyOf_m now hp hi, bS1, nI_1]), bS1]
theorem chalkAll_m (hk : OKM now) : fX6_chalkAll now = some (fo (fun x j => x + now (7 + 3 * j)) 0 0 (nP now)) := by
  have h6 := hk.1.1
  unfold fX6_chalkAll
  rw [foldL (fX6_chalkAll_L4 now) (fun j => now (7 + 3 * j)) (nP now) (by omega) (fun n a => by rw [fX6_chalkAll_L4, i0, bS1, hk.1.2, if_pos (le_ge (Nat.le_refl _) (by omega))]) (fun n a i hi => by
    rw [fX6_chalkAll_L4, i0, bS1, hk.1.2, if_neg (nI_ge hi (by omega)), show (2 : Int32) = nI 2 from rfl, ofPerson_m now (by omega) (by decide), bS1, nI_1]
    congr 2
    congr 1
    omega), bS1]
theorem one_sh {i : Nat} (hi : i < 31) : (1 : Int32) <<< (nI i &&& 31) = nI (2 ^ i) := by
  have h := pk_shlN (n := 1) (nI i &&& 31) i (sh_n i (by omega)) (by
    rw [Nat.one_mul]
    exact Nat.pow_lt_pow_right (by decide) (by omega))
  rw [Nat.one_mul] at h
  exact h
theorem or_n (a b : Nat) : nI a ||| nI b = nI (a ||| b) := by
  apply Int32.toBitVec_inj.mp
  show (BitVec.ofNat 32 a) ||| (BitVec.ofNat 32 b) = BitVec.ofNat 32 (a ||| b)
  apply BitVec.eq_of_toNat_eq
  simp [BitVec.toNat_or, Nat.or_mod_two_pow]
theorem and_n (a b : Nat) : nI a &&& nI b = nI (a &&& b) := by
  apply Int32.toBitVec_inj.mp
  show (BitVec.ofNat 32 a) &&& (BitVec.ofNat 32 b) = BitVec.ofNat 32 (a &&& b)
  apply BitVec.eq_of_toNat_eq
  simp [BitVec.toNat_and, Nat.and_mod_two_pow]
theorem or_bit {a i : Nat} (h : a < 2 ^ i) : a ||| 2 ^ i = a + 2 ^ i := by
  have := Nat.two_pow_add_eq_or_of_lt h 1
  rw [Nat.mul_one] at this
  rw [Nat.or_comm, ← this, Nat.add_comm]
theorem halves_L {p : Nat} (hp : p < 6) : ∀ d n i, i + d = 12 → d < n → fX6_halves_L4 (nI p) now n (nI (hvN (fun h => now (23 + (12 * p + h))) i)) (nI i) = some (nI (setM now p)) := by
  intro d
  induction d with
  | zero =>
    intro n i hi hn
    obtain ⟨m, rfl⟩ : ∃ m, n = m + 1 := ⟨n - 1, by omega⟩
    have : i = 12 := by omega
    subst this
    rw [fX6_halves_L4, if_pos p12]
    rfl
  | succ d ih =>
    intro n i hi hn
    obtain ⟨m, rfl⟩ : ∃ m, n = m + 1 := ⟨n - 1, by omega⟩
    rw [fX6_halves_L4, if_neg (n12 (by omega)), hasOne_m now hp (by omega), bS1, one_sh (by omega), nI_1]
    have hl := hvN_lt (fun h => now (23 + (12 * p + h))) i
    rw [← ih m (i + 1) (by omega) (by omega)]
    have e : hs now p i = decide (0 < now (23 + (12 * p + i))) := by unfold hs; rw [Nat.add_assoc]
    rw [e]
    by_cases c : 0 < now (23 + (12 * p + i))
    · simp only [c, decide_true, if_true]
      rw [if_neg (by decide), bS1, or_n, or_bit hl]
      show _ = fX6_halves_L4 (nI p) now m (nI (hvN _ i + (if 0 < now (23 + (12 * p + i)) then 2 ^ i else 0))) _
      rw [if_pos c]
    · simp only [c, decide_false]
      rw [if_pos (show (if false = true then (1 : Int32) else 0) = 0 from rfl), bS1, show (0 : Int32) = nI 0 from rfl, or_n, Nat.or_zero]
      show _ = fX6_halves_L4 (nI p) now m (nI (hvN _ i + (if 0 < now (23 + (12 * p + i)) then 2 ^ i else 0))) _
      rw [if_neg c]
      rfl
theorem halves_m {p : Nat} (hp : p < 6) : fX6_halves now (nI p) = some (nI (setM now p)) := by
  unfold fX6_halves
  rw [show fX6_halves_L4 (nI p) now fl 0 0 = some (nI (setM now p)) from halves_L hp 12 fl 0 rfl (by decide), bS1]
end MS3
