/-! ===== what a call tests first, on both sides ===== -/
theorem wi_n (i : Int32) (n : Nat) (hn : n < 2 ^ 31) {b : Int32} {b2 : Int64} (hb : b.toInt = n) (hb2 : b2.toInt = n) : (∃ j, j ≤ n ∧ i = nI j ∧ fX5_isWithin i 0 b = some 1 ∧ fX6_in (Int32.toInt64 i) 0 b2 = some 1) ∨ (fX5_isWithin i 0 b = some 0 ∧ fX6_in (Int32.toInt64 i) 0 b2 = some 0) := by
  rw [W5, W6i, hb, hb2, show (0 : Int32).toInt = 0 from rfl, show (0 : Int64).toInt = 0 from rfl]
  by_cases c : 0 ≤ i.toInt ∧ i.toInt ≤ (n : Int)
  · obtain ⟨j, h1, h2⟩ := inN c hn
    exact Or.inl ⟨j, h1, h2, by rw [if_pos c], by rw [if_pos c]⟩
  · exact Or.inr ⟨by rw [if_neg c], by rw [if_neg c]⟩
theorem wi_ab (i a b : Int32) (a2 b2 : Int64) (ha : a2.toInt = a.toInt) (hb : b2.toInt = b.toInt) : (a.toInt ≤ i.toInt ∧ i.toInt ≤ b.toInt ∧ fX5_isWithin i a b = some 1 ∧ fX6_in (Int32.toInt64 i) a2 b2 = some 1) ∨ (fX5_isWithin i a b = some 0 ∧ fX6_in (Int32.toInt64 i) a2 b2 = some 0) := by
  rw [W5, W6i, ha, hb]
  by_cases c : a.toInt ≤ i.toInt ∧ i.toInt ≤ b.toInt
  · exact Or.inl ⟨c.1, c.2, by rw [if_pos c], by rw [if_pos c]⟩
  · exact Or.inr ⟨by rw [if_neg c], by rw [if_neg c]⟩
theorem i10 {α : Type} (a b : α) : (if (1 : Int32) = 0 then a else b) = b := if_neg (by decide)
theorem i00 {α : Type} (a b : α) : (if (0 : Int32) = 0 then a else b) = a := if_pos rfl
theorem isb0 : isb 0 = some () := rfl
theorem isb1 : isb 1 = some () := rfl
theorem half_c (i : Int32) : (∃ h, h < 12 ∧ i = nI h ∧ fX5_isHalf i = some 1 ∧ fX6_isHalf i = some 1) ∨ (fX5_isHalf i = some 0 ∧ fX6_isHalf i = some 0) := by
  unfold fX5_isHalf fX6_isHalf
  rcases wi_n i 11 (by decide) (b := 11) (b2 := 11) rfl rfl with ⟨j, h1, h2, h3, h4⟩ | ⟨h3, h4⟩
  · exact Or.inl ⟨j, by omega, h2, by rw [h3, bS1, isb1, bS0], by rw [h4, bS1, isb1, bS0]⟩
  · exact Or.inr ⟨by rw [h3, bS1, isb0, bS0], by rw [h4, bS1, isb0, bS0]⟩
theorem sun_c (i : Int32) : (∃ h, h < 6 ∧ i = nI h ∧ fX5_isSunday i = some 1 ∧ fX6_in (Int32.toInt64 i) 0 5 = some 1) ∨ (fX5_isSunday i = some 0 ∧ fX6_in (Int32.toInt64 i) 0 5 = some 0) := by
  unfold fX5_isSunday
  rcases wi_n i 5 (by decide) (b := 5) (b2 := 5) rfl rfl with ⟨j, h1, h2, h3, h4⟩ | ⟨h3, h4⟩
  · exact Or.inl ⟨j, by omega, h2, by rw [h3, bS1, isb1, bS0], h4⟩
  · exact Or.inr ⟨by rw [h3, bS1, isb0, bS0], h4⟩
theorem flag_c (i : Int32) : ((i = 0 ∨ i = 1) ∧ fX5_isFlag i = some 1 ∧ fX6_in (Int32.toInt64 i) 0 1 = some 1) ∨ (fX5_isFlag i = some 0 ∧ fX6_in (Int32.toInt64 i) 0 1 = some 0) := by
  rw [isFlag5, W6i, show (0 : Int64).toInt = 0 from rfl, show (1 : Int64).toInt = 1 from rfl]
  by_cases c : 0 ≤ i.toInt ∧ i.toInt ≤ 1
  · refine Or.inl ⟨?_, by rw [if_pos c], by rw [if_pos c]⟩
    obtain ⟨j, h1, h2⟩ := inN (n := 1) c (by decide)
    rcases (show j = 0 ∨ j = 1 by omega) with rfl | rfl
    · exact Or.inl h2
    · exact Or.inr h2
  · exact Or.inr ⟨by rw [if_neg c], by rw [if_neg c]⟩
section PC
variable {people fewest : Int32} {kinds loves many sets chalk : Nat → Int32} {wet harvest draw : Int32} {now : Nat → Int32}
theorem per_c (hT : TR people fewest kinds loves many sets chalk wet harvest draw now) (i : Int32) : (∃ p, p < nP now ∧ p < 6 ∧ i = nI p ∧ fX4_isOne people i = some 1 ∧ fX6_isPerson now i = some 1) ∨ (fX4_isOne people i = some 0 ∧ fX6_isPerson now i = some 0) := by
  have hk := hT.ok
  have h6 := hk.1.1
  have e1 : fX4_isOne people i = some (if 0 ≤ i.toInt ∧ i.toInt < (nP now : Int) then 1 else 0) := by
    unfold fX4_isOne
    rw [hT.e_people]
    have q1 : i < 0 ↔ i.toInt < 0 := Int32.lt_iff_toInt_lt
    have q2 : nI (nP now) ≤ i ↔ (nP now : Int) ≤ i.toInt := by rw [Int32.le_iff_toInt_le, nI_toInt (by omega)]
    by_cases c1 : i.toInt < 0
    · rw [if_pos (q1.mpr c1), if_neg (by omega)]
    · rw [if_neg (fun z => c1 (q1.mp z))]
      by_cases c2 : (nP now : Int) ≤ i.toInt
      · rw [if_pos (q2.mpr c2), if_neg (by omega)]
      · rw [if_neg (fun z => c2 (q2.mp z)), if_pos (by omega)]
  have e2 : fX6_isPerson now i = some (if 0 ≤ i.toInt ∧ i.toInt < (nP now : Int) then 1 else 0) := by
    unfold fX6_isPerson
    have q : (Int32.toInt64 (now 0 - 1)).toInt = (nP now : Int) - 1 := by
      rw [Int32.toInt_toInt64, hk.1.2]
      exact pk_sub_toInt (a := nP now) (b := 1) (by omega) (by decide)
    rw [i0, bS1, W6i, q, show (0 : Int64).toInt = 0 from rfl, bS1]
    by_cases c : 0 ≤ i.toInt ∧ i.toInt < (nP now : Int)
    · rw [if_pos c, if_pos (show 0 ≤ i.toInt ∧ i.toInt ≤ (nP now : Int) - 1 by omega)]; rfl
    · rw [if_neg c, if_neg (show ¬ (0 ≤ i.toInt ∧ i.toInt ≤ (nP now : Int) - 1) by omega)]; rfl
  rw [e1, e2]
  by_cases c : 0 ≤ i.toInt ∧ i.toInt < (nP now : Int)
  · obtain ⟨j, h1, h2⟩ := inN (n := 5) (i := i) (by omega) (by decide)
    refine Or.inl ⟨j, ?_, by omega, h2, by rw [if_pos c], by rw [if_pos c]⟩
    have := c.2
    rw [h2, nI_toInt (by omega)] at this
    omega
  · exact Or.inr ⟨by rw [if_neg c], by rw [if_neg c]⟩
theorem i1_95 : ix 1 95 = some 1 := by decide
/-- one number of the row changed that is none of the town's others -/
theorem TR.e_draw (hT : TR people fewest kinds loves many sets chalk wet harvest draw now) : draw = now 4 := hT.2.2.2.2.2.2.2.2.2.1
-- least
theorem t_least (hT : TR people fewest kinds loves many sets chalk wet harvest draw now) (i : Int32) : ∃ (r fewest_r : Int32) (now_r : Nat → Int32), fX5_least fewest i = some (r, fewest_r) ∧ fX6_least now i = some (r, now_r) ∧ TR people fewest_r kinds loves many sets chalk wet harvest draw now_r := by
  unfold fX5_least fX6_least
  rcases wi_n i 12 (by decide) (b := 12) (b2 := 12) rfl rfl with ⟨j, h1, h2, h3, h4⟩ | ⟨h3, h4⟩
  · rw [h3, h4, bS1, bS1, if_neg (by decide), if_neg (by decide), i1_95, bS1]
    refine ⟨fewest, i, upd now 1 i, rfl, by rw [hT.2.1.1], ?_⟩
    obtain ⟨a1, a2, a3, a4, a5⟩ := hT
    refine ⟨a1, ⟨rfl, j, h1, h2⟩, fun p hp => ?_, fun p hp => ?_, ?_⟩
    · rw [show upd now 1 i (5 + 3 * p) = now (5 + 3 * p) from pk_un (by omega)]
      exact a3 p hp
    · rw [show upd now 1 i (6 + 3 * p) = now (6 + 3 * p) from pk_un (by omega)]
      exact a4 p hp
    · have e1 : (fun p => upd now 1 i (7 + 3 * p)) = fun p => now (7 + 3 * p) := funext fun p => pk_un (by omega)
      have e2 : (fun j => upd now 1 i (23 + j)) = fun j => now (23 + j) := funext fun p => pk_un (by omega)
      rw [e1, e2]
      exact a5
  · rw [h3, h4, bS1, bS1, if_pos rfl, if_pos rfl]
    exact ⟨-1, fewest, now, rfl, rfl, hT⟩
-- seed
theorem t_seed (hT : TR people fewest kinds loves many sets chalk wet harvest draw now) (i : Int32) : ∃ (r draw_r : Int32) (now_r : Nat → Int32), fX5_seed draw i = some (r, draw_r) ∧ fX6_seed now i = some (r, now_r) ∧ TR people fewest kinds loves many sets chalk wet harvest draw_r now_r := by
  unfold fX5_seed fX6_seed
  by_cases c : 0 ≤ i
  · rw [if_pos c, if_pos c, show ix 4 95 = some 4 by decide, bS1]
    refine ⟨draw, i, upd now 4 i, rfl, by rw [hT.e_draw], ?_⟩
    obtain ⟨a1, a2, a3, a4, b1, b2, b3, b4, b5, b6, b7, b8, -⟩ := hT
    refine ⟨a1, a2, fun p hp => ?_, fun p hp => ?_, ?_⟩
    · rw [show upd now 4 i (5 + 3 * p) = now (5 + 3 * p) from pk_un (by omega)]
      exact a3 p hp
    · rw [show upd now 4 i (6 + 3 * p) = now (6 + 3 * p) from pk_un (by omega)]
      exact a4 p hp
    · have e1 : (fun p => upd now 4 i (7 + 3 * p)) = fun p => now (7 + 3 * p) := funext fun p => pk_un (by omega)
      have e2 : (fun j => upd now 4 i (23 + j)) = fun j => now (23 + j) := funext fun p => pk_un (by omega)
      rw [e1, e2]
      exact ⟨b1, b2, b3, b4, b5, rfl, b7, b8, nI_of (Int32.not_lt.mpr c)⟩
  · rw [if_neg c, if_neg c]
    exact ⟨-1, draw, now, rfl, rfl, hT⟩
-- at
theorem t_at (hT : TR people fewest kinds loves many sets chalk wet harvest draw now) (i j : Int32) : ∃ r : Int32, fX5_at wet harvest i j = some r ∧ fX6_at now i j = some r := by
  have hk := hT.ok
  unfold fX5_at fX6_at
  rcases sun_c i with ⟨s, h1, h2, h3, h4⟩ | ⟨h3, h4⟩
  · simp only [h3, h4, bS1, i10]
    rcases flag_c j with ⟨g1, g3, g4⟩ | ⟨g3, g4⟩
    · simp only [g3, g4, bS1, i10]
      rcases g1 with rfl | rfl
      · rw [i00, bS1, h2, hT.e_wet, isIn_n (by have := hk.2.2.1.1; omega) (by omega), bS1, show ix (2 + 0) 95 = some 2 by decide, bS1, hk.2.2.1.2, bit_n (by have := hk.2.2.1.1; omega) (by omega)]
        cases (nW now).testBit s <;> exact ⟨_, rfl, rfl⟩
      · rw [i10, bS1, h2, hT.e_harvest, isIn_n (by have := hk.2.2.2.1.1; omega) (by omega), bS1, show ix (2 + 1) 95 = some 3 by decide, bS1, hk.2.2.2.1.2, bit_n (by have := hk.2.2.2.1.1; omega) (by omega)]
        cases (nH now).testBit s <;> exact ⟨_, rfl, rfl⟩
    · simp only [g3, g4, bS1, i00]
      exact ⟨-1, rfl, rfl⟩
  · simp only [h3, h4, bS1, i00]
    exact ⟨-1, rfl, rfl⟩
-- love
theorem t_love (hT : TR people fewest kinds loves many sets chalk wet harvest draw now) (i j : Int32) : ∃ (r : Int32) (loves_r now_r : Nat → Int32), fX5_love people loves i j = some (r, loves_r) ∧ fX6_love now i j = some (r, now_r) ∧ TR people fewest kinds loves_r many sets chalk wet harvest draw now_r := by
  have hk := hT.ok
  unfold fX5_love fX6_love
  rcases per_c hT i with ⟨p, p0, h1, h2, h3, h4⟩ | ⟨h3, h4⟩
  · simp only [h3, h4, bS1, i10]
    rcases per_c hT j with ⟨q, q0, g1, g2, g3, g4⟩ | ⟨g3, g4⟩
    · simp only [g3, g4, bS1, i10]
      rw [h2, ix_n h1 (by decide), bS1, show (1 : Int32) = nI 1 from rfl, ofPerson_m now h1 (by decide), bS1, i5, ix_n (by omega) (by decide), bS1, show 5 + 3 * p + 1 = 6 + 3 * p by omega]
      refine ⟨_, _, _, rfl, by rw [(hT.2.2.2.1 p h1).1], ?_⟩
      obtain ⟨a1, a2, a3, a4, a5⟩ := hT
      refine ⟨by rw [pk_un (by omega)]; exact a1, by rw [pk_un (by omega)]; exact a2, fun z hz => ?_, fun z hz => ?_, ?_⟩
      · rw [show upd now (6 + 3 * p) j (5 + 3 * z) = now (5 + 3 * z) from pk_un (by omega)]
        exact a3 z hz
      · by_cases c : z = p
        · subst c
          rw [pk_us, pk_us]
          exact ⟨rfl, q, g1, g2⟩
        · rw [show upd now (6 + 3 * p) j (6 + 3 * z) = now (6 + 3 * z) from pk_un (by omega), pk_un c]
          exact a4 z hz
      · have e1 : (fun z => upd now (6 + 3 * p) j (7 + 3 * z)) = fun z => now (7 + 3 * z) := funext fun z => pk_un (by omega)
        have e2 : (fun z => upd now (6 + 3 * p) j (23 + z)) = fun z => now (23 + z) := funext fun z => by
          by_cases c : 23 + z = 6 + 3 * p
          · omega
          · exact pk_un c
        rw [e1, e2, pk_un (by omega), pk_un (by omega), pk_un (by omega)]
        exact a5
    · simp only [g3, g4, bS1, i00]
      exact ⟨-1, loves, now, rfl, rfl, hT⟩
  · simp only [h3, h4, bS1, i00]
    exact ⟨-1, loves, now, rfl, rfl, hT⟩
-- of
theorem t_of (hT : TR people fewest kinds loves many sets chalk wet harvest draw now) (i j : Int32) : ∃ r : Int32, fX5_of people kinds loves many sets chalk wet harvest i j = some r ∧ fX6_of now i j = some r := by
  have hk := hT.ok
  unfold fX5_of fX6_of
  rcases per_c hT i with ⟨p, p0, h1, h2, h3, h4⟩ | ⟨h3, h4⟩
  · simp only [h3, h4, bS1, i10]
    rcases wi_n j 5 (by decide) (b := 5) (b2 := 5) rfl rfl with ⟨w, g1, g2, g3, g4⟩ | ⟨g3, g4⟩
    · simp only [g4, bS1, i10]
      rw [h2]
      have o0 := ofPerson_m now h1 (show 0 < 3 by decide)
      have o1 := ofPerson_m now h1 (show 1 < 3 by decide)
      have o2 := ofPerson_m now h1 (show 2 < 3 by decide)
      have e1 := (hT.2.2.1 p h1).1
      have e2 := (hT.2.2.2.1 p h1).1
      have e3 := hT.e_chalk h1
      rcases (show w = 0 ∨ w = 1 ∨ w = 2 ∨ w = 3 ∨ w = 4 ∨ w = 5 by omega) with rfl | rfl | rfl | rfl | rfl | rfl <;> subst g2
      · refine ⟨now (5 + 3 * p), (show bd1 (ix (nI p) 6) (fun j => some (kinds j)) = _ from ?_), (show bd1 (fX6_ofPerson now (nI p) (nI 0)) (fun r => some r) = _ from ?_)⟩
        · rw [ix_n h1 (by decide), bS1, e1]
        · rw [o0, bS1]
          rfl
      · refine ⟨now (6 + 3 * p), (show bd1 (ix (nI p) 6) (fun j => some (loves j)) = _ from ?_), (show bd1 (fX6_ofPerson now (nI p) (nI 1)) (fun r => some r) = _ from ?_)⟩
        · rw [ix_n h1 (by decide), bS1, e2]
        · rw [o1, bS1, show 5 + 3 * p + 1 = 6 + 3 * p by omega]
      · refine ⟨now (7 + 3 * p), (show bd1 (ix (nI p) 6) (fun j => some (chalk j)) = _ from ?_), (show bd1 (fX6_ofPerson now (nI p) (nI 2)) (fun r => some r) = _ from ?_)⟩
        · rw [ix_n h1 (by decide), bS1, e3]
        · rw [o2, bS1, show 5 + 3 * p + 2 = 7 + 3 * p by omega]
      · refine ⟨nI (setM now p), (show bd1 (ix (nI p) 6) (fun j => some (sets j)) = _ from ?_), (show bd1 (fX6_halves now (nI p)) (fun r => some r) = _ from ?_)⟩
        · rw [ix_n h1 (by decide), bS1, hT.e_set h1]
        · rw [halves_m h1, bS1]
      · exact ⟨_, (show bd1 (fX0_manyInAll many (nI p)) (fun r => some r) = _ by rw [manyInAll_x hT h1, bS1]), (show bd1 (fX6_manyAll now (nI p)) (fun r => some r) = _ by rw [manyAll_m h1, bS1])⟩
      · exact ⟨_, (show bd1 (fX4_worthOf kinds loves sets wet harvest (nI p)) (fun r => some r) = _ by rw [worthOf_x hT h1, bS1]), (show bd1 (fX6_worth now (nI p)) (fun r => some r) = _ by rw [worth_m hk h1, bS1])⟩
    · simp only [g4, bS1, i00]
      have n : ∀ k : Nat, k ≤ 5 → ¬ j = nI k := by
        intro k hk5 e
        rw [W6i] at g4
        rw [e, nI_toInt (by omega), show (0 : Int64).toInt = 0 from rfl, show (5 : Int64).toInt = 5 from rfl, if_pos (by omega)] at g4
        exact absurd g4 (by decide)
      rw [if_neg (show ¬ j = 0 from n 0 (by decide)), if_neg (show ¬ j = 1 from n 1 (by decide)), if_neg (show ¬ j = 2 from n 2 (by decide)), if_neg (show ¬ j = 3 from n 3 (by decide)), if_neg (show ¬ j = 4 from n 4 (by decide)), if_neg (show ¬ j = 5 from n 5 (by decide))]
      exact ⟨-1, rfl, rfl⟩
  · simp only [h3, h4, bS1, i00]
    exact ⟨-1, rfl, rfl⟩
-- has
theorem t_has (hT : TR people fewest kinds loves many sets chalk wet harvest draw now) (i j k : Int32) : ∃ r : Int32, fX5_has people kinds loves many sets wet harvest i j k = some r ∧ fX6_has now i j k = some r := by
  have hk := hT.ok
  unfold fX5_has fX6_has
  rcases per_c hT i with ⟨p, p0, h1, h2, h3, h4⟩ | ⟨h3, h4⟩
  · simp only [h3, h4, bS1, i10]
    rcases half_c j with ⟨h, g1, g2, g3, g4⟩ | ⟨g3, g4⟩
    · simp only [g3, g4, bS1, i10]
      rcases flag_c k with ⟨f1, f3, f4⟩ | ⟨f3, f4⟩
      · simp only [f3, f4, bS1, i10]
        rw [h2, g2, manyOf_x (fun j hj => hT.e_many hj) h1 g1, manyOf_m now h1 g1, worthOfHalf_x hT h1 g1, worthOf_m hk h1 g1]
        simp only [bS1]
        rcases f1 with rfl | rfl
        · exact ⟨_, rfl, rfl⟩
        · exact ⟨_, rfl, rfl⟩
      · simp only [f3, f4, bS1, i00]
        exact ⟨-1, rfl, rfl⟩
    · simp only [g3, g4, bS1, i00]
      exact ⟨-1, rfl, rfl⟩
  · simp only [h3, h4, bS1, i00]
    exact ⟨-1, rfl, rfl⟩
-- both
theorem t_both (hT : TR people fewest kinds loves many sets chalk wet harvest draw now) (i j : Int32) : ∃ r : Int32, fX5_both people sets i j = some r ∧ fX6_both now i j = some r := by
  unfold fX5_both fX6_both
  rcases per_c hT i with ⟨p, p0, h1, h2, h3, h4⟩ | ⟨h3, h4⟩
  · simp only [h3, h4, bS1, i10]
    rcases per_c hT j with ⟨q, q0, g1, g2, g3, g4⟩ | ⟨g3, g4⟩
    · simp only [g3, g4, bS1, i10]
      rw [h2, g2, ix_n h1 (by decide), bS1, ix_n g1 (by decide), bS1, halves_m h1, bS1, halves_m g1, bS1, hT.e_set h1, hT.e_set g1]
      exact ⟨_, rfl, rfl⟩
    · simp only [g3, g4, bS1, i00]
      exact ⟨-1, rfl, rfl⟩
  · simp only [h3, h4, bS1, i00]
    exact ⟨-1, rfl, rfl⟩
-- count
theorem t_count (hT : TR people fewest kinds loves many sets chalk wet harvest draw now) {known undos : Int32} (hu : known = undos) (i : Int32) : ∃ r : Int32, fX5_count people fewest kinds loves sets chalk wet harvest known i = some r ∧ fX6_count now undos i = some r := by
  have hk := hT.ok
  unfold fX5_count fX6_count
  rw [worthOfAll_x hT, worthAll_m hk, chalkOfAll_x hT, chalkAll_m hk, hu]
  simp only [bS1]
  by_cases c0 : i = 0
  · subst c0; exact ⟨_, rfl, by rw [if_pos rfl, hT.1.1]; rfl⟩
  · rw [if_neg c0, if_neg c0]
    by_cases c1 : i = 1
    · subst c1; exact ⟨_, rfl, by rw [if_pos rfl, hT.2.1.1]; rfl⟩
    · rw [if_neg c1, if_neg c1]
      by_cases c2 : i = 2
      · subst c2; exact ⟨_, rfl, by rw [if_pos rfl, hT.2.2.2.2.2.2.2.1]; rfl⟩
      · rw [if_neg c2, if_neg c2]
        by_cases c3 : i = 3
        · subst c3; exact ⟨_, rfl, by rw [if_pos rfl, hT.2.2.2.2.2.2.2.2.1]; rfl⟩
        · rw [if_neg c3, if_neg c3]
          by_cases c4 : i = 4
          · exact ⟨_, by rw [if_pos c4], by rw [if_pos c4]⟩
          · rw [if_neg c4]
            by_cases c5 : i = 5
            · exact ⟨_, by rw [if_pos c5], by rw [if_pos c5]⟩
            · rw [if_neg c5]
              by_cases c6 : i = 6
              · exact ⟨_, by rw [if_pos c6], by rw [if_pos c6]⟩
              · rw [if_neg c6]
                exact ⟨_, rfl, rfl⟩
end PC
