/-! ===== sheets, the tape, hands ===== -/
theorem fo_updL (b : Nat) (v : Nat → Int64) : ∀ (d i : Nat) (g : Nat → Int64) (k : Nat), fo (fun g j => vp_updL g (b + j) (v j)) g i d k = if b + i ≤ k ∧ k < b + i + d then v (k - b) else g k := by
  intro d
  induction d with
  | zero =>
    intro i g k
    rw [if_neg (by omega)]
    rfl
  | succ d ih =>
    intro i g k
    show fo (fun g j => vp_updL g (b + j) (v j)) (vp_updL g (b + i) (v i)) (i + 1) d k = _
    rw [ih]
    by_cases c : k = b + i
    · subst c
      rw [if_neg (by omega), pk_uLs, if_pos (by omega), show b + i - b = i by omega]
    · rw [pk_uLn c]
      by_cases c2 : b + (i + 1) ≤ k ∧ k < b + (i + 1) + d
      · rw [if_pos c2, if_pos (by omega)]
      · rw [if_neg c2, if_neg (by omega)]
theorem fo_upd (b : Nat) (v : Nat → Int32) : ∀ (d i : Nat) (g : Nat → Int32) (k : Nat), fo (fun g j => upd g (b + j) (v j)) g i d k = if b + i ≤ k ∧ k < b + i + d then v (k - b) else g k := by
  intro d
  induction d with
  | zero =>
    intro i g k
    rw [if_neg (by omega)]
    rfl
  | succ d ih =>
    intro i g k
    show fo (fun g j => upd g (b + j) (v j)) (upd g (b + i) (v i)) (i + 1) d k = _
    rw [ih]
    by_cases c : k = b + i
    · subst c
      rw [if_neg (by omega), pk_us, if_pos (by omega), show b + i - b = i by omega]
    · rw [pk_un c]
      by_cases c2 : b + (i + 1) ≤ k ∧ k < b + (i + 1) + d
      · rw [if_pos c2, if_pos (by omega)]
      · rw [if_neg c2, if_neg (by omega)]
/-- a loop over a row -/
theorem rowL {α : Type} (L : Nat → Int32 → α → Option α) (g : α → Nat → α) (N : Nat) (hN : N < 150000) (h0 : ∀ n a, L (n + 1) (nI N) a = some a) (hs : ∀ n a i, i < N → L (n + 1) (nI i) a = L n (nI (i + 1)) (g a i)) (a : α) : L fl 0 a = some (fo g a 0 N) :=
  (foldLoop (fun n a i => L n i a) g (fun _ => True) N (fun n a _ => h0 n a) (fun n a i hi _ => ⟨trivial, hs n a i hi⟩) N fl a 0 (Nat.zero_add N) (by unfold fl; omega) trivial).1
theorem begin_x (items : Nat → Int64) (a b : Int32) : fX2_begin items a b = some (fo (fun g j => vp_updL g (0 + j) 0) items 0 24, a, b) := by
  unfold fX2_begin
  rw [rowL fX2_begin_L12 (fun g j => vp_updL g (0 + j) 0) 24 (by decide) (fun n a => by rw [fX2_begin_L12, if_pos (by decide)]) (fun n a i hi => by
    rw [fX2_begin_L12, if_neg (show ¬ (24 : Int32) ≤ nI i from nI_ge (b := 24) hi (by decide)), ix_n hi (by decide), bS1, nI_1, Nat.zero_add]), bS1]
theorem sheetL_m {k : Nat} (hk : k < 4) (g : Nat → Int64) : fX6_sheet_L46 (nI k) fl 0 g = some (fo (fun g j => vp_updL g (24 * k + j) 0) g 0 24) :=
  rowL (fX6_sheet_L46 (nI k)) (fun g j => vp_updL g (24 * k + j) 0) 24 (by decide) (fun n a => by rw [fX6_sheet_L46, if_pos (by decide)]) (fun n a i hi => by
    rw [fX6_sheet_L46, if_neg (show ¬ (24 : Int32) ≤ nI i from nI_ge (b := 24) hi (by decide)), show (24 : Int32) * nI k + nI i = nI (24 * k + i) by rw [show (24 : Int32) = nI 24 from rfl, pk_mul, nI_add], ix_n (by omega) (by decide), bS1, nI_1]) g
theorem sheet_c (i : Int32) : (∃ h, h < 4 ∧ i = nI h ∧ fX5_isSheet i = some 1 ∧ fX6_isSheet i = some 1) ∨ (fX5_isSheet i = some 0 ∧ fX6_isSheet i = some 0) := by
  unfold fX5_isSheet fX6_isSheet
  rcases wi_n i 3 (by decide) (b := 3) (b2 := 3) rfl rfl with ⟨j, h1, h2, h3, h4⟩ | ⟨h3, h4⟩
  · exact Or.inl ⟨j, by omega, h2, by rw [h3, bS1, isb1, bS0], by rw [h4, bS1, isb1, bS0]⟩
  · exact Or.inr ⟨by rw [h3, bS1, isb0, bS0], by rw [h4, bS1, isb0, bS0]⟩
theorem lane_c (i : Int32) : (∃ h, h < 4 ∧ i = nI h ∧ fX5_isLane i = some 1 ∧ fX6_isLane i = some 1) ∨ (fX5_isLane i = some 0 ∧ fX6_isLane i = some 0) := by
  unfold fX5_isLane fX6_isLane
  rcases wi_n i 3 (by decide) (b := 3) (b2 := 3) rfl rfl with ⟨j, h1, h2, h3, h4⟩ | ⟨h3, h4⟩
  · exact Or.inl ⟨j, by omega, h2, by rw [h3, bS1, isb1, bS0], by rw [h4, bS1, isb1, bS0]⟩
  · exact Or.inr ⟨by rw [h3, bS1, isb0, bS0], by rw [h4, bS1, isb0, bS0]⟩
theorem up_s {α : Type} (f : Nat → α) (k : Nat) (v : α) : va_up f k v k = v := by unfold va_up; rw [if_pos rfl]
theorem up_n {α : Type} {f : Nat → α} {k j : Nat} {v : α} (h : j ≠ k) : va_up f k v j = f j := by unfold va_up; rw [if_neg h]
section HS
variable {items : Nat → Nat → Int64} {lane size lanes sizes : Nat → Int32} {mitems : Nat → Int64}
theorem t_sheet (hH : HR items lane size lanes sizes mitems) (i j n : Int32) : ∃ (r : Int32) (items_r : Nat → Nat → Int64) (lane_r size_r lanes_r sizes_r : Nat → Int32) (mitems_r : Nat → Int64), fX5_sheet items lane size i j n = some (r, items_r, lane_r, size_r) ∧ fX6_sheet lanes sizes mitems i j n = some (r, lanes_r, sizes_r, mitems_r) ∧ HR items_r lane_r size_r lanes_r sizes_r mitems_r := by
  unfold fX5_sheet fX6_sheet
  rcases sheet_c i with ⟨k, h1, h2, h3, h4⟩ | ⟨h3, h4⟩
  · simp only [h3, h4, bS1, i10]
    rcases lane_c j with ⟨a, g1, g2, g3, g4⟩ | ⟨g3, g4⟩
    · simp only [g3, g4, bS1, i10]
      by_cases c1 : n ≤ 24
      · rw [if_pos c1, if_pos c1]
        by_cases c2 : 0 ≤ n
        · rw [if_pos c2, if_pos c2, h2, ix_n h1 (by decide), bS1, bS1, begin_x, bS3, sheetL_m h1, bS1]
          refine ⟨_, _, _, _, _, _, _, rfl, rfl, fun z hz => ?_⟩
          by_cases c : z = k
          · subst c
            rw [up_s, pk_us]
            refine ⟨rfl, Or.inr ⟨⟨a, g1, g2⟩, by rw [up_s, pk_us], ?_, fun y hy => ?_⟩⟩
            · rw [up_s]
              exact nI_of2 (M := 24) (n := 24) rfl (Int32.not_lt.mpr c2) c1
            · rw [up_s, fo_updL, fo_updL, if_pos (by omega), if_pos (by omega)]
          · rw [up_n c, up_n c, pk_un c, pk_un c, up_n c]
            obtain ⟨q1, q2⟩ := hH z hz
            refine ⟨q1, q2.imp id (fun q => ⟨q.1, q.2.1, q.2.2.1, fun y hy => ?_⟩)⟩
            rw [fo_updL, if_neg (by omega)]
            exact q.2.2.2 y hy
        · rw [if_neg c2, if_neg c2]
          exact ⟨_, _, _, _, _, _, _, rfl, rfl, hH⟩
      · rw [if_neg c1, if_neg c1]
        exact ⟨_, _, _, _, _, _, _, rfl, rfl, hH⟩
    · simp only [g3, g4, bS1, i00]
      exact ⟨_, _, _, _, _, _, _, rfl, rfl, hH⟩
  · simp only [h3, h4, bS1, i00]
    exact ⟨_, _, _, _, _, _, _, rfl, rfl, hH⟩
theorem t_drop (hH : HR items lane size lanes sizes mitems) (i : Int32) : ∃ (r : Int32) (items_r : Nat → Nat → Int64) (lane_r size_r lanes_r : Nat → Int32), fX5_drop items lane size i = some (r, items_r, lane_r, size_r) ∧ fX6_drop lanes sizes i = some (r, lanes_r) ∧ HR items_r lane_r size_r lanes_r sizes mitems := by
  unfold fX5_drop fX6_drop
  rcases sheet_c i with ⟨k, h1, h2, h3, h4⟩ | ⟨h3, h4⟩
  · simp only [h3, h4, bS1, i10]
    rw [h2, ix_n h1 (by decide), bS1, bS1, begin_x, bS3]
    obtain ⟨q1, q2⟩ := hH k h1
    rcases q2 with q2 | ⟨⟨a, a1, a2⟩, b1, b2⟩
    · rw [← q1, if_pos q2, if_neg (by rw [q2]; decide)]
      exact ⟨_, _, _, _, _, rfl, rfl, hH⟩
    · rw [← q1, if_neg (by rw [a2]; intro z; have := congrArg Int32.toInt z; rw [nI_toInt (by omega)] at this; exact absurd this (by show ¬ (a : Int) = -1; omega)), if_pos (by rw [a2]; exact nI_pos' (by omega)), b1]
      refine ⟨_, _, _, _, _, rfl, rfl, fun z hz => ?_⟩
      by_cases c : z = k
      · subst c
        rw [up_s, pk_us]
        exact ⟨rfl, Or.inl rfl⟩
      · rw [up_n c, up_n c, pk_un c, up_n c]
        exact hH z hz
  · simp only [h3, h4, bS1, i00]
    exact ⟨_, _, _, _, _, rfl, rfl, hH⟩
end HS
-- type
theorem char_n {c : Nat} (h : c < 65536) : vp_nar .char ((Int32.toUInt32 (nI c) % 65536).toInt32) = nI c := by
  rw [pk_vc, pk_char, pk_tn (by omega), Nat.mod_eq_of_lt h]
theorem t_type {letters tape : Nat → Int32} {length typed : Int32} (hA : AR letters length tape typed) (i : Int32) : ∃ (r : Int32) (letters_r : Nat → Int32) (length_r : Int32) (tape_r : Nat → Int32) (typed_r : Int32), fX5_type letters length i = some (r, letters_r, length_r) ∧ fX6_type tape typed i = some (r, tape_r, typed_r) ∧ AR letters_r length_r tape_r typed_r := by
  obtain ⟨n, hn, e1, e2, hl⟩ := hA
  have hA : AR letters length tape typed := ⟨n, hn, e1, e2, hl⟩
  unfold fX5_type fX6_type
  rcases wi_ab i 32 126 32 126 rfl rfl with ⟨h1, h2, h3, h4⟩ | ⟨h3, h4⟩
  · simp only [h3, h4, bS1, i10]
    obtain ⟨c, c1, c2⟩ := inN (n := 126) (i := i) ⟨Int.le_trans (by decide) h1, h2⟩ (by decide)
    have c3 : 32 ≤ c := by
      rw [c2, nI_toInt (by omega)] at h1
      have : (32 : Int32).toInt = 32 := rfl
      omega
    by_cases c4 : n = 100
    · subst c4
      rw [e1, e2, if_neg (by decide), if_pos (by decide)]
      exact ⟨_, _, _, _, _, rfl, rfl, 100, by decide, rfl, rfl, hl⟩
    · have n1 : (nI n < 100) := (nI_ltI (b := 100) (by omega) (by decide)).mpr (by omega)
      have n2 : ¬ (100 : Int32) ≤ nI n := Int32.not_le.mpr n1
      have n3 : ¬ nI n = 100 := fun z => c4 ((nI_eq (b := 100) (by omega) (by decide)).mp z)
      unfold fX3_put
      rw [e1, e2, if_pos n1, if_neg n2, if_neg n3, ix_n (by omega) (by decide), bS1, bS3, bS1, c2, char_n (by omega), nI_1]
      refine ⟨_, _, _, _, _, rfl, rfl, n + 1, by omega, rfl, rfl, fun z hz => ?_⟩
      by_cases c5 : z = n
      · subst c5
        rw [pk_us, pk_us]
        exact ⟨rfl, c, c3, c1, rfl⟩
      · rw [pk_un c5, pk_un c5]
        exact hl z (by omega)
  · simp only [h3, h4, bS1, i00]
    exact ⟨_, _, _, _, _, rfl, rfl, hA⟩
-- hands
section HN
variable {people fewest : Int32} {kinds loves many sets chalk : Nat → Int32} {wet harvest draw : Int32} {now : Nat → Int32}
theorem t_hands (hT : TR people fewest kinds loves many sets chalk wet harvest draw now) (i : Int32) : ∃ r : Int32, fX5_hands people sets i = some r ∧ fX6_hands now i = some r := by
  have hk := hT.ok
  have h6 := hk.1.1
  unfold fX5_hands fX6_hands
  rcases half_c i with ⟨h, h1, h2, h3, h4⟩ | ⟨h3, h4⟩
  · simp only [h3, h4, bS1, i10]
    have X := (foldLoop (fX5_hands_L13 i sets people) (fun x p => if hs now p h then x else x ||| ((1 : Int32) <<< (nI p &&& 31))) (fun _ => True) (nP now) (fun n a _ => by rw [fX5_hands_L13, hT.e_people, if_pos (le_ge (Nat.le_refl _) (by omega))]) (fun n a p hp _ => ⟨trivial, by
      rw [fX5_hands_L13, hT.e_people, if_neg (nI_ge hp (by omega)), ix_n (by omega) (by decide), bS1, hT.e_set (by omega), h2, isIn_n (by have := setM_lt now p; omega) (by omega), bS1, setM_bit now p h1, nI_1]
      cases hs now p h <;> rfl⟩) (nP now) fl 0 0 (Nat.zero_add _) (by unfold fl; omega) trivial).1
    have M := (foldLoop (fX6_hands_L13 i now) (fun x p => if hs now p h then x else x ||| ((1 : Int32) <<< (nI p &&& 31))) (fun _ => True) (nP now) (fun n a _ => by rw [fX6_hands_L13, i0, bS1, hk.1.2, if_pos (le_ge (Nat.le_refl _) (by omega))]) (fun n a p hp _ => ⟨trivial, by
      rw [fX6_hands_L13, i0, bS1, hk.1.2, if_neg (nI_ge hp (by omega)), h2, hasOne_m now (by omega) h1, bS1, nI_1]
      cases hs now p h
      · rfl
      · show fX6_hands_L13 (nI h) now n (a ||| 0) (nI (p + 1)) = fX6_hands_L13 (nI h) now n a (nI (p + 1))
        rw [show a ||| 0 = a by apply Int32.toBitVec_inj.mp; simp]⟩) (nP now) fl 0 0 (Nat.zero_add _) (by unfold fl; omega) trivial).1
    rw [show fX5_hands_L13 i sets people fl 0 0 = _ from X, show fX6_hands_L13 i now fl 0 0 = _ from M, bS1]
    exact ⟨_, rfl, rfl⟩
  · simp only [h3, h4, bS1, i00]
    exact ⟨_, rfl, rfl⟩
end HN
