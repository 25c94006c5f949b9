/-! ===== items and copies ===== -/
theorem bm32 {x : Int} (h1 : -2147483648 ≤ x) (h2 : x < 2147483648) : x.bmod (2 ^ 32) = x := by
  rw [Int.bmod_eq_of_le (by omega) (by omega)]
theorem bm64 {x : Int} (h1 : -9223372036854775808 ≤ x) (h2 : x < 9223372036854775808) : x.bmod (2 ^ 64) = x := by
  rw [Int.bmod_eq_of_le (by omega) (by omega)]
theorem rng32 (x : Int32) : -2147483648 ≤ x.toInt ∧ x.toInt < 2147483648 := ⟨Int32.le_toInt x, Int32.toInt_lt x⟩
theorem room_x {S : Nat} (hS : S ≤ 24) (i n : Int32) : fX2_hasRoom (nI S) i n = some (if 0 ≤ i.toInt ∧ 0 ≤ n.toInt ∧ i.toInt + n.toInt ≤ (S : Int) then 1 else 0) := by
  unfold fX2_hasRoom
  have ri := rng32 i
  have rn := rng32 n
  have e1 : i < 0 ↔ i.toInt < 0 := Int32.lt_iff_toInt_lt
  have e2 : n < 0 ↔ n.toInt < 0 := Int32.lt_iff_toInt_lt
  by_cases c1 : i.toInt < 0
  · rw [if_pos (e1.mpr c1), if_neg (by omega)]
  · rw [if_neg (fun q => c1 (e1.mp q))]
    by_cases c2 : n.toInt < 0
    · rw [if_pos (e2.mpr c2), if_neg (by omega)]
    · rw [if_neg (fun q => c2 (e2.mp q))]
      have e3 : (nI S - n) < i ↔ (S : Int) - n.toInt < i.toInt := by
        rw [Int32.lt_iff_toInt_lt, Int32.toInt_sub, nI_toInt (by omega), bm32 (by omega) (by omega)]
      by_cases c3 : (S : Int) - n.toInt < i.toInt
      · rw [if_pos (e3.mpr c3), if_neg (by omega)]
      · rw [if_neg (fun q => c3 (e3.mp q)), if_pos (by omega)]
theorem why_m {lanes sizes : Nat → Int32} {k S : Nat} (hk : k < 4) (hS : S ≤ 24) (hs : sizes k = nI S) (hl : 0 ≤ lanes k) (i n : Int32) (l : Int32) : fX6_why lanes sizes (nI k) l i n = some (if lanes k = l then (if 0 ≤ i.toInt ∧ 0 ≤ n.toInt ∧ i.toInt + n.toInt ≤ (S : Int) then 0 else -13) else -12) := by
  unfold fX6_why
  rw [ix_n hk (by decide), bS1, if_pos hl]
  by_cases c : lanes k = l
  · rw [if_pos c, if_pos c]
    have ri := rng32 i
    have rn := rng32 n
    have e1 : i < 0 ↔ i.toInt < 0 := Int32.lt_iff_toInt_lt
    have e2 : n < 0 ↔ n.toInt < 0 := Int32.lt_iff_toInt_lt
    have e3 : lg_cmp (Int32.toInt64 i + Int32.toInt64 n) (Int32.toInt64 (sizes k)) ≤ 0 ↔ i.toInt + n.toInt ≤ (S : Int) := by
      rw [← Int32.not_lt, lg_cmp_gt, Int64.lt_iff_toInt_lt, Int64.toInt_add, Int32.toInt_toInt64, Int32.toInt_toInt64, Int32.toInt_toInt64, bm64 (by omega) (by omega), hs, nI_toInt (by omega)]
      omega
    by_cases c1 : i.toInt < 0
    · rw [if_pos (e1.mpr c1), if_neg (by omega)]
    · rw [if_neg (fun q => c1 (e1.mp q))]
      by_cases c2 : n.toInt < 0
      · rw [if_pos (e2.mpr c2), if_neg (by omega)]
      · rw [if_neg (fun q => c2 (e2.mp q))]
        by_cases c3 : i.toInt + n.toInt ≤ (S : Int)
        · rw [if_pos (e3.mpr c3), if_pos (by omega)]
        · rw [if_neg (fun q => c3 (e3.mp q)), if_neg (by omega)]
  · rw [if_neg c, if_neg c]
theorem why_0 {lanes sizes : Nat → Int32} {k : Nat} (hk : k < 4) (hl : lanes k = -1) (i n : Int32) (l : Int32) : fX6_why lanes sizes (nI k) l i n = some (-11) := by
  unfold fX6_why
  rw [ix_n hk (by decide), bS1, hl, if_neg (by decide)]
theorem i24 (k j : Nat) : (24 : Int32) * nI k + nI j = nI (24 * k + j) := by
  rw [show (24 : Int32) = nI 24 from rfl, pk_mul, nI_add]
theorem lane_nn {x : Int32} {a : Nat} (ha : a < 4) (h : x = nI a) : 0 ≤ x ∧ ¬ x = -1 ∧ ¬ x < 0 := by
  rcases (show a = 0 ∨ a = 1 ∨ a = 2 ∨ a = 3 by omega) with rfl | rfl | rfl | rfl <;> subst h <;> decide
section HS6
variable {items : Nat → Nat → Int64} {lane size lanes sizes : Nat → Int32} {mitems : Nat → Int64}
/-- one item put on both sides -/
theorem HR.put (hH : HR items lane size lanes sizes mitems) {k j : Nat} (hk : k < 4) (hj : j < 24) (v : Int64) : HR (va_up items k (vp_updL (items k) j v)) lane size lanes sizes (vp_updL mitems (24 * k + j) v) := by
  intro z hz
  obtain ⟨q1, q2⟩ := hH z hz
  refine ⟨q1, q2.imp id (fun q => ⟨q.1, q.2.1, q.2.2.1, fun y hy => ?_⟩)⟩
  by_cases c : z = k
  · subst c
    rw [up_s]
    by_cases c2 : y = j
    · subst c2
      rw [pk_uLs, pk_uLs]
    · rw [pk_uLn c2, pk_uLn (by omega)]
      exact q.2.2.2 y hy
  · rw [up_n c, pk_uLn (by omega)]
    exact q.2.2.2 y hy
theorem t_item (hH : HR items lane size lanes sizes mitems) (i1 i2 i3 : Int32) (v : Int64) : ∃ (r : Int32) (items_r : Nat → Nat → Int64) (mitems_r : Nat → Int64), fX5_item items lane size i1 i2 i3 v = some (r, items_r) ∧ fX6_item lanes sizes mitems i1 i2 i3 v = some (r, mitems_r) ∧ HR items_r lane size lanes sizes mitems_r := by
  unfold fX5_item fX6_item
  rcases sheet_c i1 with ⟨k, h1, h2, h3, h4⟩ | ⟨h3, h4⟩
  · simp only [h3, h4, bS1, i10]
    rcases lane_c i2 with ⟨a, g1, g2, g3, g4⟩ | ⟨g3, g4⟩
    · simp only [g3, g4, bS1, i10]
      rw [h2, ix_n h1 (by decide), bS1]
      unfold fX2_troubleOf
      obtain ⟨q1, q2⟩ := hH k h1
      rcases q2 with q2 | ⟨⟨b, b1, b2⟩, s1, ⟨S, s2, s3⟩, s4⟩
      · rw [if_pos q2, bS1, why_0 h1 (q1.symm.trans q2), bS1]
        exact ⟨_, _, _, rfl, rfl, hH⟩
      · have hl := lane_nn b1 b2
        rw [if_neg hl.2.1, why_m h1 s2 (s1.symm.trans s3) (by rw [← q1]; exact hl.1), bS1, ← q1]
        by_cases c : lane k = i2
        · rw [if_pos c, if_pos c, s3, room_x s2, bS1]
          by_cases c2 : 0 ≤ i3.toInt ∧ 0 ≤ (1 : Int32).toInt ∧ i3.toInt + (1 : Int32).toInt ≤ (S : Int)
          · rw [if_pos c2, if_pos c2, if_neg (by decide), bS1, if_pos rfl, if_pos (by decide)]
            have e1 : (1 : Int32).toInt = 1 := rfl
            obtain ⟨j, j1, j2⟩ := inN (n := 23) (i := i3) (by omega) (by decide)
            have hj : ix i3 24 = some j := by rw [j2]; exact ix_n (by omega) (by decide)
            have hj2 : ix (24 * nI k + i3) 96 = some (24 * k + j) := by rw [j2, i24]; exact ix_n (by omega) (by decide)
            unfold fX2_put
            rw [hj, bS1, bS1, bS1, bS1, ← c]
            by_cases d0 : lane k = 0
            · rw [if_pos d0, if_pos d0, bS1, bS1, hj2, bS1]
              exact ⟨_, _, _, rfl, rfl, hH.put h1 (by omega) _⟩
            · rw [if_neg d0, if_neg d0]
              by_cases d1 : lane k = 1
              · rw [if_pos d1, if_pos d1, bS1, bS1, hj2, bS1]
                exact ⟨_, _, _, rfl, rfl, hH.put h1 (by omega) _⟩
              · rw [if_neg d1, if_neg d1]
                by_cases d2 : lane k = 2
                · rw [if_pos d2, if_pos d2, bS1, bS1, hj2, bS1]
                  exact ⟨_, _, _, rfl, rfl, hH.put h1 (by omega) _⟩
                · rw [if_neg d2, if_neg d2, bS1, bS1, hj2, bS1]
                  exact ⟨_, _, _, rfl, rfl, hH.put h1 (by omega) _⟩
          · rw [if_neg c2, if_neg c2, if_pos rfl, bS1]
            exact ⟨_, _, _, rfl, rfl, hH⟩
        · rw [if_neg c, if_neg c, bS1]
          exact ⟨_, _, _, rfl, rfl, hH⟩
    · simp only [g3, g4, bS1, i00]
      exact ⟨_, _, _, rfl, rfl, hH⟩
  · simp only [h3, h4, bS1, i00]
    exact ⟨_, _, _, rfl, rfl, hH⟩
/-- a loop over a row, up to a number that is given -/
theorem rowLn {α : Type} (L : Nat → Int32 → α → Option α) (g : α → Nat → α) (N : Nat) (hN : N < 150000) (h0 : ∀ n a, L (n + 1) (nI N) a = some a) (hs : ∀ n a i, i < N → L (n + 1) (nI i) a = L n (nI (i + 1)) (g a i)) (a : α) : L fl 0 a = some (fo g a 0 N) := rowL L g N hN h0 hs a
theorem t_copy (hH : HR items lane size lanes sizes mitems) (moved : Nat → Int64) (i1 i2 i3 i4 i5 : Int32) : ∃ (r : Int32) (items_r : Nat → Nat → Int64) (mitems_r moved_r : Nat → Int64), fX5_copy items lane size i1 i2 i3 i4 i5 = some (r, items_r) ∧ fX6_copy lanes sizes mitems moved i1 i2 i3 i4 i5 = some (r, mitems_r, moved_r) ∧ HR items_r lane size lanes sizes mitems_r := by
  unfold fX5_copy fX6_copy
  rcases sheet_c i1 with ⟨k, h1, h2, h3, h4⟩ | ⟨h3, h4⟩
  · simp only [h3, h4, bS1, i10]
    rcases sheet_c i3 with ⟨l, g1, g2, g3, g4⟩ | ⟨g3, g4⟩
    · simp only [g3, g4, bS1, i10]
      rw [h2, g2, ix_n h1 (by decide), bS1, bS1, ix_n g1 (by decide), bS1, bS1]
      obtain ⟨q1, q2⟩ := hH k h1
      obtain ⟨p1, p2⟩ := hH l g1
      rcases q2 with q2 | ⟨⟨b, b1, b2⟩, s1, ⟨S, s2, s3⟩, s4⟩
      · rw [if_pos q2, if_pos (by rw [← q1, q2]; decide)]
        exact ⟨_, _, _, _, rfl, rfl, hH⟩
      · have hl := lane_nn b1 b2
        rw [if_neg hl.2.1, if_neg (show ¬ lanes k < 0 by rw [← q1]; exact hl.2.2)]
        rcases p2 with p2 | ⟨⟨a, a1, a2⟩, u1, ⟨U, u2, u3⟩, u4⟩
        · rw [if_pos p2, if_neg (show ¬ 0 ≤ lanes l by rw [← p1, p2]; decide)]
          exact ⟨_, _, _, _, rfl, rfl, hH⟩
        · have hl2 := lane_nn a1 a2
          rw [if_neg hl2.2.1, if_pos (show 0 ≤ lanes l by rw [← p1]; exact hl2.1), why_m g1 u2 (u1.symm.trans u3) (by rw [← p1]; exact hl2.1), bS1, why_m h1 s2 (s1.symm.trans s3) (by rw [← q1]; exact hl.1), if_pos rfl, bS1, ← q1, ← p1]
          by_cases c : lane k = lane l
          · rw [if_pos c, if_pos c.symm, s3, room_x s2, bS1, u3, room_x u2, bS1]
            by_cases c2 : 0 ≤ i4.toInt ∧ 0 ≤ i5.toInt ∧ i4.toInt + i5.toInt ≤ (U : Int)
            · rw [if_pos c2, if_pos c2, if_pos rfl, bS1]
              by_cases c3 : 0 ≤ i2.toInt ∧ 0 ≤ i5.toInt ∧ i2.toInt + i5.toInt ≤ (S : Int)
              · rw [if_pos c3, if_pos c3, if_neg (by decide), if_neg (by decide), if_pos (by decide)]
                obtain ⟨x, x1, x2⟩ := inN (n := 24) (i := i2) (by omega) (by decide)
                obtain ⟨y, y1, y2⟩ := inN (n := 24) (i := i4) (by omega) (by decide)
                obtain ⟨m, m1, m2⟩ := inN (n := 24) (i := i5) (by omega) (by decide)
                subst x2 y2 m2
                rw [nI_toInt (by omega), nI_toInt (by omega)] at c2 c3
                have A : fX6_copy_L91 (nI k) (nI x) (nI m) mitems fl 0 moved = some (fo (fun g j => vp_updL g (0 + j) (mitems (24 * k + x + j))) moved 0 m) :=
                  rowLn (fX6_copy_L91 (nI k) (nI x) (nI m) mitems) (fun g j => vp_updL g (0 + j) (mitems (24 * k + x + j))) m (by omega) (fun n a => by rw [fX6_copy_L91, if_pos (le_ge (Nat.le_refl _) (by omega))]) (fun n a i hi => by
                    rw [fX6_copy_L91, if_neg (nI_ge hi (by omega)), i24, nI_add, ix_n (by omega) (by decide), bS1, ix_n (by omega) (by decide), bS1, nI_1, Nat.zero_add]) moved
                rw [A, bS1]
                have B : ∀ q41, fX6_copy_L128 (nI l) (nI y) (nI m) q41 fl 0 mitems = some (fo (fun g j => vp_updL g (24 * l + y + j) (q41 j)) mitems 0 m) := fun q41 =>
                  rowLn (fX6_copy_L128 (nI l) (nI y) (nI m) q41) (fun g j => vp_updL g (24 * l + y + j) (q41 j)) m (by omega) (fun n a => by rw [fX6_copy_L128, if_pos (le_ge (Nat.le_refl _) (by omega))]) (fun n a i hi => by
                    rw [fX6_copy_L128, if_neg (nI_ge hi (by omega)), i24, nI_add, ix_n (by omega) (by decide), bS1, ix_n (by omega) (by decide), bS1, nI_1]) mitems
                rw [B, bS1, nI_clamp (by omega), nI_clamp (by omega), nI_clamp (by omega)]
                have C : cpo (nI x) (nI y) (nI m) 24 24 = some () := by
                  unfold cpo
                  rw [nI_clamp (by omega), nI_clamp (by omega), nI_clamp (by omega), if_pos ⟨nI_pos (by omega), nI_pos (by omega), nI_pos (by omega), by omega, by omega⟩]
                rw [C, bS0]
                refine ⟨_, _, _, _, rfl, rfl, fun z hz => ?_⟩
                obtain ⟨w1, w2⟩ := hH z hz
                refine ⟨w1, w2.imp id (fun q => ⟨q.1, q.2.1, q.2.2.1, fun t ht => ?_⟩)⟩
                rw [fo_updL]
                by_cases d : z = l
                · subst d
                  rw [up_s]
                  by_cases e : y ≤ t ∧ t < y + m
                  · rw [pk_cpy_in e.1 e.2, if_pos (by omega), fo_updL, if_pos (by omega), s4 _ (by omega)]
                    congr 1
                    omega
                  · rw [pk_cpy_out (by omega), if_neg (by omega)]
                    exact q.2.2.2 t ht
                · rw [up_n d, if_neg (by omega)]
                  exact q.2.2.2 t ht
              · rw [if_neg c3, if_neg c3, if_pos rfl, if_neg (by decide)]
                exact ⟨_, _, _, _, rfl, rfl, hH⟩
            · rw [if_neg c2, if_neg c2, if_neg (show ¬ (-13 : Int32) = 0 by decide), bS1, if_neg (show ¬ (0 : Int32) ≤ -13 by decide)]
              rw [if_pos rfl]
              by_cases c3 : 0 ≤ i2.toInt ∧ 0 ≤ i5.toInt ∧ i2.toInt + i5.toInt ≤ (S : Int)
              · rw [if_pos c3, if_neg (by decide)]
                exact ⟨_, _, _, _, rfl, rfl, hH⟩
              · rw [if_neg c3, if_pos rfl]
                exact ⟨_, _, _, _, rfl, rfl, hH⟩
          · rw [if_neg c, if_neg (show ¬ lane l = lane k from fun z => c z.symm), if_neg (show ¬ (-12 : Int32) = 0 by decide), bS1, if_neg (show ¬ (0 : Int32) ≤ -12 by decide)]
            exact ⟨_, _, _, _, rfl, rfl, hH⟩
    · simp only [g3, g4, bS1, i00]
      exact ⟨_, _, _, _, rfl, rfl, hH⟩
  · simp only [h3, h4, bS1, i00]
    exact ⟨_, _, _, _, rfl, rfl, hH⟩
end HS6
