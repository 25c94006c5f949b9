/-! ===== worths on sheets ===== -/
theorem nar_s : ∀ w, w < 21 → Int32.toInt64 ((Int32.toInt8 (Int64.toInt32 (Int32.toInt64 (nI w)))).toInt32) = Int32.toInt64 (nI w) ∧ Int32.toInt64 ((Int32.toInt16 (Int64.toInt32 (Int32.toInt64 (nI w)))).toInt32) = Int32.toInt64 (nI w) ∧ Int32.toInt64 (Int64.toInt32 (Int32.toInt64 (nI w))) = Int32.toInt64 (nI w) := by decide +kernel
theorem put_s (items : Nat → Int64) (lane : Int32) {j w : Nat} (hj : j < 24) (hw : w ≤ 20) : fX2_put items lane (nI j) (Int32.toInt64 (nI w)) = some (vp_updL items j (Int32.toInt64 (nI w))) := by
  obtain ⟨h1, h2, h3⟩ := nar_s w (by omega)
  unfold fX2_put
  rw [ix_n hj (by decide), bS1, bS1, bS1, bS1, h1, h2, h3]
  split
  · rfl
  · split
    · rfl
    · split <;> rfl
section PN
variable {people fewest : Int32} {kinds loves many sets chalk : Nat → Int32} {wet harvest draw : Int32} {now : Nat → Int32}
variable {items : Nat → Nat → Int64} {lane size lanes sizes : Nat → Int32} {mitems : Nat → Int64}
theorem trb (hH : HR items lane size lanes sizes mitems) {k : Nat} (hk : k < 4) (l i n : Int32) : (∃ a m, i = nI a ∧ n = nI m ∧ a + m ≤ 24 ∧ fX2_troubleOf (lane k) (size k) l i n = some 0 ∧ fX6_why lanes sizes (nI k) l i n = some 0 ∧ ∀ j, j < 24 → items k j = mitems (24 * k + j)) ∨ ∃ r, fX2_troubleOf (lane k) (size k) l i n = some r ∧ fX6_why lanes sizes (nI k) l i n = some r ∧ ¬ r = 0 ∧ ¬ 0 ≤ r := by
  unfold fX2_troubleOf
  obtain ⟨q1, q2⟩ := hH k hk
  rcases q2 with q2 | ⟨⟨b, b1, b2⟩, s1, ⟨S, s2, s3⟩, s4⟩
  · rw [if_pos q2, why_0 hk (q1.symm.trans q2)]
    exact Or.inr ⟨_, rfl, rfl, by decide, by decide⟩
  · have hl := lane_nn b1 b2
    rw [if_neg hl.2.1, why_m hk s2 (s1.symm.trans s3) (by rw [← q1]; exact hl.1), ← q1]
    by_cases c : lane k = l
    · rw [if_pos c, if_pos c, s3, room_x s2, bS1]
      by_cases c2 : 0 ≤ i.toInt ∧ 0 ≤ n.toInt ∧ i.toInt + n.toInt ≤ (S : Int)
      · rw [if_pos c2, if_pos c2, if_neg (by decide)]
        obtain ⟨a, a1, a2⟩ := inN (n := 24) (i := i) (by omega) (by decide)
        obtain ⟨m, m1, m2⟩ := inN (n := 24) (i := n) (by omega) (by decide)
        refine Or.inl ⟨a, m, a2, m2, ?_, rfl, rfl, s4⟩
        rw [a2, m2, nI_toInt (by omega), nI_toInt (by omega)] at c2
        omega
      · rw [if_neg c2, if_neg c2, if_pos rfl]
        exact Or.inr ⟨_, rfl, rfl, by decide, by decide⟩
    · rw [if_neg c, if_neg c]
      exact Or.inr ⟨_, rfl, rfl, by decide, by decide⟩
theorem film_L (hT : TR people fewest kinds loves many sets chalk wet harvest draw now) {p k a m : Nat} (hp : p < 6) (hk : k < 4) (ha : a + m ≤ 24) (hm : m ≤ 12) : ∀ d n i (g : Nat → Nat → Int64) (mg : Nat → Int64), i + d = m → d < n → HR g lane size lanes sizes mg → ∃ g2 mg2, fX5_film_L65 lane (nI p) (nI m) (nI k) (nI a) harvest sets wet kinds loves n (nI i) g = some g2 ∧ fX6_film_L60 (nI p) (nI m) (nI k) (nI a) now n (nI i) mg = some mg2 ∧ HR g2 lane size lanes sizes mg2 := by
  intro d
  induction d with
  | zero =>
    intro n i g mg hi hn hH
    obtain ⟨q, rfl⟩ : ∃ q, n = q + 1 := ⟨n - 1, by omega⟩
    have c : nI m ≤ nI i := le_ge (by omega) (by omega)
    rw [fX5_film_L65, fX6_film_L60, if_pos c, if_pos c]
    exact ⟨_, _, rfl, rfl, hH⟩
  | succ d ih =>
    intro n i g mg hi hn hH
    obtain ⟨q, rfl⟩ : ∃ q, n = q + 1 := ⟨n - 1, by omega⟩
    have c : ¬ nI m ≤ nI i := nI_ge (by omega) (by omega)
    rw [fX5_film_L65, fX6_film_L60, if_neg c, if_neg c, ix_n hk (by decide), bS1, worthOfHalf_x hT hp (by omega), bS1, nI_add, put_s _ _ (by omega) (wN_le _ _ _), bS1, worthOf_m hT.ok hp (by omega), bS1, i24, nI_add, ix_n (by omega) (by decide), bS1, nI_1, Nat.add_assoc (24 * k) a i]
    exact ih q (i + 1) _ _ (by omega) (by omega) (hH.put hk (by omega) _)
theorem t_film (hT : TR people fewest kinds loves many sets chalk wet harvest draw now) (hH : HR items lane size lanes sizes mitems) (i1 i2 i3 i4 i5 : Int32) : ∃ r items_r mitems_r, fX5_film people kinds loves sets wet harvest items lane size i1 i2 i3 i4 i5 = some (r, items_r) ∧ fX6_film now lanes sizes mitems i1 i2 i3 i4 i5 = some (r, mitems_r) ∧ HR items_r lane size lanes sizes mitems_r := by
  unfold fX5_film fX6_film
  rcases per_c hT i1 with ⟨p, p0, h1, h2, h3, h4⟩ | ⟨h3, h4⟩
  · simp only [h3, h4, bS1, i10]
    rcases wi_ab i2 1 12 1 12 rfl rfl with ⟨g1, g2, g3, g4⟩ | ⟨g3, g4⟩
    · simp only [g3, g4, bS1, i10]
      rcases sheet_c i3 with ⟨k, e1, e2, e3, e4⟩ | ⟨e3, e4⟩
      · simp only [e3, e4, bS1, i10]
        rcases lane_c i4 with ⟨l, f1, f2, f3, f4⟩ | ⟨f3, f4⟩
        · simp only [f3, f4, bS1, i10]
          rw [h2, e2, ix_n e1 (by decide), bS1]
          rcases trb hH e1 i4 i5 i2 with ⟨a, m, a1, a2, a3, a4, a5, -⟩ | ⟨r, a1, a2, a3, a4⟩
          · have hm : m ≤ 12 := by
              rw [a2, nI_toInt (by omega)] at g2
              have : (12 : Int32).toInt = 12 := rfl
              omega
            obtain ⟨x1, x2, y1, y2, y3⟩ := film_L hT h1 e1 a3 hm m fl 0 items mitems (by omega) (by unfold fl; omega) hH
            rw [a4, a5, bS1, bS1, if_pos rfl, if_pos (by decide), a1, a2, show fX5_film_L65 lane (nI p) (nI m) (nI k) (nI a) harvest sets wet kinds loves fl 0 items = _ from y1, show fX6_film_L60 (nI p) (nI m) (nI k) (nI a) now fl 0 mitems = _ from y2, bS1, bS1]
            exact ⟨_, _, _, rfl, rfl, y3⟩
          · rw [a1, a2, bS1, bS1, if_neg a3, if_neg a4]
            exact ⟨_, _, _, rfl, rfl, hH⟩
        · simp only [f3, f4, bS1, i00]
          exact ⟨_, _, _, rfl, rfl, hH⟩
      · simp only [e3, e4, bS1, i00]
        exact ⟨_, _, _, rfl, rfl, hH⟩
    · simp only [g3, g4, bS1, i00]
      exact ⟨_, _, _, rfl, rfl, hH⟩
  · simp only [h3, h4, bS1, i00]
    exact ⟨_, _, _, rfl, rfl, hH⟩
end PN
