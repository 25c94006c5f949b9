/-! ===== plain facts ===== -/
theorem bS0 {β : Type} (k : Option β) : bd0 (some ()) k = k := rfl
theorem bS1 {α1 β : Type} (a1 : α1) (k : α1 → Option β) : bd1 (some a1) k = k a1 := rfl
theorem bS2 {α1 α2 β : Type} (a1 : α1) (a2 : α2) (k : α1 → α2 → Option β) : bd2 (some (a1, a2)) k = k a1 a2 := rfl
theorem bS3 {α1 α2 α3 β : Type} (a1 : α1) (a2 : α2) (a3 : α3) (k : α1 → α2 → α3 → Option β) : bd3 (some (a1, a2, a3)) k = k a1 a2 a3 := rfl
theorem bS4 {α1 α2 α3 α4 β : Type} (a1 : α1) (a2 : α2) (a3 : α3) (a4 : α4) (k : α1 → α2 → α3 → α4 → Option β) : bd4 (some (a1, a2, a3, a4)) k = k a1 a2 a3 a4 := rfl
theorem bS6 {α1 α2 α3 α4 α5 α6 β : Type} (a1 : α1) (a2 : α2) (a3 : α3) (a4 : α4) (a5 : α5) (a6 : α6) (k : α1 → α2 → α3 → α4 → α5 → α6 → Option β) : bd6 (some (a1, a2, a3, a4, a5, a6)) k = k a1 a2 a3 a4 a5 a6 := rfl
theorem bS7 {α1 α2 α3 α4 α5 α6 α7 β : Type} (a1 : α1) (a2 : α2) (a3 : α3) (a4 : α4) (a5 : α5) (a6 : α6) (a7 : α7) (k : α1 → α2 → α3 → α4 → α5 → α6 → α7 → Option β) : bd7 (some (a1, a2, a3, a4, a5, a6, a7)) k = k a1 a2 a3 a4 a5 a6 a7 := rfl
theorem bS10 {α1 α2 α3 α4 α5 α6 α7 α8 α9 α10 β : Type} (a1 : α1) (a2 : α2) (a3 : α3) (a4 : α4) (a5 : α5) (a6 : α6) (a7 : α7) (a8 : α8) (a9 : α9) (a10 : α10) (k : α1 → α2 → α3 → α4 → α5 → α6 → α7 → α8 → α9 → α10 → Option β) : bd10 (some (a1, a2, a3, a4, a5, a6, a7, a8, a9, a10)) k = k a1 a2 a3 a4 a5 a6 a7 a8 a9 a10 := rfl
theorem bS11 {α1 α2 α3 α4 α5 α6 α7 α8 α9 α10 α11 β : Type} (a1 : α1) (a2 : α2) (a3 : α3) (a4 : α4) (a5 : α5) (a6 : α6) (a7 : α7) (a8 : α8) (a9 : α9) (a10 : α10) (a11 : α11) (k : α1 → α2 → α3 → α4 → α5 → α6 → α7 → α8 → α9 → α10 → α11 → Option β) : bd11 (some (a1, a2, a3, a4, a5, a6, a7, a8, a9, a10, a11)) k = k a1 a2 a3 a4 a5 a6 a7 a8 a9 a10 a11 := rfl
theorem ix_n {k n : Nat} (h : k < n) (hn : n < 2 ^ 31) : ix (nI k) n = some k := by
  unfold ix
  rw [nI_clamp (by omega), if_neg]
  rintro (q | q)
  · exact nI_pos (by omega) q
  · omega
theorem W5 (i a b : Int32) : fX5_isWithin i a b = some (if a.toInt ≤ i.toInt ∧ i.toInt ≤ b.toInt then 1 else 0) := by
  unfold fX5_isWithin
  have e1 : i < a ↔ i.toInt < a.toInt := Int32.lt_iff_toInt_lt
  have e2 : b < i ↔ b.toInt < i.toInt := Int32.lt_iff_toInt_lt
  by_cases h1 : i.toInt < a.toInt
  · rw [if_pos (e1.mpr h1), if_neg (by omega)]
  · rw [if_neg (fun q => h1 (e1.mp q))]
    by_cases h2 : b.toInt < i.toInt
    · rw [if_pos (e2.mpr h2), if_neg (by omega)]
    · rw [if_neg (fun q => h2 (e2.mp q)), if_pos (by omega)]
theorem W6 (x a b : Int64) : fX6_in x a b = some (if a.toInt ≤ x.toInt ∧ x.toInt ≤ b.toInt then 1 else 0) := by
  unfold fX6_in
  have e1 : (lg_cmp x a < 0) ↔ x.toInt < a.toInt := by rw [lg_cmp_lt, Int64.lt_iff_toInt_lt]
  have e2 : (0 < lg_cmp x b) ↔ b.toInt < x.toInt := by rw [lg_cmp_gt, Int64.lt_iff_toInt_lt]
  by_cases h1 : x.toInt < a.toInt
  · rw [if_pos (e1.mpr h1), if_neg (by omega)]
  · rw [if_neg (fun q => h1 (e1.mp q))]
    by_cases h2 : b.toInt < x.toInt
    · rw [if_pos (e2.mpr h2), if_neg (by omega)]
    · rw [if_neg (fun q => h2 (e2.mp q)), if_pos (by omega)]
theorem W6i (i : Int32) (a b : Int64) : fX6_in (Int32.toInt64 i) a b = some (if a.toInt ≤ i.toInt ∧ i.toInt ≤ b.toInt then 1 else 0) := by
  rw [W6, Int32.toInt_toInt64]
theorem isFlag5 (i : Int32) : fX5_isFlag i = some (if 0 ≤ i.toInt ∧ i.toInt ≤ 1 then 1 else 0) := by
  unfold fX5_isFlag
  by_cases h0 : i = 0
  · subst h0; rfl
  · by_cases h1 : i = 1
    · subst h1; rfl
    · rw [if_neg h0, if_neg h1, if_neg]
      rintro ⟨a, b⟩
      have n0 : ¬ i.toInt = 0 := fun q => h0 (Int32.toInt_inj.mp q)
      have n1 : ¬ i.toInt = 1 := fun q => h1 (Int32.toInt_inj.mp q)
      omega
/-- a number within 0 .. n -/
theorem inN {i : Int32} {n : Nat} (h : 0 ≤ i.toInt ∧ i.toInt ≤ (n : Int)) (hn : n < 2 ^ 31) : ∃ j, j ≤ n ∧ i = nI j := by
  refine ⟨i.toInt.toNat, by omega, ?_⟩
  apply Int32.toInt_inj.mp
  rw [nI_toInt (by omega)]
  omega
