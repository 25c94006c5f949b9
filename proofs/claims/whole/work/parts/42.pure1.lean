/-! ===== loops that count up; sets as bits; worths ===== -/
def fo {α : Type} (g : α → Nat → α) : α → Nat → Nat → α
  | a, _, 0 => a
  | a, i, d + 1 => fo g (g a i) (i + 1) d
theorem foldLoop {α : Type} (L : Nat → α → Int32 → Option α) (g : α → Nat → α) (P : α → Prop) (N : Nat) (h0 : ∀ n a, P a → L (n + 1) a (nI N) = some a) (hs : ∀ n a i, i < N → P a → P (g a i) ∧ L (n + 1) a (nI i) = L n (g a i) (nI (i + 1))) : ∀ d n a i, i + d = N → d < n → P a → L n a (nI i) = some (fo g a i d) ∧ P (fo g a i d) := by
  intro d
  induction d with
  | zero =>
    intro n a i hi hn hp
    obtain ⟨m, rfl⟩ : ∃ m, n = m + 1 := ⟨n - 1, by omega⟩
    have : i = N := by omega
    subst this
    exact ⟨h0 m a hp, hp⟩
  | succ d ih =>
    intro n a i hi hn hp
    obtain ⟨m, rfl⟩ : ∃ m, n = m + 1 := ⟨n - 1, by omega⟩
    obtain ⟨h1, h2⟩ := hs m a i (by omega) hp
    rw [h2]
    exact ih m (g a i) (i + 1) (by omega) (by omega) h1
theorem fo_cg {α : Type} {g g2 : α → Nat → α} : ∀ (d i : Nat) (a : α), (∀ a j, i ≤ j → j < i + d → g a j = g2 a j) → fo g a i d = fo g2 a i d := by
  intro d
  induction d with
  | zero => intro i a _; rfl
  | succ d ih =>
    intro i a h
    show fo g (g a i) (i + 1) d = fo g2 (g2 a i) (i + 1) d
    rw [h a i (Nat.le_refl i) (by omega)]
    exact ih (i + 1) (g2 a i) (fun a j h1 h2 => h a j (by omega) (by omega))
/-- sums of small numbers -/
def sf (f : Nat → Nat) : Nat → Nat → Nat
  | _, 0 => 0
  | i, d + 1 => f i + sf f (i + 1) d
theorem fo_sf (f : Nat → Nat) : ∀ (d i a : Nat), fo (fun (x : Int32) j => x + nI (f j)) (nI a) i d = nI (a + sf f i d) := by
  intro d
  induction d with
  | zero => intro i a; rfl
  | succ d ih =>
    intro i a
    show fo (fun (x : Int32) j => x + nI (f j)) (nI a + nI (f i)) (i + 1) d = nI (a + (f i + sf f (i + 1) d))
    rw [nI_add, ih]
    congr 1
    omega
theorem sf_cg {f g : Nat → Nat} : ∀ (d i : Nat), (∀ j, i ≤ j → j < i + d → f j = g j) → sf f i d = sf g i d := by
  intro d
  induction d with
  | zero => intro i _; rfl
  | succ d ih =>
    intro i h
    show f i + sf f (i + 1) d = g i + sf g (i + 1) d
    rw [h i (Nat.le_refl i) (by omega), ih (i + 1) (fun j h1 h2 => h j (by omega) (by omega))]
theorem sf_le {f : Nat → Nat} {c : Nat} : ∀ (d i : Nat), (∀ j, f j ≤ c) → sf f i d ≤ d * c := by
  intro d
  induction d with
  | zero => intro i _; exact Nat.zero_le _
  | succ d ih =>
    intro i h
    show f i + sf f (i + 1) d ≤ (d + 1) * c
    have h1 := h i
    have h2 := ih (i + 1) h
    rw [Nat.succ_mul]
    omega
theorem sh_n : ∀ h, h < 32 → ((nI h &&& 31).toBitVec.smod 32).toNat = h := by decide +kernel
theorem x1_n (a b : Nat) : nI a ^^^ nI b = nI (a ^^^ b) := by
  apply Int32.toBitVec_inj.mp
  show (BitVec.ofNat 32 a) ^^^ (BitVec.ofNat 32 b) = BitVec.ofNat 32 (a ^^^ b)
  apply BitVec.eq_of_toNat_eq
  simp [BitVec.toNat_xor, Nat.xor_mod_two_pow]
theorem bit_n {N h : Nat} (hN : N < 2 ^ 31) (hh : h < 31) : (nI N >>> (nI h &&& 31)) &&& 1 = nI (if N.testBit h then 1 else 0) := by
  rw [pk_shrN hN _ h (sh_n h (by omega)), pk_andN (by have := Nat.div_le_self N (2 ^ h); omega) 1 (by decide)]
  congr 1
  rw [Nat.testBit_eq_decide_div_mod_eq]
  have h2 : N / 2 ^ h % 2 < 2 := Nat.mod_lt _ (by decide)
  show N / 2 ^ h % 2 = _
  by_cases c : N / 2 ^ h % 2 = 1
  · simp [c]
  · have : N / 2 ^ h % 2 = 0 := by omega
    simp [this]
theorem isIn_n {N h : Nat} (hN : N < 2 ^ 31) (hh : h < 31) : fX5_isIn (nI N) (nI h) = some (if N.testBit h then 1 else 0) := by
  unfold fX5_isIn
  rw [bit_n hN hh]
  cases N.testBit h <;> rfl
theorem hvN_lt (f : Nat → Int32) : ∀ n, hvN f n < 2 ^ n := by
  intro n
  induction n with
  | zero => exact Nat.one_pos
  | succ n ih =>
    show hvN f n + _ < _
    rw [Nat.pow_succ]
    split <;> omega
theorem hvN_bit (f : Nat → Int32) : ∀ n h, (hvN f n).testBit h = (decide (h < n) && decide (0 < f h)) := by
  intro n
  induction n with
  | zero => intro h; simp [hvN]
  | succ n ih =>
    intro h
    show (hvN f n + (if 0 < f n then 2 ^ n else 0)).testBit h = _
    have hl := hvN_lt f n
    by_cases c : 0 < f n
    · rw [if_pos c, Nat.add_comm]
      rcases Nat.lt_trichotomy h n with q | q | q
      · rw [Nat.testBit_two_pow_add_gt q, ih]
        simp [q, show h < n + 1 by omega]
      · subst q
        rw [Nat.testBit_two_pow_add_eq, ih]
        simp [c]
      · have hb : 2 ^ n + hvN f n < 2 ^ h := by
          have h1 : 2 ^ (n + 1) ≤ 2 ^ h := Nat.pow_le_pow_right (by decide) q
          rw [Nat.pow_succ] at h1
          omega
        rw [Nat.testBit_lt_two_pow hb]
        simp [show ¬ h < n + 1 by omega]
    · rw [if_neg c, Nat.add_zero, ih]
      rcases Nat.lt_trichotomy h n with q | q | q
      · simp [q, show h < n + 1 by omega]
      · subst q
        simp [c]
      · simp [show ¬ h < n by omega, show ¬ h < n + 1 by omega]
/-- what a half is worth: kind, half, own halves, the loved one's, wet, harvest -/
def wbk (k h : Nat) (s l w v : Nat → Bool) : Nat :=
  if s h = true ∧ ¬ (k = 4 ∧ h % 2 = 0) then
    (if w (h / 2) = true then 3 else 6) + (if (k = 1 ∨ k = 3) ∧ v (h / 2) = true then 9 else 0) + (if (k = 2 ∨ k = 4) ∧ s (h ^^^ 1) = true then 4 else 0) + (if k = 3 ∧ l h = true then 5 else 0)
  else 0
theorem wbk_le (k h : Nat) (s l w v : Nat → Bool) : wbk k h s l w v ≤ 20 := by
  unfold wbk
  repeat' split
  all_goals omega
theorem xor1_lt : ∀ h, h < 12 → h ^^^ 1 < 12 := by decide
set_option maxHeartbeats 2000000 in
theorem worthByKind_n {k h S L w v : Nat} (hk : k < 5) (hh : h < 12) (hS : S < 4096) (hL : L < 4096) (hw : w < 64) (hv : v < 64) : fX5_worthByKind (nI k) (nI h) (nI S) (nI L) (nI w) (nI v) = some (nI (wbk k h S.testBit L.testBit w.testBit v.testBit)) := by
  have hx := xor1_lt h hh
  have e1 : nI h / 2 = nI (h / 2) := pk_div (a := h) (d := 2) (by omega) (by decide) (by decide)
  have e2 : nI h - nI (h / 2) * 2 = nI (h % 2) := by rw [← e1]; exact pk_rem (a := h) (d := 2) (by omega) (by decide) (by decide)
  have e3 : nI h ^^^ 1 = nI (h ^^^ 1) := x1_n h 1
  unfold fX5_worthByKind wbk
  rw [e1, e2, e3, isIn_n (by omega) (by omega), isIn_n (by omega) (by omega), isIn_n (by omega) (by omega), isIn_n (by omega) (by omega), isIn_n (by omega) (by omega)]
  have hm : h % 2 = 0 ∨ h % 2 = 1 := by omega
  generalize S.testBit h = b1
  generalize S.testBit (h ^^^ 1) = b2
  generalize L.testBit h = b3
  generalize w.testBit (h / 2) = b4
  generalize v.testBit (h / 2) = b5
  rcases (show k = 0 ∨ k = 1 ∨ k = 2 ∨ k = 3 ∨ k = 4 by omega) with rfl | rfl | rfl | rfl | rfl <;> rcases hm with hm | hm <;> rw [hm] <;> cases b1 <;> cases b2 <;> cases b3 <;> cases b4 <;> cases b5 <;> rfl
