/-! ===== rows that touch ===== -/
theorem foldMap {σ β γ : Type} (L : Nat → β → Int32 → Option γ) (φ : σ → β) (out : σ → γ) (g : σ → Nat → σ) (P : Nat → σ → Prop) (N : Nat) (h0 : ∀ n s, P N s → L (n + 1) (φ s) (nI N) = some (out s)) (hs : ∀ n s i, i < N → P i s → P (i + 1) (g s i) ∧ L (n + 1) (φ s) (nI i) = L n (φ (g s i)) (nI (i + 1))) : ∀ d n s i, i + d = N → d < n → P i s → L n (φ s) (nI i) = some (out (fo g s i d)) := by
  intro d
  induction d with
  | zero =>
    intro n s i hi hn hp
    obtain ⟨m, rfl⟩ : ∃ m, n = m + 1 := ⟨n - 1, by omega⟩
    have : i = N := by omega
    subst this
    exact h0 m s hp
  | succ d ih =>
    intro n s i hi hn hp
    obtain ⟨m, rfl⟩ : ∃ m, n = m + 1 := ⟨n - 1, by omega⟩
    obtain ⟨h1, h2⟩ := hs m s i (by omega) hp
    rw [h2]
    exact ih m (g s i) (i + 1) (by omega) (by omega) h1
/-- how long a row is from i on -/
def lenN (N : Nat) : Nat → Nat → Nat
  | _, 0 => 0
  | i, d + 1 => if N.testBit i then lenN N (i + 1) d + 1 else 0
theorem lenN_le (N : Nat) : ∀ d i, lenN N i d ≤ d := by
  intro d
  induction d with
  | zero => intro i; exact Nat.le_refl 0
  | succ d ih =>
    intro i
    show (if N.testBit i then lenN N (i + 1) d + 1 else 0) ≤ d + 1
    have := ih (i + 1)
    split <;> omega
theorem len_L {N i : Nat} (hN : N < 4096) : ∀ d n v, i + v + d = 12 → d < n → fX5_lengthFrom_L2 (nI N) (nI i) n (nI v) = some (nI (v + lenN N (i + v) d)) := by
  intro d
  induction d with
  | zero =>
    intro n v hi hn
    obtain ⟨m, rfl⟩ : ∃ m, n = m + 1 := ⟨n - 1, by omega⟩
    rw [fX5_lengthFrom_L2, nI_add, show i + v = 12 by omega, if_pos p12]
    rfl
  | succ d ih =>
    intro n v hi hn
    obtain ⟨m, rfl⟩ : ∃ m, n = m + 1 := ⟨n - 1, by omega⟩
    rw [fX5_lengthFrom_L2, nI_add, if_neg (n12 (by omega)), isIn_n (by omega) (by omega), bS1]
    show _ = some (nI (v + (if N.testBit (i + v) then lenN N (i + v + 1) d + 1 else 0)))
    cases N.testBit (i + v)
    · rfl
    · rw [if_neg (by decide), nI_1, ih m (v + 1) (by omega) (by omega)]
      congr 2
      rw [if_pos rfl, Nat.add_assoc i v 1]
      omega
theorem len_x {N i : Nat} (hN : N < 4096) (hi : i ≤ 12) : fX5_lengthFrom (nI N) (nI i) = some (nI (lenN N i (12 - i))) := by
  unfold fX5_lengthFrom
  rw [show fX5_lengthFrom_L2 (nI N) (nI i) fl 0 = _ from len_L hN (12 - i) fl 0 (by omega) (by unfold fl; omega), bS1, Nat.zero_add, Nat.add_zero]
def atN (a : Nat) : Int32 := if a = 99 then -4 else nI a
def lgX (N : Nat) (s : Nat × Nat) (i : Nat) : Nat × Nat := if lenN N i (12 - i) ≤ s.1 then s else (lenN N i (12 - i), i)
def lgM (N : Nat) (s : Nat × Nat × Nat) (i : Nat) : Nat × Nat × Nat :=
  let r := if N.testBit i then s.2.2 + 1 else 0
  if r ≤ s.1 then (s.1, s.2.1, r) else (r, i + 1 - r, r)
theorem lg_all : ∀ a, a < 64 → ∀ b, b < 64 → (fo (lgX (64 * a + b)) (0, 99) 0 12).1 = (fo (lgM (64 * a + b)) (0, 99, 0) 0 12).1 ∧ (fo (lgX (64 * a + b)) (0, 99) 0 12).2 = (fo (lgM (64 * a + b)) (0, 99, 0) 0 12).2.1 := by decide +kernel
section PJ
variable {people fewest : Int32} {kinds loves many sets chalk : Nat → Int32} {wet harvest draw : Int32} {now : Nat → Int32}
theorem long_x {N p : Nat} (hN : N < 4096) (hs : sets p = nI N) : fX5_longest_L43 sets p fl 0 (-4) 0 = some (nI (fo (lgX N) (0, 99) 0 12).1, atN (fo (lgX N) (0, 99) 0 12).2) :=
  foldMap (fun n (a : Int32 × Int32) i => fX5_longest_L43 sets p n a.1 a.2 i) (fun s : Nat × Nat => (nI s.1, atN s.2)) (fun s => (nI s.1, atN s.2)) (lgX N) (fun _ s => s.1 ≤ 12) 12 (fun n s _ => by
    show fX5_longest_L43 sets p (n + 1) (nI s.1) (atN s.2) (nI 12) = _
    rw [fX5_longest_L43, if_pos p12]) (fun n s i hi hp => by
    show _ ∧ fX5_longest_L43 sets p (n + 1) (nI s.1) (atN s.2) (nI i) = fX5_longest_L43 sets p n (nI (lgX N s i).1) (atN (lgX N s i).2) (nI (i + 1))
    have hl := lenN_le N (12 - i) i
    rw [fX5_longest_L43, if_neg (n12 hi), hs, len_x hN (by omega), bS1, nI_1]
    unfold lgX
    by_cases c : lenN N i (12 - i) ≤ s.1
    · rw [if_pos c, if_pos ((nle (by omega) (by omega)).mpr c), bS2]
      exact ⟨hp, rfl⟩
    · rw [if_neg c, if_neg (fun z => c ((nle (by omega) (by omega)).mp z)), bS2]
      refine ⟨by show lenN N i (12 - i) ≤ 12; omega, ?_⟩
      show _ = fX5_longest_L43 sets p n (nI (lenN N i (12 - i))) (atN i) (nI (i + 1))
      unfold atN
      rw [if_neg (show ¬ i = 99 by omega)]) 12 fl (0, 99) 0 rfl (by decide) (by decide)
theorem long_m {p : Nat} (hp : p < 6) : fX6_longest_L32 (nI p) now fl 0 (-4) 0 0 = some (nI (fo (lgM (setM now p)) (0, 99, 0) 0 12).1, atN (fo (lgM (setM now p)) (0, 99, 0) 0 12).2.1) :=
  foldMap (fun n (a : Int32 × Int32 × Int32) i => fX6_longest_L32 (nI p) now n a.1 a.2.1 a.2.2 i) (fun s : Nat × Nat × Nat => (nI s.1, atN s.2.1, nI s.2.2)) (fun s => (nI s.1, atN s.2.1)) (lgM (setM now p)) (fun i s => s.1 ≤ 12 ∧ s.2.2 ≤ i) 12 (fun n s _ => by
    show fX6_longest_L32 (nI p) now (n + 1) (nI s.1) (atN s.2.1) (nI s.2.2) (nI 12) = _
    rw [fX6_longest_L32, if_pos p12]) (fun n s i hi hP => by
    show _ ∧ fX6_longest_L32 (nI p) now (n + 1) (nI s.1) (atN s.2.1) (nI s.2.2) (nI i) = fX6_longest_L32 (nI p) now n (nI (lgM (setM now p) s i).1) (atN (lgM (setM now p) s i).2.1) (nI (lgM (setM now p) s i).2.2) (nI (i + 1))
    rw [fX6_longest_L32, if_neg (n12 hi), hasOne_m now hp hi, bS1, ← setM_bit now p hi, nI_1 s.2.2]
    unfold lgM
    have e : (if (if (setM now p).testBit i = true then (1 : Int32) else 0) = 0 then some (0 : Int32) else some (nI (s.2.2 + 1))) = some (nI (if (setM now p).testBit i then s.2.2 + 1 else 0)) := by
      cases (setM now p).testBit i
      · rfl
      · rfl
    rw [e, bS1, nI_1]
    have hr : (if (setM now p).testBit i then s.2.2 + 1 else 0) ≤ i + 1 := by have := hP.2; split <;> omega
    generalize (if (setM now p).testBit i then s.2.2 + 1 else 0) = r at hr ⊢
    show _ ∧ _ = fX6_longest_L32 (nI p) now n (nI (if r ≤ s.1 then (s.1, s.2.1, r) else (r, i + 1 - r, r)).1) (atN (if r ≤ s.1 then (s.1, s.2.1, r) else (r, i + 1 - r, r)).2.1) (nI (if r ≤ s.1 then (s.1, s.2.1, r) else (r, i + 1 - r, r)).2.2) (nI (i + 1))
    by_cases c : r ≤ s.1
    · have c2 := (nle (a := r) (b := s.1) (by omega) (by omega)).mpr c
      simp only [if_pos c, if_pos c2, bS1]
      exact ⟨⟨hP.1, hr⟩, trivial⟩
    · have c2 : ¬ nI r ≤ nI s.1 := fun z => c ((nle (by omega) (by omega)).mp z)
      simp only [if_neg c, if_neg c2, bS1]
      refine ⟨⟨by show r ≤ 12; omega, hr⟩, ?_⟩
      have e2 : nI i - nI r + 1 = nI (i + 1 - r) := by
        have r_e : ∀ a b : Int32, a - b + 1 = a + 1 - b := by intro a b; grind
        rw [r_e, nI_1]
        apply Int32.toInt_inj.mp
        rw [pk_sub_toInt (by omega) (by omega), nI_toInt (by omega)]
        omega
      unfold atN
      rw [e2, if_neg (show ¬ i + 1 - r = 99 by omega)]) 12 fl (0, 99, 0) 0 rfl (by decide) (by decide)
theorem t_longest (hT : TR people fewest kinds loves many sets chalk wet harvest draw now) (i j : Int32) : ∃ r : Int32, fX5_longest people sets i j = some r ∧ fX6_longest now i j = some r := by
  unfold fX5_longest fX6_longest
  rcases per_c hT i with ⟨p, p0, h1, h2, h3, h4⟩ | ⟨h3, h4⟩
  · simp only [h3, h4, bS1, i10]
    rcases flag_c j with ⟨f1, f3, f4⟩ | ⟨f3, f4⟩
    · simp only [f3, f4, bS1, i10]
      have hN := setM_lt now p
      rw [h2, ix_n h1 (by decide), bS1, long_x hN (hT.e_set h1), bS2, long_m h1, bS2]
      have key := lg_all (setM now p / 64) (by omega) (setM now p % 64) (by omega)
      rw [show 64 * (setM now p / 64) + setM now p % 64 = setM now p by omega] at key
      rw [key.1, key.2]
      by_cases c : j = 0
      · rw [if_pos c]
        exact ⟨_, rfl, rfl⟩
      · rw [if_neg c]
        exact ⟨_, rfl, rfl⟩
    · simp only [f3, f4, bS1, i00]
      exact ⟨_, rfl, rfl⟩
  · simp only [h3, h4, bS1, i00]
    exact ⟨_, rfl, rfl⟩
end PJ
