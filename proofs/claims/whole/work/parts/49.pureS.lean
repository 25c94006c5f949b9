/-! ===== a text is read: letters, Sundays, numbers ===== -/
/-- behind blanks -/
def skB (T : Nat → Int32) : Nat → Nat → Nat
  | 0, i => i
  | d + 1, i => if T i = 32 then skB T d (i + 1) else i
def skp (T : Nat → Int32) (n i : Nat) : Nat := skB T (n - i) i
theorem skB_le (T : Nat → Int32) : ∀ d i, i ≤ skB T d i ∧ skB T d i ≤ i + d := by
  intro d
  induction d with
  | zero => intro i; exact ⟨Nat.le_refl _, Nat.le_refl _⟩
  | succ d ih =>
    intro i
    show i ≤ (if T i = 32 then skB T d (i + 1) else i) ∧ (if T i = 32 then skB T d (i + 1) else i) ≤ i + (d + 1)
    have := ih (i + 1)
    split <;> omega
theorem skB_nb (T : Nat → Int32) : ∀ d i, skB T d i < i + d → ¬ T (skB T d i) = 32 := by
  intro d
  induction d with
  | zero => intro i h; exact absurd h (Nat.lt_irrefl _)
  | succ d ih =>
    intro i
    show (if T i = 32 then skB T d (i + 1) else i) < i + (d + 1) → ¬ T (if T i = 32 then skB T d (i + 1) else i) = 32
    by_cases c : T i = 32
    · rw [if_pos c]; intro h; exact ih (i + 1) (by omega)
    · rw [if_neg c]; intro _; exact c
section RS
variable {letters tape : Nat → Int32} {n : Nat}
theorem skp_le {i : Nat} (h : i ≤ n) : i ≤ skp tape n i ∧ skp tape n i ≤ n := by
  have := skB_le tape (n - i) i
  unfold skp
  omega
theorem skp_nb {i : Nat} (h : i ≤ n) (h2 : skp tape n i < n) : ¬ tape (skp tape n i) = 32 :=
  skB_nb tape (n - i) i (by unfold skp at h2; omega)
theorem skp_id {i : Nat} (h : i ≤ n) : skp tape n (skp tape n i) = skp tape n i := by
  have h1 := skp_le (tape := tape) h
  by_cases c : skp tape n i < n
  · have h2 := skp_nb h c
    generalize skp tape n i = q at *
    unfold skp
    obtain ⟨d, e⟩ : ∃ d, n - q = d + 1 := ⟨n - q - 1, by omega⟩
    rw [e]
    show (if tape q = 32 then skB tape d (q + 1) else q) = q
    rw [if_neg h2]
  · have e : skp tape n i = n := by omega
    rw [e]
    unfold skp
    rw [Nat.sub_self]
    rfl
def TA (letters tape : Nat → Int32) (n : Nat) : Prop := n ≤ 100 ∧ ∀ j, j < n → letters j = tape j ∧ ∃ c, 32 ≤ c ∧ c ≤ 126 ∧ tape j = nI c
theorem next_L (hA : TA letters tape n) : ∀ d f i, i + d = n → d < f → fX3_next_L0 (nI n) letters f (nI i) = some (nI (skB tape d i)) ∧ fX6_here_L0 tape (nI n) f (nI i) = some (nI (skB tape d i)) := by
  have hn := hA.1
  intro d
  induction d with
  | zero =>
    intro f i hi hf
    obtain ⟨m, rfl⟩ : ∃ m, f = m + 1 := ⟨f - 1, by omega⟩
    have c : nI n ≤ nI i := le_ge (by omega) (by omega)
    rw [fX3_next_L0, fX6_here_L0, if_pos c, if_pos c]
    exact ⟨rfl, rfl⟩
  | succ d ih =>
    intro f i hi hf
    obtain ⟨m, rfl⟩ : ∃ m, f = m + 1 := ⟨f - 1, by omega⟩
    have c : ¬ nI n ≤ nI i := nI_ge (by omega) (by omega)
    rw [fX3_next_L0, fX6_here_L0, if_neg c, if_neg c, ix_n (show i < 100 by omega) (by decide), bS1, bS1, (hA.2 i (by omega)).1, nI_1]
    show (if tape i = 32 then _ else _) = some (nI (if tape i = 32 then skB tape d (i + 1) else i)) ∧ (if tape i = 32 then _ else _) = some (nI (if tape i = 32 then skB tape d (i + 1) else i))
    by_cases e : tape i = 32
    · rw [if_pos e, if_pos e, if_pos e]; exact ih m (i + 1) (by omega) (by omega)
    · rw [if_neg e, if_neg e, if_neg e]; exact ⟨rfl, rfl⟩
/-- the next letter, on both sides -/
theorem nx2 (hA : TA letters tape n) {x y : Nat} (hx : x ≤ n) (hy : y ≤ n) (e : skp tape n x = skp tape n y) : ∃ q, x ≤ q ∧ y ≤ q ∧ q ≤ n ∧ skp tape n x = q ∧ skp tape n q = q ∧ ((q = n ∧ fX3_next letters (nI n) (nI x) = some (-1, nI q) ∧ fX6_here tape (nI n) (nI y) = some (0, nI q)) ∨ (q < n ∧ ∃ c, 33 ≤ c ∧ c ≤ 126 ∧ tape q = nI c ∧ fX3_next letters (nI n) (nI x) = some (nI c, nI q) ∧ fX6_here tape (nI n) (nI y) = some (nI c, nI q))) := by
  have hn := hA.1
  have x1 := skp_le (tape := tape) hx
  have y1 := skp_le (tape := tape) hy
  have id := skp_id (tape := tape) hx
  have nb := skp_nb (tape := tape) hx
  have ex : fX3_next_L0 (nI n) letters fl (nI x) = some (nI (skp tape n x)) := (next_L hA (n - x) fl x (by omega) (by unfold fl; omega)).1
  have ey : fX6_here_L0 tape (nI n) fl (nI y) = some (nI (skp tape n x)) := by rw [e]; exact (next_L hA (n - y) fl y (by omega) (by unfold fl; omega)).2
  unfold fX3_next fX6_here
  rw [ex, ey, bS1, bS1]
  rw [← e] at y1
  generalize skp tape n x = q at *
  refine ⟨q, x1.1, y1.1, x1.2, rfl, id, ?_⟩
  by_cases c : q = n
  · have cc : nI n ≤ nI q := le_ge (by omega) (by omega)
    rw [if_pos cc, if_pos cc]
    exact Or.inl ⟨c, rfl, rfl⟩
  · have cc : ¬ nI n ≤ nI q := nI_ge (by omega) (by omega)
    obtain ⟨e1, k, k1, k2, k3⟩ := hA.2 q (by omega)
    rw [if_neg cc, if_neg cc, ix_n (show q < 100 by omega) (by decide), bS1, bS1, e1, k3]
    have : k ≠ 32 := fun z => nb (by omega) (by rw [k3, z]; rfl)
    exact Or.inr ⟨by omega, k, by omega, k2, rfl, rfl, rfl⟩
theorem ne_n {a b : Nat} (h : a ≠ b) (ha : a < 2 ^ 31) (hb : b < 2 ^ 31) : ¬ nI a = nI b := fun z => h ((nI_eq ha hb).mp z)
theorem ne_m1 {b : Nat} (hb : b < 2 ^ 31) : ¬ (-1 : Int32) = nI b := fun z => by
  have := congrArg Int32.toInt z
  rw [nI_toInt hb] at this
  have h : (-1 : Int32).toInt = -1 := rfl
  omega
/-- one letter is taken, or stays -/
theorem takes2 (hA : TA letters tape n) {x y : Nat} (hx : x ≤ n) (hy : y ≤ n) (e : skp tape n x = skp tape n y) {k : Nat} (h0 : 0 < k) (hk : k < 127) : (∃ q, q < n ∧ fX3_takes letters (nI n) (nI x) (nI k) = some (1, nI (q + 1)) ∧ fX6_here tape (nI n) (nI y) = some (nI k, nI q)) ∨ (∃ q r, q ≤ n ∧ skp tape n x = q ∧ skp tape n q = q ∧ fX3_takes letters (nI n) (nI x) (nI k) = some (0, nI q) ∧ fX6_here tape (nI n) (nI y) = some (r, nI q) ∧ ¬ r = nI k) := by
  obtain ⟨q, q1, q2, q3, q4, q5, ⟨z, e1, e2⟩ | ⟨z, c, c1, c2, c3, e1, e2⟩⟩ := nx2 hA hx hy e
  · refine Or.inr ⟨q, 0, q3, q4, q5, ?_, e2, ne_n (a := 0) (by omega) (by decide) (by omega)⟩
    unfold fX3_takes
    rw [e1, bS2, if_neg (ne_m1 (by omega))]
  · by_cases d : c = k
    · subst d
      refine Or.inl ⟨q, z, ?_, e2⟩
      unfold fX3_takes
      rw [e1, bS2, if_pos rfl, nI_1]
    · refine Or.inr ⟨q, nI c, q3, q4, q5, ?_, e2, ne_n d (by omega) (by omega)⟩
      unfold fX3_takes
      rw [e1, bS2, if_neg (ne_n d (by omega) (by omega))]
/-- which of the letters it is -/
def idx (k c : Nat) : Int32 :=
  if k = 0 then (if c = 46 then 0 else if c = 119 then 1 else if c = 104 then 2 else if c = 98 then 3 else -1)
  else if k = 1 then (if c = 112 then 0 else if c = 102 then 1 else if c = 111 then 2 else if c = 108 then 3 else if c = 114 then 4 else -1)
  else if k = 2 then (if 48 ≤ c ∧ c ≤ 57 then nI (c - 48) else -1)
  else (if 48 ≤ c ∧ c ≤ 53 then nI (c - 48) else -1)
theorem idx_all : ∀ k, k < 4 → ∀ c, c < 127 → fJ0_indexOf_0f7a4 k (nI c) = some (idx k c) := by decide +kernel
theorem one2 (hA : TA letters tape n) {x y : Nat} (hx : x ≤ n) (hy : y ≤ n) (e : skp tape n x = skp tape n y) {k : Nat} (hk : k < 4) : (∃ q, q = n ∧ x ≤ q ∧ fX3_takeOneOf letters (nI n) (nI x) k = some (-1, nI q) ∧ fX6_here tape (nI n) (nI y) = some (0, nI q)) ∨ (∃ q c, q < n ∧ x ≤ q ∧ 33 ≤ c ∧ c ≤ 126 ∧ tape q = nI c ∧ fX3_takeOneOf letters (nI n) (nI x) k = some (idx k c, if idx k c < 0 then nI q else nI (q + 1)) ∧ fX6_here tape (nI n) (nI y) = some (nI c, nI q)) := by
  obtain ⟨q, q1, q2, q3, q4, q5, ⟨z, e1, e2⟩ | ⟨z, c, c1, c2, c3, e1, e2⟩⟩ := nx2 hA hx hy e
  · refine Or.inl ⟨q, z, q1, ?_, e2⟩
    unfold fX3_takeOneOf
    rw [e1, bS2, if_pos rfl, bS1, if_pos (by decide)]
  · refine Or.inr ⟨q, c, z, q1, c1, c2, c3, ?_, e2⟩
    unfold fX3_takeOneOf
    have ec : (Int32.toUInt32 (nI c) % 65536).toInt32 = nI c := by rw [pk_char, pk_tn (by omega), Nat.mod_eq_of_lt (by omega)]
    rw [e1, bS2, if_neg (fun w => ne_m1 (b := c) (by omega) w.symm), ec, idx_all k hk c (by omega), bS1, bS1, nI_1]
    by_cases w : idx k c < 0
    · rw [if_pos w, if_pos w]
    · rw [if_neg w, if_neg w]
theorem must_F (p i : Int32) : fX6_must p 1 i = some (p, 1) := by
  unfold fX6_must
  rw [if_neg (by decide), bS1, isb1, bS0, if_neg (by decide), bS1, Int32.add_zero]
theorem must_0 (p : Int32) : fX6_must p 0 0 = some (p, 1) := by
  unfold fX6_must
  rw [if_pos rfl, if_pos rfl, bS1, isb1, bS0, if_neg (by decide), bS1, Int32.add_zero]
theorem must_1 (q : Nat) : fX6_must (nI q) 0 1 = some (nI (q + 1), 0) := by
  unfold fX6_must
  rw [if_pos rfl, if_neg (by decide), bS1, isb0, bS0, if_pos rfl, bS1, nI_1]
theorem sun_F : ∀ d f s q a b, s + d = 6 → d < f → ∃ a2 b2, fX6_readSundays_L12 tape (nI n) f (nI s) 1 q a b = some (q, 1, a2, b2) := by
  intro d
  induction d with
  | zero =>
    intro f s q a b hs hf
    obtain ⟨m, rfl⟩ : ∃ m, f = m + 1 := ⟨f - 1, by omega⟩
    have : s = 6 := by omega
    subst this
    rw [fX6_readSundays_L12, if_pos (by decide)]
    exact ⟨_, _, rfl⟩
  | succ d ih =>
    intro f s q a b hs hf
    obtain ⟨m, rfl⟩ : ∃ m, f = m + 1 := ⟨f - 1, by omega⟩
    rw [fX6_readSundays_L12, if_neg (show ¬ (6 : Int32) ≤ nI s from nI_ge (b := 6) (by omega) (by decide)), if_neg (show ¬ (1 : Int32) = 0 by decide), bS2, if_neg (show ¬ (0 : Int32) = 46 by decide), if_neg (show ¬ (0 : Int32) = 119 by decide), if_neg (show ¬ (0 : Int32) = 104 by decide), if_neg (show ¬ (0 : Int32) = 98 by decide), bS1, must_F, bS2, if_neg (show ¬ (0 : Int32) = 119 by decide), if_neg (show ¬ (0 : Int32) = 98 by decide), bS1, if_neg (show ¬ (0 : Int32) = 104 by decide), bS1, nI_1]
    exact ih m (s + 1) _ _ _ (by omega) (by omega)
theorem sh0 {s : Nat} (hs : s < 31) : (0 : Int32) <<< (nI s &&& 31) = 0 := by
  have := pk_shlN (n := 0) (nI s &&& 31) s (sh_n s (by omega)) (by rw [Nat.zero_mul]; decide)
  rw [Nat.zero_mul] at this
  exact this
theorem or_s {a s : Nat} (h : a < 2 ^ s) : a ||| 2 ^ s < 2 ^ (s + 1) := Nat.or_lt_two_pow (by rw [Nat.pow_succ]; omega) (by rw [Nat.pow_succ]; have := Nat.one_le_two_pow (n := s); omega)
theorem lt_s2 {a s : Nat} (h : a < 2 ^ s) : a < 2 ^ (s + 1) := by rw [Nat.pow_succ]; omega
theorem sun_L (hA : TA letters tape n) : ∀ d f s x w v, s + d = 6 → d < f → x ≤ n → w < 2 ^ s → v < 2 ^ s → (∃ q a b a2 b2, q ≤ n ∧ fX3_tellSundays_L12 (nI n) letters f (nI s) (nI x) (nI v) (nI w) = some (Sum.inl (0, nI q, a, b)) ∧ fX6_readSundays_L12 tape (nI n) f (nI s) 0 (nI x) (nI v) (nI w) = some (nI q, 1, a2, b2)) ∨ (∃ q w2 v2, q ≤ n ∧ w2 < 64 ∧ v2 < 64 ∧ fX3_tellSundays_L12 (nI n) letters f (nI s) (nI x) (nI v) (nI w) = some (Sum.inr (nI q, nI w2, nI v2)) ∧ fX6_readSundays_L12 tape (nI n) f (nI s) 0 (nI x) (nI v) (nI w) = some (nI q, 0, nI w2, nI v2)) := by
  have hn := hA.1
  intro d
  induction d with
  | zero =>
    intro f s x w v hs hf hx hw hv
    obtain ⟨m, rfl⟩ : ∃ m, f = m + 1 := ⟨f - 1, by omega⟩
    have : s = 6 := by omega
    subst this
    rw [fX3_tellSundays_L12, fX6_readSundays_L12, if_pos (show (6 : Int32) ≤ nI 6 by decide), if_pos (show (6 : Int32) ≤ nI 6 by decide)]
    exact Or.inr ⟨x, w, v, hx, hw, hv, rfl, rfl⟩
  | succ d ih =>
    intro f s x w v hs hf hx hw hv
    obtain ⟨m, rfl⟩ : ∃ m, f = m + 1 := ⟨f - 1, by omega⟩
    have c6 : ¬ (6 : Int32) ≤ nI s := nI_ge (b := 6) (by omega) (by decide)
    have s1 := one_sh (i := s) (by omega)
    have s0 := sh0 (s := s) (by omega)
    rw [fX3_tellSundays_L12, fX6_readSundays_L12, if_neg c6, if_neg c6, if_pos rfl]
    rcases one2 hA hx hx rfl (k := 0) (by decide) with ⟨q, q1, q2, e1, e2⟩ | ⟨q, c, q1, q2, k1, k2, k3, e1, e2⟩
    · rw [e1, e2, bS2, if_neg (by decide), bS2, bS2, if_neg (show ¬ (0 : Int32) = 46 by decide), if_neg (show ¬ (0 : Int32) = 119 by decide), if_neg (show ¬ (0 : Int32) = 104 by decide), if_neg (show ¬ (0 : Int32) = 98 by decide), bS1, must_0, bS2, if_neg (show ¬ (0 : Int32) = 119 by decide), if_neg (show ¬ (0 : Int32) = 98 by decide), bS1, if_neg (show ¬ (0 : Int32) = 104 by decide), bS1, nI_1]
      obtain ⟨a2, b2, y⟩ := sun_F (tape := tape) (n := n) d m (s + 1) (nI q) (nI v ||| 0) (nI w ||| 0) (by omega) (by omega)
      exact Or.inl ⟨q, _, _, a2, b2, by omega, rfl, y⟩
    · rw [e1, e2, bS2, bS2, bS2, nI_1]
      by_cases z1 : c = 46
      · subst z1
        have := ih m (s + 1) (q + 1) w v (by omega) (by omega) (by omega) (lt_s2 hw) (lt_s2 hv)
        rw [if_pos (show (0 : Int32) ≤ idx 0 46 by decide), show (if idx 0 46 < 0 then nI q else nI (q + 1)) = nI (q + 1) from rfl, show idx 0 46 = 0 from rfl, show ((0 : Int32) >>> (1 &&& 31)) = 0 by decide, show ((0 : Int32) &&& 1) = 0 by decide, s0, if_pos (show nI 46 = 46 from rfl), bS1, must_1, bS2, if_neg (show ¬ nI 46 = 119 by decide), if_neg (show ¬ nI 46 = 98 by decide), bS1, if_neg (show ¬ nI 46 = 104 by decide), bS1, or_z, or_z]
        exact this
      · by_cases z2 : c = 119
        · subst z2
          have := ih m (s + 1) (q + 1) (w ||| 2 ^ s) v (by omega) (by omega) (by omega) (or_s hw) (lt_s2 hv)
          rw [if_pos (show (0 : Int32) ≤ idx 0 119 by decide), show (if idx 0 119 < 0 then nI q else nI (q + 1)) = nI (q + 1) from rfl, show idx 0 119 = 1 from rfl, show ((1 : Int32) >>> (1 &&& 31)) = 0 by decide, show ((1 : Int32) &&& 1) = 1 by decide, s0, s1, if_neg (show ¬ nI 119 = 46 by decide), if_pos (show nI 119 = 119 from rfl), bS1, must_1, bS2, if_pos (show nI 119 = 119 from rfl), bS1, if_neg (show ¬ nI 119 = 104 by decide), if_neg (show ¬ nI 119 = 98 by decide), bS1, or_n, or_z]
          exact this
        · by_cases z3 : c = 104
          · subst z3
            have := ih m (s + 1) (q + 1) w (v ||| 2 ^ s) (by omega) (by omega) (by omega) (lt_s2 hw) (or_s hv)
            rw [if_pos (show (0 : Int32) ≤ idx 0 104 by decide), show (if idx 0 104 < 0 then nI q else nI (q + 1)) = nI (q + 1) from rfl, show idx 0 104 = 2 from rfl, show ((2 : Int32) >>> (1 &&& 31)) = 1 by decide, show ((2 : Int32) &&& 1) = 0 by decide, s0, s1, if_neg (show ¬ nI 104 = 46 by decide), if_neg (show ¬ nI 104 = 119 by decide), if_pos (show nI 104 = 104 from rfl), bS1, must_1, bS2, if_neg (show ¬ nI 104 = 119 by decide), if_neg (show ¬ nI 104 = 98 by decide), bS1, if_pos (show nI 104 = 104 from rfl), bS1, or_n, or_z]
            exact this
          · by_cases z4 : c = 98
            · subst z4
              have := ih m (s + 1) (q + 1) (w ||| 2 ^ s) (v ||| 2 ^ s) (by omega) (by omega) (by omega) (or_s hw) (or_s hv)
              rw [if_pos (show (0 : Int32) ≤ idx 0 98 by decide), show (if idx 0 98 < 0 then nI q else nI (q + 1)) = nI (q + 1) from rfl, show idx 0 98 = 3 from rfl, show ((3 : Int32) >>> (1 &&& 31)) = 1 by decide, show ((3 : Int32) &&& 1) = 1 by decide, s1, if_neg (show ¬ nI 98 = 46 by decide), if_neg (show ¬ nI 98 = 119 by decide), if_neg (show ¬ nI 98 = 104 by decide), if_pos (show nI 98 = 98 from rfl), bS1, must_1, bS2, if_neg (show ¬ nI 98 = 119 by decide), if_pos (show nI 98 = 98 from rfl), bS1, if_neg (show ¬ nI 98 = 104 by decide), bS1, or_n, or_n]
              exact this
            · have zi : idx 0 c = -1 := by unfold idx; rw [if_pos rfl, if_neg z1, if_neg z2, if_neg z3, if_neg z4]
              have n1 : ¬ nI c = 46 := ne_n (b := 46) z1 (by omega) (by decide)
              have n2 : ¬ nI c = 119 := ne_n (b := 119) z2 (by omega) (by decide)
              have n3 : ¬ nI c = 104 := ne_n (b := 104) z3 (by omega) (by decide)
              have n4 : ¬ nI c = 98 := ne_n (b := 98) z4 (by omega) (by decide)
              rw [zi, if_neg (show ¬ (0 : Int32) ≤ -1 by decide), if_pos (show (-1 : Int32) < 0 by decide), if_neg n1, if_neg n2, if_neg n3, if_neg n4, bS1, must_0, bS2, if_neg n2, if_neg n4, bS1, if_neg n3, bS1]
              obtain ⟨a2, b2, y⟩ := sun_F (tape := tape) (n := n) d m (s + 1) (nI q) (nI v ||| 0) (nI w ||| 0) (by omega) (by omega)
              exact Or.inl ⟨q, _, _, a2, b2, by omega, rfl, y⟩
theorem sun2 (hA : TA letters tape n) : (∃ q a b a2 b2, q ≤ n ∧ fX3_tellSundays letters (nI n) 0 = some (0, nI q, a, b) ∧ fX6_readSundays tape (nI n) 0 0 = some (nI q, 1, a2, b2)) ∨ (∃ q w v, q ≤ n ∧ w < 64 ∧ v < 64 ∧ fX3_tellSundays letters (nI n) 0 = some (1, nI q, nI w, nI v) ∧ fX6_readSundays tape (nI n) 0 0 = some (nI q, 0, nI w, nI v)) := by
  unfold fX3_tellSundays fX6_readSundays
  rcases sun_L hA 6 fl 0 0 0 0 (by decide) (by decide) (Nat.zero_le _) (by decide) (by decide) with ⟨q, a, b, a2, b2, h, e1, e2⟩ | ⟨q, w, v, h, h1, h2, e1, e2⟩
  · rw [show fX3_tellSundays_L12 (nI n) letters fl 0 0 0 0 = _ from e1, show fX6_readSundays_L12 tape (nI n) fl 0 0 0 0 0 = _ from e2, bS1, bS4]
    exact Or.inl ⟨q, a, b, a2, b2, h, rfl, rfl⟩
  · rw [show fX3_tellSundays_L12 (nI n) letters fl 0 0 0 0 = _ from e1, show fX6_readSundays_L12 tape (nI n) fl 0 0 0 0 0 = _ from e2, bS1, bS4]
    exact Or.inr ⟨q, w, v, h, h1, h2, rfl, rfl⟩
theorem dig (c : Nat) (h : c ≤ 126) : fX6_in (Int32.toInt64 (nI c)) 48 57 = some (if 48 ≤ c ∧ c ≤ 57 then 1 else 0) := by
  rw [W6i, nI_toInt (by omega), show (48 : Int64).toInt = 48 from rfl, show (57 : Int64).toInt = 57 from rfl]
  by_cases z : 48 ≤ c ∧ c ≤ 57
  · rw [if_pos z, if_pos (by omega)]
  · rw [if_neg z, if_neg (by omega)]
theorem num_F (p : Int32) : fX6_number tape (nI n) p 1 = some (0, p, 1) := by
  unfold fX6_number
  rw [if_neg (by decide), bS2, if_neg (by decide), bS1, isb1, bS0, show fX6_number_L53 tape (nI n) p 1 fl 0 p = some (p, 0) from rfl, bS2]
theorem num2 (hA : TA letters tape n) {x : Nat} (hx : x ≤ n) : (∃ q r, q ≤ n ∧ fX3_takeNumber letters (nI n) (nI x) = some (-1, nI q) ∧ fX6_number tape (nI n) (nI x) 0 = some (r, nI q, 1)) ∨ (∃ q v, q ≤ n ∧ v < 100 ∧ fX3_takeNumber letters (nI n) (nI x) = some (nI v, nI q) ∧ fX6_number tape (nI n) (nI x) 0 = some (nI v, nI q, 0)) := by
  have hn := hA.1
  unfold fX3_takeNumber fX6_number
  rw [if_pos rfl]
  rcases one2 hA hx hx rfl (k := 2) (by decide) with ⟨q, q1, q2, e1, e2⟩ | ⟨q, c, q1, q2, k1, k2, k3, e1, e2⟩
  · rw [e1, e2, bS2, if_pos (by decide), bS2, bS2, if_pos rfl, show fX6_in (Int32.toInt64 0) 48 57 = some 0 by decide, bS1, if_pos rfl, bS1, isb1, bS0, show fX6_number_L53 tape (nI n) (nI q) 1 fl 0 (nI q) = some (nI q, 0) from rfl, bS2]
    exact Or.inl ⟨q, _, by omega, rfl, rfl⟩
  · rw [e1, e2, bS2, bS2, bS2, if_pos rfl, dig c k2]
    by_cases z : 48 ≤ c ∧ c ≤ 57
    · have zi : idx 2 c = nI (c - 48) := by unfold idx; rw [if_neg (by decide), if_neg (by decide), if_pos rfl, if_pos z]
      have z0 : ¬ nI (c - 48) < 0 := nI_pos (by omega)
      rw [zi, if_neg z0, if_neg z0, if_pos z, bS1, i10, bS1, isb0, bS0]
      have l0 : fX6_number_L53 tape (nI n) (nI q) 0 fl 0 (nI q) = fX6_number_L53 tape (nI n) (nI q) 0 199999 (nI (c - 48)) (nI (q + 1)) := by
        rw [show fl = 199999 + 1 from rfl, fX6_number_L53, if_pos rfl, if_neg (show ¬ nI n ≤ nI q from nI_ge (by omega) (by omega)), if_neg (show ¬ (2 : Int32) ≤ nI q - nI q by rw [Int32.sub_self]; decide), ix_n (show q < 100 by omega) (by decide), bS1, k3, dig c k2, if_pos z, bS1, if_neg (by decide), nI_1]
        congr 1
        rw [show (10 : Int32) * 0 = nI 0 from rfl, nI_add, Nat.zero_add]
        exact pk_sub (b := 48) (by omega)
      rw [l0]
      by_cases y : n ≤ q + 1
      · rw [if_pos (le_ge y (by omega)), show (199999 : Nat) = 199998 + 1 from rfl, fX6_number_L53, if_pos rfl, if_pos (le_ge y (by omega)), bS2]
        exact Or.inr ⟨q + 1, c - 48, by omega, by omega, rfl, rfl⟩
      · obtain ⟨t1, c', t2, t3, t4⟩ := hA.2 (q + 1) (by omega)
        have d1 : ¬ (2 : Int32) ≤ nI (q + 1) - nI q := by rw [pk_sub (by omega), show q + 1 - q = 1 by omega]; decide
        rw [if_neg (nI_ge (by omega) (by omega)), ix_n (show q + 1 < 100 by omega) (by decide), bS1, t1, t4, show (199999 : Nat) = 199998 + 1 from rfl, fX6_number_L53, if_pos rfl, if_neg (nI_ge (by omega) (by omega)), if_neg d1, ix_n (show q + 1 < 100 by omega) (by decide), bS1, t4, dig c' t3, nI_1]
        by_cases u : 48 ≤ c' ∧ c' ≤ 57
        · have u1 : ¬ nI c' < 48 := nI_nlt (b := 48) u.1 (by omega)
          have u2 : ¬ (57 : Int32) < nI c' := nI_nlt (a := 57) u.2 (by decide)
          have ev : 10 * nI (c - 48) + nI c' - 48 = nI (10 * (c - 48) + c' - 48) := by
            rw [show (10 : Int32) = nI 10 from rfl, pk_mul, nI_add]
            exact pk_sub (b := 48) (by omega)
          rw [if_neg u1, if_neg u2, if_pos u, bS1, if_neg (by decide), ev]
          have l2 : fX6_number_L53 tape (nI n) (nI q) 0 199998 (nI (10 * (c - 48) + c' - 48)) (nI (q + 1 + 1)) = some (nI (q + 1 + 1), nI (10 * (c - 48) + c' - 48)) := by
            rw [show (199998 : Nat) = 199997 + 1 from rfl, fX6_number_L53, if_pos rfl]
            by_cases y2 : n ≤ q + 1 + 1
            · rw [if_pos (le_ge y2 (by omega))]
            · rw [if_neg (nI_ge (by omega) (by omega)), if_pos (show (2 : Int32) ≤ nI (q + 1 + 1) - nI q by rw [pk_sub (by omega), show q + 1 + 1 - q = 2 by omega]; decide)]
          rw [l2, bS2]
          exact Or.inr ⟨q + 1 + 1, _, by omega, by omega, rfl, rfl⟩
        · rw [if_neg u, bS1, if_pos rfl, bS2]
          have r : (if nI c' < 48 then some (nI (c - 48), nI (q + 1)) else if 57 < nI c' then some (nI (c - 48), nI (q + 1)) else some (10 * nI (c - 48) + nI c' - 48, nI (q + 1 + 1))) = some (nI (c - 48), nI (q + 1)) := by
            by_cases u1 : c' < 48
            · rw [if_pos (show nI c' < 48 from nI_lt (b := 48) u1 (by decide))]
            · rw [if_neg (show ¬ nI c' < 48 from nI_nlt (b := 48) (by omega) (by omega)), if_pos (show 57 < nI c' from nI_lt (a := 57) (by omega) (by omega))]
          rw [r]
          exact Or.inr ⟨q + 1, c - 48, by omega, by omega, rfl, rfl⟩
    · have zi : idx 2 c = -1 := by unfold idx; rw [if_neg (by decide), if_neg (by decide), if_pos rfl, if_neg z]
      rw [zi, if_pos (by decide), if_pos (by decide), if_neg z, bS1, if_pos rfl, bS1, isb1, bS0, show fX6_number_L53 tape (nI n) (nI q) 1 fl 0 (nI q) = some (nI q, 0) from rfl, bS2]
      exact Or.inl ⟨q, _, by omega, rfl, rfl⟩
end RS
