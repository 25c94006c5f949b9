/-! ===== the odds of rain ===== -/
theorem power_n (a : Nat) {k : Nat} (hk : k < 100) : fX5_power (nI a) (nI k) = some (nI (a ^ k)) := by
  have key : ∀ d n i, i + d = k → d < n → fX5_power_L4 (nI a) (nI k) n (nI (a ^ i)) (nI i) = some (nI (a ^ k)) := by
    intro d
    induction d with
    | zero =>
      intro n i hi hn
      obtain ⟨m, rfl⟩ : ∃ m, n = m + 1 := ⟨n - 1, by omega⟩
      have : i = k := by omega
      subst this
      rw [fX5_power_L4, if_pos (le_ge (Nat.le_refl _) (by omega))]
    | succ d ih =>
      intro n i hi hn
      obtain ⟨m, rfl⟩ : ∃ m, n = m + 1 := ⟨n - 1, by omega⟩
      rw [fX5_power_L4, if_neg (nI_ge (by omega) (by omega)), nI_1, pk_mul, ← Nat.pow_succ]
      exact ih m (i + 1) (by omega) (by omega)
  unfold fX5_power
  rw [show fX5_power_L4 (nI a) (nI k) fl 1 0 = _ from key k fl 0 (by omega) (by unfold fl; omega), bS1]
theorem nz_s {y : Int32} (h : ¬ y = 0) : nz y = some () := if_neg h
theorem gcd_st (a b : Nat) : Nat.gcd a b = Nat.gcd b (a % b) := by
  rw [Nat.gcd_comm a b, Nat.gcd_rec b a, Nat.gcd_comm]
theorem eu_lt {b r k : Nat} (h0 : 0 < r) (hr : r < b) (hb : b < 2 ^ (k + 1)) : b % r < 2 ^ k := by
  have h1 : b % r < r := Nat.mod_lt _ h0
  have h2 : b % r ≤ b - r := by
    rw [Nat.mod_eq_sub_mod (Nat.le_of_lt hr)]
    exact Nat.mod_le _ _
  rw [Nat.pow_succ] at hb
  omega
theorem gd_s {n i a b : Nat} (ha : a < 2 ^ 31) (h0 : 0 < b) (hb : b < 2 ^ 31) (hi : i < 64) : fX5_greatestDivisor_L2 (n + 1) (nI a) (nI b) (nI i) = fX5_greatestDivisor_L2 n (nI b) (nI (a % b)) (nI (i + 1)) := by
  rw [fX5_greatestDivisor_L2, if_neg (show ¬ (64 : Int32) ≤ nI i from nI_ge (b := 64) hi (by decide)), if_neg (nI_ne0 h0 hb), nz_s (nI_ne0 h0 hb), bS0, pk_rem ha h0 hb, nI_1]
theorem gd_0 {n i a : Nat} (hi : i < 64) : fX5_greatestDivisor_L2 (n + 1) (nI a) (nI 0) (nI i) = some (nI a) := by
  rw [fX5_greatestDivisor_L2, if_neg (show ¬ (64 : Int32) ≤ nI i from nI_ge (b := 64) hi (by decide)), if_pos (show nI 0 = 0 from rfl)]
theorem gd_x : ∀ k n i a b, a < 2 ^ 31 → b < 2 ^ k → b < 2 ^ 31 → 2 * k + i < 64 → 2 * k < n → fX5_greatestDivisor_L2 n (nI a) (nI b) (nI i) = some (nI (Nat.gcd a b)) := by
  intro k
  induction k with
  | zero =>
    intro n i a b ha hb hb2 hi hn
    obtain ⟨m, rfl⟩ : ∃ m, n = m + 1 := ⟨n - 1, by omega⟩
    have : b = 0 := by rw [Nat.pow_zero] at hb; omega
    subst this
    rw [gd_0 (by omega), Nat.gcd_zero_right]
  | succ k ih =>
    intro n i a b ha hb hb2 hi hn
    obtain ⟨m, rfl⟩ : ∃ m, n = m + 1 + 1 := ⟨n - 2, by omega⟩
    by_cases c : b = 0
    · subst c
      rw [gd_0 (by omega), Nat.gcd_zero_right]
    · have hr : a % b < b := Nat.mod_lt _ (by omega)
      rw [gd_s ha (by omega) hb2 (by omega), gcd_st]
      by_cases c2 : a % b = 0
      · rw [c2, gd_0 (by omega), Nat.gcd_zero_right]
      · rw [gd_s hb2 (by omega) (by omega) (by omega), gcd_st]
        exact ih m (i + 1 + 1) _ _ (by omega) (eu_lt (by omega) hr hb) (by have := Nat.mod_lt b (show 0 < a % b by omega); omega) (by omega) (by omega)
theorem ge_s {n a b : Nat} (ha : a < 2 ^ 31) (h0 : 0 < b) (hb : b < 2 ^ 31) : fX6_rain_L195 (n + 1) (nI a) (nI b) = fX6_rain_L195 n (nI b) (nI (a % b)) := by
  rw [fX6_rain_L195, if_neg (nI_ne0 h0 hb), nz_s (nI_ne0 h0 hb), bS0, pk_rem ha h0 hb]
theorem ge_0 {n a : Nat} : fX6_rain_L195 (n + 1) (nI a) (nI 0) = some (nI a) := by
  rw [fX6_rain_L195, if_pos (show nI 0 = 0 from rfl)]
theorem ge_m : ∀ k n a b, a < 2 ^ 31 → b < 2 ^ k → b < 2 ^ 31 → 2 * k < n → fX6_rain_L195 n (nI a) (nI b) = some (nI (Nat.gcd a b)) := by
  intro k
  induction k with
  | zero =>
    intro n a b ha hb hb2 hn
    obtain ⟨m, rfl⟩ : ∃ m, n = m + 1 := ⟨n - 1, by omega⟩
    have : b = 0 := by rw [Nat.pow_zero] at hb; omega
    subst this
    rw [ge_0, Nat.gcd_zero_right]
  | succ k ih =>
    intro n a b ha hb hb2 hn
    obtain ⟨m, rfl⟩ : ∃ m, n = m + 1 + 1 := ⟨n - 2, by omega⟩
    by_cases c : b = 0
    · subst c
      rw [ge_0, Nat.gcd_zero_right]
    · have hr : a % b < b := Nat.mod_lt _ (by omega)
      rw [ge_s ha (by omega) hb2, gcd_st]
      by_cases c2 : a % b = 0
      · rw [c2, ge_0, Nat.gcd_zero_right]
      · rw [ge_s hb2 (by omega) (by omega), gcd_st]
        exact ih m _ _ (by omega) (eu_lt (by omega) hr hb) (by have := Nat.mod_lt b (show 0 < a % b by omega); omega) (by omega)
/-- the part of a case: wet, chance, what falls -/
def prt (w c v : Nat) : Nat := c ^ bcN v * (10 - c) ^ bcN ((63 - w) &&& (63 - v))
def prd (w c v : Nat) : Nat → Nat → Nat → Nat
  | _, 0, a => a
  | s, d + 1, a => prd w c v (s + 1) d (a * (if w.testBit s then 1 else if v.testBit s then c else 10 - c))
theorem prd_all : ∀ w, w < 64 → ∀ v, v < 64 → v &&& w = 0 → ∀ c, c < 11 → prd w c v 0 6 1 = prt w c v := by decide +kernel
theorem prt_all : ∀ w, w < 64 → ∀ c, c < 11 → sf (fun v => if v &&& w = 0 then prt w c v else 0) 0 64 = 10 ^ bcN (63 - w) := by decide +kernel
theorem dry_n : ∀ w, w < 64 → 63 &&& (nI w ^^^ (-1)) = nI (63 - w) ∧ bcN (63 - w) ≤ 6 := by decide +kernel
theorem dry_v : ∀ w, w < 64 → ∀ v, v < 64 → (nI v &&& (nI (63 - w) ^^^ (-1)) = 0 ↔ v &&& w = 0) ∧ nI (63 - w) &&& (nI v ^^^ (-1)) = nI ((63 - w) &&& (63 - v)) := by decide +kernel
theorem and_64 (a b : Nat) (h : a < 64) : a &&& b < 64 := Nat.lt_of_le_of_lt Nat.and_le_left h
theorem sf_mn {f g : Nat → Nat} (h : ∀ j, f j ≤ g j) : ∀ (d i : Nat), sf f i d ≤ sf g i d := by
  intro d
  induction d with
  | zero => intro i; exact Nat.le_refl _
  | succ d ih =>
    intro i
    show f i + sf f (i + 1) d ≤ g i + sf g (i + 1) d
    exact Nat.add_le_add (h i) (ih (i + 1))
section PR_
variable {people fewest : Int32} {kinds loves many sets chalk : Nat → Int32} {wet harvest draw : Int32} {now : Nat → Int32}
theorem rain83 (hk : OKM now) {c v : Nat} (hc : c < 11) (hv : v < 64) (h0 : v &&& nW now = 0) : fX6_rain_L83 (nI c) now 2 (nI v) fl 0 1 = some (nI (prt (nW now) c v)) := by
  have hw := hk.2.2.1
  have e10 : (10 : Int32) - nI c = nI (10 - c) := pk_sub (a := 10) (b := c) (by omega)
  have key : ∀ d n s a, s + d = 6 → d < n → fX6_rain_L83 (nI c) now 2 (nI v) n (nI s) (nI a) = some (nI (prd (nW now) c v s d a)) := by
    intro d
    induction d with
    | zero =>
      intro n s a hs hn
      obtain ⟨m, rfl⟩ : ∃ m, n = m + 1 := ⟨n - 1, by omega⟩
      have : s = 6 := by omega
      subst this
      rw [fX6_rain_L83, if_pos (by decide)]
      rfl
    | succ d ih =>
      intro n s a hs hn
      obtain ⟨m, rfl⟩ : ∃ m, n = m + 1 := ⟨n - 1, by omega⟩
      rw [fX6_rain_L83, if_neg (show ¬ (6 : Int32) ≤ nI s from nI_ge (b := 6) (by omega) (by decide)), hw.2, bit_n (by omega) (by omega), bit_n (by omega) (by omega), e10, nI_1]
      have e : (if nI (if (nW now).testBit s = true then 1 else 0) = (1 : Int32) then some (1 : Int32) else if nI (if v.testBit s = true then 1 else 0) = (1 : Int32) then some (nI c) else some (nI (10 - c))) = some (nI (if (nW now).testBit s then 1 else if v.testBit s then c else 10 - c)) := by
        cases (nW now).testBit s <;> cases v.testBit s <;> rfl
      rw [e, bS1, pk_mul]
      exact ih m (s + 1) _ (by omega) (by omega)
  rw [show fX6_rain_L83 (nI c) now 2 (nI v) fl 0 1 = _ from key 6 fl 0 1 (by decide) (by decide), prd_all _ hw.1 _ hv h0 _ hc]
theorem OKM.rainy (hk : OKM now) {w : Nat} (hw : w < 64) : OKM (upd now 2 (nI w)) := by
  obtain ⟨a1, a2, a3, a4, a5, a6, a7⟩ := hk
  unfold OKM nP nF nW nH kd lo at *
  rw [pk_un (show 0 ≠ 2 by decide), pk_un (show 1 ≠ 2 by decide), pk_us, pk_un (show 3 ≠ 2 by decide), pk_un (show 4 ≠ 2 by decide), nI_clamp (by omega)]
  refine ⟨a1, a2, ⟨hw, rfl⟩, a4, a5, fun z hz => ?_, fun z hz => ?_⟩
  · rw [pk_un (show 5 + 3 * z ≠ 2 by omega)]; exact a6 z hz
  · rw [pk_un (show 6 + 3 * z ≠ 2 by omega)]; exact a7 z hz
/-- what one's halves would be worth under another rain -/
def rwN (now : Nat → Int32) (p w : Nat) : Nat := sf (fun h => wbk (kd now p) h (setM now p).testBit (lvs now p) w.testBit (nH now).testBit) 0 12
theorem rw_m (hk : OKM now) {p w : Nat} (hp : p < 6) (hw : w < 64) : fX6_worth (upd now 2 (nI w)) (nI p) = some (nI (rwN now p w)) := by
  rw [worth_m (hk.rainy hw) hp, row_w (now := now) (S := setM now p) hp (hk.2.2.2.2.2.2 p hp).1 (fun k h _ => pk_un (by omega)) (pk_un (by decide)) (fun z hz _ h hh => pk_un (by omega)) (fun h hh => by rw [hs_u (by decide), setM_bit now p hh])]
  have e : nW (upd now 2 (nI w)) = w := by unfold nW; rw [pk_us, nI_clamp (by omega)]
  rw [e]
  rfl
def rB (now : Nat → Int32) (c v : Nat) : Nat := if v &&& nW now = 0 then prt (nW now) c v else 0
def rA (now : Nat → Int32) (p : Nat) (u : Int32) (c v : Nat) : Nat := if v &&& nW now = 0 then (if nI (rwN now p (nW now ||| v)) < u then 0 else prt (nW now) c v) else 0
theorem rA_le (p : Nat) (u : Int32) (c v : Nat) : rA now p u c v ≤ rB now c v := by
  unfold rA rB
  split
  · split
    · exact Nat.zero_le _
    · exact Nat.le_refl _
  · exact Nat.le_refl _
theorem rain_L (hT : TR people fewest kinds loves many sets chalk wet harvest draw now) {p c : Nat} (hp : p < 6) (hc : c < 11) (u : Int32) : ∀ d n v a b (g : Nat → Int32), v + d = 64 → d < n → (∀ z, z ≠ 2 → g z = now z) → ∃ g2, fX4_weightOfRain_L20 harvest sets wet (nI p) u (nI c) kinds loves n (nI a) (nI v) = some (nI (a + sf (rA now p u c) v d)) ∧ fX6_rain_L62 (nI p) u (nI c) now 2 n (nI a) (nI b) (nI v) g = some (g2, nI (a + sf (rA now p u c) v d), nI (b + sf (rB now c) v d)) ∧ ∀ z, z ≠ 2 → g2 z = now z := by
  have hk := hT.ok
  have hw := hk.2.2.1
  have e10 : (10 : Int32) - nI c = nI (10 - c) := pk_sub (a := 10) (b := c) (by omega)
  intro d
  induction d with
  | zero =>
    intro n v a b g hv hn hg
    obtain ⟨m, rfl⟩ : ∃ m, n = m + 1 := ⟨n - 1, by omega⟩
    have : v = 64 := by omega
    subst this
    rw [fX4_weightOfRain_L20, fX6_rain_L62, if_pos (by decide), if_pos (by decide)]
    exact ⟨_, rfl, rfl, hg⟩
  | succ d ih =>
    intro n v a b g hv hn hg
    obtain ⟨m, rfl⟩ : ∃ m, n = m + 1 := ⟨n - 1, by omega⟩
    have hv2 : v < 64 := by omega
    obtain ⟨d1, d2⟩ := dry_n _ hw.1
    obtain ⟨d3, d4⟩ := dry_v _ hw.1 _ hv2
    have hor : nW now ||| v < 64 := Nat.or_lt_two_pow (n := 6) hw.1 hv2
    have eg : upd g 2 (nI (nW now ||| v)) = upd now 2 (nI (nW now ||| v)) := by
      funext z
      by_cases c : z = 2
      · subst c; rw [pk_us, pk_us]
      · rw [pk_un c, pk_un c]; exact hg z c
    have c1 : ¬ (63 : Int32) < nI v := Int32.not_lt.mpr ((nle (b := 63) (by omega) (by decide)).mpr (by omega))
    have c2 : ¬ (64 : Int32) ≤ nI v := nI_ge (b := 64) (by omega) (by decide)
    rw [fX4_weightOfRain_L20, fX6_rain_L62, if_neg c1, if_neg c2, hT.e_wet, d1, ← hT.e_wet, nI_1]
    show ∃ g2, _ = some (nI (a + (rA now p u c v + sf (rA now p u c) (v + 1) d))) ∧ _ = some (g2, nI (a + (rA now p u c v + sf (rA now p u c) (v + 1) d)), nI (b + (rB now c v + sf (rB now c) (v + 1) d))) ∧ _
    by_cases h0 : v &&& nW now = 0
    · have z1 : nI v &&& now 2 = 0 := by rw [hw.2]; exact (and_0 (by omega)).mpr h0
      have w1 : fX4_worthInRain kinds loves sets harvest (nI p) (sets p) (wet ||| nI v) = some (nI (rwN now p (nW now ||| v))) := by
        rw [hT.e_wet, or_n, hT.e_set hp, worthInRain_x hT hp (setM_lt _ _) hor]
        rfl
      have w2 : fX6_worth (upd g 2 (now 2 ||| nI v)) (nI p) = some (nI (rwN now p (nW now ||| v))) := by
        rw [hw.2, or_n, eg, rw_m hk hp hor]
      have p1 : fX5_power (nI c) (nI (bcN v)) = some (nI (c ^ bcN v)) := power_n c (by have := bcN_le v; omega)
      have p2 : fX5_power (nI (10 - c)) (nI (bcN ((63 - nW now) &&& (63 - v)))) = some (nI ((10 - c) ^ bcN ((63 - nW now) &&& (63 - v)))) := power_n (10 - c) (by have := bcN_le ((63 - nW now) &&& (63 - v)); omega)
      have b2 : fJ6_bitCount_0f7a4 (nI ((63 - nW now) &&& (63 - v))) = some (nI (bcN ((63 - nW now) &&& (63 - v)))) := bc_x (Nat.lt_of_le_of_lt Nat.and_le_left (by omega))
      rw [if_pos (d3.mpr h0), if_pos z1, rain83 hk hc hv2 h0]
      simp only [bS1, i10, ix_n hp (show 6 < 2 ^ 31 by decide), w1, show ix 2 95 = some 2 by decide, w2, bc_x (show v < 4096 by omega), p1, d4, b2, e10, p2, pk_mul]
      have hA : rA now p u c v = if nI (rwN now p (nW now ||| v)) < u then 0 else prt (nW now) c v := by unfold rA; rw [if_pos h0]
      have hB : rB now c v = prt (nW now) c v := by unfold rB; rw [if_pos h0]
      by_cases le : nI (rwN now p (nW now ||| v)) < u
      · rw [if_pos le] at hA
        simp only [if_pos le, bS1, bS3, hA, hB]
        rw [show (0 : Int32) = nI 0 from rfl, nI_add, nI_add]
        obtain ⟨g2, y1, y2, y3⟩ := ih m (v + 1) a (b + prt (nW now) c v) (upd g 2 (now 2 ||| nI v)) (by omega) (by omega) (fun z hz => by rw [pk_un hz]; exact hg z hz)
        exact ⟨g2, by rw [y1, Nat.zero_add], by rw [Nat.add_zero, y2, Nat.zero_add, Nat.add_assoc], y3⟩
      · rw [if_neg le] at hA
        simp only [if_neg le, bS1, bS3, hA, hB]
        rw [nI_add, nI_add, show c ^ bcN v * (10 - c) ^ bcN ((63 - nW now) &&& (63 - v)) = prt (nW now) c v from rfl, nI_add]
        obtain ⟨g2, y1, y2, y3⟩ := ih m (v + 1) (a + prt (nW now) c v) (b + prt (nW now) c v) (upd g 2 (now 2 ||| nI v)) (by omega) (by omega) (fun z hz => by rw [pk_un hz]; exact hg z hz)
        exact ⟨g2, by rw [y1, Nat.add_assoc], by rw [y2, Nat.add_assoc, Nat.add_assoc], y3⟩
    · have z1 : ¬ nI v &&& now 2 = 0 := by rw [hw.2]; exact fun z => h0 ((and_0 (by omega)).mp z)
      rw [if_neg (fun z => h0 (d3.mp z)), if_neg z1, bS1, if_pos rfl, bS1, bS3]
      have hA : rA now p u c v = 0 := by unfold rA; rw [if_neg h0]
      have hB : rB now c v = 0 := by unfold rB; rw [if_neg h0]
      rw [hA, hB, Nat.zero_add, Nat.zero_add]
      exact ih m (v + 1) a b g (by omega) (by omega) hg
theorem pow6 : ∀ k, k ≤ 6 → 10 ^ k < 2 ^ 20 ∧ 0 < 10 ^ k := by decide
theorem t_rain (hT : TR people fewest kinds loves many sets chalk wet harvest draw now) (i1 i2 i3 i4 : Int32) : ∃ r now_r, fX5_rain people kinds loves sets wet harvest i1 i2 i3 i4 = some r ∧ fX6_rain now i1 i2 i3 i4 = some (r, now_r) ∧ now_r = now := by
  have hk := hT.ok
  have hw := hk.2.2.1
  unfold fX5_rain fX6_rain
  rcases per_c hT i1 with ⟨p, p0, h1, h2, h3, h4⟩ | ⟨h3, h4⟩
  · simp only [h3, h4, bS1, i10]
    rcases wi_ab i2 0 300 0 300 rfl rfl with ⟨-, -, g3, g4⟩ | ⟨g3, g4⟩
    · simp only [g3, g4, bS1, i10]
      rcases wi_n i3 10 (by decide) (b := 10) (b2 := 10) rfl rfl with ⟨c, e1, e2, e3, e4⟩ | ⟨e3, e4⟩
      · simp only [e3, e4, bS1, i10]
        rcases flag_c i4 with ⟨f1, f3, f4⟩ | ⟨f3, f4⟩
        · simp only [f3, f4, bS1, i10]
          obtain ⟨d1, d2⟩ := dry_n _ hw.1
          obtain ⟨q, y1, y2, y3⟩ := rain_L hT h1 (show c < 11 by omega) i2 64 fl 0 0 0 now (by decide) (by decide) (fun _ _ => rfl)
          rw [Nat.zero_add] at y1 y2
          rw [Nat.zero_add] at y2
          have eB : sf (rB now c) 0 64 = 10 ^ bcN (63 - nW now) := prt_all _ hw.1 c (by omega)
          obtain ⟨b1, b2⟩ := pow6 _ d2
          have leA : sf (rA now p i2 c) 0 64 ≤ sf (rB now c) 0 64 := sf_mn (fun j => rA_le (now := now) p i2 c j) 64 0
          have hg : 0 < Nat.gcd (sf (rA now p i2 c) 0 64) (sf (rB now c) 0 64) := Nat.gcd_pos_of_pos_right _ (by omega)
          have hg2 : Nat.gcd (sf (rA now p i2 c) 0 64) (sf (rB now c) 0 64) < 2 ^ 31 := Nat.lt_of_le_of_lt (Nat.gcd_le_right _ (by omega)) (by omega)
          have wx : fX4_weightOfRain kinds loves sets wet harvest (nI p) i2 (nI c) = some (nI (sf (rA now p i2 c) 0 64)) := by
            unfold fX4_weightOfRain
            rw [show fX4_weightOfRain_L20 harvest sets wet (nI p) i2 (nI c) kinds loves fl 0 0 = _ from y1, bS1]
          have px : fX5_power 10 (nI (bcN (63 - nW now))) = some (nI (sf (rB now c) 0 64)) := by
            rw [eB]
            exact power_n 10 (by omega)
          have gx : fX5_greatestDivisor (nI (sf (rB now c) 0 64)) (nI (sf (rA now p i2 c) 0 64)) = some (nI (Nat.gcd (sf (rA now p i2 c) 0 64) (sf (rB now c) 0 64))) := by
            unfold fX5_greatestDivisor
            rw [show fX5_greatestDivisor_L2 fl (nI (sf (rB now c) 0 64)) (nI (sf (rA now p i2 c) 0 64)) 0 = _ from gd_x 20 fl 0 _ _ (by omega) (by omega) (by omega) (by decide) (by decide), bS1, Nat.gcd_comm]
          have gm : fX6_rain_L195 fl (nI (sf (rA now p i2 c) 0 64)) (nI (sf (rB now c) 0 64)) = some (nI (Nat.gcd (sf (rA now p i2 c) 0 64) (sf (rB now c) 0 64))) := ge_m 20 fl _ _ (by omega) (by omega) (by omega) (by decide)
          have mx : (if 1 < nI (Nat.gcd (sf (rA now p i2 c) 0 64) (sf (rB now c) 0 64)) then nI (Nat.gcd (sf (rA now p i2 c) 0 64) (sf (rB now c) 0 64)) else (1 : Int32)) = nI (Nat.gcd (sf (rA now p i2 c) 0 64) (sf (rB now c) 0 64)) := by
            by_cases z : 1 < nI (Nat.gcd (sf (rA now p i2 c) 0 64) (sf (rB now c) 0 64))
            · rw [if_pos z]
            · rw [if_neg z]
              have z2 : ¬ 1 < Nat.gcd (sf (rA now p i2 c) 0 64) (sf (rB now c) 0 64) := fun q => z (nI_lt (a := 1) q hg2)
              rw [show Nat.gcd (sf (rA now p i2 c) 0 64) (sf (rB now c) 0 64) = 1 by omega]
              rfl
          rw [h2, e2, wx, bS1, show fJ6_bitCount_0f7a4 (63 &&& (wet ^^^ (-1))) = some (nI (bcN (63 - nW now))) by rw [hT.e_wet, d1, bc_x (by omega)], bS1, px, bS1, gx, bS1, mx, show ix 2 95 = some 2 by decide, bS1, show fX6_rain_L62 (nI p) i2 (nI c) now 2 fl 0 0 0 now = _ from y2, bS3, gm, bS1, nz_s (nI_ne0 hg hg2), bS0, bS0, bS0, bS0]
          by_cases z : i4 = 0
          · rw [if_pos z, if_pos z]
            exact ⟨_, _, rfl, rfl, back_J y3⟩
          · rw [if_neg z, if_neg z]
            exact ⟨_, _, rfl, rfl, back_J y3⟩
        · simp only [f3, f4, bS1, i00]
          exact ⟨_, _, rfl, rfl, rfl⟩
      · simp only [e3, e4, bS1, i00]
        exact ⟨_, _, rfl, rfl, rfl⟩
    · simp only [g3, g4, bS1, i00]
      exact ⟨_, _, rfl, rfl, rfl⟩
  · simp only [h3, h4, bS1, i00]
    exact ⟨_, _, rfl, rfl, rfl⟩
end PR_
