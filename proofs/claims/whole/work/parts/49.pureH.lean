section PH
variable {people fewest : Int32} {kinds loves many sets chalk : Nat → Int32} {wet harvest draw : Int32} {now : Nat → Int32}
/-- a sale that was found, and what it gains -/
def SaleOK (now : Nat → Int32) (sale gain : Int32) : Prop :=
  (sale = -4 ∧ gain = 0) ∨ ∃ p q h, p < nP now ∧ q < nP now ∧ p ≠ q ∧ h < 12 ∧ mayN now p h = true ∧ sale = nI (1000 * p + 100 * q + h) ∧ gain = gaN now p q h ∧ 0 < gain
theorem SaleOK.nn {sale gain : Int32} (h : SaleOK now sale gain) : 0 ≤ gain := by
  rcases h with ⟨-, e⟩ | ⟨p, q, h, -, -, -, -, -, -, -, e⟩
  · rw [e]; decide
  · exact Int32.le_of_lt e
theorem saleN (p q h : Nat) : ((1000 : Int32) * nI p + 100 * nI q) + nI h = nI (1000 * p + 100 * q + h) := by
  rw [show (1000 : Int32) = nI 1000 from rfl, show (100 : Int32) = nI 100 from rfl, pk_mul, pk_mul, nI_add, nI_add]
theorem may_hs {p h : Nat} (c : mayN now p h = true) : 0 < now (23 + (12 * p + h)) := by
  unfold mayN hs at c
  simp only [Bool.and_eq_true, decide_eq_true_eq] at c
  rw [← Nat.add_assoc]
  exact c.1
theorem best_L3 {fewest wet harvest draw : Int32} {kinds loves chalk : Nat → Int32} {people : Int32} (hI : NI now) {p q : Nat} (p0 : p < nP now) (q0 : q < nP now) : ∀ d n i sale gain (many sets : Nat → Int32), i + d = 12 → d < n → TR people fewest kinds loves many sets chalk wet harvest draw now → SaleOK now sale gain → ∃ many2 sets2 sale2 gain2, fX4_bestSale_L30 chalk harvest wet fewest kinds loves people (nI p) (nI q) n sale gain (nI i) many sets = some (many2, sets2, sale2, gain2) ∧ fX6_bestSale_L35 (nI p) (nI q) n sale (nI i) gain now = some (now, gain2, sale2) ∧ TR people fewest kinds loves many2 sets2 chalk wet harvest draw now ∧ SaleOK now sale2 gain2 := by
  intro d
  induction d with
  | zero =>
    intro n i sale gain many sets hi hn hT hS
    obtain ⟨m, rfl⟩ : ∃ m, n = m + 1 := ⟨n - 1, by omega⟩
    have : i = 12 := by omega
    subst this
    rw [fX4_bestSale_L30, fX6_bestSale_L35, if_pos p12, if_pos p12]
    exact ⟨_, _, _, _, rfl, rfl, hT, hS⟩
  | succ d ih =>
    intro n i sale gain many sets hi hn hT hS
    obtain ⟨m, rfl⟩ : ∃ m, n = m + 1 := ⟨n - 1, by omega⟩
    have hk := hT.ok
    have h6 := hk.1.1
    have hp : p < 6 := by omega
    have hq : q < 6 := by omega
    have h12 : i < 12 := by omega
    have s0 := hS.nn
    rw [fX4_bestSale_L30, fX6_bestSale_L35, if_neg (n12 h12), if_neg (n12 h12)]
    unfold fX4_mightGain
    by_cases c : nI p = nI q
    · rw [if_pos c, bS1, if_pos rfl, if_pos c, bS3, bS2, if_pos s0, if_pos s0, if_pos s0, bS2, bS1, bS1, nI_1]
      exact ih m (i + 1) _ _ _ _ (by omega) (by omega) hT hS
    · have hn : p ≠ q := fun z => c (by rw [z])
      have ch : (0 : Int32) ≤ now (7 + 3 * q) := Int32.le_iff_toInt_le.mpr (hI.1.1 q q0)
      rw [if_neg c, if_neg c, ix_n hq (by decide), bS1, hT.e_set hq, isIn_n (by have := setM_lt now q; omega) (by omega), bS1, setM_bit now q h12, may_x hT hp hq h12, bS1, may_m hk hp h12, bS1]
      by_cases cm : mayN now p i = true
      · obtain ⟨m2, s2, x1, x2, x3⟩ := gain_x hT hp hq hn h12
        have ex : nI (wA_ (gN now p q i)) - nI (wA_ now) = gaN now p q i := rfl
        rw [if_pos cm, if_neg (show ¬ (1 : Int32) = 0 by decide), if_pos (show mayN now p i = true ∧ (0 : Int32) ≤ now (7 + 3 * q) from ⟨cm, ch⟩), if_neg (show ¬ (1 : Int32) = 0 by decide), gain_m hk hp hq hn h12 x3, bS2, bS2, ex]
        by_cases cb : hs now q i = true
        · have hle : gaN now p q i ≤ gain := by
            rw [Int32.le_iff_toInt_le, gaN_i h6]
            have h1 := wA_mono cb h6 h12 (may_hs cm)
            have h2 := Int32.le_iff_toInt_le.mp s0
            have : (0 : Int32).toInt = 0 := rfl
            omega
          rw [if_pos cb, if_neg (show ¬ (1 : Int32) = 0 by decide), bS1, if_pos rfl, bS3, if_pos s0, if_pos hle, if_pos hle, bS2, bS1, bS1, nI_1]
          exact ih m (i + 1) _ _ _ _ (by omega) (by omega) hT hS
        · rw [if_neg cb, if_pos rfl, bS1, if_neg (show ¬ (1 : Int32) = 0 by decide), x1, bS3, bS3, ex]
          by_cases le : gaN now p q i ≤ gain
          · rw [if_pos le, if_pos le, if_pos le, bS2, bS1, bS1, nI_1]
            exact ih m (i + 1) _ _ _ _ (by omega) (by omega) x2 hS
          · unfold fX5_saleOf
            rw [if_neg le, if_neg le, if_neg le, bS1, bS2, bS1, bS1, nI_1, saleN]
            refine ih m (i + 1) _ _ _ _ (by omega) (by omega) x2 (Or.inr ⟨p, q, i, p0, q0, hn, h12, cm, rfl, rfl, ?_⟩)
            exact Int32.lt_of_le_of_lt s0 (Int32.not_le.mp le)
      · rw [if_neg cm, if_pos rfl, if_neg (show ¬ (mayN now p i = true ∧ (0 : Int32) ≤ now (7 + 3 * q)) from fun z => cm z.1), if_pos rfl, bS2, if_pos s0, if_pos s0, bS1, bS1, nI_1]
        cases hs now q i
        · rw [if_pos (show (if false = true then (1 : Int32) else 0) = 0 from rfl), bS1, if_pos rfl, bS3, if_pos s0, bS2]
          exact ih m (i + 1) _ _ _ _ (by omega) (by omega) hT hS
        · rw [if_neg (show ¬ (if true = true then (1 : Int32) else 0) = 0 by decide), bS1, if_pos rfl, bS3, if_pos s0, bS2]
          exact ih m (i + 1) _ _ _ _ (by omega) (by omega) hT hS
theorem best_L2 {fewest wet harvest draw : Int32} {kinds loves chalk : Nat → Int32} {people : Int32} (hI : NI now) {p : Nat} (p0 : p < nP now) : ∀ d n i sale gain (many sets : Nat → Int32), i + d = nP now → d < n → TR people fewest kinds loves many sets chalk wet harvest draw now → SaleOK now sale gain → ∃ many2 sets2 sale2 gain2, fX4_bestSale_L18 chalk harvest wet fewest kinds loves people (nI p) n sale gain (nI i) many sets = some (many2, sets2, sale2, gain2) ∧ fX6_bestSale_L22 (nI p) n sale (nI i) gain now = some (now, gain2, sale2) ∧ TR people fewest kinds loves many2 sets2 chalk wet harvest draw now ∧ SaleOK now sale2 gain2 := by
  intro d
  induction d with
  | zero =>
    intro n i sale gain many sets hi hn hT hS
    obtain ⟨m, rfl⟩ : ∃ m, n = m + 1 := ⟨n - 1, by omega⟩
    have h6 := hT.ok.1.1
    have c : nI (nP now) ≤ nI i := le_ge (by omega) (by omega)
    rw [fX4_bestSale_L18, fX6_bestSale_L22, i0, bS1, if_pos (show people ≤ nI i by rw [hT.e_people]; exact c), if_pos (show now 0 ≤ nI i by rw [hT.ok.1.2]; exact c)]
    exact ⟨_, _, _, _, rfl, rfl, hT, hS⟩
  | succ d ih =>
    intro n i sale gain many sets hi hn hT hS
    obtain ⟨m, rfl⟩ : ∃ m, n = m + 1 := ⟨n - 1, by omega⟩
    have h6 := hT.ok.1.1
    have c : ¬ nI (nP now) ≤ nI i := nI_ge (by omega) (by omega)
    obtain ⟨a1, a2, a3, a4, b1, b2, b3, b4⟩ := best_L3 hI p0 (show i < nP now by omega) 12 fl 0 sale gain many sets rfl (by decide) hT hS
    rw [fX4_bestSale_L18, fX6_bestSale_L22, i0, bS1, if_neg (show ¬ people ≤ nI i by rw [hT.e_people]; exact c), if_neg (show ¬ now 0 ≤ nI i by rw [hT.ok.1.2]; exact c), show fX4_bestSale_L30 chalk harvest wet fewest kinds loves people (nI p) (nI i) fl sale gain 0 many sets = _ from b1, show fX6_bestSale_L35 (nI p) (nI i) fl sale 0 gain now = _ from b2, bS4, bS3, nI_1]
    exact ih m (i + 1) _ _ _ _ (by omega) (by omega) b3 b4
theorem best_L1 {fewest wet harvest draw : Int32} {kinds loves chalk : Nat → Int32} {people : Int32} (hI : NI now) : ∀ d n i sale gain (many sets : Nat → Int32), i + d = nP now → d < n → TR people fewest kinds loves many sets chalk wet harvest draw now → SaleOK now sale gain → ∃ many2 sets2 sale2 gain2, fX4_bestSale_L7 chalk harvest wet fewest kinds loves people n sale gain (nI i) many sets = some (many2, sets2, sale2) ∧ fX6_bestSale_L10 n sale (nI i) gain now = some (now, gain2, sale2) ∧ TR people fewest kinds loves many2 sets2 chalk wet harvest draw now ∧ SaleOK now sale2 gain2 := by
  intro d
  induction d with
  | zero =>
    intro n i sale gain many sets hi hn hT hS
    obtain ⟨m, rfl⟩ : ∃ m, n = m + 1 := ⟨n - 1, by omega⟩
    have h6 := hT.ok.1.1
    have c : nI (nP now) ≤ nI i := le_ge (by omega) (by omega)
    rw [fX4_bestSale_L7, fX6_bestSale_L10, i0, bS1, if_pos (show people ≤ nI i by rw [hT.e_people]; exact c), if_pos (show now 0 ≤ nI i by rw [hT.ok.1.2]; exact c)]
    exact ⟨_, _, _, _, rfl, rfl, hT, hS⟩
  | succ d ih =>
    intro n i sale gain many sets hi hn hT hS
    obtain ⟨m, rfl⟩ : ∃ m, n = m + 1 := ⟨n - 1, by omega⟩
    have h6 := hT.ok.1.1
    have c : ¬ nI (nP now) ≤ nI i := nI_ge (by omega) (by omega)
    obtain ⟨a1, a2, a3, a4, b1, b2, b3, b4⟩ := best_L2 hI (show i < nP now by omega) (nP now) fl 0 sale gain many sets (by omega) (by unfold fl; omega) hT hS
    rw [fX4_bestSale_L7, fX6_bestSale_L10, i0, bS1, if_neg (show ¬ people ≤ nI i by rw [hT.e_people]; exact c), if_neg (show ¬ now 0 ≤ nI i by rw [hT.ok.1.2]; exact c), show fX4_bestSale_L18 chalk harvest wet fewest kinds loves people (nI i) fl sale gain 0 many sets = _ from b1, show fX6_bestSale_L22 (nI i) fl sale 0 gain now = _ from b2, bS4, bS3, nI_1]
    exact ih m (i + 1) _ _ _ _ (by omega) (by omega) b3 b4
theorem best_c (hT : TR people fewest kinds loves many sets chalk wet harvest draw now) (hI : NI now) : ∃ many2 sets2 sale gain, fX4_bestSale people fewest kinds loves many sets chalk wet harvest = some (sale, many2, sets2) ∧ fX6_bestSale now = some (sale, now, gain) ∧ TR people fewest kinds loves many2 sets2 chalk wet harvest draw now ∧ SaleOK now sale gain := by
  have h6 := hT.ok.1.1
  obtain ⟨a1, a2, a3, a4, b1, b2, b3, b4⟩ := best_L1 hI (nP now) fl 0 (-4) 0 many sets (by omega) (by unfold fl; omega) hT (Or.inl ⟨rfl, rfl⟩)
  unfold fX4_bestSale fX6_bestSale
  rw [show fX4_bestSale_L7 chalk harvest wet fewest kinds loves people fl (-4) 0 0 many sets = _ from b1, show fX6_bestSale_L10 fl (-4) 0 0 now = _ from b2, bS3, bS3]
  exact ⟨_, _, _, _, rfl, rfl, b3, b4⟩
theorem de_s {p q h : Nat} (hp : p < 6) (hq : q < 6) (hh : h < 12) : fX5_sellerOf (nI (1000 * p + 100 * q + h)) = some (nI p) := by
  unfold fX5_sellerOf
  rw [show (1000 : Int32) = nI 1000 from rfl, pk_div (by omega) (by decide) (by decide), show (1000 * p + 100 * q + h) / 1000 = p by omega]
theorem de_b {p q h : Nat} (hp : p < 6) (hq : q < 6) (hh : h < 12) : fX5_buyerOf (nI (1000 * p + 100 * q + h)) = some (nI q) := by
  unfold fX5_buyerOf
  rw [show (100 : Int32) = nI 100 from rfl, pk_div (by omega) (by decide) (by decide), show (10 : Int32) = nI 10 from rfl, pk_rem (by omega) (by decide) (by decide), show (1000 * p + 100 * q + h) / 100 % 10 = q by omega]
theorem de_h {p q h : Nat} (hp : p < 6) (hq : q < 6) (hh : h < 12) : fX5_halfOf (nI (1000 * p + 100 * q + h)) = some (nI h) := by
  unfold fX5_halfOf
  rw [show (100 : Int32) = nI 100 from rfl, pk_rem (by omega) (by decide) (by decide), show (1000 * p + 100 * q + h) % 100 = h by omega]
theorem t_best (hT : TR people fewest kinds loves many sets chalk wet harvest draw now) (hI : NI now) (bg i1 : Int32) : ∃ r many_r sets_r now_r bg_r, fX5_best people fewest kinds loves many sets chalk wet harvest i1 = some (r, many_r, sets_r) ∧ fX6_best now bg i1 = some (r, now_r, bg_r) ∧ now_r = now ∧ TR people fewest kinds loves many_r sets_r chalk wet harvest draw now_r := by
  have h6 := hT.ok.1.1
  unfold fX5_best fX6_best
  rcases flag_c i1 with ⟨f1, f3, f4⟩ | ⟨f3, f4⟩
  · simp only [f3, f4, bS1, i10]
    obtain ⟨m2, s2, sale, gain, x1, x2, x3, x4⟩ := best_c hT hI
    rw [x1, x2, bS3, bS3]
    rcases x4 with ⟨e1, e2⟩ | ⟨p, q, h, p0, q0, hn, hh, cm, e1, e2, e3⟩
    · rw [if_pos e1, if_pos e1]
      by_cases c : i1 = 0
      · rw [if_pos c]
        exact ⟨_, _, _, _, _, rfl, rfl, rfl, x3⟩
      · rw [if_neg c]
        exact ⟨_, _, _, _, _, rfl, rfl, rfl, x3⟩
    · have n4 : ¬ sale = -4 := by rw [e1]; exact n_ne4 (by omega)
      rw [if_neg n4, if_neg n4]
      by_cases c : i1 = 0
      · rw [if_pos c, if_pos c]
        exact ⟨_, _, _, _, _, rfl, rfl, rfl, x3⟩
      · rw [if_neg c, if_neg c, e1, de_s (by omega) (by omega) hh, bS1, de_b (by omega) (by omega) hh, bS1, de_h (by omega) (by omega) hh, bS1]
        obtain ⟨m3, s3, y1, y2, y3⟩ := gain_x x3 (show p < 6 by omega) (show q < 6 by omega) hn hh
        rw [y1, bS3, e2]
        exact ⟨_, _, _, _, _, rfl, rfl, rfl, y2⟩
  · simp only [f3, f4, bS1, i00]
    exact ⟨_, _, _, _, _, rfl, rfl, rfl, hT⟩
end PH
