/-! ===== a text is read: halves, one person ===== -/
section RT
variable {letters tape : Nat → Int32} {n : Nat}
variable {people fewest : Int32} {kinds loves many sets chalk : Nat → Int32} {wet harvest draw : Int32} {g : Nat → Int32}
theorem TR.half (hT : TR people fewest kinds loves many sets chalk wet harvest draw g) {p h : Nat} (hp : p < 6) (hh : h < 12) (v : Int32) : ∃ sets2, fX0_setMany many sets (nI p) (nI h) v = some (upd many (12 * p + h) v, sets2) ∧ TR people fewest kinds loves (upd many (12 * p + h) v) sets2 chalk wet harvest draw (upd g (23 + (12 * p + h)) v) := by
  obtain ⟨s2, e, gg⟩ := hT.2.2.2.2.set hp hh v
  refine ⟨s2, e, hT.re (pk_un (by omega)) (pk_un (by omega)) (fun p hp => pk_un (by omega)) (fun p hp => pk_un (by omega)) ?_⟩
  refine gg.cg (fun _ _ => rfl) (fun _ _ => rfl) (fun _ _ => rfl) rfl rfl rfl (pk_un (by omega)) (pk_un (by omega)) (pk_un (by omega)) (fun j hj => pk_un (by omega)) (fun j hj => ?_)
  by_cases c : j = 12 * p + h
  · subst c; rw [pk_us]; exact pk_us.symm
  · rw [pk_un c]; exact pk_un (by omega)
/-- the halves of a set, each changed by the same -/
def HG (p : Nat) (b : Int32) (g0 : Nat → Int32) (S : Nat) (g : Nat → Int32) : Prop :=
  (∀ h, h < 12 → g (23 + (12 * p + h)) = g0 (23 + (12 * p + h)) + (if S.testBit h then b else 0)) ∧ ∀ j, (∀ h, h < 12 → j ≠ 23 + (12 * p + h)) → g j = g0 j
theorem HG.zero (p : Nat) (b : Int32) (g0 : Nat → Int32) : HG p b g0 0 g0 :=
  ⟨fun h _ => by rw [Nat.zero_testBit, if_neg (by decide), Int32.add_zero], fun _ _ => rfl⟩
theorem HG.add {p : Nat} {b : Int32} {g0 : Nat → Int32} {S h : Nat} (hG : HG p b g0 S g) (hh : h < 12) (hS : S < 2 ^ h) : HG p b g0 (S ||| 2 ^ h) (upd g (23 + (12 * p + h)) (g (23 + (12 * p + h)) + b)) := by
  refine ⟨fun z hz => ?_, fun j hj => by rw [pk_un (hj h hh)]; exact hG.2 j hj⟩
  rw [Nat.testBit_or, Nat.testBit_two_pow]
  by_cases c : z = h
  · subst c
    rw [pk_us, hG.1 z hz, Nat.testBit_lt_two_pow hS, if_neg (by decide), Int32.add_zero]
    simp
  · rw [pk_un (by omega), hG.1 z hz]
    simp [show ¬ h = z from fun q => c q.symm]
def lat (e : Nat) : Int32 := if e = 0 then -1 else nI (e - 1)
theorem lat_i {e : Nat} (h : e < 2 ^ 31) : (lat e).toInt = (e : Int) - 1 := by
  unfold lat
  by_cases c : e = 0
  · rw [if_pos c, c]; rfl
  · rw [if_neg c, nI_toInt (by omega)]; omega
theorem half_i (i : Int32) : fX6_isHalf i = some (if 0 ≤ i.toInt ∧ i.toInt ≤ 11 then 1 else 0) := by
  unfold fX6_isHalf
  rw [W6i, show (0 : Int64).toInt = 0 from rfl, show (11 : Int64).toInt = 11 from rfl, bS1]
  split <;> rfl
theorem c97 {c : Nat} (h : c ≤ 126) : (nI c - 97).toInt = (c : Int) - 97 := pk_sub_toInt (b := 97) (by omega) (by decide)
theorem hal_L (hA : TA letters tape n) {p : Nat} (hp : p < 6) (b : Int32) {g0 : Nat → Int32} : ∀ d fX fM e cnt S x r (many sets g : Nat → Int32), 12 ≤ e + d → e ≤ 12 → d < fX → d < fM → cnt ≤ e → S < 2 ^ e → (e = 0 ∨ 2 ^ (e - 1) ≤ S) → x ≤ n → fX6_here tape (nI n) (nI x) = some (r, nI (skp tape n x)) → TR people fewest kinds loves many sets chalk wet harvest draw g → HG p b g0 S g → ∃ x2 S2 e2 many2 sets2 g2, x2 ≤ n ∧ S2 < 4096 ∧ e2 ≤ 12 ∧ fX3_tellHalves_L6 (nI n) letters (nI p) b fX (lat e) (nI cnt) (nI x) many sets = some (nI x2, many2, sets2, lat e2) ∧ fX6_letters_L53 tape (nI n) 0 fM (nI S) (r - 97) (nI (skp tape n x)) = some (nI (skp tape n x2), nI S2) ∧ TR people fewest kinds loves many2 sets2 chalk wet harvest draw g2 ∧ HG p b g0 S2 g2 ∧ e ≤ e2 ∧ (e = 0 → (e2 = 0 ∧ x2 = skp tape n x ∧ fX6_isHalf (r - 97) = some 0) ∨ (0 < e2 ∧ fX6_isHalf (r - 97) = some 1)) := by
  have hn := hA.1
  intro d
  induction d using Nat.strongRecOn with
  | _ d ih =>
    intro fX fM e cnt S x r many sets g hd he hX hM hc hS hS2 hx hr hT hG
    obtain ⟨mX, rfl⟩ : ∃ m, fX = m + 1 := ⟨fX - 1, by omega⟩
    obtain ⟨mM, rfl⟩ : ∃ m, fM = m + 1 := ⟨fM - 1, by omega⟩
    have S12 : S < 4096 := Nat.lt_of_lt_of_le hS (Nat.pow_le_pow_right (n := 2) (by decide) he)
    have li := lat_i (e := e) (by omega)
    rw [fX3_tellHalves_L6, fX6_letters_L53, if_pos rfl]
    by_cases c12 : cnt = 12
    · have e12 : e = 12 := by omega
      rw [if_pos (show (12 : Int32) ≤ nI cnt by rw [c12]; decide)]
      refine ⟨x, S, e, many, sets, g, hx, S12, he, rfl, ?_, hT, hG, Nat.le_refl _, fun z => absurd z (by omega)⟩
      rcases half_c (r - 97) with ⟨h, h1, h2, -, h4⟩ | ⟨-, h4⟩
      · have hp2 : 2 ^ h ≤ 2 ^ 11 := Nat.pow_le_pow_right (by decide) (by omega)
        rw [h4, bS1, i10, h2, one_sh (by omega), if_pos (nI_le (show 2 ^ h ≤ S by rcases hS2 with z | z; omega; rw [e12] at z; omega) (by omega))]
      · rw [h4, bS1, i00]
    · rw [if_neg (show ¬ (12 : Int32) ≤ nI cnt from n12 (by omega))]
      obtain ⟨q, q1, q2, q3, q4, q5, ⟨z, e1, e2⟩ | ⟨z, c, k1, k2, k3, e1, e2⟩⟩ := nx2 hA hx hx rfl
      · rw [hr] at e2
        have er : r = 0 := by injection e2 with e2; injection e2
        subst er
        rw [e1, bS2, q4, if_pos (show (-1 : Int32) - 97 ≤ lat e by rw [Int32.le_iff_toInt_le, li, show ((-1 : Int32) - 97).toInt = -98 from rfl]; omega), show fX6_isHalf (0 - 97) = some 0 by decide, bS1, i00]
        exact ⟨q, S, e, many, sets, g, q3, S12, he, rfl, by rw [q5], hT, hG, Nat.le_refl _, fun z => Or.inl ⟨z, rfl, rfl⟩⟩
      · rw [hr] at e2
        have er : r = nI c := by injection e2 with e2; injection e2
        subst er
        have ci := c97 k2
        rw [e1, bS2, q4, half_i]
        by_cases y1 : (c : Int) - 97 ≤ (e : Int) - 1
        · rw [if_pos (show nI c - 97 ≤ lat e by rw [Int32.le_iff_toInt_le, li, ci]; exact y1)]
          refine ⟨q, S, e, many, sets, g, q3, S12, he, rfl, ?_, hT, hG, Nat.le_refl _, fun z => Or.inl ⟨z, rfl, by rw [if_neg (by omega)]⟩⟩
          rw [q5]
          by_cases y2 : 97 ≤ c
          · rw [if_pos (by omega), bS1, i10, show nI c - 97 = nI (c - 97) from pk_sub (b := 97) y2, one_sh (by omega)]
            have hp2 : 2 ^ (c - 97) ≤ 2 ^ (e - 1) := Nat.pow_le_pow_right (by decide) (by omega)
            rw [if_pos (nI_le (show 2 ^ (c - 97) ≤ S by rcases hS2 with w | w <;> omega) (by omega))]
          · rw [if_neg (by omega), bS1, i00]
        · rw [if_neg (show ¬ nI c - 97 ≤ lat e by rw [Int32.le_iff_toInt_le, li, ci]; exact y1)]
          have eh : nI c - 97 = nI (c - 97) := pk_sub (b := 97) (by omega)
          by_cases y2 : c - 97 < 12
          · rw [if_pos (show nI c - 97 < 12 by rw [eh]; exact nI_lt (b := 12) y2 (by decide)), if_pos (show 0 ≤ (nI c - 97).toInt ∧ (nI c - 97).toInt ≤ 11 by omega), bS1, i10, eh]
            have hS3 : S < 2 ^ (c - 97) := Nat.lt_of_lt_of_le hS (Nat.pow_le_pow_right (by decide) (by omega))
            have hp2 : 2 ^ (c - 97) ≤ 2 ^ 11 := Nat.pow_le_pow_right (by decide) (by omega)
            obtain ⟨s2, w1, w2⟩ := hT.half hp y2 (g (23 + (12 * p + (c - 97))) + b)
            rw [manyOf_x (fun j hj => hT.e_many hj) hp y2, bS1, Nat.add_assoc, w1, bS2, one_sh (by omega), if_neg (nI_ge hS3 (by omega)), nI_1, nI_1, or_n]
            obtain ⟨q', t1, t2, t3, t4, t5, t6⟩ := nx2 hA (show q + 1 ≤ n by omega) (show q + 1 ≤ n by omega) rfl
            obtain ⟨r', e3⟩ : ∃ r', fX6_here tape (nI n) (nI (q + 1)) = some (r', nI (skp tape n (q + 1))) := by
              rw [t4]
              rcases t6 with ⟨-, -, y⟩ | ⟨-, _, -, -, -, -, y⟩
              · exact ⟨_, y⟩
              · exact ⟨_, y⟩
            clear t6
            have el : nI (c - 97) = lat (c - 97 + 1) := by unfold lat; rw [if_neg (by omega), Nat.add_sub_cancel]
            rw [e3, bS2]
            obtain ⟨x2, S2, e2', many2, sets2, g2, u1, u2, u3, u4, u5, u6, u7, u8, u9⟩ := ih (d - 1) (by omega) mX mM (c - 97 + 1) (cnt + 1) (S ||| 2 ^ (c - 97)) (q + 1) r' _ _ _ (by omega) (by omega) (by omega) (by omega) (by omega) (or_s hS3) (Or.inr (by rw [Nat.add_sub_cancel]; exact Nat.right_le_or)) (by omega) e3 w2 (hG.add y2 hS3)
            rw [el, u4, u5]
            exact ⟨x2, S2, e2', many2, sets2, g2, u1, u2, u3, rfl, rfl, u6, u7, by omega, fun _ => Or.inr ⟨by omega, rfl⟩⟩
          · rw [if_neg (show ¬ nI c - 97 < 12 by rw [eh]; exact nI_nlt (b := 12) (by omega) (by omega)), if_neg (by omega), bS1, i00]
            exact ⟨q, S, e, many, sets, g, q3, S12, he, rfl, by rw [q5], hT, hG, Nat.le_refl _, fun z => Or.inl ⟨z, rfl, rfl⟩⟩
theorem hal2 (hA : TA letters tape n) {p : Nat} (hp : p < 6) (b : Int32) (hT : TR people fewest kinds loves many sets chalk wet harvest draw g) {x : Nat} (hx : x ≤ n) : (∃ q a1 a2 r, q ≤ n ∧ fX3_tellHalves letters (nI n) (nI x) many sets (nI p) b = some (0, nI q, a1, a2) ∧ (bd2 (fX6_here tape (nI n) (nI x)) fun r6 x7 => bd1 (fX6_isHalf (r6 - 97)) fun r9 => bd1 (if r9 = 0 then some (1 : Int32) else some 0 : Option Int32) fun x12 => bd0 (isb x12) <| bd2 (fX6_letters_L53 tape (nI n) x12 fl 0 (r6 - 97) x7) fun o41 o42 => some (o42, o41, x12)) = some (r, nI q, 1)) ∨ (∃ x2 S many2 sets2 g2, x2 ≤ n ∧ S < 4096 ∧ fX3_tellHalves letters (nI n) (nI x) many sets (nI p) b = some (1, nI x2, many2, sets2) ∧ (bd2 (fX6_here tape (nI n) (nI x)) fun r6 x7 => bd1 (fX6_isHalf (r6 - 97)) fun r9 => bd1 (if r9 = 0 then some (1 : Int32) else some 0 : Option Int32) fun x12 => bd0 (isb x12) <| bd2 (fX6_letters_L53 tape (nI n) x12 fl 0 (r6 - 97) x7) fun o41 o42 => some (o42, o41, x12)) = some (nI S, nI (skp tape n x2), 0) ∧ TR people fewest kinds loves many2 sets2 chalk wet harvest draw g2 ∧ HG p b g S g2) := by
  obtain ⟨q, t1, t2, t3, t4, t5, t6⟩ := nx2 hA hx hx rfl
  obtain ⟨r, e⟩ : ∃ r, fX6_here tape (nI n) (nI x) = some (r, nI (skp tape n x)) := by
    rw [t4]
    rcases t6 with ⟨-, -, y⟩ | ⟨-, _, -, -, -, -, y⟩
    · exact ⟨_, y⟩
    · exact ⟨_, y⟩
  obtain ⟨x2, S2, e2, many2, sets2, g2, u1, u2, u3, u4, u5, u6, u7, u8, u9⟩ := hal_L hA hp b 12 fl fl 0 0 0 x r many sets g (by decide) (by decide) (by decide) (by decide) (by decide) (by decide) (Or.inl rfl) hx e hT (HG.zero p b g)
  unfold fX3_tellHalves
  rw [e, bS2, show fX3_tellHalves_L6 (nI n) letters (nI p) b fl (-1) 0 (nI x) many sets = _ from u4, bS4]
  rcases u9 rfl with ⟨v1, v2, v3⟩ | ⟨v1, v3⟩
  · rw [v3, bS1, i00, bS1, isb1, bS0, v1, if_pos (show lat 0 < 0 by decide), show fX6_letters_L53 tape (nI n) 1 fl 0 (r - 97) (nI (skp tape n x)) = some (nI (skp tape n x), 0) from rfl, bS2, ← v2]
    exact Or.inl ⟨x2, _, _, _, u1, rfl, rfl⟩
  · rw [v3, bS1, i10, bS1, isb0, bS0, if_neg (show ¬ lat e2 < 0 by rw [Int32.lt_iff_toInt_lt, lat_i (by omega)]; show ¬ (e2 : Int) - 1 < 0; omega), show fX6_letters_L53 tape (nI n) 0 fl 0 (r - 97) (nI (skp tape n x)) = _ from u5, bS2]
    exact Or.inr ⟨x2, S2, _, _, g2, u1, u2, rfl, rfl, u6, u7⟩
theorem let_F (p k : Int32) : fX6_letters tape (nI n) p 1 k = some (0, p, 1) := by
  unfold fX6_letters
  rw [if_neg (by decide)]
/-- a sign and its halves, or none -/
theorem sgn2 (hA : TA letters tape n) {p : Nat} (hp : p < 6) (b : Int32) (hT : TR people fewest kinds loves many sets chalk wet harvest draw g) {x y : Nat} (hx : x ≤ n) (hy : y ≤ n) (e : skp tape n x = skp tape n y) {k : Nat} (h0 : 0 < k) (hk : k < 127) : (∃ x1 q a1 a2 r, q ≤ n ∧ fX3_takes letters (nI n) (nI x) (nI k) = some (1, nI x1) ∧ fX3_tellHalves letters (nI n) (nI x1) many sets (nI p) b = some (0, nI q, a1, a2) ∧ fX6_letters tape (nI n) (nI y) 0 (nI k) = some (r, nI q, 1)) ∨ (∃ q, q ≤ n ∧ skp tape n q = q ∧ fX3_takes letters (nI n) (nI x) (nI k) = some (0, nI q) ∧ fX6_letters tape (nI n) (nI y) 0 (nI k) = some (nI 0, nI q, 0)) ∨ (∃ x1 x2 S many2 sets2 g2, x2 ≤ n ∧ S < 4096 ∧ fX3_takes letters (nI n) (nI x) (nI k) = some (1, nI x1) ∧ fX3_tellHalves letters (nI n) (nI x1) many sets (nI p) b = some (1, nI x2, many2, sets2) ∧ fX6_letters tape (nI n) (nI y) 0 (nI k) = some (nI S, nI (skp tape n x2), 0) ∧ TR people fewest kinds loves many2 sets2 chalk wet harvest draw g2 ∧ HG p b g S g2) := by
  unfold fX6_letters
  rw [if_pos rfl]
  rcases takes2 hA hx hy e h0 hk with ⟨q, q1, e1, e2⟩ | ⟨q, r, q1, q2, q3, e1, e2, e3⟩
  · rw [e1, e2, bS2, if_pos rfl, nI_1]
    rcases hal2 hA hp b hT (show q + 1 ≤ n by omega) with ⟨q', a1, a2, r, w1, w2, w3⟩ | ⟨x2, S, m2, s2, g2, w1, w2, w3, w4, w5, w6⟩
    · exact Or.inl ⟨q + 1, q', a1, a2, r, w1, rfl, w2, w3⟩
    · exact Or.inr (Or.inr ⟨q + 1, x2, S, m2, s2, g2, w1, w2, rfl, w3, w4, w5, w6⟩)
  · rw [e1, e2, bS2, if_neg e3]
    exact Or.inr (Or.inl ⟨q, q1, q3, rfl, rfl⟩)
end RT
