/-! ===== a text is read: all people, the whole ===== -/
section RW
variable {letters tape : Nat → Int32} {n : Nat}
variable {people fewest : Int32} {kinds loves many sets chalk : Nat → Int32} {wet harvest draw : Int32} {g : Nat → Int32}
def apN (rd g0 : Nat → Int32) : Nat → Nat → Int32
  | 0 => g0
  | m + 1 => ap1 rd (apN rd g0 m) m
theorem ap1_cg {rd rd2 : Nat → Int32} {m : Nat} (h : ∀ j, j < 5 * m + 5 → rd2 j = rd j) : ap1 rd2 g m = ap1 rd g m := by
  have e : w183 rd2 m = w183 rd m := by funext z; unfold w183; rw [h _ (by omega), h _ (by omega)]
  unfold ap1
  rw [e, h _ (by omega), h _ (by omega), h _ (by omega)]
theorem apN_cg {rd rd2 g0 : Nat → Int32} : ∀ m, (∀ j, j < 5 * m → rd2 j = rd j) → apN rd2 g0 m = apN rd g0 m := by
  intro m
  induction m with
  | zero => intro _; rfl
  | succ m ih =>
    intro h
    show ap1 rd2 (apN rd2 g0 m) m = ap1 rd (apN rd g0 m) m
    rw [ih (fun j hj => h j (by omega)), ap1_cg (fun j hj => h j (by omega))]
def RK (rd : Nat → Int32) (m : Nat) : Prop := ∀ p, p < m → ∃ k l c S T, k < 5 ∧ l < 6 ∧ c < 100 ∧ S < 4096 ∧ T < 4096 ∧ rd (5 * p) = nI k ∧ rd (5 * p + 1) = nI l ∧ rd (5 * p + 2) = nI c ∧ rd (5 * p + 3) = nI S ∧ rd (5 * p + 4) = nI T
theorem RK.add {rd : Nat → Int32} {m k l c S T : Nat} (h : RK rd m) (hk : k < 5) (hl : l < 6) (hc : c < 100) (hS : S < 4096) (hT : T < 4096) : RK (rcd rd m (nI k) (nI l) (nI c) (nI S) (nI T)) (m + 1) := by
  intro p hp
  by_cases d : p = m
  · subst d
    exact ⟨k, l, c, S, T, hk, hl, hc, hS, hT, rcd_0, rcd_1, rcd_2, rcd_3, rcd_4⟩
  · rw [rcd_o (by omega), rcd_o (by omega), rcd_o (by omega), rcd_o (by omega), rcd_o (by omega)]
    exact h p (by omega)
theorem pplM (typed : Int32) (f : Nat) (v477 v478 v479 : Int32) (g480 : Nat → Int32) : fX6_readPeople_L2 tape typed (f + 1) v477 v478 v479 g480 = (if v478 = 0 then (if v477 = 0 then bd2 (if v477 ≤ 0 then some (v479, v478) else bd1 (if 6 ≤ v477 then some (0 : Int32) else some 1 : Option Int32) fun x503 => bd2 (fX6_must v479 v478 x503) fun x506 x507 => some (x506, x507) : Option (Int32 × Int32)) fun x498 x499 => bdM tape typed v477 x498 x499 g480 (fun a b r => fX6_readPeople_L2 tape typed f (v477 + 1) a b r) else bd2 (fX6_here tape typed v479) fun r605 x606 => if r605 = 44 then bd2 (if v477 ≤ 0 then some (x606, v478) else bd1 (if 6 ≤ v477 then some (0 : Int32) else some 1 : Option Int32) fun x622 => bd2 (fX6_must x606 v478 x622) fun x625 x626 => some (x625, x626) : Option (Int32 × Int32)) fun x617 x618 => bdM tape typed v477 x617 x618 g480 (fun a b r => fX6_readPeople_L2 tape typed f (v477 + 1) a b r) else some (x606, v478, g480, v477)) else some (v479, v478, g480, v477)) := by
  rw [fX6_readPeople_L2]
  rfl
theorem pplF (typed : Int32) (f : Nat) (v p : Int32) (rd : Nat → Int32) : fX6_readPeople_L2 tape typed (f + 1) v 1 p rd = some (p, 1, rd, v) := by
  rw [pplM, if_neg (by decide)]
theorem bS8 {α1 α2 α3 α4 α5 α6 α7 α8 β : Type} (a1 : α1) (a2 : α2) (a3 : α3) (a4 : α4) (a5 : α5) (a6 : α6) (a7 : α7) (a8 : α8) (k : α1 → α2 → α3 → α4 → α5 → α6 → α7 → α8 → Option β) : bd8 (some (a1, a2, a3, a4, a5, a6, a7, a8)) k = k a1 a2 a3 a4 a5 a6 a7 a8 := rfl
theorem ppl_L (hA : TA letters tape n) {g0 : Nat → Int32} : ∀ d fX fM m x y (rd kinds loves many sets chalk : Nat → Int32), m + d = 6 → d < fX → d + 1 < fM → x ≤ n → y ≤ n → skp tape n x = skp tape n y → TR (nI m) fewest kinds loves many sets chalk wet harvest draw (apN rd g0 m) → RK rd m →
    (∃ q a1 a2 a3 a4 a5 a6 rd2 r, q ≤ n ∧ fX3_tellPeople_L2 (nI n) letters fX (nI m) (nI x) chalk many sets kinds loves (nI m) = some (Sum.inl (0, nI q, a1, a2, a3, a4, a5, a6)) ∧ fX6_readPeople_L2 tape (nI n) fM (nI m) 0 (nI y) rd = some (nI q, 1, rd2, r)) ∨
    (∃ x2 y2 m2 kinds2 loves2 many2 sets2 chalk2 rd2, x2 ≤ n ∧ y2 ≤ n ∧ skp tape n x2 = skp tape n y2 ∧ 1 ≤ m2 ∧ m2 ≤ 6 ∧ fX3_tellPeople_L2 (nI n) letters fX (nI m) (nI x) chalk many sets kinds loves (nI m) = some (Sum.inr (nI x2, nI m2, kinds2, loves2, many2, sets2, chalk2)) ∧ fX6_readPeople_L2 tape (nI n) fM (nI m) 0 (nI y) rd = some (nI y2, 0, rd2, nI m2) ∧ TR (nI m2) fewest kinds2 loves2 many2 sets2 chalk2 wet harvest draw (apN rd2 g0 m2) ∧ RK rd2 m2) ∨
    (∃ x2 q a1 a2 a3 a4 a5 a6 rd2 r, x2 ≤ n ∧ q < n ∧ skp tape n x2 = q ∧ fX3_tellPeople_L2 (nI n) letters fX (nI m) (nI x) chalk many sets kinds loves (nI m) = some (Sum.inr (nI x2, a1, a2, a3, a4, a5, a6)) ∧ fX6_readPeople_L2 tape (nI n) fM (nI m) 0 (nI y) rd = some (nI q, 1, rd2, r)) := by
  have hn := hA.1
  intro d
  induction d with
  | zero =>
    intro fX fM m x y rd kinds loves many sets chalk hm hX hM hx hy e hT hR
    obtain ⟨mX, rfl⟩ : ∃ m, fX = m + 1 := ⟨fX - 1, by omega⟩
    obtain ⟨mM, rfl⟩ : ∃ m, fM = m + 1 + 1 := ⟨fM - 2, by omega⟩
    have e6 : m = 6 := by omega
    subst e6
    rw [fX3_tellPeople_L2, if_pos (show (6 : Int32) ≤ nI 6 by decide), pplM, if_pos rfl, if_neg (show ¬ nI 6 = 0 by decide)]
    obtain ⟨q, q1, q2, q3, q4, q5, ⟨z, e1, e2⟩ | ⟨z, c, k1, k2, k3, e1, e2⟩⟩ := nx2 hA hx hy e
    · rw [e2, bS2, if_neg (show ¬ (0 : Int32) = 44 by decide)]
      exact Or.inr (Or.inl ⟨x, q, 6, _, _, _, _, _, rd, hx, q3, by rw [q4, q5], by decide, by decide, rfl, rfl, hT, hR⟩)
    · rw [e2, bS2]
      by_cases c44 : c = 44
      · subst c44
        rw [if_pos (show nI 44 = 44 from rfl), if_neg (show ¬ nI 6 ≤ 0 by decide), if_pos (show (6 : Int32) ≤ nI 6 by decide), bS1, must_0, bS2, bS2, bdM_F, pplF]
        exact Or.inr (Or.inr ⟨x, q, _, _, _, _, _, _, _, _, hx, z, q4, rfl, rfl⟩)
      · rw [if_neg (show ¬ nI c = 44 from ne_n (b := 44) c44 (by omega) (by decide))]
        exact Or.inr (Or.inl ⟨x, q, 6, _, _, _, _, _, rd, hx, q3, by rw [q4, q5], by decide, by decide, rfl, rfl, hT, hR⟩)
  | succ d ih =>
    intro fX fM m x y rd kinds loves many sets chalk hm hX hM hx hy e hT hR
    obtain ⟨mX, rfl⟩ : ∃ m, fX = m + 1 := ⟨fX - 1, by omega⟩
    obtain ⟨mM, rfl⟩ : ∃ m, fM = m + 1 + 1 := ⟨fM - 2, by omega⟩
    have c6 : ¬ (6 : Int32) ≤ nI m := nI_ge (b := 6) (by omega) (by decide)
    rw [fX3_tellPeople_L2, if_neg c6, pplM, if_pos rfl]
    by_cases m0 : m = 0
    · rw [if_pos (show nI m ≤ 0 by rw [m0]; decide), if_pos (show nI m = 0 by rw [m0]; rfl), if_pos (show nI m ≤ 0 by rw [m0]; decide), bS2]
      rcases onep hA (show m < 6 by omega) hT hx hy e rd with ⟨q, a1, a2, a3, a4, a5, a6, w1, w2, w3⟩ | ⟨x2, y2, k, l, c, S, T, many2, sets2, w1, w2, w3, w4, w5, w6, w7, w8, w9, w10, w11⟩
      · rw [w2, bS8, i00, w3, pplF]
        exact Or.inl ⟨q, _, _, _, _, _, _, _, _, w1, rfl, rfl⟩
      · rw [w9, bS8, i10, w10, nI_1]
        exact ih mX (mM + 1) (m + 1) x2 y2 _ _ _ _ _ _ (by omega) (by omega) (by omega) w1 w2 w3 (by
          show TR _ _ _ _ _ _ _ _ _ _ (ap1 _ (apN _ g0 m) m)
          rw [apN_cg m (fun j hj => rcd_o hj)]
          exact w11) (hR.add w4 w5 w6 w7 w8)
    · have n0 : ¬ nI m ≤ 0 := nI_nle (by omega) (by omega)
      rw [if_neg n0, if_neg (nI_ne0 (by omega) (by omega))]
      rcases takes2 hA hx hy e (k := 44) (by decide) (by decide) with ⟨p, p1, t1, t2⟩ | ⟨p, r, p1, p2, p3, t1, t2, t3⟩
      · rw [show fX3_takes letters (nI n) (nI x) 44 = some (1, nI (p + 1)) from t1, bS2, i10, t2, bS2, if_pos (show nI 44 = 44 from rfl), if_neg n0, if_neg c6, bS1, must_1, bS2, bS2]
        rcases onep hA (show m < 6 by omega) hT (show p + 1 ≤ n by omega) (show p + 1 ≤ n by omega) rfl rd with ⟨q, a1, a2, a3, a4, a5, a6, w1, w2, w3⟩ | ⟨x2, y2, k, l, c, S, T, many2, sets2, w1, w2, w3, w4, w5, w6, w7, w8, w9, w10, w11⟩
        · rw [w2, bS8, i00, w3, pplF]
          exact Or.inl ⟨q, _, _, _, _, _, _, _, _, w1, rfl, rfl⟩
        · rw [w9, bS8, i10, w10, nI_1]
          exact ih mX (mM + 1) (m + 1) x2 y2 _ _ _ _ _ _ (by omega) (by omega) (by omega) w1 w2 w3 (by
            show TR _ _ _ _ _ _ _ _ _ _ (ap1 _ (apN _ g0 m) m)
            rw [apN_cg m (fun j hj => rcd_o hj)]
            exact w11) (hR.add w4 w5 w6 w7 w8)
      · rw [show fX3_takes letters (nI n) (nI x) 44 = some (0, nI p) from t1, bS2, i00, t2, bS2, if_neg (show ¬ r = 44 from t3)]
        exact Or.inr (Or.inl ⟨p, p, m, _, _, _, _, _, rd, p1, p1, rfl, by omega, by omega, rfl, rfl, hT, hR⟩)
def ppM {β : Type} (tape : Nat → Int32) (typed x19 x20 : Int32) (rd : Nat → Int32) (K : Int32 → (Nat → Int32) → Int32 → Int32 → Option β) : Option β :=
  bd4 (fX6_readPeople tape typed x19 x20 rd) fun r22 x23 x24 f25 =>
  bd2 (if x24 = 0 then
      bd2 (fX6_here tape typed x23) fun r36 x37 =>
      if r36 = 0 then
        some (x37, 0)
      else
        some (x37, 1)
    else
      some (x23, 1)
    : Option (Int32 × Int32)) fun x32 x33 => K r22 f25 x32 x33
theorem ppM_F {β : Type} {p : Int32} {rd : Nat → Int32} (K : Int32 → (Nat → Int32) → Int32 → Int32 → Option β) : ppM tape (nI n) p 1 rd K = K 0 rd p 1 := by
  unfold ppM fX6_readPeople
  rw [show fl = 199999 + 1 from rfl, pplF, bS4, bS4, if_neg (by decide), bS2]
theorem ppl2 (hA : TA letters tape n) {g0 : Nat → Int32} {x : Nat} (hx : x ≤ n) (rd : Nat → Int32) (hT : TR (nI 0) fewest kinds loves many sets chalk wet harvest draw g0) :
    (∃ q a1 a2 a3 a4 a5 a6 r rd2, q ≤ n ∧ fX3_tellPeople letters (nI n) (nI x) (nI 0) kinds loves many sets chalk = some (0, nI q, a1, a2, a3, a4, a5, a6) ∧ ∀ (β : Type) (K : Int32 → (Nat → Int32) → Int32 → Int32 → Option β), ppM tape (nI n) (nI x) 0 rd K = K r rd2 (nI q) 1) ∨
    (∃ m2 kinds2 loves2 many2 sets2 chalk2 rd2, 1 ≤ m2 ∧ m2 ≤ 6 ∧ fX3_tellPeople letters (nI n) (nI x) (nI 0) kinds loves many sets chalk = some (1, nI n, nI m2, kinds2, loves2, many2, sets2, chalk2) ∧ (∀ (β : Type) (K : Int32 → (Nat → Int32) → Int32 → Int32 → Option β), ppM tape (nI n) (nI x) 0 rd K = K (nI m2) rd2 (nI n) 0) ∧ TR (nI m2) fewest kinds2 loves2 many2 sets2 chalk2 wet harvest draw (apN rd2 g0 m2) ∧ RK rd2 m2) := by
  have hn := hA.1
  unfold fX3_tellPeople ppM fX6_readPeople
  rcases ppl_L hA (g0 := g0) 6 fl fl 0 x x rd kinds loves many sets chalk (by decide) (by decide) (by decide) hx hx rfl hT (fun p hp => absurd hp (by omega)) with ⟨q, a1, a2, a3, a4, a5, a6, rd2, r, w1, w2, w3⟩ | ⟨x2, y2, m2, kinds2, loves2, many2, sets2, chalk2, rd2, w1, w2, w3, w4, w5, w6, w7, w8, w9⟩ | ⟨x2, q, a1, a2, a3, a4, a5, a6, rd2, r, w1, w2, w3, w4, w5⟩
  · rw [show fX3_tellPeople_L2 (nI n) letters fl 0 (nI x) chalk many sets kinds loves (nI 0) = _ from w2, bS1, show fX6_readPeople_L2 tape (nI n) fl 0 0 (nI x) rd = _ from w3]
    refine Or.inl ⟨q, a1, a2, a3, a4, a5, a6, r, rd2, w1, rfl, fun β K => ?_⟩
    rw [bS4, bS4, if_neg (by decide), bS2]
  · rw [show fX3_tellPeople_L2 (nI n) letters fl 0 (nI x) chalk many sets kinds loves (nI 0) = _ from w6, bS1, show fX6_readPeople_L2 tape (nI n) fl 0 0 (nI x) rd = _ from w7]
    obtain ⟨q, q1, q2, q3, q4, q5, ⟨z, e1, e2⟩ | ⟨z, c, k1, k2, k3, e1, e2⟩⟩ := nx2 hA w1 w2 w3
    · refine Or.inr ⟨m2, kinds2, loves2, many2, sets2, chalk2, rd2, w4, w5, ?_, fun β K => ?_, w8, w9⟩
      · show bd2 (fX3_next letters (nI n) (nI x2)) (fun r105 x106 => if r105 = -1 then some ((1 : Int32), x106, nI m2, kinds2, loves2, many2, sets2, chalk2) else some (0, x106, nI m2, kinds2, loves2, many2, sets2, chalk2)) = _
        rw [e1, bS2, if_pos rfl, z]
      · rw [bS4, bS4, if_pos rfl, e2, bS2, if_pos rfl, bS2, z]
    · refine Or.inl ⟨q, nI m2, kinds2, loves2, many2, sets2, chalk2, nI m2, rd2, q3, ?_, fun β K => ?_⟩
      · show bd2 (fX3_next letters (nI n) (nI x2)) (fun r105 x106 => if r105 = -1 then some ((1 : Int32), x106, nI m2, kinds2, loves2, many2, sets2, chalk2) else some (0, x106, nI m2, kinds2, loves2, many2, sets2, chalk2)) = _
        rw [e1, bS2, if_neg (fun w => ne_m1 (b := c) (by omega) w.symm)]
      · rw [bS4, bS4, if_pos rfl, e2, bS2, if_neg (nI_ne0 (by omega) (by omega)), bS2]
  · rw [show fX3_tellPeople_L2 (nI n) letters fl 0 (nI x) chalk many sets kinds loves (nI 0) = _ from w4, bS1, show fX6_readPeople_L2 tape (nI n) fl 0 0 (nI x) rd = _ from w5]
    obtain ⟨q', q1, q2, q3, q4, q5, ⟨z, e1, e2⟩ | ⟨z, c, k1, k2, k3, e1, e2⟩⟩ := nx2 hA w1 w1 rfl
    · omega
    · have eq : q' = q := q4.symm.trans w3
      subst eq
      refine Or.inl ⟨q', a1, a2, a3, a4, a5, a6, r, rd2, q3, ?_, fun β K => ?_⟩
      · show bd2 (fX3_next letters (nI n) (nI x2)) (fun r105 x106 => if r105 = -1 then some ((1 : Int32), x106, a1, a2, a3, a4, a5, a6) else some (0, x106, a1, a2, a3, a4, a5, a6)) = _
        rw [e1, bS2, if_neg (fun w => ne_m1 (b := c) (by omega) w.symm)]
      · rw [bS4, bS4, if_neg (by decide), bS2]
end RW
