/-! ===== sold, seized, given, made, undone ===== -/
section P9
variable {people fewest : Int32} {kinds loves many sets chalk : Nat → Int32} {wet harvest draw : Int32} {now : Nat → Int32}
variable {known : Int32} {pmany psets pchalk : Nat → Nat → Int32} {pwet pharvest pdraw : Nat → Int32} {undone : Nat → Int32} {undos : Int32}
theorem two_c (hT : TR people fewest kinds loves many sets chalk wet harvest draw now) (i j : Int32) : (∃ p q, p < nP now ∧ q < nP now ∧ p < 6 ∧ q < 6 ∧ p ≠ q ∧ i = nI p ∧ j = nI q ∧ fX4_areTwo people i j = some 1 ∧ fX6_areTwo now i j = some 1) ∨ (fX4_areTwo people i j = some 0 ∧ fX6_areTwo now i j = some 0) := by
  unfold fX4_areTwo fX6_areTwo
  rcases per_c hT i with ⟨p, p0, h1, h2, h3, h4⟩ | ⟨h3, h4⟩
  · simp only [h3, h4, bS1, i10]
    rcases per_c hT j with ⟨q, q0, g1, g2, g3, g4⟩ | ⟨g3, g4⟩
    · simp only [g3, g4, bS1, i10]
      by_cases c : i = j
      · rw [if_pos c]
        exact Or.inr ⟨rfl, rfl⟩
      · rw [if_neg c]
        exact Or.inl ⟨p, q, p0, q0, h1, g1, fun z => c (by rw [h2, g2, z]), h2, g2, rfl, rfl⟩
    · simp only [g3, g4, bS1, i00]
      exact Or.inr ⟨rfl, rfl⟩
  · simp only [h3, h4, bS1, i00]
    exact Or.inr ⟨rfl, rfl⟩
theorem gets_m (g : Nat → Int32) {p h : Nat} (hp : p < 6) (hh : h < 12) (v : Int32) : fX6_gets g (nI p) (nI h) v = some (upd g (23 + (12 * p + h)) (g (23 + (12 * p + h)) + v)) := by
  unfold fX6_gets
  rw [i23, ix_n (by omega) (by decide), bS1, show 23 + 12 * p + h = 23 + (12 * p + h) by omega]
theorem pays_m (g : Nat → Int32) {p : Nat} (hp : p < 6) (v : Int32) : fX6_pays g (nI p) v = some (upd g (7 + 3 * p) (g (7 + 3 * p) - v)) := by
  unfold fX6_pays
  rw [show (5 : Int32) + 3 * nI p + 2 = nI (7 + 3 * p) by rw [show (2 : Int32) = nI 2 from rfl, i5]; congr 1; omega, ix_n (by omega) (by decide), bS1]
/-- the row, after a half went from p to q -/
def gN (now : Nat → Int32) (p q h : Nat) : Nat → Int32 := upd (upd now (23 + (12 * p + h)) (now (23 + (12 * p + h)) + -1)) (23 + (12 * q + h)) (now (23 + (12 * q + h)) + 1)
theorem goes_m (now : Nat → Int32) {p q h : Nat} (hp : p < 6) (hq : q < 6) (hn : p ≠ q) (hh : h < 12) : fX6_goes now (nI p) (nI q) (nI h) = some (gN now p q h) := by
  unfold fX6_goes gN
  rw [gets_m now hp hh, bS1, gets_m _ hq hh, bS1, pk_un (show 23 + (12 * q + h) ≠ 23 + (12 * p + h) by omega)]
theorem gN_lo {p q h k : Nat} (hk : k < 23) : gN now p q h k = now k := by
  unfold gN
  rw [pk_un (by omega), pk_un (by omega)]
theorem gN_hi {p q h : Nat} : (fun j => gN now p q h (23 + j)) = upd (upd (fun j => now (23 + j)) (12 * p + h) (now (23 + (12 * p + h)) + -1)) (12 * q + h) (now (23 + (12 * q + h)) + 1) := by
  funext j
  unfold gN
  by_cases c : j = 12 * q + h
  · subst c; rw [pk_us, pk_us]
  · rw [pk_un c, pk_un (by omega)]
    by_cases d : j = 12 * p + h
    · subst d; rw [pk_us, pk_us]
    · rw [pk_un d, pk_un (by omega)]
theorem TR.move (hT : TR people fewest kinds loves many sets chalk wet harvest draw now) {p q h : Nat} (hp : p < 6) (hq : q < 6) (hn : p ≠ q) (hh : h < 12) : ∃ many2 sets2, fX0_move many sets (nI p) (nI q) (nI h) = some (many2, sets2) ∧ TR people fewest kinds loves many2 sets2 chalk wet harvest draw (gN now p q h) := by
  obtain ⟨m2, s2, e, g⟩ := GR.move hT.2.2.2.2 hp hq hn hh
  refine ⟨m2, s2, e, hT.re (gN_lo (by decide)) (gN_lo (by decide)) (fun p hp => gN_lo (by omega)) (fun p hp => gN_lo (by omega)) ?_⟩
  rw [gN_hi]
  exact g.cg (fun _ _ => rfl) (fun _ _ => rfl) (fun _ _ => rfl) rfl rfl rfl (gN_lo (by decide)) (gN_lo (by decide)) (gN_lo (by decide)) (fun j hj => gN_lo (by omega)) (fun _ _ => rfl)
theorem NI.move (h : NI now) (hn : nP now ≤ 6) {p q z : Nat} (hp : p < nP now) (hq : q < nP now) (hpq : p ≠ q) (hz : z < 12) (v : 0 < now (23 + (12 * p + z))) : NI (gN now p q z) := by
  unfold NI
  rw [gN_lo (by decide), gN_hi]
  exact (GI.move h hn hp hq hpq hz v).cg hn (fun y hy => gN_lo (by omega)) (fun _ _ => rfl)
/-- the row, after p paid q -/
def yN (now : Nat → Int32) (p q : Nat) (v : Int32) : Nat → Int32 := upd (upd now (7 + 3 * p) (now (7 + 3 * p) - v)) (7 + 3 * q) (now (7 + 3 * q) + v)
theorem pay_m (now : Nat → Int32) {p q : Nat} (hp : p < 6) (hq : q < 6) (hn : p ≠ q) (v : Int32) : fX6_pays (upd now (7 + 3 * p) (now (7 + 3 * p) - v)) (nI q) (-v) = some (yN now p q v) := by
  unfold yN
  rw [pays_m _ hq, pk_un (show 7 + 3 * q ≠ 7 + 3 * p by omega), Int32.sub_neg]
theorem yN_o {p q k : Nat} {v : Int32} (h : k ≠ 7 + 3 * p) (h2 : k ≠ 7 + 3 * q) : yN now p q v k = now k := by
  unfold yN
  rw [pk_un h2, pk_un h]
theorem TR.pay (hT : TR people fewest kinds loves many sets chalk wet harvest draw now) {p q : Nat} (hp : p < 6) (hq : q < 6) (hn : p ≠ q) (v : Int32) : ∃ chalk2, fX0_pay chalk (nI p) (nI q) v = some chalk2 ∧ TR people fewest kinds loves many sets chalk2 wet harvest draw (yN now p q v) := by
  obtain ⟨c2, e, g⟩ := GR.pay hT.2.2.2.2 hp hq hn v
  refine ⟨c2, e, hT.re (yN_o (by omega) (by omega)) (yN_o (by omega) (by omega)) (fun p hp => yN_o (by omega) (by omega)) (fun p hp => yN_o (by omega) (by omega)) ?_⟩
  refine g.cg (fun _ _ => rfl) (fun _ _ => rfl) (fun _ _ => rfl) rfl rfl rfl (yN_o (by omega) (by omega)) (yN_o (by omega) (by omega)) (yN_o (by omega) (by omega)) (fun j hj => ?_) (fun j hj => yN_o (by omega) (by omega))
  unfold yN
  by_cases c : j = q
  · subst c; rw [pk_us, pk_us]
  · rw [pk_un c, pk_un (by omega)]
    by_cases d : j = p
    · subst d; rw [pk_us, pk_us]
    · rw [pk_un d, pk_un (by omega)]
theorem NI.pay (h : NI now) (hn : nP now ≤ 6) {p q : Nat} (hp : p < nP now) (hq : q < nP now) (hpq : p ≠ q) {v : Int32} (v0 : 0 ≤ v.toInt) (v1 : v.toInt ≤ (now (7 + 3 * p)).toInt) : NI (yN now p q v) := by
  unfold NI
  rw [yN_o (by omega) (by omega)]
  refine (GI.pay h hn hp hq hpq v0 v1).cg hn (fun j hj => ?_) (fun j hj => yN_o (by omega) (by omega))
  unfold yN
  by_cases c : j = q
  · subst c; rw [pk_us, pk_us]
  · rw [pk_un c, pk_un (by omega)]
    by_cases d : j = p
    · subst d; rw [pk_us, pk_us]
    · rw [pk_un d, pk_un (by omega)]
theorem chalk_m (now : Nat → Int32) {p : Nat} (hp : p < 6) : fX6_ofPerson now (nI p) 2 = some (now (7 + 3 * p)) := by
  rw [show (2 : Int32) = nI 2 from rfl, ofPerson_m now hp (by decide), show 5 + 3 * p + 2 = 7 + 3 * p by omega]
/-- whether one may sell a half, chalk aside -/
def mayN (now : Nat → Int32) (p h : Nat) : Bool := hs now p h && (decide (nF now < bcN (setM now p)) || decide (1 < now (23 + 12 * p + h)))
theorem may_m (hk : OKM now) {p h : Nat} (hp : p < 6) (hh : h < 12) : fX6_maySell now (nI p) (nI h) = some (if mayN now p h then 1 else 0) := by
  unfold fX6_maySell mayN
  rw [hasOne_m now hp hh, bS1, halves_m hp, bS1, bc_m (setM_lt _ _), bS1, i1_95, bS1, manyOf_m now hp hh, bS1]
  have hb := bcN_le (setM now p)
  have e : now 1 < nI (bcN (setM now p)) ↔ nF now < bcN (setM now p) := by
    rw [hk.2.1.2, Int32.lt_iff_toInt_lt, nI_toInt (by have := hk.2.1.1; omega), nI_toInt (by omega)]
    omega
  cases hs now p h
  · rfl
  · by_cases c : nF now < bcN (setM now p)
    · rw [if_neg (by decide), if_pos (e.mpr c)]; simp [c]
    · rw [if_neg (by decide), if_neg (fun z => c (e.mp z))]
      by_cases d : 1 < now (23 + 12 * p + h)
      · rw [if_neg (Int32.not_le.mpr d)]; simp [c, d]
      · rw [if_pos (Int32.not_lt.mp d)]; simp [c, d]
theorem may_x (hT : TR people fewest kinds loves many sets chalk wet harvest draw now) {p q h : Nat} (hp : p < 6) (hq : q < 6) (hh : h < 12) (v : Int32) : fX4_maySell fewest many sets chalk (nI p) (nI q) (nI h) v = some (if mayN now p h = true ∧ v ≤ now (7 + 3 * q) then 1 else 0) := by
  have hk := hT.ok
  unfold fX4_maySell
  rw [manyOf_x (fun j hj => hT.e_many hj) hp hh, bS1, ix_n hp (by decide), bS1, hT.e_set hp, bc_x (setM_lt _ _), bS1, ix_n hq (by decide), bS1, hT.e_chalk hq]
  have hb := bcN_le (setM now p)
  have e : nI (bcN (setM now p)) ≤ fewest ↔ ¬ nF now < bcN (setM now p) := by
    rw [hT.e_fewest, Int32.le_iff_toInt_le, nI_toInt (by omega), nI_toInt (by have := hk.2.1.1; omega)]
    omega
  have f : hs now p h = decide (0 < now (23 + 12 * p + h)) := rfl
  unfold mayN
  rw [f]
  by_cases c0 : 0 < now (23 + 12 * p + h)
  · simp only [if_neg (Int32.not_le.mpr c0)]
    by_cases d : v ≤ now (7 + 3 * q)
    · simp only [if_neg (Int32.not_lt.mpr d)]
      by_cases c1 : 1 < now (23 + 12 * p + h)
      · rw [if_pos c1, bS1, if_neg (by decide)]; simp [c0, c1, d]
      · rw [if_neg c1]
        by_cases c2 : nF now < bcN (setM now p)
        · rw [if_neg (fun z => e.mp z c2), bS1, if_neg (by decide)]; simp [c0, c1, c2, d]
        · rw [if_pos (e.mpr c2), bS1, if_pos rfl]; simp [c1, c2]
    · simp only [if_pos (Int32.not_le.mp d)]
      simp only [d, and_false, if_false]
      by_cases c1 : 1 < now (23 + 12 * p + h)
      · rw [if_pos c1, bS1, if_neg (by decide)]
      · rw [if_neg c1]
        by_cases c2 : nF now < bcN (setM now p)
        · rw [if_neg (fun z => e.mp z c2), bS1, if_neg (by decide)]
        · rw [if_pos (e.mpr c2), bS1, if_pos rfl]
  · simp only [if_pos (Int32.not_lt.mp c0)]
    simp only [c0, decide_false, Bool.false_and]
    by_cases c1 : 1 < now (23 + 12 * p + h)
    · rw [if_pos c1, bS1]; rfl
    · rw [if_neg c1]
      by_cases c2 : nI (bcN (setM now p)) ≤ fewest
      · rw [if_pos c2, bS1]; rfl
      · rw [if_neg c2, bS1]; rfl
end P9
