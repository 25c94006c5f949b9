/-! ===== a text is read: the whole ===== -/
section RX
variable {letters tape : Nat → Int32} {n : Nat}
variable {people fewest : Int32} {kinds loves many sets chalk : Nat → Int32} {wet harvest draw : Int32} {now g g0 rd : Nat → Int32}
theorem ap1_0 {m : Nat} : ap1 rd g m 0 = nI (m + 1) := by
  unfold ap1
  rw [fo_addw, if_neg (by omega), sN_0]
theorem ap1_l {m p : Nat} (hp : p < 6) : ap1 rd g m (6 + 3 * p) = if p = m then rd (5 * m + 1) else g (6 + 3 * p) := by
  unfold ap1
  rw [fo_addw, if_neg (by omega), sN_l hp]
theorem ap1_c {m p : Nat} (hp : p < 6) : ap1 rd g m (7 + 3 * p) = if p = m then rd (5 * m + 2) else g (7 + 3 * p) := by
  unfold ap1
  rw [fo_addw, if_neg (by omega), sN_c hp]
theorem ap1_h {m p h : Nat} (hm : m < 6) (hh : h < 12) : ap1 rd g m (23 + (12 * p + h)) = if p = m then 1 + w183 rd m h else g (23 + (12 * p + h)) := by
  unfold ap1
  rw [fo_addw, sN_h hm, fo_upd]
  by_cases d : p = m
  · subst d
    rw [if_pos (by omega), if_pos (by omega), if_pos rfl, show 23 + (12 * p + h) - (23 + 12 * p) = h by omega]
  · rw [if_neg (by omega), if_neg (by omega), if_neg d]
theorem apN_0 (h0 : g0 0 = nI 0) : ∀ m, apN rd g0 m 0 = nI m
  | 0 => h0
  | _ + 1 => ap1_0
theorem apN_l : ∀ m, m ≤ 6 → ∀ p, p < m → apN rd g0 m (6 + 3 * p) = rd (5 * p + 1) := by
  intro m
  induction m with
  | zero => intro _ p hp; omega
  | succ m ih =>
    intro hm p hp
    show ap1 rd (apN rd g0 m) m (6 + 3 * p) = _
    rw [ap1_l (by omega)]
    by_cases d : p = m
    · rw [if_pos d, d]
    · rw [if_neg d]; exact ih (by omega) p (by omega)
theorem apN_c : ∀ m, m ≤ 6 → ∀ p, p < m → apN rd g0 m (7 + 3 * p) = rd (5 * p + 2) := by
  intro m
  induction m with
  | zero => intro _ p hp; omega
  | succ m ih =>
    intro hm p hp
    show ap1 rd (apN rd g0 m) m (7 + 3 * p) = _
    rw [ap1_c (by omega)]
    by_cases d : p = m
    · rw [if_pos d, d]
    · rw [if_neg d]; exact ih (by omega) p (by omega)
theorem apN_h : ∀ m, m ≤ 6 → ∀ p, p < m → ∀ h, h < 12 → apN rd g0 m (23 + (12 * p + h)) = 1 + w183 rd p h := by
  intro m
  induction m with
  | zero => intro _ p hp; omega
  | succ m ih =>
    intro hm p hp h hh
    show ap1 rd (apN rd g0 m) m (23 + (12 * p + h)) = _
    rw [ap1_h (by omega) hh]
    by_cases d : p = m
    · rw [if_pos d, d]
    · rw [if_neg d]; exact ih (by omega) p (by omega) h hh
theorem NB.small : ∀ m {f : Nat → Int32}, (∀ p, p < m → 0 ≤ (f p).toInt ∧ (f p).toInt ≤ 1000000) → NB m f := by
  intro m
  induction m with
  | zero => intro f _; exact ⟨fun p hp => absurd hp (by omega), by show (0 : Int) ≤ _; omega⟩
  | succ m ih =>
    intro f h
    exact NB.add (ih (fun p hp => h p (by omega))) (fun _ _ => rfl) (h m (by omega)).1 (h m (by omega)).2
theorem w_small (a b : Bool) : 0 ≤ ((1 : Int32) + (nI (if a = true then 1 else 0) - nI (if b = true then 1 else 0))).toInt ∧ ((1 : Int32) + (nI (if a = true then 1 else 0) - nI (if b = true then 1 else 0))).toInt ≤ 1000000 := by
  cases a <;> cases b <;> decide
theorem NI.read {m : Nat} (hm : m ≤ 6) (h0 : g0 0 = nI 0) (hR : RK rd m) : NI (apN rd g0 m) := by
  unfold NI
  rw [apN_0 h0, nI_clamp (by omega)]
  refine ⟨NB.small m (fun p hp => ?_), fun h hh => NB.small m (fun p hp => ?_)⟩
  · obtain ⟨k, l, c, S, T, -, -, hc, -, -, -, -, e, -, -⟩ := hR p hp
    rw [apN_c m hm p hp, e, nI_toInt (by omega)]
    omega
  · obtain ⟨k, l, c, S, T, -, -, -, hS, hT, -, -, -, e1, e2⟩ := hR p hp
    show 0 ≤ (apN rd g0 m (23 + (12 * p + h))).toInt ∧ (apN rd g0 m (23 + (12 * p + h))).toInt ≤ 1000000
    rw [apN_h m hm p hp h hh]
    unfold w183
    rw [e1, e2, bit_n (by omega) (by omega), bit_n (by omega) (by omega)]
    exact w_small _ _
theorem read144 {m : Nat} (hm : m ≤ 6) (h0 : g0 0 = nI 0) : ∀ d f p u, p + d = m → d < f → fX6_read_L144 (nI m) rd f (nI p) (apN rd g0 p) u = some (apN rd g0 m, if d = 0 then u else 0) := by
  intro d
  induction d with
  | zero =>
    intro f p u hp hf
    obtain ⟨q, rfl⟩ : ∃ q, f = q + 1 := ⟨f - 1, by omega⟩
    have : p = m := by omega
    subst this
    rw [fX6_read_L144, if_pos (le_ge (Nat.le_refl _) (by omega)), if_pos rfl]
  | succ d ih =>
    intro f p u hp hf
    obtain ⟨q, rfl⟩ : ∃ q, f = q + 1 := ⟨f - 1, by omega⟩
    rw [fX6_read_L144, if_neg (nI_ge (by omega) (by omega)), show (5 : Int32) * nI p + 1 = nI (5 * p + 1) from i5m p 1, show (5 : Int32) * nI p + 2 = nI (5 * p + 2) from i5m p 2, i5z, ix_n (by omega) (by decide), bS1, ix_n (by omega) (by decide), bS1, ix_n (by omega) (by decide), bS1, comes2 (show p < 6 by omega) (apN_0 h0 p), bS2, read183 (show p < 6 by omega), bS1, nI_1]
    have := ih q (p + 1) 0 (by omega) (by omega)
    rw [show apN rd g0 (p + 1) = ap1 rd (apN rd g0 p) p from rfl] at this
    rw [show fo (fun g j => upd g (23 + 12 * p + j) (g (23 + 12 * p + j) + w183 rd p j)) (sN (apN rd g0 p) p (rd (5 * p)) (rd (5 * p + 1)) (rd (5 * p + 2))) 0 12 = ap1 rd (apN rd g0 p) p from rfl, this, if_neg (show ¬ d + 1 = 0 by omega)]
    by_cases c : d = 0
    · rw [if_pos c]
    · rw [if_neg c]
def lvB (rd : Nat → Int32) (m p : Nat) : Bool := decide (rd (5 * p + 1) < nI m)
theorem there_x {m : Nat} (hm : m ≤ 6) (hl : ∀ p, p < m → loves p = rd (5 * p + 1)) : fX3_lovesAreThere (nI m) loves = some (if allB (lvB rd m) 0 m then 1 else 0) := by
  have key : ∀ d f p, p + d = m → d < f → fX3_lovesAreThere_L2 loves (nI m) f (nI p) = some (if allB (lvB rd m) p d then Sum.inr () else Sum.inl 0) := by
    intro d
    induction d with
    | zero =>
      intro f p hp hf
      obtain ⟨q, rfl⟩ : ∃ q, f = q + 1 := ⟨f - 1, by omega⟩
      rw [fX3_lovesAreThere_L2, if_pos (le_ge (by omega) (by omega))]
      rfl
    | succ d ih =>
      intro f p hp hf
      obtain ⟨q, rfl⟩ : ∃ q, f = q + 1 := ⟨f - 1, by omega⟩
      rw [fX3_lovesAreThere_L2, if_neg (nI_ge (by omega) (by omega)), ix_n (show p < 6 by omega) (by decide), bS1, hl p (by omega), nI_1]
      show _ = some (if (lvB rd m p && allB (lvB rd m) (p + 1) d) = true then Sum.inr () else Sum.inl 0)
      by_cases c : rd (5 * p + 1) < nI m
      · rw [if_pos c, ih q (p + 1) (by omega) (by omega), show lvB rd m p = true from decide_eq_true c, Bool.true_and]
      · rw [if_neg c, show lvB rd m p = false from decide_eq_false c, Bool.false_and, if_neg (by decide)]
  unfold fX3_lovesAreThere
  rw [show fX3_lovesAreThere_L2 loves (nI m) fl 0 = _ from key m fl 0 (by omega) (by unfold fl; omega), bS1]
  split <;> rfl
theorem there_m {m : Nat} (hm : m ≤ 6) : fX6_areThere rd (nI m) = some (if allB (lvB rd m) 0 m then 1 else 0) := by
  have key : ∀ d f p (b : Bool), p + d = m → d < f → fX6_areThere_L4 (nI m) rd f (if b then 1 else 0) (nI p) = some (if (b && allB (lvB rd m) p d) then 1 else 0) := by
    intro d
    induction d with
    | zero =>
      intro f p b hp hf
      obtain ⟨q, rfl⟩ : ∃ q, f = q + 1 := ⟨f - 1, by omega⟩
      rw [fX6_areThere_L4, if_pos (le_ge (by omega) (by omega))]
      show _ = some (if (b && true) = true then 1 else 0)
      rw [Bool.and_true]
    | succ d ih =>
      intro f p b hp hf
      obtain ⟨q, rfl⟩ : ∃ q, f = q + 1 := ⟨f - 1, by omega⟩
      rw [fX6_areThere_L4, if_neg (nI_ge (by omega) (by omega)), show (5 : Int32) * nI p + 1 = nI (5 * p + 1) from i5m p 1, ix_n (by omega) (by decide), bS1, nI_1]
      show _ = some (if (b && (lvB rd m p && allB (lvB rd m) (p + 1) d)) = true then 1 else 0)
      have e : (if (if b = true then (1 : Int32) else 0) = 0 then some (0 : Int32) else if nI m ≤ rd (5 * p + 1) then some 0 else some 1) = some (if (b && lvB rd m p) = true then 1 else 0) := by
        unfold lvB
        cases b
        · rfl
        · rw [if_neg (by decide)]
          by_cases c : rd (5 * p + 1) < nI m
          · rw [if_neg (Int32.not_le.mpr c), decide_eq_true c]; rfl
          · rw [if_pos (Int32.not_lt.mp c), decide_eq_false c]; rfl
      rw [e, bS1, ih q (p + 1) _ (by omega) (by omega), Bool.and_assoc]
  unfold fX6_areThere
  rw [show fX6_areThere_L4 (nI m) rd fl 1 0 = _ from key m fl 0 true (by omega) (by unfold fl; omega), bS1, Bool.true_and]
  split <;> rfl
/-- the reference's reading, behind the Sundays -/
def rdR (m_now m_tape : Nat → Int32) (m_typed : Int32) (m_read : Nat → Int32) (m_undos x3 x4 x19 x20 : Int32) : Option (Int32 × (Nat → Int32) × Int32 × Int32 × Int32 × Int32 × Int32 × (Nat → Int32) × Int32) :=
  ppM m_tape m_typed x19 x20 m_read fun r22 f25 x32 x33 =>
  bd0 (isb x33) <|
  bd2 (if x33 = 0 then
      bd1 (fX6_areThere f25 r22) fun r49 =>
      if r49 = 0 then
        some (m_typed, 1)
      else
        some (x32, x33)
    else
      some (x32, x33)
    : Option (Int32 × Int32)) fun x45 x46 =>
  if x46 = 0 then
    bd1 (ix 0 95) fun j53 =>
    bd1 (ix 2 95) fun j55 =>
    bd1 (ix 3 95) fun j57 =>
    bd2 (fX6_read_L144 r22 f25 fl 0 (upd (upd (upd m_now j53 0) j55 x3) j57 x4) m_undos) fun q146 o147 =>
    some (r22, q146, 0, x45, x46, x3, x4, f25, o147)
  else
    some (((-20) - x45), m_now, 0, x45, x46, x3, x4, f25, m_undos)
theorem rdR_u (typed undos : Int32) : fX6_read now tape typed rd undos = bd4 (fX6_readSundays tape typed 0 0) fun x1 x2 x3 x4 => bd2 (if x2 = 0 then bd2 (fX6_here tape typed x1) fun r15 x16 => if r15 = 59 then some (x16, 1) else some (x16, 0) else some (x1, 0) : Option (Int32 × Int32)) fun x11 x12 => bd2 (fX6_must x11 x2 x12) fun x19 x20 => rdR now tape typed rd undos x3 x4 x19 x20 := rfl
theorem rdR_F {undos a b q : Int32} : rdR now tape (nI n) rd undos a b q 1 = some (-20 - q, now, 0, q, 1, a, b, rd, undos) := by
  unfold rdR
  rw [ppM_F, isb1, bS0, if_neg (by decide), bS2, if_neg (by decide)]
/-- the town that a text is read into -/
theorem TR.blank (hT : TR people fewest kinds loves many sets chalk wet harvest draw now) (a1 a2 a3 a4 a5 : Nat → Int32) {w v : Nat} (hw : w < 64) (hv : v < 64) : TR (nI 0) fewest (va_cpy kinds a1 0 0 6) (va_cpy loves a2 0 0 6) (va_cpy many a3 0 0 72) (va_cpy sets a4 0 0 6) (va_cpy chalk a5 0 0 6) (nI w) (nI v) draw (upd (upd (upd now 0 0) 2 (nI w)) 3 (nI v)) := by
  have eo : ∀ j, j ≠ 0 → j ≠ 2 → j ≠ 3 → upd (upd (upd now 0 0) 2 (nI w)) 3 (nI v) j = now j := fun j h1 h2 h3 => by rw [pk_un h3, pk_un h2, pk_un h1]
  have e2 : upd (upd (upd now 0 0) 2 (nI w)) 3 (nI v) 2 = nI w := by rw [pk_un (by decide), pk_us]
  have e0 : upd (upd (upd now 0 0) 2 (nI w)) 3 (nI v) 0 = nI 0 := by rw [pk_un (by decide), pk_un (by decide), pk_us]; rfl
  obtain ⟨b1, b2, b3, b4, c1, c2, c3, c4, c5, c6, c7, c8, c9⟩ := hT
  refine ⟨⟨e0.symm, 0, by decide, e0⟩, by rw [eo 1 (by decide) (by decide) (by decide)]; exact b2, fun p hp => ?_, fun p hp => ?_, fun j hj => ?_, fun p hp => ?_, fun p hp => ?_, e2.symm, pk_us.symm, ?_, ⟨w, hw, e2⟩, ⟨v, hv, pk_us⟩, ?_⟩
  · rw [eo _ (by omega) (by omega) (by omega), sb_cpy0 hp]; exact b3 p hp
  · rw [eo _ (by omega) (by omega) (by omega), sb_cpy0 hp]; exact b4 p hp
  · show _ = upd (upd (upd now 0 0) 2 (nI w)) 3 (nI v) (23 + j)
    rw [eo _ (by omega) (by omega) (by omega), sb_cpy0 hj]; exact c1 j hj
  · show _ = upd (upd (upd now 0 0) 2 (nI w)) 3 (nI v) (7 + 3 * p)
    rw [eo _ (by omega) (by omega) (by omega), sb_cpy0 hp]; exact c2 p hp
  · rw [sb_cpy0 hp, c3 p hp]
    congr 1
    exact hvN_cg 12 (fun h _ => (eo _ (by omega) (by omega) (by omega)).symm)
  · rw [eo 4 (by decide) (by decide) (by decide)]; exact c6
  · rw [eo 4 (by decide) (by decide) (by decide)]; exact c9
end RX
