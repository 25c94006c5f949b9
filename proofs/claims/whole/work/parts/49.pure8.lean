/-! ===== the past ===== -/
theorem fo_shift : ∀ (d i : Nat) (g : Nat → Int32) (k : Nat), 81 ≤ i → fo (fun g j => upd g (j - 81) (g j)) g i d k = if i ≤ k + 81 ∧ k + 81 < i + d then g (k + 81) else g k := by
  intro d
  induction d with
  | zero => intro i g k hi; rw [if_neg (by omega)]; rfl
  | succ d ih =>
    intro i g k hi
    show fo (fun g j => upd g (j - 81) (g j)) (upd g (i - 81) (g i)) (i + 1) d k = _
    rw [ih _ _ _ (by omega)]
    by_cases c : k + 81 = i
    · subst c
      rw [if_neg (by omega), if_pos (by omega), show k + 81 - 81 = k by omega, pk_us]
    · by_cases c2 : i + 1 ≤ k + 81 ∧ k + 81 < i + 1 + d
      · rw [if_pos c2, if_pos (by omega), pk_un (show k + 81 ≠ i - 81 by omega)]
      · rw [if_neg c2, if_neg (by omega), pk_un (show k ≠ i - 81 by omega)]
theorem n_b {a b : Nat} (h : b ≤ a) (ha : a < 2 ^ 31) : nI b ≤ nI a := nI_le h ha
theorem notes12L : ∀ d n (g : Nat → Int32) i, i + d = 648 → 81 ≤ i → d < n → fX6_notes_L12 n (nI i) g = some (fo (fun g j => upd g (j - 81) (g j)) g i d) := by
  intro d
  induction d with
  | zero =>
    intro n g i hi _ hn
    obtain ⟨m, rfl⟩ : ∃ m, n = m + 1 := ⟨n - 1, by omega⟩
    have : i = 648 := by omega
    subst this
    rw [fX6_notes_L12, if_pos (show (648 : Int32) ≤ nI 648 by decide)]
    rfl
  | succ d ih =>
    intro n g i hi h8 hn
    obtain ⟨m, rfl⟩ : ∃ m, n = m + 1 := ⟨n - 1, by omega⟩
    have e : nI i - 81 = nI (i - 81) := by
      apply Int32.toInt_inj.mp
      rw [show (81 : Int32) = nI 81 from rfl, pk_sub_toInt (a := i) (b := 81) (by omega) (by decide), nI_toInt (by omega)]
      omega
    rw [fX6_notes_L12, if_neg (show ¬ (648 : Int32) ≤ nI i from nI_ge (b := 648) (by omega) (by decide)), ix_n (by omega) (by decide), bS1, e, ix_n (by omega) (by decide), bS1, nI_1, ih m _ (i + 1) (by omega) (by omega) (by omega)]
    rfl
theorem i81 (k j : Nat) : (81 : Int32) * nI k + nI j = nI (81 * k + j) := by
  rw [show (81 : Int32) = nI 81 from rfl, pk_mul, nI_add]
section N8
variable {now : Nat → Int32}
theorem notes56 {x : Nat} (hx : x < 8) (g : Nat → Int32) : fX6_notes_L56 now (nI x) fl 0 g = some (fo (fun g j => upd g (81 * x + j) (now (2 + j))) g 0 3) :=
  rowL (fX6_notes_L56 now (nI x)) (fun g j => upd g (81 * x + j) (now (2 + j))) 3 (by decide) (fun n a => by rw [fX6_notes_L56, if_pos (by decide)]) (fun n a i hi => by
    rw [fX6_notes_L56, if_neg (show ¬ (3 : Int32) ≤ nI i from nI_ge (b := 3) hi (by decide)), show (2 : Int32) + nI i = nI (2 + i) from nI_add 2 i, ix_n (by omega) (by decide), bS1, i81, ix_n (by omega) (by decide), bS1, nI_1]) g
theorem notes85 {x : Nat} (hx : x < 8) (g : Nat → Int32) : fX6_notes_L85 now (nI x) fl 0 g = some (fo (fun g j => upd g (81 * x + 3 + j) (now (7 + 3 * j))) g 0 6) :=
  rowL (fX6_notes_L85 now (nI x)) (fun g j => upd g (81 * x + 3 + j) (now (7 + 3 * j))) 6 (by decide) (fun n a => by rw [fX6_notes_L85, if_pos (by decide)]) (fun n a i hi => by
    rw [fX6_notes_L85, if_neg (show ¬ (6 : Int32) ≤ nI i from nI_ge (b := 6) hi (by decide)), show (2 : Int32) = nI 2 from rfl, ofPerson_m now (by omega) (by decide), bS1, show (3 : Int32) = nI 3 from rfl, i81, nI_add, ix_n (by omega) (by decide), bS1, nI_1, show 5 + 3 * i + 2 = 7 + 3 * i by omega]) g
theorem notes115 {x : Nat} (hx : x < 8) (g : Nat → Int32) : fX6_notes_L115 now (nI x) fl 0 g = some (fo (fun g j => upd g (81 * x + 9 + j) (now (23 + j))) g 0 72) :=
  rowL (fX6_notes_L115 now (nI x)) (fun g j => upd g (81 * x + 9 + j) (now (23 + j))) 72 (by decide) (fun n a => by rw [fX6_notes_L115, if_pos (by decide)]) (fun n a i hi => by
    rw [fX6_notes_L115, if_neg (show ¬ (72 : Int32) ≤ nI i from nI_ge (b := 72) hi (by decide)), show (23 : Int32) + nI i = nI (23 + i) from nI_add 23 i, ix_n (by omega) (by decide), bS1, show (9 : Int32) = nI 9 from rfl, i81, nI_add, ix_n (by omega) (by decide), bS1, nI_1]) g
/-- what the notes' three loops leave -/
def ntd (now : Nat → Int32) (x : Nat) (g : Nat → Int32) : Nat → Int32 := fo (fun g j => upd g (81 * x + 9 + j) (now (23 + j))) (fo (fun g j => upd g (81 * x + 3 + j) (now (7 + 3 * j))) (fo (fun g j => upd g (81 * x + j) (now (2 + j))) g 0 3) 0 6) 0 72
theorem ntd_out {x : Nat} (g : Nat → Int32) {k : Nat} (h : k < 81 * x) : ntd now x g k = g k := by
  unfold ntd
  rw [fo_upd, if_neg (by omega), fo_upd, if_neg (by omega), fo_upd, if_neg (by omega)]
theorem ntd_a {x : Nat} (g : Nat → Int32) {j : Nat} (h : j < 3) : ntd now x g (81 * x + j) = now (2 + j) := by
  unfold ntd
  rw [fo_upd, if_neg (by omega), fo_upd, if_neg (by omega), fo_upd, if_pos (by omega)]
  congr 1
  omega
theorem ntd_b {x : Nat} (g : Nat → Int32) {j : Nat} (h : j < 6) : ntd now x g (81 * x + 3 + j) = now (7 + 3 * j) := by
  unfold ntd
  rw [fo_upd, if_neg (by omega), fo_upd, if_pos (by omega)]
  congr 1
  omega
theorem ntd_c {x : Nat} (g : Nat → Int32) {j : Nat} (h : j < 72) : ntd now x g (81 * x + 9 + j) = now (23 + j) := by
  unfold ntd
  rw [fo_upd, if_pos (by omega)]
  congr 1
  omega
end N8
section P8
variable {people fewest : Int32} {kinds loves many sets chalk : Nat → Int32} {wet harvest draw : Int32} {now : Nat → Int32}
variable {known : Int32} {pmany psets pchalk : Nat → Nat → Int32} {pwet pharvest pdraw : Nat → Int32} {undone : Nat → Int32} {undos : Int32}
/-- one more is known, on both sides -/
theorem PR.add {x : Nat} (hx : x < 8) (h : ∀ i, i < x → GR (pmany i) (psets i) (pchalk i) (pwet i) (pharvest i) (pdraw i) (undone (81 * i)) (undone (81 * i + 1)) (undone (81 * i + 2)) (fun p => undone (81 * i + 3 + p)) (fun j => undone (81 * i + 9 + j))) (hG : GR many sets chalk wet harvest draw (now 2) (now 3) (now 4) (fun p => now (7 + 3 * p)) (fun j => now (23 + j))) : PR (nI x + 1) (va_up pmany x (va_cpy many (pmany x) 0 0 72)) (va_up psets x (va_cpy sets (psets x) 0 0 6)) (va_up pchalk x (va_cpy chalk (pchalk x) 0 0 6)) (va_up pwet x wet) (va_up pharvest x harvest) (va_up pdraw x draw) (ntd now x undone) (nI x + 1) := by
  refine ⟨x + 1, by omega, nI_1 x, nI_1 x, fun i hi => ?_⟩
  by_cases c : i = x
  · subst c
    rw [up_s, up_s, up_s, up_s, up_s, up_s]
    refine hG.cg (fun j hj => ?_) (fun j hj => ?_) (fun j hj => ?_) rfl rfl rfl (ntd_a undone (j := 0) (by decide)) (ntd_a undone (j := 1) (by decide)) (ntd_a undone (j := 2) (by decide)) (fun j hj => ntd_b undone hj) (fun j hj => ntd_c undone hj)
    · rw [sb_cpy0 hj]
    · rw [sb_cpy0 hj]
    · rw [sb_cpy0 hj]
  · rw [up_n c, up_n c, up_n c, up_n c, up_n c, up_n c]
    exact (h i (by omega)).cg (fun _ _ => rfl) (fun _ _ => rfl) (fun _ _ => rfl) rfl rfl rfl (ntd_out undone (by omega)) (ntd_out undone (by omega)) (ntd_out undone (by omega)) (fun j hj => ntd_out undone (by omega)) (fun j hj => ntd_out undone (by omega))
theorem UI.add {n x : Nat} (hn : n ≤ 6) (hx : x < 8) (h : ∀ i, i < x → GI n (fun p => undone (81 * i + 3 + p)) (fun j => undone (81 * i + 9 + j))) (hG : GI n (fun p => now (7 + 3 * p)) (fun j => now (23 + j))) : UI n (ntd now x undone) (nI x + 1) := by
  refine ⟨x + 1, by omega, nI_1 x, fun i hi => ?_⟩
  by_cases c : i = x
  · subst c
    exact hG.cg hn (fun p hp => ntd_b undone hp) (fun j hj => ntd_c undone hj)
  · exact (h i (by omega)).cg hn (fun p hp => ntd_out undone (by omega)) (fun j hj => ntd_out undone (by omega))
theorem rot_l {α : Type} (f : Nat → α) {i : Nat} (h : i < 7) : rot8 f i = f (i + 1) := by
  unfold rot8
  rw [if_neg (by omega), if_pos h]
theorem t_remember (hP : PR known pmany psets pchalk pwet pharvest pdraw undone undos) (hG : GR many sets chalk wet harvest draw (now 2) (now 3) (now 4) (fun p => now (7 + 3 * p)) (fun j => now (23 + j))) (r0 r1 r2 r3 : Nat → Nat) : ∃ known_r s0 s1 s2 s3 many_r sets_r chalk_r wet_r harvest_r draw_r undone_r undos_r, fX1_remember known r0 r1 r2 r3 pmany psets pchalk pwet pharvest pdraw many sets chalk wet harvest draw = some (known_r, s0, s1, s2, s3, many_r, sets_r, chalk_r, wet_r, harvest_r, draw_r) ∧ fX6_notes now undone undos = some (undone_r, undos_r) ∧ PR known_r many_r sets_r chalk_r wet_r harvest_r draw_r undone_r undos_r ∧ ∀ n, n ≤ 6 → GI n (fun p => now (7 + 3 * p)) (fun j => now (23 + j)) → UI n undone undos → UI n undone_r undos_r := by
  obtain ⟨k, hk, e1, e2, h⟩ := hP
  unfold fX1_remember fX6_notes
  by_cases c : k = 8
  · subst c
    rw [e1, e2, if_pos (by decide), if_pos (by decide)]
    unfold fX1_loseOldest
    rw [bS11, bS11, show fX6_notes_L12 fl 81 undone = some _ from notes12L 567 fl undone 81 rfl (by decide) (by decide), bS1, bS2, show ix (7 : Int32) 8 = some 7 by decide, bS1]
    unfold fX0_copyGoods
    rw [bS6, show (7 : Int32) = nI 7 from rfl, notes56 (by decide), bS1, notes85 (by decide), bS1, notes115 (by decide), bS1]
    refine ⟨_, _, _, _, _, _, _, _, _, _, _, _, _, rfl, rfl, PR.add (by decide) (fun i hi => ?_) hG, fun n hn gi hu => UI.add hn (by decide) (fun i hi => ?_) gi⟩
    · rw [rot_l _ hi, rot_l _ hi, rot_l _ hi, rot_l _ hi, rot_l _ hi, rot_l _ hi]
      refine (h (i + 1) (by omega)).cg (fun _ _ => rfl) (fun _ _ => rfl) (fun _ _ => rfl) rfl rfl rfl ?_ ?_ ?_ (fun j hj => ?_) (fun j hj => ?_)
      · rw [fo_shift _ _ _ _ (by decide), if_pos (by omega)]; exact congrArg undone (by omega)
      · rw [fo_shift _ _ _ _ (by decide), if_pos (by omega)]; exact congrArg undone (by omega)
      · rw [fo_shift _ _ _ _ (by decide), if_pos (by omega)]; exact congrArg undone (by omega)
      · rw [fo_shift _ _ _ _ (by decide), if_pos (by omega)]; exact congrArg undone (by omega)
      · rw [fo_shift _ _ _ _ (by decide), if_pos (by omega)]; exact congrArg undone (by omega)
    · obtain ⟨k2, q1, q2, q3⟩ := hu
      have : k2 = 8 := (nI_eq (by omega) (by decide)).mp q2.symm
      subst this
      refine (q3 (i + 1) (by omega)).cg hn (fun j hj => ?_) (fun j hj => ?_)
      · rw [fo_shift _ _ _ _ (by decide), if_pos (by omega)]; exact congrArg undone (by omega)
      · rw [fo_shift _ _ _ _ (by decide), if_pos (by omega)]; exact congrArg undone (by omega)
  · have n8 : ¬ nI k = 8 := fun z => c ((nI_eq (b := 8) (by omega) (by decide)).mp z)
    rw [e1, e2, if_neg n8, if_neg n8, bS11, bS2, ix_n (by omega) (by decide), bS1]
    unfold fX0_copyGoods
    rw [bS6, notes56 (by omega), bS1, notes85 (by omega), bS1, notes115 (by omega), bS1]
    refine ⟨_, _, _, _, _, _, _, _, _, _, _, _, _, rfl, rfl, PR.add (by omega) h hG, fun n hn gi hu => UI.add hn (by omega) ?_ gi⟩
    obtain ⟨k2, q1, q2, q3⟩ := hu
    have : k2 = k := (nI_eq (by omega) (by omega)).mp q2.symm
    subst this
    exact q3
end P8
section I8
variable {now : Nat → Int32}
theorem NI.cg {now2 : Nat → Int32} (h : NI now) (hn : nP now ≤ 6) (e0 : now2 0 = now 0) (ec : ∀ p, p < 6 → now2 (7 + 3 * p) = now (7 + 3 * p)) (em : ∀ j, j < 72 → now2 (23 + j) = now (23 + j)) : NI now2 := by
  unfold NI
  rw [e0]
  exact GI.cg h hn ec em
theorem II.cg {now2 undone : Nat → Int32} {undos : Int32} (h : II now undone undos) (hn : nP now ≤ 6) (e0 : now2 0 = now 0) (ec : ∀ p, p < 6 → now2 (7 + 3 * p) = now (7 + 3 * p)) (em : ∀ j, j < 72 → now2 (23 + j) = now (23 + j)) : II now2 undone undos :=
  ⟨h.1.cg hn e0 ec em, by rw [e0]; exact h.2⟩
end I8
