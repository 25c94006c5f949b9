/-! ===== undone; people that come; images ===== -/
theorem nsub1 {k : Nat} (h : 1 ≤ k) (hk : k < 2 ^ 30) : nI k - 1 = nI (k - 1) := by
  apply Int32.toInt_inj.mp
  rw [show (1 : Int32) = nI 1 from rfl, pk_sub_toInt (a := k) (b := 1) hk (by decide), nI_toInt (by omega)]
  omega
theorem fo_at (e : Nat → Nat) (v : Nat → Int32) (he : ∀ a b, e a = e b → a = b) : ∀ (d i : Nat) (g : Nat → Int32) (j : Nat), i ≤ j → j < i + d → fo (fun g j => upd g (e j) (v j)) g i d (e j) = v j := by
  intro d
  induction d with
  | zero => intro i g j h1 h2; omega
  | succ d ih =>
    intro i g j h1 h2
    show fo (fun g j => upd g (e j) (v j)) (upd g (e i) (v i)) (i + 1) d (e j) = v j
    by_cases c : j = i
    · subst c
      have off : ∀ (d i : Nat) (g : Nat → Int32), j < i → fo (fun g j => upd g (e j) (v j)) g i d (e j) = g (e j) := by
        intro d
        induction d with
        | zero => intro i g _; rfl
        | succ d ih2 =>
          intro i g h
          show fo (fun g j => upd g (e j) (v j)) (upd g (e i) (v i)) (i + 1) d (e j) = _
          rw [ih2 _ _ (by omega), pk_un (fun z => by have := he _ _ z; omega)]
      rw [off d _ _ (by omega), pk_us]
    · exact ih (i + 1) _ j (by omega) (by omega)
theorem fo_off (e : Nat → Nat) (v : Nat → Int32) {k : Nat} : ∀ (d i : Nat) (g : Nat → Int32), (∀ j, i ≤ j → j < i + d → k ≠ e j) → fo (fun g j => upd g (e j) (v j)) g i d k = g k := by
  intro d
  induction d with
  | zero => intro i g _; rfl
  | succ d ih =>
    intro i g h
    show fo (fun g j => upd g (e j) (v j)) (upd g (e i) (v i)) (i + 1) d k = g k
    rw [ih (i + 1) _ (fun j h1 h2 => h j (by omega) (by omega)), pk_un (h i (by omega) (by omega))]
section UB
variable {people fewest : Int32} {kinds loves many sets chalk : Nat → Int32} {wet harvest draw : Int32} {now : Nat → Int32}
variable {known : Int32} {pmany psets pchalk : Nat → Nat → Int32} {pwet pharvest pdraw : Nat → Int32} {undone : Nat → Int32} {undos : Int32}
theorem undo30 {k : Nat} (h1 : 1 ≤ k) (hk : k ≤ 8) (g : Nat → Int32) : fX6_undo_L30 undone (nI k) fl 0 g = some (fo (fun g j => upd g (2 + j) (undone (81 * (k - 1) + j))) g 0 3) :=
  rowL (fX6_undo_L30 undone (nI k)) (fun g j => upd g (2 + j) (undone (81 * (k - 1) + j))) 3 (by decide) (fun n a => by rw [fX6_undo_L30, if_pos (by decide)]) (fun n a i hi => by
    rw [fX6_undo_L30, if_neg (show ¬ (3 : Int32) ≤ nI i from nI_ge (b := 3) hi (by decide)), nsub1 h1 (by omega), i81, ix_n (by omega) (by decide), bS1, show (2 : Int32) + nI i = nI (2 + i) from nI_add 2 i, ix_n (by omega) (by decide), bS1, nI_1]) g
theorem undo59 {k : Nat} (h1 : 1 ≤ k) (hk : k ≤ 8) (g : Nat → Int32) : fX6_undo_L59 undone (nI k) fl 0 g = some (fo (fun g j => upd g (7 + 3 * j) (undone (81 * (k - 1) + 3 + j))) g 0 6) :=
  rowL (fX6_undo_L59 undone (nI k)) (fun g j => upd g (7 + 3 * j) (undone (81 * (k - 1) + 3 + j))) 6 (by decide) (fun n a => by rw [fX6_undo_L59, if_pos (by decide)]) (fun n a i hi => by
    rw [fX6_undo_L59, if_neg (show ¬ (6 : Int32) ≤ nI i from nI_ge (b := 6) hi (by decide)), nsub1 h1 (by omega), show (5 : Int32) + 3 * nI i + 2 = nI (7 + 3 * i) by rw [show (2 : Int32) = nI 2 from rfl, i5]; congr 1; omega, show (3 : Int32) = nI 3 from rfl, i81, nI_add, ix_n (by omega) (by decide), bS1, ix_n (by omega) (by decide), bS1, nI_1]) g
theorem undo95 {k : Nat} (h1 : 1 ≤ k) (hk : k ≤ 8) (g : Nat → Int32) : fX6_undo_L95 undone (nI k) fl 0 g = some (fo (fun g j => upd g (23 + j) (undone (81 * (k - 1) + 9 + j))) g 0 72) :=
  rowL (fX6_undo_L95 undone (nI k)) (fun g j => upd g (23 + j) (undone (81 * (k - 1) + 9 + j))) 72 (by decide) (fun n a => by rw [fX6_undo_L95, if_pos (by decide)]) (fun n a i hi => by
    rw [fX6_undo_L95, if_neg (show ¬ (72 : Int32) ≤ nI i from nI_ge (b := 72) hi (by decide)), nsub1 h1 (by omega), show (9 : Int32) = nI 9 from rfl, i81, nI_add, ix_n (by omega) (by decide), bS1, show (23 : Int32) + nI i = nI (23 + i) from nI_add 23 i, ix_n (by omega) (by decide), bS1, nI_1]) g
/-- what undo's three loops leave -/
def und (u : Nat → Int32) (x : Nat) (g : Nat → Int32) : Nat → Int32 := fo (fun g j => upd g (23 + j) (u (81 * x + 9 + j))) (fo (fun g j => upd g (7 + 3 * j) (u (81 * x + 3 + j))) (fo (fun g j => upd g (2 + j) (u (81 * x + j))) g 0 3) 0 6) 0 72
theorem und_a {x j : Nat} {g : Nat → Int32} (h : j < 3) : und undone x g (2 + j) = undone (81 * x + j) := by
  unfold und
  rw [fo_upd, if_neg (by omega), fo_off (fun j => 7 + 3 * j) _ 6 0 _ (fun z _ _ => by show 2 + j ≠ 7 + 3 * z; omega), fo_upd, if_pos (by omega)]
  congr 1
  omega
theorem und_b {x j : Nat} {g : Nat → Int32} (h : j < 6) : und undone x g (7 + 3 * j) = undone (81 * x + 3 + j) := by
  unfold und
  rw [fo_upd, if_neg (by omega)]
  exact fo_at (fun j => 7 + 3 * j) (fun j => undone (81 * x + 3 + j)) (fun a b z => by have z2 : 7 + 3 * a = 7 + 3 * b := z; omega) 6 0 _ j (by omega) (by omega)
theorem und_c {x j : Nat} {g : Nat → Int32} (h : j < 72) : und undone x g (23 + j) = undone (81 * x + 9 + j) := by
  unfold und
  rw [fo_upd, if_pos (by omega)]
  congr 1
  omega
theorem und_o {x k : Nat} {g : Nat → Int32} (h : k < 2 ∨ 5 ≤ k ∧ k < 23 ∧ k % 3 ≠ 1) : und undone x g k = g k := by
  unfold und
  rw [fo_upd, if_neg (by omega), fo_off (fun j => 7 + 3 * j) _ 6 0 _ (fun z _ _ => by show k ≠ 7 + 3 * z; omega), fo_upd, if_neg (by omega)]
theorem t_undo (hT : TR people fewest kinds loves many sets chalk wet harvest draw now) (hP : PR known pmany psets pchalk pwet pharvest pdraw undone undos) (hI : II now undone undos) : ∃ r many_r sets_r chalk_r wet_r harvest_r draw_r known_r now_r undos_r, fX5_undo many sets chalk wet harvest draw known pmany psets pchalk pwet pharvest pdraw = some (r, many_r, sets_r, chalk_r, wet_r, harvest_r, draw_r, known_r) ∧ fX6_undo now undone undos = some (r, now_r, undos_r) ∧ TR people fewest kinds loves many_r sets_r chalk_r wet_r harvest_r draw_r now_r ∧ PR known_r pmany psets pchalk pwet pharvest pdraw undone undos_r ∧ II now_r undone undos_r := by
  have hn6 := hT.ok.1.1
  obtain ⟨k, hk, e1, e2, h⟩ := hP
  unfold fX5_undo fX6_undo
  by_cases c : k = 0
  · subst c
    rw [e1, e2, if_pos (by decide), if_pos (by decide)]
    exact ⟨_, _, _, _, _, _, _, _, _, _, rfl, rfl, hT, ⟨0, by decide, rfl, rfl, h⟩, by rw [← e2]; exact hI⟩
  · have n0 : ¬ nI k = 0 := fun z => c ((nI_eq (b := 0) (by omega) (by decide)).mp z)
    have n1 : ¬ nI k ≤ 0 := fun z => c (by have := (nle (a := k) (b := 0) (by omega) (by decide)).mp z; omega)
    rw [e1, e2, if_neg n0, if_neg n0, undo30 (by omega) hk, bS1, undo59 (by omega) hk, bS1, undo95 (by omega) hk, bS1]
    unfold fX1_bringBack
    rw [if_neg n1, nsub1 (by omega) (by omega), ix_n (by omega) (by decide), bS1]
    unfold fX0_copyGoods
    rw [bS6, bS7]
    refine ⟨_, _, _, _, _, _, _, _, _, _, rfl, rfl, hT.re (now2 := und undone (k - 1) now) (und_o (by omega)) (und_o (by omega)) (fun p hp => und_o (by omega)) (fun p hp => und_o (by omega)) ?_, ⟨k - 1, by omega, rfl, rfl, fun i hi => h i (by omega)⟩, ?_⟩
    exact (h (k - 1) (by omega)).cg (fun j hj => sb_cpy0 hj) (fun j hj => sb_cpy0 hj) (fun j hj => sb_cpy0 hj) rfl rfl rfl (und_a (j := 0) (by decide)) (und_a (j := 1) (by decide)) (und_a (j := 2) (by decide)) (fun j hj => und_b hj) (fun j hj => und_c hj)
    obtain ⟨-, k2, q1, q2, q3⟩ := hI
    have : k2 = k := (nI_eq (by omega) (by omega)).mp (q2.symm.trans e2)
    subst this
    have u0 : und undone (k2 - 1) now 0 = now 0 := und_o (by omega)
    show II (und undone (k2 - 1) now) undone (nI (k2 - 1))
    refine ⟨?_, k2 - 1, by omega, rfl, fun i hi => by rw [u0]; exact q3 i (by omega)⟩
    unfold NI
    rw [u0]
    exact (q3 (k2 - 1) (by omega)).cg hn6 (fun j hj => und_b hj) (fun j hj => und_c hj)
/-- twelve halves, one each -/
theorem settle_L {mw mh md : Int32} {mc : Nat → Int32} {p : Nat} (hp : p < 6) : ∀ d n i (many sets mm : Nat → Int32), i + d = 12 → d < n → GR many sets chalk wet harvest draw mw mh md mc mm → ∃ many2 sets2, fX4_settle_L54 (nI p) n (nI i) many sets = some (many2, sets2) ∧ GR many2 sets2 chalk wet harvest draw mw mh md mc (fo (fun g j => upd g (12 * p + j) 1) mm i d) := by
  intro d
  induction d with
  | zero =>
    intro n i many sets mm hi hn hG
    obtain ⟨m, rfl⟩ : ∃ m, n = m + 1 := ⟨n - 1, by omega⟩
    have : i = 12 := by omega
    subst this
    rw [fX4_settle_L54, if_pos p12]
    exact ⟨_, _, rfl, hG⟩
  | succ d ih =>
    intro n i many sets mm hi hn hG
    obtain ⟨m, rfl⟩ : ∃ m, n = m + 1 := ⟨n - 1, by omega⟩
    obtain ⟨s2, e, g⟩ := hG.set hp (show i < 12 by omega) 1
    rw [fX4_settle_L54, if_neg (n12 (by omega)), e, bS2, nI_1]
    exact ih m (i + 1) _ _ _ (by omega) (by omega) g
theorem comes_L {p : Nat} (hp : p < 6) (g : Nat → Int32) (hg : g 0 = nI p) : fX6_personComes_L43 fl 0 g = some (fo (fun g j => upd g (23 + 12 * p + j) 1) g 0 12) :=
  (foldLoop (fun n a i => fX6_personComes_L43 n i a) (fun g j => upd g (23 + 12 * p + j) 1) (fun g => g 0 = nI p) 12 (fun n a _ => by
    show fX6_personComes_L43 (n + 1) (nI 12) a = _
    rw [fX6_personComes_L43, if_pos p12]) (fun n a i hi ha => ⟨by show upd a _ _ 0 = _; rw [pk_un (by omega)]; exact ha, by
    show fX6_personComes_L43 (n + 1) (nI i) a = fX6_personComes_L43 n (nI (i + 1)) _
    rw [fX6_personComes_L43, if_neg (n12 hi), i0, bS1, ha, i23, ix_n (by omega) (by decide), bS1, nI_1]⟩) 12 fl g 0 rfl (by decide) hg).1
/-- the row, after one came -/
def cN (now : Nat → Int32) (n : Nat) (i1 : Int32) : Nat → Int32 := upd (fo (fun g j => upd g (23 + 12 * n + j) 1) (upd (upd (upd now (5 + 3 * n) i1) (6 + 3 * n) (now 0)) (7 + 3 * n) 50) 0 12) 0 (nI (n + 1))
theorem cN_0 {n : Nat} {i1 : Int32} : cN now n i1 0 = nI (n + 1) := by unfold cN; rw [pk_us]
theorem cN_a {n k : Nat} {i1 : Int32} (h1 : 0 < k) (h2 : k < 5) : cN now n i1 k = now k := by
  unfold cN
  rw [pk_un (by omega), fo_upd, if_neg (by omega), pk_un (by omega), pk_un (by omega), pk_un (by omega)]
theorem cN_k {n p : Nat} {i1 : Int32} (hp : p < 6) : cN now n i1 (5 + 3 * p) = if p = n then i1 else now (5 + 3 * p) := by
  unfold cN
  rw [pk_un (by omega), fo_upd, if_neg (by omega), pk_un (by omega), pk_un (by omega)]
  by_cases c : p = n
  · subst c; rw [pk_us, if_pos rfl]
  · rw [pk_un (by omega), if_neg c]
theorem cN_l {n p : Nat} {i1 : Int32} (hp : p < 6) : cN now n i1 (6 + 3 * p) = if p = n then now 0 else now (6 + 3 * p) := by
  unfold cN
  rw [pk_un (by omega), fo_upd, if_neg (by omega), pk_un (by omega)]
  by_cases c : p = n
  · subst c; rw [pk_us, if_pos rfl]
  · rw [pk_un (by omega), pk_un (by omega), if_neg c]
theorem cN_c {n p : Nat} {i1 : Int32} (hp : p < 6) : cN now n i1 (7 + 3 * p) = if p = n then 50 else now (7 + 3 * p) := by
  unfold cN
  rw [pk_un (by omega), fo_upd, if_neg (by omega)]
  by_cases c : p = n
  · subst c; rw [pk_us, if_pos rfl]
  · rw [pk_un (by omega), pk_un (by omega), pk_un (by omega), if_neg c]
theorem cN_h {n j : Nat} {i1 : Int32} (hn : n < 6) : cN now n i1 (23 + j) = fo (fun g j => upd g (12 * n + j) 1) (fun j => now (23 + j)) 0 12 j := by
  unfold cN
  rw [pk_un (by omega), fo_upd, fo_upd]
  by_cases d : 12 * n + 0 ≤ j ∧ j < 12 * n + 0 + 12
  · rw [if_pos d, if_pos (by omega)]
  · rw [if_neg d, if_neg (by omega), pk_un (by omega), pk_un (by omega), pk_un (by omega)]
theorem comes_m {n : Nat} (hp : n < 6) (e0 : now 0 = nI n) (i1 : Int32) : fX6_personComes now i1 (now 0) 50 = some (cN now n i1, 0) := by
  unfold fX6_personComes
  have e5 : (5 : Int32) + 3 * nI n = nI (5 + 3 * n) := by rw [show (5 : Int32) = nI 5 from rfl, show (3 : Int32) = nI 3 from rfl, pk_mul, nI_add]
  have e6 : nI (5 + 3 * n) + 1 = nI (6 + 3 * n) := by rw [nI_1, show 5 + 3 * n + 1 = 6 + 3 * n by omega]
  have e7 : nI (5 + 3 * n) + 2 = nI (7 + 3 * n) := by rw [show (2 : Int32) = nI 2 from rfl, nI_add, show 5 + 3 * n + 2 = 7 + 3 * n by omega]
  have z0 : (upd (upd (upd now (5 + 3 * n) i1) (6 + 3 * n) (now 0)) (7 + 3 * n) 50) 0 = nI n := by
    rw [pk_un (by omega), pk_un (by omega), pk_un (by omega)]; exact e0
  have q0 : ∀ g : Nat → Int32, fo (fun g j => upd g (23 + 12 * n + j) 1) g 0 12 0 = g 0 := fun g => by rw [fo_upd, if_neg (by omega)]
  rw [i0, bS1, show (5 : Int32) + 3 * now 0 = nI (5 + 3 * n) by rw [e0]; exact e5, e6, e7, ix_n (by omega) (by decide), bS1, ix_n (by omega) (by decide), bS1, ix_n (by omega) (by decide), bS1, comes_L hp _ z0, bS1, q0, z0, nI_1]
  rfl
theorem NB.add {n : Nat} {f g : Nat → Int32} (h : NB n f) (e : ∀ p, p < n → g p = f p) (v0 : 0 ≤ (g n).toInt) (v1 : (g n).toInt ≤ 1000000) : NB (n + 1) g := by
  refine ⟨fun p hp => ?_, ?_⟩
  · by_cases c : p = n
    · rw [c]; exact v0
    · rw [e p (by omega)]; exact h.1 p (by omega)
  · show sI (fun p => (g p).toInt) n + (g n).toInt ≤ _
    rw [sI_cg n (fun p hp => by rw [e p hp])]
    have := h.2
    omega
theorem NI.come {n : Nat} {i1 : Int32} (h : NI now) (e : nP now = n) (hn : n < 6) : NI (cN now n i1) := by
  subst e
  unfold NI
  rw [cN_0, nI_clamp (by omega)]
  refine ⟨NB.add h.1 (fun p hp => ?_) ?_ ?_, fun z hz => NB.add (h.2 z hz) (fun p hp => ?_) ?_ ?_⟩
  · rw [cN_c (by omega), if_neg (by omega)]
  · rw [cN_c hn, if_pos rfl]; decide
  · rw [cN_c hn, if_pos rfl]; decide
  · show cN now (nP now) i1 (23 + (12 * p + z)) = now (23 + (12 * p + z))
    rw [cN_h hn, fo_upd, if_neg (by omega)]
  · show 0 ≤ (cN now (nP now) i1 (23 + (12 * nP now + z))).toInt
    rw [cN_h hn, fo_upd, if_pos (by omega)]; decide
  · show (cN now (nP now) i1 (23 + (12 * nP now + z))).toInt ≤ _
    rw [cN_h hn, fo_upd, if_pos (by omega)]; decide
theorem t_person (hT : TR people fewest kinds loves many sets chalk wet harvest draw now) (hP : PR known pmany psets pchalk pwet pharvest pdraw undone undos) (hI : II now undone undos) (i1 : Int32) : ∃ r people_r kinds_r loves_r many_r sets_r chalk_r known_r now_r undos_r, fX5_person people kinds loves many sets chalk known i1 = some (r, people_r, kinds_r, loves_r, many_r, sets_r, chalk_r, known_r) ∧ fX6_person now undos i1 = some (r, now_r, undos_r) ∧ TR people_r fewest kinds_r loves_r many_r sets_r chalk_r wet harvest draw now_r ∧ PR known_r pmany psets pchalk pwet pharvest pdraw undone undos_r ∧ II now_r undone undos_r := by
  have hk := hT.ok
  have h6 := hk.1.1
  unfold fX5_person fX6_person
  rcases wi_n i1 4 (by decide) (b := 4) (b2 := 4) rfl rfl with ⟨j, h1, h2, h3, h4⟩ | ⟨h3, h4⟩
  · simp only [h3, h4, bS1, i10]
    rw [i0, bS1]
    by_cases c : nP now = 6
    · rw [if_neg (show ¬ people < 6 by rw [hT.e_people, c]; decide), if_pos (show now 0 = 6 by rw [hk.1.2, c]; rfl)]
      exact ⟨_, _, _, _, _, _, _, _, _, _, rfl, rfl, hT, hP, hI⟩
    · have hp : nP now < 6 := by omega
      have hn := hp
      have l6 : people < 6 := by rw [hT.e_people]; exact (nI_ltI (b := 6) (by omega) (by decide)).mpr hp
      rw [if_pos l6, if_neg (show ¬ now 0 = 6 from fun z => c ((nI_eq (b := 6) (by omega) (by decide)).mp (hk.1.2.symm.trans z)))]
      unfold fX1_forget fX4_settle
      have e0 : now 0 = nI (nP now) := hk.1.2
      rw [bS1, if_pos l6, hT.e_people, ix_n hp (by decide), bS1, comes_m hp e0, bS2, cN_0, nsub1 (by omega) (by omega), show nP now + 1 - 1 = nP now by omega]
      obtain ⟨m2, s2, x1, x2⟩ := settle_L (p := nP now) hp 12 fl 0 many sets (fun j => now (23 + j)) rfl (by decide) hT.2.2.2.2
      rw [show fX4_settle_L54 (nI (nP now)) fl 0 many sets = some (m2, s2) from x1, bS2, bS7, nI_1]
      refine ⟨_, _, _, _, _, _, _, _, _, _, rfl, rfl, ?_, ⟨0, by decide, rfl, rfl, fun i hi => absurd hi (by omega)⟩, hI.1.come rfl hn, 0, by decide, rfl, fun i hi => absurd hi (by omega)⟩
      obtain ⟨a1, a2, a3, a4, a5⟩ := hT
      refine ⟨⟨cN_0.symm, nP now + 1, by omega, cN_0⟩, ?_, fun p hp => ?_, fun p hp => ?_, ?_⟩
      · rw [cN_a (by decide) (by decide)]
        exact a2
      · rw [cN_k hp]
        by_cases d : p = nP now
        · rw [if_pos d, d, pk_us]
          exact ⟨rfl, j, by omega, h2⟩
        · rw [pk_un d, if_neg d]
          exact a3 p hp
      · rw [cN_l hp]
        by_cases d : p = nP now
        · rw [if_pos d, d, pk_us]
          exact ⟨e0.symm, nP now, by omega, e0⟩
        · rw [pk_un d, if_neg d]
          exact a4 p hp
      · obtain ⟨c1, c2, c3, c4⟩ := x2
        refine ⟨fun j hj => (c1 j hj).trans (cN_h hp).symm, fun p hp => ?_, fun p hp => ?_, ?_⟩
        · show _ = cN now (nP now) i1 (7 + 3 * p)
          rw [cN_c hp]
          by_cases d : p = nP now
          · rw [if_pos d, d, pk_us]
          · rw [pk_un d, if_neg d]; exact c2 p hp
        · have q : hvN (fun h => fo (fun g j => upd g (12 * nP now + j) 1) (fun j => now (23 + j)) 0 12 (12 * p + h)) 12 = hvN (fun h => cN now (nP now) i1 (23 + (12 * p + h))) 12 := hvN_cg 12 (fun h _ => (cN_h hn).symm)
          rw [c3 p hp, q]
        · rw [cN_a (by decide) (by decide), cN_a (by decide) (by decide), cN_a (by decide) (by decide)]
          exact c4
  · simp only [h3, h4, bS1, i00]
    exact ⟨_, _, _, _, _, _, _, _, _, _, rfl, rfl, hT, hP, hI⟩
end UB
