/-! ===== none below 0, and the sums small ===== -/
theorem sI_cg {f g : Nat → Int} : ∀ n, (∀ p, p < n → f p = g p) → sI f n = sI g n := by
  intro n
  induction n with
  | zero => intro _; rfl
  | succ n ih =>
    intro h
    show sI f n + f n = sI g n + g n
    rw [ih (fun p hp => h p (by omega)), h n (by omega)]
theorem sI_nn {f : Nat → Int} : ∀ n, (∀ p, p < n → 0 ≤ f p) → 0 ≤ sI f n := by
  intro n
  induction n with
  | zero => intro _; exact Int.le_refl 0
  | succ n ih =>
    intro h
    show 0 ≤ sI f n + f n
    have h1 := ih (fun p hp => h p (by omega))
    have h2 := h n (by omega)
    omega
theorem sI_le {f : Nat → Int} : ∀ n, (∀ p, p < n → 0 ≤ f p) → ∀ q, q < n → f q ≤ sI f n := by
  intro n
  induction n with
  | zero => intro _ q hq; omega
  | succ n ih =>
    intro h q hq
    show f q ≤ sI f n + f n
    by_cases c : q = n
    · subst c
      have := sI_nn q (fun p hp => h p (by omega))
      omega
    · have h1 := ih (fun p hp => h p (by omega)) q (by omega)
      have h2 := h n (by omega)
      omega
theorem sI_one {f g : Nat → Int} : ∀ n p, p < n → (∀ z, z < n → z ≠ p → g z = f z) → sI g n = sI f n + (g p - f p) := by
  intro n
  induction n with
  | zero => intro p hp; omega
  | succ n ih =>
    intro p hp h
    show sI g n + g n = sI f n + f n + (g p - f p)
    by_cases c : p = n
    · subst c
      rw [sI_cg p (fun z hz => h z (by omega) (by omega))]
      omega
    · rw [ih p (by omega) (fun z hz hn => h z (by omega) hn), h n (by omega) (fun q => c q.symm)]
      omega
theorem NB.cg {n : Nat} {f g : Nat → Int32} (h : NB n f) (e : ∀ p, p < n → g p = f p) : NB n g := by
  refine ⟨fun p hp => by rw [e p hp]; exact h.1 p hp, ?_⟩
  rw [sI_cg n (fun p hp => by rw [e p hp])]
  exact h.2
theorem NB.le {n : Nat} {f : Nat → Int32} (h : NB n f) {q : Nat} (hq : q < n) : 0 ≤ (f q).toInt ∧ (f q).toInt ≤ 1000000 * (n : Int) :=
  ⟨h.1 q hq, Int.le_trans (sI_le n h.1 q hq) h.2⟩
theorem NB.mv {n : Nat} {f : Nat → Int32} (h : NB n f) (hn : n ≤ 6) {p q : Nat} (hp : p < n) (hq : q < n) (hpq : p ≠ q) {v : Int32} (v0 : 0 ≤ v.toInt) (v1 : v.toInt ≤ (f p).toInt) : NB n (upd (upd f p (f p - v)) q (f q + v)) := by
  have bp := h.le hp
  have bq := h.le hq
  have e1 : (f p - v).toInt = (f p).toInt - v.toInt := by rw [Int32.toInt_sub, bm32 (by omega) (by omega)]
  have e2 : (f q + v).toInt = (f q).toInt + v.toInt := by rw [Int32.toInt_add, bm32 (by omega) (by omega)]
  constructor
  · intro z hz
    by_cases c : z = q
    · subst c; rw [pk_us, e2]; omega
    · rw [pk_un c]
      by_cases d : z = p
      · subst d; rw [pk_us, e1]; omega
      · rw [pk_un d]; exact h.1 z hz
  · have s1 : sI (fun z => (upd f p (f p - v) z).toInt) n = sI (fun z => (f z).toInt) n + ((upd f p (f p - v) p).toInt - (f p).toInt) := sI_one n p hp (fun z hz hd => by show (upd f p (f p - v) z).toInt = _; rw [pk_un hd])
    have s2 : sI (fun z => (upd (upd f p (f p - v)) q (f q + v) z).toInt) n = sI (fun z => (upd f p (f p - v) z).toInt) n + ((upd (upd f p (f p - v)) q (f q + v) q).toInt - (upd f p (f p - v) q).toInt) := sI_one n q hq (fun z hz hd => by show (upd (upd f p (f p - v)) q (f q + v) z).toInt = _; rw [pk_un hd])
    rw [s2, s1, pk_us, pk_us, pk_un (fun z => hpq z.symm), e1, e2]
    have := h.2
    omega
theorem GI.cg {n : Nat} {mc mm mc2 mm2 : Nat → Int32} (h : GI n mc mm) (hn : n ≤ 6) (a : ∀ p, p < 6 → mc2 p = mc p) (b : ∀ j, j < 72 → mm2 j = mm j) : GI n mc2 mm2 :=
  ⟨h.1.cg (fun p hp => a p (by omega)), fun z hz => (h.2 z hz).cg (fun p hp => b _ (by omega))⟩
theorem GI.move {n : Nat} {mc mm : Nat → Int32} (hG : GI n mc mm) (hn : n ≤ 6) {p q h : Nat} (hp : p < n) (hq : q < n) (hpq : p ≠ q) (hh : h < 12) (v : 0 < mm (12 * p + h)) : GI n mc (upd (upd mm (12 * p + h) (mm (12 * p + h) + -1)) (12 * q + h) (mm (12 * q + h) + 1)) := by
  refine ⟨hG.1, fun z hz => ?_⟩
  by_cases c : z = h
  · subst c
    have h1 := (hG.2 z hz).mv hn hp hq hpq (v := 1) (by decide) (by
      have := Int32.lt_iff_toInt_lt.mp v
      show (1 : Int) ≤ _
      exact this)
    refine h1.cg (fun y hy => ?_)
    show upd (upd mm (12 * p + z) (mm (12 * p + z) + -1)) (12 * q + z) (mm (12 * q + z) + 1) (12 * y + z) = _
    by_cases c : y = q
    · subst c; rw [pk_us, pk_us]
    · rw [pk_un c, pk_un (by omega)]
      by_cases d : y = p
      · subst d; rw [pk_us, pk_us, Int32.sub_eq_add_neg]
      · rw [pk_un d, pk_un (by omega)]
  · refine (hG.2 z hz).cg (fun y hy => ?_)
    show upd (upd mm (12 * p + h) (mm (12 * p + h) + -1)) (12 * q + h) (mm (12 * q + h) + 1) (12 * y + z) = _
    rw [pk_un (by omega), pk_un (by omega)]
theorem GI.pay {n : Nat} {mc mm : Nat → Int32} (hG : GI n mc mm) (hn : n ≤ 6) {p q : Nat} (hp : p < n) (hq : q < n) (hpq : p ≠ q) {v : Int32} (v0 : 0 ≤ v.toInt) (v1 : v.toInt ≤ (mc p).toInt) : GI n (upd (upd mc p (mc p - v)) q (mc q + v)) mm :=
  ⟨hG.1.mv hn hp hq hpq v0 v1, hG.2⟩
