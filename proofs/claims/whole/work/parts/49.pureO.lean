/-! ===== of which kind, whom he loves, by worths ===== -/
def allB (f : Nat → Bool) : Nat → Nat → Bool
  | _, 0 => true
  | i, d + 1 => f i && allB f (i + 1) d
theorem allB_cg {f g : Nat → Bool} : ∀ d i, (∀ j, i ≤ j → j < i + d → f j = g j) → allB f i d = allB g i d := by
  intro d
  induction d with
  | zero => intro i _; rfl
  | succ d ih =>
    intro i h
    show (f i && allB f (i + 1) d) = (g i && allB g (i + 1) d)
    rw [h i (by omega) (by omega), ih (i + 1) (fun j h1 h2 => h j (by omega) (by omega))]
section PO
variable {people fewest : Int32} {kinds loves many sets chalk : Nat → Int32} {wet harvest draw : Int32} {now : Nat → Int32}
theorem hs_u {J : Nat} (hJ : J < 23) (v : Int32) (z h : Nat) : hs (upd now J v) z h = hs now z h := by
  unfold hs
  rw [pk_un (by omega)]
theorem OKM.kind (hk : OKM now) {p v : Nat} (hp : p < 6) (hv : v < 5) : OKM (upd now (5 + 3 * p) (nI v)) := by
  obtain ⟨a1, a2, a3, a4, a5, a6, a7⟩ := hk
  unfold OKM nP nF nW nH kd lo at *
  rw [pk_un (show 0 ≠ 5 + 3 * p by omega), pk_un (show 1 ≠ 5 + 3 * p by omega), pk_un (show 2 ≠ 5 + 3 * p by omega), pk_un (show 3 ≠ 5 + 3 * p by omega), pk_un (show 4 ≠ 5 + 3 * p by omega)]
  refine ⟨a1, a2, a3, a4, a5, fun z hz => ?_, fun z hz => ?_⟩
  · by_cases c : z = p
    · subst c; rw [pk_us, nI_clamp (by omega)]; exact ⟨hv, rfl⟩
    · rw [pk_un (show 5 + 3 * z ≠ 5 + 3 * p by omega)]; exact a6 z hz
  · rw [pk_un (show 6 + 3 * z ≠ 5 + 3 * p by omega)]; exact a7 z hz
theorem OKM.love (hk : OKM now) {p v : Nat} (hp : p < 6) (hv : v < 6) : OKM (upd now (6 + 3 * p) (nI v)) := by
  obtain ⟨a1, a2, a3, a4, a5, a6, a7⟩ := hk
  unfold OKM nP nF nW nH kd lo at *
  rw [pk_un (show 0 ≠ 6 + 3 * p by omega), pk_un (show 1 ≠ 6 + 3 * p by omega), pk_un (show 2 ≠ 6 + 3 * p by omega), pk_un (show 3 ≠ 6 + 3 * p by omega), pk_un (show 4 ≠ 6 + 3 * p by omega)]
  refine ⟨a1, a2, a3, a4, a5, fun z hz => ?_, fun z hz => ?_⟩
  · rw [pk_un (show 5 + 3 * z ≠ 6 + 3 * p by omega)]; exact a6 z hz
  · by_cases c : z = p
    · subst c; rw [pk_us, nI_clamp (by omega)]; exact ⟨hv, rfl⟩
    · rw [pk_un (show 6 + 3 * z ≠ 6 + 3 * p by omega)]; exact a7 z hz
theorem wN_kind {p v : Nat} (hp : p < 6) (hv : v < 5) (h : Nat) : wN (upd now (5 + 3 * p) (nI v)) p h = wbk v h (hs now p) (lvs now p) (nW now).testBit (nH now).testBit := by
  have e1 : kd (upd now (5 + 3 * p) (nI v)) p = v := by unfold kd; rw [pk_us, nI_clamp (by omega)]
  have e2 : lo (upd now (5 + 3 * p) (nI v)) p = lo now p := by unfold lo; rw [pk_un (by omega)]
  have e3 : nW (upd now (5 + 3 * p) (nI v)) = nW now := by unfold nW; rw [pk_un (by omega)]
  have e4 : nH (upd now (5 + 3 * p) (nI v)) = nH now := by unfold nH; rw [pk_un (by omega)]
  have e5 : hs (upd now (5 + 3 * p) (nI v)) = hs now := by funext z y; exact hs_u (by omega) _ z y
  have e6 : lvs (upd now (5 + 3 * p) (nI v)) p = lvs now p := by funext y; unfold lvs; rw [e2, e5]
  unfold wN
  rw [e1, e3, e4, e5, e6]
theorem wN_love {p v : Nat} (hp : p < 6) (hv : v < 6) (h : Nat) : wN (upd now (6 + 3 * p) (nI v)) p h = wbk (kd now p) h (hs now p) (fun y => if v = p then false else hs now v y) (nW now).testBit (nH now).testBit := by
  have e1 : kd (upd now (6 + 3 * p) (nI v)) p = kd now p := by unfold kd; rw [pk_un (by omega)]
  have e2 : lo (upd now (6 + 3 * p) (nI v)) p = v := by unfold lo; rw [pk_us, nI_clamp (by omega)]
  have e3 : nW (upd now (6 + 3 * p) (nI v)) = nW now := by unfold nW; rw [pk_un (by omega)]
  have e4 : nH (upd now (6 + 3 * p) (nI v)) = nH now := by unfold nH; rw [pk_un (by omega)]
  have e5 : hs (upd now (6 + 3 * p) (nI v)) = hs now := by funext z y; exact hs_u (by omega) _ z y
  have e6 : lvs (upd now (6 + 3 * p) (nI v)) p = fun y => if v = p then false else hs now v y := by funext y; unfold lvs; rw [e2, e5]
  unfold wN
  rw [e1, e3, e4, e5, e6]
end PO
