/-! ===== of which kind, whom he loves, by worths ===== -/
def allB (f : Nat → Bool) : Nat → Nat → Bool
  | _, 0 => true
  | i, d + 1 => f i && allB f (i + 1) d
theorem allB_cg {f g : Nat → Bool} : ∀ d i, (∀ j, i ≤ j → j < i + d → f j = g j) → allB f i d = allB g i d := by
  intro d
  induction d with
  | zero => intro i _; rfl
  | succ d ih =>
    intro i h
    show (f i && allB f (i + 1) d) = (g i && allB g (i + 1) d)
    rw [h i (by omega) (by omega), ih (i + 1) (fun j h1 h2 => h j (by omega) (by omega))]
section PO
variable {people fewest : Int32} {kinds loves many sets chalk : Nat → Int32} {wet harvest draw : Int32} {now : Nat → Int32}
theorem hs_u {J : Nat} (hJ : J < 23) (v : Int32) (z h : Nat) : hs (upd now J v) z h = hs now z h := by
  unfold hs
  rw [pk_un (by omega)]
theorem OKM.kind (hk : OKM now) {p v : Nat} (hp : p < 6) (hv : v < 5) : OKM (upd now (5 + 3 * p) (nI v)) := by
  obtain ⟨a1, a2, a3, a4, a5, a6, a7⟩ := hk
  unfold OKM nP nF nW nH kd lo at *
  rw [pk_un (show 0 ≠ 5 + 3 * p by omega), pk_un (show 1 ≠ 5 + 3 * p by omega), pk_un (show 2 ≠ 5 + 3 * p by omega), pk_un (show 3 ≠ 5 + 3 * p by omega), pk_un (show 4 ≠ 5 + 3 * p by omega)]
  refine ⟨a1, a2, a3, a4, a5, fun z hz => ?_, fun z hz => ?_⟩
  · by_cases c : z = p
    · subst c; rw [pk_us, nI_clamp (by omega)]; exact ⟨hv, rfl⟩
    · rw [pk_un (show 5 + 3 * z ≠ 5 + 3 * p by omega)]; exact a6 z hz
  · rw [pk_un (show 6 + 3 * z ≠ 5 + 3 * p by omega)]; exact a7 z hz
theorem OKM.love (hk : OKM now) {p v : Nat} (hp : p < 6) (hv : v < 6) : OKM (upd now (6 + 3 * p) (nI v)) := by
  obtain ⟨a1, a2, a3, a4, a5, a6, a7⟩ := hk
  unfold OKM nP nF nW nH kd lo at *
  rw [pk_un (show 0 ≠ 6 + 3 * p by omega), pk_un (show 1 ≠ 6 + 3 * p by omega), pk_un (show 2 ≠ 6 + 3 * p by omega), pk_un (show 3 ≠ 6 + 3 * p by omega), pk_un (show 4 ≠ 6 + 3 * p by omega)]
  refine ⟨a1, a2, a3, a4, a5, fun z hz => ?_, fun z hz => ?_⟩
  · rw [pk_un (show 5 + 3 * z ≠ 6 + 3 * p by omega)]; exact a6 z hz
  · by_cases c : z = p
    · subst c; rw [pk_us, nI_clamp (by omega)]; exact ⟨hv, rfl⟩
    · rw [pk_un (show 6 + 3 * z ≠ 6 + 3 * p by omega)]; exact a7 z hz
theorem wN_kind {p v : Nat} (hp : p < 6) (hv : v < 5) (h : Nat) : wN (upd now (5 + 3 * p) (nI v)) p h = wbk v h (hs now p) (lvs now p) (nW now).testBit (nH now).testBit := by
  have e1 : kd (upd now (5 + 3 * p) (nI v)) p = v := by unfold kd; rw [pk_us, nI_clamp (by omega)]
  have e2 : lo (upd now (5 + 3 * p) (nI v)) p = lo now p := by unfold lo; rw [pk_un (by omega)]
  have e3 : nW (upd now (5 + 3 * p) (nI v)) = nW now := by unfold nW; rw [pk_un (by omega)]
  have e4 : nH (upd now (5 + 3 * p) (nI v)) = nH now := by unfold nH; rw [pk_un (by omega)]
  have e5 : hs (upd now (5 + 3 * p) (nI v)) = hs now := by funext z y; exact hs_u (by omega) _ z y
  have e6 : lvs (upd now (5 + 3 * p) (nI v)) p = lvs now p := by funext y; unfold lvs; rw [e2, e5]
  unfold wN
  rw [e1, e3, e4, e5, e6]
theorem wN_love {p v : Nat} (hp : p < 6) (hv : v < 6) (h : Nat) : wN (upd now (6 + 3 * p) (nI v)) p h = wbk (kd now p) h (hs now p) (fun y => if v = p then false else hs now v y) (nW now).testBit (nH now).testBit := by
  have e1 : kd (upd now (6 + 3 * p) (nI v)) p = kd now p := by unfold kd; rw [pk_un (by omega)]
  have e2 : lo (upd now (6 + 3 * p) (nI v)) p = v := by unfold lo; rw [pk_us, nI_clamp (by omega)]
  have e3 : nW (upd now (6 + 3 * p) (nI v)) = nW now := by unfold nW; rw [pk_un (by omega)]
  have e4 : nH (upd now (6 + 3 * p) (nI v)) = nH now := by unfold nH; rw [pk_un (by omega)]
  have e5 : hs (upd now (6 + 3 * p) (nI v)) = hs now := by funext z y; exact hs_u (by omega) _ z y
  have e6 : lvs (upd now (6 + 3 * p) (nI v)) p = fun y => if v = p then false else hs now v y := by funext y; unfold lvs; rw [e2, e5]
  unfold wN
  rw [e1, e3, e4, e5, e6]
/-- the items from a on are the worths f -/
def asB (it : Nat → Int64) (a : Nat) (f : Nat → Nat) (h : Nat) : Bool := decide (it (a + h) = Int32.toInt64 (nI (f h)))
theorem told_x (hT : TR people fewest kinds loves many sets chalk wet harvest draw now) {p k L a m : Nat} {it : Nat → Int64} (hp : p < 6) (hk : k < 5) (hL : L < 4096) (ha : a + m ≤ 24) (hm : m ≤ 12) : fX5_isAsTold sets wet harvest it (nI p) (nI k) (nI L) (nI a) (nI m) = some (if allB (asB it a (fun h => wbk k h (setM now p).testBit L.testBit (nW now).testBit (nH now).testBit)) 0 m then 1 else 0) := by
  have key : ∀ d n i, i + d = m → d < n → fX5_isAsTold_L12 (nI p) (nI k) (nI L) (nI a) (nI m) harvest sets wet it n (nI i) = some (if allB (asB it a (fun h => wbk k h (setM now p).testBit L.testBit (nW now).testBit (nH now).testBit)) i d then Sum.inr () else Sum.inl 0) := by
    intro d
    induction d with
    | zero =>
      intro n i hi hn
      obtain ⟨q, rfl⟩ : ∃ q, n = q + 1 := ⟨n - 1, by omega⟩
      rw [fX5_isAsTold_L12, if_pos (show nI m ≤ nI i from le_ge (by omega) (by omega))]
      rfl
    | succ d ih =>
      intro n i hi hn
      obtain ⟨q, rfl⟩ : ∃ q, n = q + 1 := ⟨n - 1, by omega⟩
      rw [fX5_isAsTold_L12, if_neg (show ¬ nI m ≤ nI i from nI_ge (by omega) (by omega)), ix_n hp (by decide), bS1, hT.e_set hp, hT.e_wet, hT.e_harvest, worthByKind_n hk (by omega) (setM_lt _ _) hL hT.ok.2.2.1.1 hT.ok.2.2.2.1.1, bS1, nI_add, ix_n (by omega) (by decide), bS1, nI_1]
      show _ = some (if (asB it a (fun h => wbk k h (setM now p).testBit L.testBit (nW now).testBit (nH now).testBit) i && allB _ (i + 1) d) = true then Sum.inr () else Sum.inl 0)
      unfold asB
      by_cases c : it (a + i) = Int32.toInt64 (nI (wbk k i (setM now p).testBit L.testBit (nW now).testBit (nH now).testBit))
      · rw [if_pos ((lg_cmp_eq _ _).mpr c), ← hT.e_wet, ← hT.e_harvest, ih q (i + 1) (by omega) (by omega)]
        simp [c]
        rfl
      · rw [if_neg (fun z => c ((lg_cmp_eq _ _).mp z))]
        simp [c]
  unfold fX5_isAsTold
  rw [show fX5_isAsTold_L12 (nI p) (nI k) (nI L) (nI a) (nI m) harvest sets wet it fl 0 = _ from key m fl 0 (by omega) (by unfold fl; omega), bS1]
  split <;> rfl
theorem so_m {g : Nat → Int32} (hk : OKM g) {p b m : Nat} {it : Nat → Int64} (hp : p < 6) (hb : b + m ≤ 96) (hm : m ≤ 12) : fX6_isSo g it (nI p) (nI b) (nI m) = some (if allB (asB it b (wN g p)) 0 m then 1 else 0) := by
  have key : ∀ d n i (f : Bool), i + d = m → d < n → fX6_isSo_L6 (nI p) (nI b) (nI m) it g n (if f then 1 else 0) (nI i) = some (if (f && allB (asB it b (wN g p)) i d) then 1 else 0) := by
    intro d
    induction d with
    | zero =>
      intro n i f hi hn
      obtain ⟨q, rfl⟩ : ∃ q, n = q + 1 := ⟨n - 1, by omega⟩
      rw [fX6_isSo_L6, if_pos (show nI m ≤ nI i from le_ge (by omega) (by omega))]
      show _ = some (if (f && true) = true then 1 else 0)
      rw [Bool.and_true]
    | succ d ih =>
      intro n i f hi hn
      obtain ⟨q, rfl⟩ : ∃ q, n = q + 1 := ⟨n - 1, by omega⟩
      rw [fX6_isSo_L6, if_neg (show ¬ nI m ≤ nI i from nI_ge (by omega) (by omega)), worthOf_m hk hp (by omega), bS1, nI_add, ix_n (by omega) (by decide), bS1, nI_1]
      show _ = some (if (f && (asB it b (wN g p) i && allB (asB it b (wN g p)) (i + 1) d)) = true then 1 else 0)
      have e : (if (if f = true then (1 : Int32) else 0) = 0 then some (0 : Int32) else if lg_cmp (Int32.toInt64 (nI (wN g p i))) (it (b + i)) = 0 then some 1 else some 0) = some (if (f && asB it b (wN g p) i) = true then 1 else 0) := by
        unfold asB
        cases f
        · rfl
        · rw [if_neg (by decide)]
          by_cases c : it (b + i) = Int32.toInt64 (nI (wN g p i))
          · rw [if_pos ((lg_cmp_eq _ _).mpr c.symm)]; simp [c]
          · rw [if_neg (fun z => c ((lg_cmp_eq _ _).mp z).symm)]; simp [c]
      rw [e, bS1, ih q (i + 1) _ (by omega) (by omega), Bool.and_assoc]
  unfold fX6_isSo
  rw [show fX6_isSo_L6 (nI p) (nI b) (nI m) it g fl 1 0 = _ from key m fl 0 true (by omega) (by unfold fl; omega), bS1, Bool.true_and]
  split <;> rfl
end PO
