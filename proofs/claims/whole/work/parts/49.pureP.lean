section PP
variable {people fewest : Int32} {kinds loves many sets chalk : Nat → Int32} {wet harvest draw : Int32} {now : Nat → Int32}
variable {items : Nat → Nat → Int64} {lane size lanes sizes : Nat → Int32} {mitems : Nat → Int64}
def accB (B : Nat → Bool) (x : Int32) (v : Nat) : Int32 := if B v then x ||| ((1 : Int32) <<< (nI v &&& 31)) else x
theorem or_z (a : Int32) : a ||| 0 = a := by apply Int32.toBitVec_inj.mp; simp
theorem told93 {p k a m J N : Nat} {i6 : Int32} {B : Nat → Bool} (hJ : J < 23) (hJ0 : J ≠ 0) (hN : N ≤ 6) (eJ : ix ((5 + (3 * nI p)) + i6) 95 = some J) (e0 : ∀ g : Nat → Int32, g 0 = now 0 → (if i6 = 0 then some (5 : Int32) else bd1 (ix 0 95) fun j72 => some (g j72)) = some (nI N)) (hB : ∀ v, v < N → fX6_isSo (upd now J (nI v)) mitems (nI p) ((24 * nI k) + nI a) (nI m) = some (if B v then 1 else 0)) : ∀ d n i acc (g : Nat → Int32), i + d = N → d < n → (∀ z, z ≠ J → g z = now z) → ∃ g2, fX6_told_L93 (nI p) (nI k) (nI a) (nI m) i6 mitems n (nI i) acc g = some (g2, fo (accB B) acc i d) ∧ ∀ z, z ≠ J → g2 z = now z := by
  intro d
  induction d with
  | zero =>
    intro n i acc g hi hn hg
    obtain ⟨q, rfl⟩ : ∃ q, n = q + 1 := ⟨n - 1, by omega⟩
    rw [fX6_told_L93, e0 g (hg 0 (by omega)), bS1, if_pos (show nI N ≤ nI i from le_ge (by omega) (by omega))]
    exact ⟨_, rfl, hg⟩
  | succ d ih =>
    intro n i acc g hi hn hg
    obtain ⟨q, rfl⟩ : ∃ q, n = q + 1 := ⟨n - 1, by omega⟩
    have eg : upd g J (nI i) = upd now J (nI i) := by
      funext z
      by_cases c : z = J
      · subst c; rw [pk_us, pk_us]
      · rw [pk_un c, pk_un c]; exact hg z c
    rw [fX6_told_L93, e0 g (hg 0 (by omega)), bS1, if_neg (show ¬ nI N ≤ nI i from nI_ge (by omega) (by omega)), eJ, bS1, eg, hB i (by omega), bS1, nI_1]
    have e : bd1 (if (if B i = true then (1 : Int32) else 0) = 0 then some (0 : Int32) else some ((1 : Int32) <<< (nI i &&& 31))) (fun x80 => fX6_told_L93 (nI p) (nI k) (nI a) (nI m) i6 mitems q (nI (i + 1)) (acc ||| x80) (upd now J (nI i))) = fX6_told_L93 (nI p) (nI k) (nI a) (nI m) i6 mitems q (nI (i + 1)) (accB B acc i) (upd now J (nI i)) := by
      unfold accB
      cases B i
      · rw [if_pos (by decide), bS1, or_z]; rfl
      · rw [if_neg (by decide), bS1]; rfl
    rw [e]
    exact ih q (i + 1) _ _ (by omega) (by omega) (fun z hz => pk_un hz)
theorem back_J {J : Nat} {g : Nat → Int32} (h : ∀ z, z ≠ J → g z = now z) : upd g J (now J) = now := by
  funext z
  by_cases c : z = J
  · subst c; rw [pk_us]
  · rw [pk_un c]; exact h z c
end PP
