section PP
variable {people fewest : Int32} {kinds loves many sets chalk : Nat → Int32} {wet harvest draw : Int32} {now : Nat → Int32}
variable {items : Nat → Nat → Int64} {lane size lanes sizes : Nat → Int32} {mitems : Nat → Int64}
def accB (B : Nat → Bool) (x : Int32) (v : Nat) : Int32 := if B v then x ||| ((1 : Int32) <<< (nI v &&& 31)) else x
theorem or_z (a : Int32) : a ||| 0 = a := by apply Int32.toBitVec_inj.mp; simp
theorem told93 {p k a m J N : Nat} {i6 : Int32} {B : Nat → Bool} (hJ : J < 23) (hJ0 : J ≠ 0) (hN : N ≤ 6) (eJ : ix ((5 + (3 * nI p)) + i6) 95 = some J) (e0 : ∀ g : Nat → Int32, g 0 = now 0 → (if i6 = 0 then some (5 : Int32) else bd1 (ix 0 95) fun j72 => some (g j72)) = some (nI N)) (hB : ∀ v, v < N → fX6_isSo (upd now J (nI v)) mitems (nI p) ((24 * nI k) + nI a) (nI m) = some (if B v then 1 else 0)) : ∀ d n i acc (g : Nat → Int32), i + d = N → d < n → (∀ z, z ≠ J → g z = now z) → ∃ g2, fX6_told_L93 (nI p) (nI k) (nI a) (nI m) i6 mitems n (nI i) acc g = some (g2, fo (accB B) acc i d) ∧ ∀ z, z ≠ J → g2 z = now z := by
  intro d
  induction d with
  | zero =>
    intro n i acc g hi hn hg
    obtain ⟨q, rfl⟩ : ∃ q, n = q + 1 := ⟨n - 1, by omega⟩
    rw [fX6_told_L93, e0 g (hg 0 (by omega)), bS1, if_pos (show nI N ≤ nI i from le_ge (by omega) (by omega))]
    exact ⟨_, rfl, hg⟩
  | succ d ih =>
    intro n i acc g hi hn hg
    obtain ⟨q, rfl⟩ : ∃ q, n = q + 1 := ⟨n - 1, by omega⟩
    have eg : upd g J (nI i) = upd now J (nI i) := by
      funext z
      by_cases c : z = J
      · subst c; rw [pk_us, pk_us]
      · rw [pk_un c, pk_un c]; exact hg z c
    rw [fX6_told_L93, e0 g (hg 0 (by omega)), bS1, if_neg (show ¬ nI N ≤ nI i from nI_ge (by omega) (by omega)), eJ, bS1, eg, hB i (by omega), bS1, nI_1]
    have e : bd1 (if (if B i = true then (1 : Int32) else 0) = 0 then some (0 : Int32) else some ((1 : Int32) <<< (nI i &&& 31))) (fun x80 => fX6_told_L93 (nI p) (nI k) (nI a) (nI m) i6 mitems q (nI (i + 1)) (acc ||| x80) (upd now J (nI i))) = fX6_told_L93 (nI p) (nI k) (nI a) (nI m) i6 mitems q (nI (i + 1)) (accB B acc i) (upd now J (nI i)) := by
      unfold accB
      cases B i
      · rw [if_pos (by decide), bS1, or_z]; rfl
      · rw [if_neg (by decide), bS1]; rfl
    rw [e]
    exact ih q (i + 1) _ _ (by omega) (by omega) (fun z hz => pk_un hz)
theorem back_J {J : Nat} {g : Nat → Int32} (h : ∀ z, z ≠ J → g z = now z) : upd g J (now J) = now := by
  funext z
  by_cases c : z = J
  · subst c; rw [pk_us]
  · rw [pk_un c]; exact h z c
theorem as_cg {it : Nat → Int64} {k a m : Nat} {f g : Nat → Nat} (ha : a + m ≤ 24) (hit : ∀ j, j < 24 → it j = mitems (24 * k + j)) (hf : ∀ h, h < m → f h = g h) : allB (asB mitems (24 * k + a) f) 0 m = allB (asB it a g) 0 m := by
  apply allB_cg
  intro h _ hh
  unfold asB
  rw [hit _ (by omega), hf h (by omega), Nat.add_assoc]
theorem as_f {it : Nat → Int64} {a m : Nat} {f g : Nat → Nat} (hf : ∀ h, h < m → f h = g h) : allB (asB it a f) 0 m = allB (asB it a g) 0 m := by
  apply allB_cg
  intro h _ hh
  unfold asB
  rw [hf h (by omega)]
theorem acc_bd (b : Bool) (x y : Int32) (K : Int32 → Option Int32) : bd1 (if (if b = true then (1 : Int32) else 0) = 0 then some x else some y) K = K (if b = true then y else x) := by
  cases b <;> rfl
theorem kindsT_x (hT : TR people fewest kinds loves many sets chalk wet harvest draw now) {p a m : Nat} {it : Nat → Int64} (hp : p < 6) (ha : a + m ≤ 24) (hm : m ≤ 12) : fX5_kindsTold loves sets wet harvest it (nI p) (nI a) (nI m) = some (fo (accB (fun v => allB (asB it a (fun h => wbk v h (hs now p) (lvs now p) (nW now).testBit (nH now).testBit)) 0 m)) 0 0 5) := by
  have hl := (hT.ok.2.2.2.2.2.2 p hp).1
  have hL : (if lo now p = p then 0 else setM now (lo now p)) < 4096 := by split; decide; exact setM_lt _ _
  unfold fX5_kindsTold
  rw [ix_n hp (by decide), bS1, hT.e_love hp, lovedSet_x hT hp hl, bS1]
  have key := (foldLoop (fX5_kindsTold_L25 (nI p) (nI a) (nI m) harvest sets wet it (nI (if lo now p = p then 0 else setM now (lo now p)))) (accB (fun v => allB (asB it a (fun h => wbk v h (hs now p) (lvs now p) (nW now).testBit (nH now).testBit)) 0 m)) (fun _ => True) 5 (fun n x _ => by rw [fX5_kindsTold_L25, if_pos (by decide)]) (fun n x v hv _ => ⟨trivial, by
    rw [fX5_kindsTold_L25, if_neg (show ¬ (5 : Int32) ≤ nI v from nI_ge (b := 5) hv (by decide)), told_x hT hp hv hL ha hm, bS1, nI_1]
    have e : allB (asB it a (fun h => wbk v h (setM now p).testBit (if lo now p = p then 0 else setM now (lo now p)).testBit (nW now).testBit (nH now).testBit)) 0 m = allB (asB it a (fun h => wbk v h (hs now p) (lvs now p) (nW now).testBit (nH now).testBit)) 0 m := by
      apply as_f
      intro h hh
      exact wbk_cg (show h < 12 by omega) (fun j hj => setM_bit now p hj) (fun j hj => show (if lo now p = p then 0 else setM now (lo now p)).testBit j = lvs now p j by
        unfold lvs
        by_cases c : lo now p = p
        · rw [if_pos c, if_pos c]; exact Nat.zero_testBit j
        · rw [if_neg c, if_neg c]; exact setM_bit now _ hj)
    rw [e, acc_bd]
    rfl⟩) 5 fl 0 0 rfl (by decide) trivial).1
  rw [show fX5_kindsTold_L25 (nI p) (nI a) (nI m) harvest sets wet it (nI (if lo now p = p then 0 else setM now (lo now p))) fl 0 0 = _ from key, bS1]
theorem lovesT_x (hT : TR people fewest kinds loves many sets chalk wet harvest draw now) {p a m : Nat} {it : Nat → Int64} (hp : p < 6) (ha : a + m ≤ 24) (hm : m ≤ 12) : fX5_lovesTold people kinds sets wet harvest it (nI p) (nI a) (nI m) = some (fo (accB (fun v => allB (asB it a (fun h => wbk (kd now p) h (hs now p) (fun y => if v = p then false else hs now v y) (nW now).testBit (nH now).testBit)) 0 m)) 0 0 (nP now)) := by
  have h6 := hT.ok.1.1
  unfold fX5_lovesTold
  have key := (foldLoop (fX5_lovesTold_L6 (nI p) (nI a) (nI m) harvest sets wet kinds people it) (accB (fun v => allB (asB it a (fun h => wbk (kd now p) h (hs now p) (fun y => if v = p then false else hs now v y) (nW now).testBit (nH now).testBit)) 0 m)) (fun _ => True) (nP now) (fun n x _ => by rw [fX5_lovesTold_L6, hT.e_people, if_pos (le_ge (Nat.le_refl _) (by omega))]) (fun n x v hv _ => ⟨trivial, by
    have hL : (if v = p then 0 else setM now v) < 4096 := by split; decide; exact setM_lt _ _
    rw [fX5_lovesTold_L6, hT.e_people, if_neg (nI_ge hv (by omega)), ix_n hp (by decide), bS1, lovedSet_x hT hp (by omega), bS1, hT.e_kind hp, told_x hT hp (hT.ok.2.2.2.2.2.1 p hp).1 hL ha hm, bS1, nI_1, ← hT.e_people]
    have e : allB (asB it a (fun h => wbk (kd now p) h (setM now p).testBit (if v = p then 0 else setM now v).testBit (nW now).testBit (nH now).testBit)) 0 m = allB (asB it a (fun h => wbk (kd now p) h (hs now p) (fun y => if v = p then false else hs now v y) (nW now).testBit (nH now).testBit)) 0 m := by
      apply as_f
      intro h hh
      exact wbk_cg (show h < 12 by omega) (fun j hj => setM_bit now p hj) (fun j hj => show (if v = p then 0 else setM now v).testBit j = (fun y => if v = p then false else hs now v y) j by
        show _ = if v = p then false else hs now v j
        by_cases c : v = p
        · rw [if_pos c, if_pos c]; exact Nat.zero_testBit j
        · rw [if_neg c, if_neg c]; exact setM_bit now _ hj)
    rw [e, acc_bd]
    rfl⟩) (nP now) fl 0 0 (Nat.zero_add _) (by unfold fl; omega) trivial).1
  rw [show fX5_lovesTold_L6 (nI p) (nI a) (nI m) harvest sets wet kinds people it fl 0 0 = _ from key, bS1]
end PP
