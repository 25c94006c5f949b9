/-! ===== a text is read: one person ===== -/
section RU
variable {letters tape : Nat → Int32} {n : Nat}
variable {people fewest : Int32} {kinds loves many sets chalk : Nat → Int32} {wet harvest draw : Int32} {g : Nat → Int32}
/-- the row, after one came: kind, love, chalk -/
def sN (g : Nat → Int32) (m : Nat) (k l c : Int32) : Nat → Int32 := upd (fo (fun g j => upd g (23 + 12 * m + j) 1) (upd (upd (upd g (5 + 3 * m) k) (6 + 3 * m) l) (7 + 3 * m) c) 0 12) 0 (nI (m + 1))
theorem sN_0 {m : Nat} {k l c : Int32} : sN g m k l c 0 = nI (m + 1) := by unfold sN; rw [pk_us]
theorem sN_a {m z : Nat} {k l c : Int32} (h1 : 0 < z) (h2 : z < 5) : sN g m k l c z = g z := by
  unfold sN
  rw [pk_un (by omega), fo_upd, if_neg (by omega), pk_un (by omega), pk_un (by omega), pk_un (by omega)]
theorem sN_k {m p : Nat} {k l c : Int32} (hp : p < 6) : sN g m k l c (5 + 3 * p) = if p = m then k else g (5 + 3 * p) := by
  unfold sN
  rw [pk_un (by omega), fo_upd, if_neg (by omega), pk_un (by omega), pk_un (by omega)]
  by_cases c : p = m
  · subst c; rw [pk_us, if_pos rfl]
  · rw [pk_un (by omega), if_neg c]
theorem sN_l {m p : Nat} {k l c : Int32} (hp : p < 6) : sN g m k l c (6 + 3 * p) = if p = m then l else g (6 + 3 * p) := by
  unfold sN
  rw [pk_un (by omega), fo_upd, if_neg (by omega), pk_un (by omega)]
  by_cases c : p = m
  · subst c; rw [pk_us, if_pos rfl]
  · rw [pk_un (by omega), pk_un (by omega), if_neg c]
theorem sN_c {m p : Nat} {k l c : Int32} (hp : p < 6) : sN g m k l c (7 + 3 * p) = if p = m then c else g (7 + 3 * p) := by
  unfold sN
  rw [pk_un (by omega), fo_upd, if_neg (by omega)]
  by_cases c : p = m
  · subst c; rw [pk_us, if_pos rfl]
  · rw [pk_un (by omega), pk_un (by omega), pk_un (by omega), if_neg c]
theorem sN_h {m j : Nat} {k l c : Int32} (hm : m < 6) : sN g m k l c (23 + j) = fo (fun g j => upd g (12 * m + j) 1) (fun j => g (23 + j)) 0 12 j := by
  unfold sN
  rw [pk_un (by omega), fo_upd, fo_upd]
  by_cases d : 12 * m + 0 ≤ j ∧ j < 12 * m + 0 + 12
  · rw [if_pos d, if_pos (by omega)]
  · rw [if_neg d, if_neg (by omega), pk_un (by omega), pk_un (by omega), pk_un (by omega)]
theorem comes2 {m : Nat} (hm : m < 6) (e0 : g 0 = nI m) (k l c : Int32) : fX6_personComes g k l c = some (sN g m k l c, 0) := by
  unfold fX6_personComes
  have e5 : (5 : Int32) + 3 * nI m = nI (5 + 3 * m) := by rw [show (5 : Int32) = nI 5 from rfl, show (3 : Int32) = nI 3 from rfl, pk_mul, nI_add]
  have e6 : nI (5 + 3 * m) + 1 = nI (6 + 3 * m) := by rw [nI_1, show 5 + 3 * m + 1 = 6 + 3 * m by omega]
  have e7 : nI (5 + 3 * m) + 2 = nI (7 + 3 * m) := by rw [show (2 : Int32) = nI 2 from rfl, nI_add, show 5 + 3 * m + 2 = 7 + 3 * m by omega]
  have z0 : (upd (upd (upd g (5 + 3 * m) k) (6 + 3 * m) l) (7 + 3 * m) c) 0 = nI m := by
    rw [pk_un (by omega), pk_un (by omega), pk_un (by omega)]; exact e0
  have q0 : ∀ f : Nat → Int32, fo (fun g j => upd g (23 + 12 * m + j) 1) f 0 12 0 = f 0 := fun f => by rw [fo_upd, if_neg (by omega)]
  rw [i0, bS1, e0, e5, e6, e7, ix_n (by omega) (by decide), bS1, ix_n (by omega) (by decide), bS1, ix_n (by omega) (by decide), bS1, comes_L hm _ z0, bS1, q0, z0, nI_1]
  rfl
theorem settle2 {m : Nat} (hT : TR (nI m) fewest kinds loves many sets chalk wet harvest draw g) (hm : m < 6) {k : Nat} (hk : k < 5) (c : Int32) : ∃ many2 sets2, fX4_settle (nI m) kinds loves many sets chalk (nI k) c = some (nI m, nI (m + 1), upd kinds m (nI k), upd loves m (nI m), many2, sets2, upd chalk m c) ∧ ∀ l, l < 6 → TR (nI (m + 1)) fewest (upd kinds m (nI k)) (upd loves m (nI l)) many2 sets2 (upd chalk m c) wet harvest draw (sN g m (nI k) (nI l) c) := by
  unfold fX4_settle
  obtain ⟨m2, s2, x1, x2⟩ := settle_L (p := m) hm 12 fl 0 many sets (fun j => g (23 + j)) rfl (by decide) hT.2.2.2.2
  rw [if_pos (show nI m < 6 from nI_lt (b := 6) hm (by decide)), ix_n hm (by decide), bS1, show fX4_settle_L54 (nI m) fl 0 many sets = some (m2, s2) from x1, bS2, nI_1]
  refine ⟨m2, s2, rfl, fun l hl => ?_⟩
  obtain ⟨a1, a2, a3, a4, a5⟩ := hT
  refine ⟨⟨sN_0.symm, m + 1, by omega, sN_0⟩, ?_, fun p hp => ?_, fun p hp => ?_, ?_⟩
  · rw [sN_a (by decide) (by decide)]
    exact a2
  · rw [sN_k hp]
    by_cases d : p = m
    · rw [if_pos d, d, pk_us]
      exact ⟨rfl, k, hk, rfl⟩
    · rw [pk_un d, if_neg d]
      exact a3 p hp
  · rw [sN_l hp]
    by_cases d : p = m
    · rw [if_pos d, d, pk_us]
      exact ⟨rfl, l, hl, rfl⟩
    · rw [pk_un d, if_neg d]
      exact a4 p hp
  · obtain ⟨c1, c2, c3, c4⟩ := x2
    refine ⟨fun j hj => (c1 j hj).trans (sN_h hm).symm, fun p hp => ?_, fun p hp => ?_, ?_⟩
    · show _ = sN g m (nI k) (nI l) c (7 + 3 * p)
      rw [sN_c hp]
      by_cases d : p = m
      · rw [if_pos d, d, pk_us]
      · rw [pk_un d, if_neg d]; exact c2 p hp
    · have q : hvN (fun h => fo (fun g j => upd g (12 * m + j) 1) (fun j => g (23 + j)) 0 12 (12 * p + h)) 12 = hvN (fun h => sN g m (nI k) (nI l) c (23 + (12 * p + h))) 12 := hvN_cg 12 (fun h _ => (sN_h hm).symm)
      rw [c3 p hp, q]
    · rw [sN_a (by decide) (by decide), sN_a (by decide) (by decide), sN_a (by decide) (by decide)]
      exact c4
/-- what is read behind chalk and love -/
def tlX (a_letters : Nat → Int32) (a_length x19 x10 : Int32) (f11 f12 f13 f14 f15 : Nat → Int32) (r9 : Int32) : Option (Int32 × Int32 × Int32 × (Nat → Int32) × (Nat → Int32) × (Nat → Int32) × (Nat → Int32) × (Nat → Int32)) :=
  bd2 (fX3_takes a_letters a_length x19 45) fun r22 x23 =>
  if r22 = 0 then
    bd2 (fX3_takes a_letters a_length x23 43) fun r26 x27 =>
    if r26 = 0 then
      some (1, x27, x10, f11, f12, f13, f14, f15)
    else
      bd4 (fX3_tellHalves a_letters a_length x27 f13 f14 r9 1) fun r30 x31 f32 f33 =>
      if r30 = 0 then
        some (0, x31, x10, f11, f12, f32, f33, f15)
      else
        some (1, x31, x10, f11, f12, f32, f33, f15)
  else
    bd4 (fX3_tellHalves a_letters a_length x23 f13 f14 r9 (-1)) fun r36 x37 f38 f39 =>
    if r36 = 0 then
      some (0, x37, x10, f11, f12, f38, f39, f15)
    else
      bd2 (fX3_takes a_letters a_length x37 43) fun r42 x43 =>
      if r42 = 0 then
        some (1, x43, x10, f11, f12, f38, f39, f15)
      else
        bd4 (fX3_tellHalves a_letters a_length x43 f38 f39 r9 1) fun r46 x47 f48 f49 =>
        if r46 = 0 then
          some (0, x47, x10, f11, f12, f48, f49, f15)
        else
          some (1, x47, x10, f11, f12, f48, f49, f15)
def tlM {β : Type} (tape : Nat → Int32) (typed p f : Int32) (K : Int32 → Int32 → Int32 → Int32 → Option β) : Option β :=
  bd3 (fX6_letters tape typed p f 45) fun r573 x574 x575 =>
  bd3 (fX6_letters tape typed x574 x575 43) fun r577 x578 x579 => K r573 r577 x578 x579
theorem tlM_F {β : Type} (p : Int32) (K : Int32 → Int32 → Int32 → Int32 → Option β) : tlM tape (nI n) p 1 K = K 0 0 p 1 := by
  unfold tlM
  rw [let_F, bS3, let_F, bS3]
/-- the halves lost and won, together -/
def HH (p : Nat) (g0 : Nat → Int32) (less more : Nat) (g : Nat → Int32) : Prop :=
  (∀ h, h < 12 → g (23 + (12 * p + h)) = g0 (23 + (12 * p + h)) + (if less.testBit h then -1 else 0) + (if more.testBit h then 1 else 0)) ∧ ∀ j, (∀ h, h < 12 → j ≠ 23 + (12 * p + h)) → g j = g0 j
theorem HG.both {p : Nat} {g0 g1 g2 : Nat → Int32} {S T : Nat} (h1 : HG p (-1) g0 S g1) (h2 : HG p 1 g1 T g2) : HH p g0 S T g2 :=
  ⟨fun h hh => by rw [h2.1 h hh, h1.1 h hh], fun j hj => (h2.2 j hj).trans (h1.2 j hj)⟩
theorem tail2 (hA : TA letters tape n) {p : Nat} (hp : p < 6) (hT : TR people fewest kinds loves many sets chalk wet harvest draw g) {x : Nat} (hx : x ≤ n) : (∃ q a1 a2 a3 a4 a5 a6 r1 r2, q ≤ n ∧ tlX letters (nI n) (nI x) people kinds loves many sets chalk (nI p) = some (0, nI q, a1, a2, a3, a4, a5, a6) ∧ ∀ (β : Type) (K : Int32 → Int32 → Int32 → Int32 → Option β), tlM tape (nI n) (nI x) 0 K = K r1 r2 (nI q) 1) ∨ (∃ x2 y2 S T many2 sets2 g2, x2 ≤ n ∧ y2 ≤ n ∧ skp tape n x2 = skp tape n y2 ∧ S < 4096 ∧ T < 4096 ∧ tlX letters (nI n) (nI x) people kinds loves many sets chalk (nI p) = some (1, nI x2, people, kinds, loves, many2, sets2, chalk) ∧ (∀ (β : Type) (K : Int32 → Int32 → Int32 → Int32 → Option β), tlM tape (nI n) (nI x) 0 K = K (nI S) (nI T) (nI y2) 0) ∧ TR people fewest kinds loves many2 sets2 chalk wet harvest draw g2 ∧ HH p g S T g2) := by
  unfold tlX tlM
  rcases sgn2 hA hp (-1) hT hx hx rfl (k := 45) (by decide) (by decide) with ⟨x1, q, a1, a2, r, w1, w2, w3, w4⟩ | ⟨q, w1, w2, w3, w4⟩ | ⟨x1, x2, S, m2, s2, g2, w1, w2, w3, w4, w5, w6, w7⟩
  · rw [show fX3_takes letters (nI n) (nI x) 45 = some (1, nI x1) from w2, bS2, i10, w3, bS4, i00]
    refine Or.inl ⟨q, _, _, _, _, _, _, r, 0, w1, rfl, fun β K => ?_⟩
    rw [show fX6_letters tape (nI n) (nI x) 0 45 = some (r, nI q, 1) from w4, bS3, let_F, bS3]
  · rw [show fX3_takes letters (nI n) (nI x) 45 = some (0, nI q) from w3, bS2, i00]
    rcases sgn2 hA hp 1 hT w1 w1 rfl (k := 43) (by decide) (by decide) with ⟨x1, q', a1, a2, r, v1, v2, v3, v4⟩ | ⟨q', v1, v2, v3, v4⟩ | ⟨x1, x2, S, m2, s2, g2, v1, v2, v3, v4, v5, v6, v7⟩
    · rw [show fX3_takes letters (nI n) (nI q) 43 = some (1, nI x1) from v2, bS2, i10, v3, bS4, i00]
      refine Or.inl ⟨q', _, _, _, _, _, _, nI 0, r, v1, rfl, fun β K => ?_⟩
      rw [show fX6_letters tape (nI n) (nI x) 0 45 = some (nI 0, nI q, 0) from w4, bS3, show fX6_letters tape (nI n) (nI q) 0 43 = some (r, nI q', 1) from v4, bS3]
    · rw [show fX3_takes letters (nI n) (nI q) 43 = some (0, nI q') from v3, bS2, i00]
      refine Or.inr ⟨q', q', 0, 0, many, sets, g, v1, v1, rfl, by decide, by decide, rfl, fun β K => ?_, hT, (HG.zero p (-1) g).both (HG.zero p 1 g)⟩
      rw [show fX6_letters tape (nI n) (nI x) 0 45 = some (nI 0, nI q, 0) from w4, bS3, show fX6_letters tape (nI n) (nI q) 0 43 = some (nI 0, nI q', 0) from v4, bS3]
    · rw [show fX3_takes letters (nI n) (nI q) 43 = some (1, nI x1) from v3, bS2, i10, v4, bS4, i10]
      refine Or.inr ⟨x2, skp tape n x2, 0, S, m2, s2, g2, v1, (skp_le v1).2, (skp_id v1).symm, by decide, v2, rfl, fun β K => ?_, v6, (HG.zero p (-1) g).both v7⟩
      rw [show fX6_letters tape (nI n) (nI x) 0 45 = some (nI 0, nI q, 0) from w4, bS3, show fX6_letters tape (nI n) (nI q) 0 43 = some (nI S, nI (skp tape n x2), 0) from v5, bS3]
  · rw [show fX3_takes letters (nI n) (nI x) 45 = some (1, nI x1) from w3, bS2, i10, w4, bS4, i10]
    have eL : fX6_letters tape (nI n) (nI x) 0 45 = some (nI S, nI (skp tape n x2), 0) := w5
    rcases sgn2 hA hp 1 w6 w1 (skp_le w1).2 (skp_id w1).symm (k := 43) (by decide) (by decide) with ⟨x1', q', a1, a2, r, v1, v2, v3, v4⟩ | ⟨q', v1, v2, v3, v4⟩ | ⟨x1', x2', S', m2', s2', g2', v1, v2, v3, v4, v5, v6, v7⟩
    · rw [show fX3_takes letters (nI n) (nI x2) 43 = some (1, nI x1') from v2, bS2, i10, v3, bS4, i00]
      refine Or.inl ⟨q', _, _, _, _, _, _, nI S, r, v1, rfl, fun β K => ?_⟩
      rw [eL, bS3, show fX6_letters tape (nI n) (nI (skp tape n x2)) 0 43 = some (r, nI q', 1) from v4, bS3]
    · rw [show fX3_takes letters (nI n) (nI x2) 43 = some (0, nI q') from v3, bS2, i00]
      refine Or.inr ⟨q', q', S, 0, m2, s2, g2, v1, v1, rfl, w2, by decide, rfl, fun β K => ?_, w6, w7.both (HG.zero p 1 g2)⟩
      rw [eL, bS3, show fX6_letters tape (nI n) (nI (skp tape n x2)) 0 43 = some (nI 0, nI q', 0) from v4, bS3]
    · rw [show fX3_takes letters (nI n) (nI x2) 43 = some (1, nI x1') from v3, bS2, i10, v4, bS4, i10]
      refine Or.inr ⟨x2', skp tape n x2', S, S', m2', s2', g2', v1, (skp_le v1).2, (skp_id v1).symm, w2, v2, rfl, fun β K => ?_, v6, w7.both v7⟩
      rw [eL, bS3, show fX6_letters tape (nI n) (nI (skp tape n x2)) 0 43 = some (nI S', nI (skp tape n x2'), 0) from v5, bS3]
/-- what the reference writes down of one -/
def rcd (rd : Nat → Int32) (m : Nat) (k l c a b : Int32) : Nat → Int32 := upd (upd (upd (upd (upd rd (5 * m) k) (5 * m + 1) l) (5 * m + 2) c) (5 * m + 3) a) (5 * m + 4) b
def bdC {β : Type} (tape : Nat → Int32) (typed v477 x525 r539 x556 x557 x558 : Int32) (g480 : Nat → Int32) (K : Int32 → Int32 → (Nat → Int32) → Option β) : Option β :=
  tlM tape typed x556 x557 fun r573 r577 x578 x579 =>
  bd1 (if x579 = 0 then
      bd1 (ix (5 * v477) 30) fun j595 =>
      bd1 (ix ((5 * v477) + 1) 30) fun j597 =>
      bd1 (ix ((5 * v477) + 2) 30) fun j599 =>
      bd1 (ix ((5 * v477) + 3) 30) fun j601 =>
      bd1 (ix ((5 * v477) + 4) 30) fun j603 =>
      some ((upd (upd (upd (upd (upd g480 j595 x525) j597 x558) j599 r539) j601 r573) j603 r577))
    else
      some (g480)
    : Option ((Nat → Int32))) fun f592 =>
  K x579 x578 f592
def bdB {β : Type} (tape : Nat → Int32) (typed v477 x525 x536 x537 : Int32) (g480 : Nat → Int32) (K : Int32 → Int32 → (Nat → Int32) → Option β) : Option β :=
  bd3 (fX6_number tape typed x536 x537) fun r539 x540 x541 =>
  bd3 (if x541 = 0 then
      bd2 (fX6_here tape typed x540) fun r561 x562 =>
      if r561 = 62 then
        bd2 (fX6_here tape typed (x562 + 1)) fun r565 x566 =>
        bd1 (fX6_in (Int32.toInt64 (r565 - 48)) 0 5) fun r568 =>
        bd2 (fX6_must x566 x541 r568) fun x570 x571 =>
        some (x570, x571, (r565 - 48))
      else
        some (x562, x541, v477)
    else
      some (x540, x541, v477)
    : Option (Int32 × Int32 × Int32)) fun x556 x557 x558 =>
  bdC tape typed v477 x525 r539 x556 x557 x558 g480 K
def bdM {β : Type} (tape : Nat → Int32) (typed v477 x498 x499 : Int32) (g480 : Nat → Int32) (K : Int32 → Int32 → (Nat → Int32) → Option β) : Option β :=
  bd2 (if x499 = 0 then
      bd2 (fX6_here tape typed x498) fun r517 x518 =>
      some (x518, r517)
    else
      some (x498, 0)
    : Option (Int32 × Int32)) fun x513 x514 =>
  bd1 (if x514 = 112 then
      some (0)
    else
      if x514 = 102 then
        some (1)
      else
        if x514 = 111 then
          some (2)
        else
          if x514 = 108 then
            some (3)
          else
            if x514 = 114 then
              some (4)
            else
              some ((-1))
    : Option Int32) fun x525 =>
  bd1 (if x525 < 0 then
      some (0)
    else
      some (1)
    : Option Int32) fun x533 =>
  bd2 (fX6_must x513 x499 x533) fun x536 x537 =>
  bdB tape typed v477 x525 x536 x537 g480 K
theorem bdC_F {β : Type} {v k c p l : Int32} {rd : Nat → Int32} (K : Int32 → Int32 → (Nat → Int32) → Option β) : bdC tape (nI n) v k c p 1 l rd K = K 1 p rd := by
  unfold bdC
  rw [tlM_F, if_neg (by decide), bS1]
theorem bdB_F {β : Type} {v k p : Int32} {rd : Nat → Int32} (K : Int32 → Int32 → (Nat → Int32) → Option β) : bdB tape (nI n) v k p 1 rd K = K 1 p rd := by
  unfold bdB
  rw [num_F, bS3, if_neg (by decide), bS3, bdC_F]
theorem bdM_F {β : Type} {v p : Int32} {rd : Nat → Int32} (K : Int32 → Int32 → (Nat → Int32) → Option β) : bdM tape (nI n) v p 1 rd K = K 1 p rd := by
  unfold bdM
  rw [if_neg (by decide), bS2, show (if (0 : Int32) = 112 then some (0 : Int32) else if (0 : Int32) = 102 then some 1 else if (0 : Int32) = 111 then some 2 else if (0 : Int32) = 108 then some 3 else if (0 : Int32) = 114 then some 4 else some (-1)) = some (-1) by decide, bS1, if_pos (by decide), bS1, must_F, bS2, bdB_F]
theorem knd_all : ∀ c, c < 127 → (if nI c = 112 then some (0 : Int32) else if nI c = 102 then some 1 else if nI c = 111 then some 2 else if nI c = 108 then some 3 else if nI c = 114 then some 4 else some (-1)) = some (idx 1 c) := by decide +kernel
theorem knd_c (c : Nat) : idx 1 c = -1 ∨ ∃ k, k < 5 ∧ idx 1 c = nI k := by
  unfold idx
  rw [if_neg (by decide), if_pos rfl]
  repeat' split
  · exact Or.inr ⟨0, by decide, rfl⟩
  · exact Or.inr ⟨1, by decide, rfl⟩
  · exact Or.inr ⟨2, by decide, rfl⟩
  · exact Or.inr ⟨3, by decide, rfl⟩
  · exact Or.inr ⟨4, by decide, rfl⟩
  · exact Or.inl rfl
theorem lov_all : ∀ c, c < 127 → fX6_in (Int32.toInt64 (nI c - 48)) 0 5 = some (if 48 ≤ c ∧ c ≤ 53 then 1 else 0) ∧ idx 3 c = if 48 ≤ c ∧ c ≤ 53 then nI (c - 48) else -1 := by decide +kernel
theorem upd_2 {f : Nat → Int32} {k : Nat} {a b : Int32} : upd (upd f k a) k b = upd f k b := by
  funext z
  by_cases c : z = k
  · subst c; rw [pk_us, pk_us]
  · rw [pk_un c, pk_un c, pk_un c]
end RU
