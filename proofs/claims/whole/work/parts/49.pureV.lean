/-! ===== a text is read: one person, all people ===== -/
section RV
variable {letters tape : Nat → Int32} {n : Nat}
variable {people fewest : Int32} {kinds loves many sets chalk : Nat → Int32} {wet harvest draw : Int32} {g : Nat → Int32}
theorem i5m (m w : Nat) : (5 : Int32) * nI m + nI w = nI (5 * m + w) := by
  rw [show (5 : Int32) = nI 5 from rfl, pk_mul, nI_add]
theorem i5z (m : Nat) : (5 : Int32) * nI m = nI (5 * m) := pk_mul 5 m
def w183 (rd : Nat → Int32) (m h : Nat) : Int32 := ((rd (5 * m + 4) >>> (nI h &&& 31)) &&& 1) - ((rd (5 * m + 3) >>> (nI h &&& 31)) &&& 1)
/-- one who was written down comes -/
def ap1 (rd g : Nat → Int32) (m : Nat) : Nat → Int32 := fo (fun g j => upd g (23 + 12 * m + j) (g (23 + 12 * m + j) + w183 rd m j)) (sN g m (rd (5 * m)) (rd (5 * m + 1)) (rd (5 * m + 2))) 0 12
theorem read183 {m : Nat} (hm : m < 6) (rd f : Nat → Int32) : fX6_read_L183 rd (nI m) fl 0 f = some (fo (fun g j => upd g (23 + 12 * m + j) (g (23 + 12 * m + j) + w183 rd m j)) f 0 12) :=
  rowL (fX6_read_L183 rd (nI m)) (fun g j => upd g (23 + 12 * m + j) (g (23 + 12 * m + j) + w183 rd m j)) 12 (by decide) (fun n a => by rw [fX6_read_L183, if_pos p12]) (fun n a i hi => by
    rw [fX6_read_L183, if_neg (n12 hi), show (5 : Int32) * nI m + 4 = nI (5 * m + 4) from i5m m 4, ix_n (by omega) (by decide), bS1, show (5 : Int32) * nI m + 3 = nI (5 * m + 3) from i5m m 3, ix_n (by omega) (by decide), bS1, gets_m _ hm hi, bS1, nI_1, ← Nat.add_assoc]
    rfl) f
theorem rcd_0 {rd : Nat → Int32} {m : Nat} {k l c a b : Int32} : rcd rd m k l c a b (5 * m) = k := by
  unfold rcd
  rw [pk_un (by omega), pk_un (by omega), pk_un (by omega), pk_un (by omega), pk_us]
theorem rcd_1 {rd : Nat → Int32} {m : Nat} {k l c a b : Int32} : rcd rd m k l c a b (5 * m + 1) = l := by
  unfold rcd
  rw [pk_un (by omega), pk_un (by omega), pk_un (by omega), pk_us]
theorem rcd_2 {rd : Nat → Int32} {m : Nat} {k l c a b : Int32} : rcd rd m k l c a b (5 * m + 2) = c := by
  unfold rcd
  rw [pk_un (by omega), pk_un (by omega), pk_us]
theorem rcd_3 {rd : Nat → Int32} {m : Nat} {k l c a b : Int32} : rcd rd m k l c a b (5 * m + 3) = a := by
  unfold rcd
  rw [pk_un (by omega), pk_us]
theorem rcd_4 {rd : Nat → Int32} {m : Nat} {k l c a b : Int32} : rcd rd m k l c a b (5 * m + 4) = b := by
  unfold rcd
  rw [pk_us]
theorem rcd_o {rd : Nat → Int32} {m j : Nat} {k l c a b : Int32} (h : j < 5 * m) : rcd rd m k l c a b j = rd j := by
  unfold rcd
  rw [pk_un (by omega), pk_un (by omega), pk_un (by omega), pk_un (by omega), pk_un (by omega)]
theorem bits_w (x : Int32) (a b : Bool) : x + (nI (if b = true then 1 else 0) - nI (if a = true then 1 else 0)) = x + (if a = true then -1 else 0) + (if b = true then 1 else 0) := by
  cases a <;> cases b
  · show x + (nI 0 - nI 0) = x + 0 + 0
    rw [show nI 0 - nI 0 = 0 by decide, Int32.add_zero, Int32.add_zero]
  · show x + (nI 1 - nI 0) = x + 0 + 1
    rw [show nI 1 - nI 0 = 1 by decide, Int32.add_zero]
  · show x + (nI 0 - nI 1) = x + -1 + 0
    rw [show nI 0 - nI 1 = -1 by decide, Int32.add_zero]
  · show x + (nI 1 - nI 1) = x + -1 + 1
    rw [show nI 1 - nI 1 = 0 by decide, Int32.add_assoc, show (-1 : Int32) + 1 = 0 by decide]
theorem fin1 {m : Nat} {k l c : Int32} {S T : Nat} (hS : S < 4096) (hT2 : T < 4096) (rd : Nat → Int32) {g2 : Nat → Int32} (hT : TR people fewest kinds loves many sets chalk wet harvest draw g2) (hH : HH m (sN g m k l c) S T g2) : TR people fewest kinds loves many sets chalk wet harvest draw (ap1 (rcd rd m k l c (nI S) (nI T)) g m) := by
  refine hT.cg (fun _ _ => rfl) (fun _ _ => rfl) (fun _ _ => rfl) (fun _ _ => rfl) (fun _ _ => rfl) (fun j hj => ?_)
  unfold ap1
  rw [fo_addw, rcd_0, rcd_1, rcd_2]
  by_cases d : 23 + 12 * m + 0 ≤ j ∧ j < 23 + 12 * m + 0 + 12
  · obtain ⟨h, hh, rfl⟩ : ∃ h, h < 12 ∧ j = 23 + (12 * m + h) := ⟨j - (23 + 12 * m), by omega, by omega⟩
    rw [if_pos d, hH.1 h hh, show 23 + (12 * m + h) - (23 + 12 * m) = h by omega]
    unfold w183
    rw [rcd_3, rcd_4, bit_n (by omega) (by omega), bit_n (by omega) (by omega)]
    exact bits_w _ _ _
  · rw [if_neg d]
    exact (hH.2 j (fun h hh => by omega)).symm
theorem bdC_ok {m : Nat} (hm : m < 6) {k l c : Int32} {p r1 r2 p2 : Int32} {rd : Nat → Int32} (h : ∀ (β : Type) (K : Int32 → Int32 → Int32 → Int32 → Option β), tlM tape (nI n) p 0 K = K r1 r2 p2 0) {β : Type} (K : Int32 → Int32 → (Nat → Int32) → Option β) : bdC tape (nI n) (nI m) k c p 0 l rd K = K 0 p2 (rcd rd m k l c r1 r2) := by
  unfold bdC
  rw [h, if_pos rfl, show (5 : Int32) * nI m + 1 = nI (5 * m + 1) from i5m m 1, show (5 : Int32) * nI m + 2 = nI (5 * m + 2) from i5m m 2, show (5 : Int32) * nI m + 3 = nI (5 * m + 3) from i5m m 3, show (5 : Int32) * nI m + 4 = nI (5 * m + 4) from i5m m 4, i5z, ix_n (by omega) (by decide), bS1, ix_n (by omega) (by decide), bS1, ix_n (by omega) (by decide), bS1, ix_n (by omega) (by decide), bS1, ix_n (by omega) (by decide), bS1, bS1]
  rfl
theorem bdC_bad {m k l c p r1 r2 p2 : Int32} {rd : Nat → Int32} (h : ∀ (β : Type) (K : Int32 → Int32 → Int32 → Int32 → Option β), tlM tape (nI n) p 0 K = K r1 r2 p2 1) {β : Type} (K : Int32 → Int32 → (Nat → Int32) → Option β) : bdC tape (nI n) m k c p 0 l rd K = K 1 p2 rd := by
  unfold bdC
  rw [h, if_neg (by decide), bS1]
theorem onep (hA : TA letters tape n) {m : Nat} (hm : m < 6) (hT : TR (nI m) fewest kinds loves many sets chalk wet harvest draw g) {x y : Nat} (hx : x ≤ n) (hy : y ≤ n) (e : skp tape n x = skp tape n y) (rd : Nat → Int32) : (∃ q a1 a2 a3 a4 a5 a6, q ≤ n ∧ fX3_tellOne letters (nI n) (nI x) (nI m) kinds loves many sets chalk = some (0, nI q, a1, a2, a3, a4, a5, a6) ∧ ∀ (β : Type) (K : Int32 → Int32 → (Nat → Int32) → Option β), bdM tape (nI n) (nI m) (nI y) 0 rd K = K 1 (nI q) rd) ∨ (∃ x2 y2 k l c S T many2 sets2, x2 ≤ n ∧ y2 ≤ n ∧ skp tape n x2 = skp tape n y2 ∧ k < 5 ∧ l < 6 ∧ c < 100 ∧ S < 4096 ∧ T < 4096 ∧ fX3_tellOne letters (nI n) (nI x) (nI m) kinds loves many sets chalk = some (1, nI x2, nI (m + 1), upd kinds m (nI k), upd loves m (nI l), many2, sets2, upd chalk m (nI c)) ∧ (∀ (β : Type) (K : Int32 → Int32 → (Nat → Int32) → Option β), bdM tape (nI n) (nI m) (nI y) 0 rd K = K 0 (nI y2) (rcd rd m (nI k) (nI l) (nI c) (nI S) (nI T))) ∧ TR (nI (m + 1)) fewest (upd kinds m (nI k)) (upd loves m (nI l)) many2 sets2 (upd chalk m (nI c)) wet harvest draw (ap1 (rcd rd m (nI k) (nI l) (nI c) (nI S) (nI T)) g m)) := by
  have hn := hA.1
  unfold fX3_tellOne bdM
  rcases one2 hA hx hy e (k := 1) (by decide) with ⟨q, q1, q2, e1, e2⟩ | ⟨q, c, q1, q2, k1, k2, k3, e1, e2⟩
  · rw [e1, bS2, if_neg (show ¬ (0 : Int32) ≤ -1 by decide)]
    refine Or.inl ⟨q, _, _, _, _, _, _, by omega, rfl, fun β K => ?_⟩
    rw [if_pos rfl, e2, bS2, bS2, show (if (0 : Int32) = 112 then some (0 : Int32) else if (0 : Int32) = 102 then some 1 else if (0 : Int32) = 111 then some 2 else if (0 : Int32) = 108 then some 3 else if (0 : Int32) = 114 then some 4 else some (-1)) = some (-1) by decide, bS1, if_pos (by decide), bS1, must_0, bS2, bdB_F]
  · rw [e1, bS2]
    rcases knd_c c with z | ⟨k, hk, z⟩
    · rw [z, if_neg (show ¬ (0 : Int32) ≤ -1 by decide), if_pos (show (-1 : Int32) < 0 by decide)]
      refine Or.inl ⟨q, _, _, _, _, _, _, by omega, rfl, fun β K => ?_⟩
      rw [if_pos rfl, e2, bS2, bS2, knd_all c (by omega), z, bS1, if_pos (by decide), bS1, must_0, bS2, bdB_F]
    · have z0 : ¬ nI k < 0 := nI_pos (by omega)
      have hM : ∀ (β : Type) (K : Int32 → Int32 → (Nat → Int32) → Option β), bdM tape (nI n) (nI m) (nI y) 0 rd K = bdB tape (nI n) (nI m) (nI k) (nI (q + 1)) 0 rd K := fun β K => by
        unfold bdM
        rw [if_pos rfl, e2, bS2, bS2, knd_all c (by omega), z, bS1, if_neg z0, bS1, must_1, bS2]
      rw [z, if_pos (show (0 : Int32) ≤ nI k from nI_pos' (by omega)), if_neg z0]
      rcases num2 hA (show q + 1 ≤ n by omega) with ⟨q', r, w1, w2, w3⟩ | ⟨q', v, w1, w2, w3, w4⟩
      · rw [w2, bS2, if_neg (show ¬ (0 : Int32) ≤ -1 by decide)]
        refine Or.inl ⟨q', _, _, _, _, _, _, w1, rfl, fun β K => (hM β K).trans ?_⟩
        unfold bdB
        rw [w3, bS3, if_neg (by decide), bS3, bdC_F]
      · obtain ⟨many2, sets2, s1, s2⟩ := settle2 hT hm hk (nI v)
        rw [w3, bS2, if_pos (show (0 : Int32) ≤ nI v from nI_pos' (by omega)), s1, bS7, if_pos (show (0 : Int32) ≤ nI m from nI_pos' (by omega))]
        rcases takes2 hA w1 w1 rfl (k := 62) (by decide) (by decide) with ⟨p, p1, t1, t2⟩ | ⟨p, r, p1, p2, p3, t1, t2, t3⟩
        · rw [show fX3_takes letters (nI n) (nI q') 62 = some (1, nI (p + 1)) from t1, bS2, i10]
          have hM2 : ∀ (β : Type) (K : Int32 → Int32 → (Nat → Int32) → Option β) (r565 x566 : Int32) (b : Int32), fX6_here tape (nI n) (nI (p + 1)) = some (r565, x566) → fX6_in (Int32.toInt64 (r565 - 48)) 0 5 = some b → bdM tape (nI n) (nI m) (nI y) 0 rd K = bd2 (fX6_must x566 0 b) fun x570 x571 => bdC tape (nI n) (nI m) (nI k) (nI v) x570 x571 (r565 - 48) rd K := fun β K r565 x566 b y1 y2 => by
            rw [hM]
            unfold bdB
            rw [w4, bS3, if_pos rfl, t2, bS2, if_pos (show nI 62 = 62 from rfl), nI_1, y1, bS2, y2, bS1]
            unfold fX6_must
            rcases (show b = 0 ∨ ¬ b = 0 from Decidable.em _) with u | u
            · rw [if_pos rfl, if_pos u, bS1, isb1, bS0, if_neg (by decide), bS1, bS2, bS3, bS2]
            · rw [if_pos rfl, if_neg u, bS1, isb0, bS0, if_pos rfl, bS1, bS2, bS3, bS2]
          rcases one2 hA (show p + 1 ≤ n by omega) (show p + 1 ≤ n by omega) rfl (k := 3) (by decide) with ⟨u, u1, u2, f1, f2⟩ | ⟨u, c', u1, u2, j1, j2, j3, f1, f2⟩
          · rw [f1, bS2, if_neg (show ¬ (0 : Int32) ≤ -1 by decide)]
            refine Or.inl ⟨u, _, _, _, _, _, _, by omega, rfl, fun β K => (hM2 β K 0 (nI u) 0 f2 (by decide)).trans ?_⟩
            rw [must_0, bS2, bdC_F]
          · obtain ⟨l1, l2⟩ := lov_all c' (by omega)
            by_cases d : 48 ≤ c' ∧ c' ≤ 53
            · rw [if_pos d] at l1 l2
              have ec : nI c' - 48 = nI (c' - 48) := pk_sub (b := 48) d.1
              rw [f1, l2, bS2, if_pos (show (0 : Int32) ≤ nI (c' - 48) from nI_pos' (by omega)), if_neg (show ¬ nI (c' - 48) < 0 from nI_pos (by omega)), ix_n hm (by decide), bS1, upd_2]
              rcases tail2 hA hm (s2 (c' - 48) (by omega)) (show u + 1 ≤ n by omega) with ⟨o, a1, a2, a3, a4, a5, a6, r1, r2, o1, o2, o3⟩ | ⟨x2, y2, S, T, m3, s3, g3, o1, o2, o3, o4, o5, o6, o7, o8, o9⟩
              · refine Or.inl ⟨o, a1, a2, a3, a4, a5, a6, o1, o2, fun β K => (hM2 β K _ _ _ f2 l1).trans ?_⟩
                rw [must_1, bS2, bdC_bad o3]
              · refine Or.inr ⟨x2, y2, k, c' - 48, v, S, T, m3, s3, o1, o2, o3, hk, by omega, w2, o4, o5, o6, fun β K => (hM2 β K _ _ _ f2 l1).trans ?_, fin1 o4 o5 rd o8 o9⟩
                rw [must_1, bS2, bdC_ok hm o7, ec]
            · rw [if_neg d] at l1 l2
              rw [f1, l2, bS2, if_neg (show ¬ (0 : Int32) ≤ -1 by decide), if_pos (show (-1 : Int32) < 0 by decide)]
              refine Or.inl ⟨u, _, _, _, _, _, _, by omega, rfl, fun β K => (hM2 β K _ _ _ f2 l1).trans ?_⟩
              rw [must_0, bS2, bdC_F]
        · rw [show fX3_takes letters (nI n) (nI q') 62 = some (0, nI p) from t1, bS2, i00]
          have hM2 : ∀ (β : Type) (K : Int32 → Int32 → (Nat → Int32) → Option β), bdM tape (nI n) (nI m) (nI y) 0 rd K = bdC tape (nI n) (nI m) (nI k) (nI v) (nI p) 0 (nI m) rd K := fun β K => by
            rw [hM]
            unfold bdB
            rw [w4, bS3, if_pos rfl, t2, bS2, if_neg (show ¬ r = 62 from t3), bS3]
          rcases tail2 hA hm (s2 m hm) p1 with ⟨o, a1, a2, a3, a4, a5, a6, r1, r2, o1, o2, o3⟩ | ⟨x2, y2, S, T, m3, s3, g3, o1, o2, o3, o4, o5, o6, o7, o8, o9⟩
          · refine Or.inl ⟨o, a1, a2, a3, a4, a5, a6, o1, o2, fun β K => (hM2 β K).trans ?_⟩
            rw [bdC_bad o3]
          · refine Or.inr ⟨x2, y2, k, m, v, S, T, m3, s3, o1, o2, o3, hk, hm, w2, o4, o5, o6, fun β K => (hM2 β K).trans ?_, fin1 o4 o5 rd o8 o9⟩
            rw [bdC_ok hm o7]
end RV
