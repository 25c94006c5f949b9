/-! ===== images ===== -/
section PCs
variable {people fewest : Int32} {kinds loves many sets chalk : Nat → Int32} {wet harvest draw : Int32} {now : Nat → Int32}
variable {known : Int32} {pmany psets pchalk : Nat → Nat → Int32} {pwet pharvest pdraw : Nat → Int32} {undone : Nat → Int32} {undos : Int32}
theorem TR.cg {kinds2 loves2 many2 sets2 chalk2 now2 : Nat → Int32} (hT : TR people fewest kinds loves many sets chalk wet harvest draw now) (a1 : ∀ p, p < 6 → kinds2 p = kinds p) (a2 : ∀ p, p < 6 → loves2 p = loves p) (a3 : ∀ j, j < 72 → many2 j = many j) (a4 : ∀ p, p < 6 → sets2 p = sets p) (a5 : ∀ p, p < 6 → chalk2 p = chalk p) (b : ∀ j, j < 95 → now2 j = now j) : TR people fewest kinds2 loves2 many2 sets2 chalk2 wet harvest draw now2 := by
  obtain ⟨c1, c2, c3, c4, c5⟩ := hT
  refine ⟨by rw [b 0 (by decide)]; exact c1, by rw [b 1 (by decide)]; exact c2, fun p hp => ?_, fun p hp => ?_, ?_⟩
  · rw [a1 p hp, b _ (by omega)]; exact c3 p hp
  · rw [a2 p hp, b _ (by omega)]; exact c4 p hp
  · exact c5.cg a3 a4 a5 rfl rfl rfl (b 2 (by decide)) (b 3 (by decide)) (b 4 (by decide)) (fun j hj => b _ (by omega)) (fun j hj => b _ (by omega))
/-- two pasts agree at z -/
def PA (z : Nat) (m s c : Nat → Nat → Int32) (w h d : Nat → Int32) (m2 s2 c2 : Nat → Nat → Int32) (w2 h2 d2 : Nat → Int32) : Prop :=
  (∀ j, j < 72 → m2 z j = m z j) ∧ (∀ j, j < 6 → s2 z j = s z j) ∧ (∀ j, j < 6 → c2 z j = c z j) ∧ w2 z = w z ∧ h2 z = h z ∧ d2 z = d z
theorem PR.cg {m2 s2 c2 : Nat → Nat → Int32} {w2 h2 d2 : Nat → Int32} {undone2 : Nat → Int32} (hP : PR known pmany psets pchalk pwet pharvest pdraw undone undos) {k : Nat} (hk : k ≤ 8) (ek : known = nI k) (a : ∀ z, z < k → PA z pmany psets pchalk pwet pharvest pdraw m2 s2 c2 w2 h2 d2) (b : ∀ j, j < 648 → undone2 j = undone j) : PR known m2 s2 c2 w2 h2 d2 undone2 undos := by
  obtain ⟨k2, hk2, e1, e2, h⟩ := hP
  have : k2 = k := (nI_eq (by omega) (by omega)).mp (e1.symm.trans ek)
  subst this
  refine ⟨k2, hk2, e1, e2, fun i hi => ?_⟩
  obtain ⟨p1, p2, p3, p4, p5, p6⟩ := a i hi
  exact (h i hi).cg p1 p2 p3 p4 p5 p6 (b _ (by omega)) (b _ (by omega)) (b _ (by omega)) (fun j hj => b _ (by omega)) (fun j hj => b _ (by omega))
theorem past_L {k : Nat} (hk : k ≤ 8) : ∀ d n i (c : Nat → Nat → Int32) (dr h : Nat → Int32) (m s : Nat → Nat → Int32) (w : Nat → Int32), i + d = k → d < n → (∀ z, z < i → PA z pmany psets pchalk pwet pharvest pdraw m s c w h dr) → ∃ m2 s2 c2 w2 h2 d2, fX1_copyPast_L10 pchalk pdraw pharvest (nI k) pmany psets pwet n (nI i) c dr h m s w = some (m2, s2, c2, w2, h2, d2) ∧ ∀ z, z < k → PA z pmany psets pchalk pwet pharvest pdraw m2 s2 c2 w2 h2 d2 := by
  intro d
  induction d with
  | zero =>
    intro n i c dr h m s w hi hn hI
    obtain ⟨q, rfl⟩ : ∃ q, n = q + 1 := ⟨n - 1, by omega⟩
    have : i = k := by omega
    subst this
    rw [fX1_copyPast_L10, if_pos (le_ge (Nat.le_refl _) (by omega))]
    exact ⟨_, _, _, _, _, _, rfl, hI⟩
  | succ d ih =>
    intro n i c dr h m s w hi hn hI
    obtain ⟨q, rfl⟩ : ∃ q, n = q + 1 := ⟨n - 1, by omega⟩
    rw [fX1_copyPast_L10, if_neg (nI_ge (by omega) (by omega)), ix_n (by omega) (by decide), bS1]
    unfold fX0_copyGoods
    rw [bS6, nI_1]
    refine ih q (i + 1) _ _ _ _ _ _ (by omega) (by omega) (fun z hz => ?_)
    by_cases e : z = i
    · subst e
      refine ⟨fun j hj => ?_, fun j hj => ?_, fun j hj => ?_, up_s _ _ _, up_s _ _ _, up_s _ _ _⟩
      · rw [up_s]; exact sb_cpy0 hj
      · rw [up_s]; exact sb_cpy0 hj
      · rw [up_s]; exact sb_cpy0 hj
    · obtain ⟨p1, p2, p3, p4, p5, p6⟩ := hI z (by omega)
      refine ⟨fun j hj => ?_, fun j hj => ?_, fun j hj => ?_, ?_, ?_, ?_⟩
      · rw [up_n e]; exact p1 j hj
      · rw [up_n e]; exact p2 j hj
      · rw [up_n e]; exact p3 j hj
      · rw [up_n e]; exact p4
      · rw [up_n e]; exact p5
      · rw [up_n e]; exact p6
theorem copyPast_x {k : Nat} (hk : k ≤ 8) (m s c : Nat → Nat → Int32) (w h dr : Nat → Int32) : ∃ m2 s2 c2 w2 h2 d2, fX1_copyPast m s c w h dr (nI k) pmany psets pchalk pwet pharvest pdraw = some (nI k, m2, s2, c2, w2, h2, d2) ∧ ∀ z, z < k → PA z pmany psets pchalk pwet pharvest pdraw m2 s2 c2 w2 h2 d2 := by
  obtain ⟨m2, s2, c2, w2, h2, d2, e, f⟩ := past_L (pmany := pmany) (psets := psets) (pchalk := pchalk) (pwet := pwet) (pharvest := pharvest) (pdraw := pdraw) hk k fl 0 c dr h m s w (by omega) (by unfold fl; omega) (fun z hz => absurd hz (by omega))
  refine ⟨m2, s2, c2, w2, h2, d2, ?_, f⟩
  unfold fX1_copyPast
  rw [show fX1_copyPast_L10 pchalk pdraw pharvest (nI k) pmany psets pwet fl 0 c dr h m s w = _ from e, bS6]
theorem image2 (g : Nat → Int32) : fX6_image_L2 now fl 0 g = some (fo (fun g j => upd g (0 + j) (now j)) g 0 95) :=
  rowL (fX6_image_L2 now) (fun g j => upd g (0 + j) (now j)) 95 (by decide) (fun n a => by rw [fX6_image_L2, if_pos (by decide)]) (fun n a i hi => by
    rw [fX6_image_L2, if_neg (show ¬ (95 : Int32) ≤ nI i from nI_ge (b := 95) hi (by decide)), ix_n (by omega) (by decide), bS1, ix_n (by omega) (by decide), bS1, nI_1, Nat.zero_add]) g
theorem image28 (g : Nat → Int32) : fX6_image_L28 undone fl 0 g = some (fo (fun g j => upd g (95 + j) (undone j)) g 0 648) :=
  rowL (fX6_image_L28 undone) (fun g j => upd g (95 + j) (undone j)) 648 (by decide) (fun n a => by rw [fX6_image_L28, if_pos (by decide)]) (fun n a i hi => by
    rw [fX6_image_L28, if_neg (show ¬ (648 : Int32) ≤ nI i from nI_ge (b := 648) hi (by decide)), ix_n (by omega) (by decide), bS1, show (95 : Int32) + nI i = nI (95 + i) from nI_add 95 i, ix_n (by omega) (by decide), bS1, nI_1]) g
theorem rest12 (kept g : Nat → Int32) : fX6_restore_L12 kept fl 0 g = some (fo (fun g j => upd g (0 + j) (kept j)) g 0 95) :=
  rowL (fX6_restore_L12 kept) (fun g j => upd g (0 + j) (kept j)) 95 (by decide) (fun n a => by rw [fX6_restore_L12, if_pos (by decide)]) (fun n a i hi => by
    rw [fX6_restore_L12, if_neg (show ¬ (95 : Int32) ≤ nI i from nI_ge (b := 95) hi (by decide)), ix_n (by omega) (by decide), bS1, ix_n (by omega) (by decide), bS1, nI_1, Nat.zero_add]) g
theorem rest38 (kept g : Nat → Int32) : fX6_restore_L38 kept fl 0 g = some (fo (fun g j => upd g (0 + j) (kept (95 + j))) g 0 648) :=
  rowL (fX6_restore_L38 kept) (fun g j => upd g (0 + j) (kept (95 + j))) 648 (by decide) (fun n a => by rw [fX6_restore_L38, if_pos (by decide)]) (fun n a i hi => by
    rw [fX6_restore_L38, if_neg (show ¬ (648 : Int32) ≤ nI i from nI_ge (b := 648) hi (by decide)), show (95 : Int32) + nI i = nI (95 + i) from nI_add 95 i, ix_n (by omega) (by decide), bS1, ix_n (by omega) (by decide), bS1, nI_1, Nat.zero_add]) g
variable {isKept kpeople kfewest : Int32} {kkinds kloves kmany ksets kchalk : Nat → Int32} {kwet kharvest kdraw kknown : Int32} {qmany qsets qchalk : Nat → Nat → Int32} {qwet qharvest qdraw : Nat → Int32} {kept : Nat → Int32} {keptUndos mIsKept : Int32}
theorem t_image (hT : TR people fewest kinds loves many sets chalk wet harvest draw now) (hP : PR known pmany psets pchalk pwet pharvest pdraw undone undos) (hI : II now undone undos) (kkinds kloves kmany ksets kchalk : Nat → Int32) (qmany qsets qchalk : Nat → Nat → Int32) (qwet qharvest qdraw kept : Nat → Int32) : ∃ r x_isKept x1 x2 f3 f4 f5 f6 f7 x8 x9 x10 x12 f13 f14 f15 f16 f17 f18 kept_r keptUndos_r mIsKept_r, fX5_image people fewest kinds loves many sets chalk wet harvest draw known pmany psets pchalk pwet pharvest pdraw kkinds kloves kmany ksets kchalk qmany qsets qchalk qwet qharvest qdraw = some (r, x_isKept, x1, x2, f3, f4, f5, f6, f7, x8, x9, x10, x12, f13, f14, f15, f16, f17, f18) ∧ fX6_image now undone undos kept = some (r, kept_r, keptUndos_r, mIsKept_r) ∧ KR x_isKept x1 x2 f3 f4 f5 f6 f7 x8 x9 x10 x12 f13 f14 f15 f16 f17 f18 kept_r keptUndos_r mIsKept_r ∧ KI kept_r keptUndos_r mIsKept_r := by
  have hn6 := hT.ok.1.1
  obtain ⟨k, hk, e1, e2, h⟩ := hP
  have hP : PR known pmany psets pchalk pwet pharvest pdraw undone undos := ⟨k, hk, e1, e2, h⟩
  obtain ⟨m2, s2, c2, w2, h2, d2, x1, x2⟩ := copyPast_x (pmany := pmany) (psets := psets) (pchalk := pchalk) (pwet := pwet) (pharvest := pharvest) (pdraw := pdraw) hk qmany qsets qchalk qwet qharvest qdraw
  unfold fX5_image fX6_image fX4_copyTown fX0_copyGoods
  rw [bS6, bS10, e1, x1, bS7, ← e1, image2, bS1, image28, bS1]
  refine ⟨_, _, _, _, _, _, _, _, _, _, _, _, _, _, _, _, _, _, _, _, _, _, rfl, rfl, ⟨rfl, Or.inr rfl, fun _ => ⟨?_, ?_⟩⟩, fun _ => ?_⟩
  · refine hT.cg (fun j hj => sb_cpy0 hj) (fun j hj => sb_cpy0 hj) (fun j hj => sb_cpy0 hj) (fun j hj => sb_cpy0 hj) (fun j hj => sb_cpy0 hj) (fun j hj => ?_)
    rw [fo_upd, if_neg (by omega), fo_upd, if_pos (by omega), Nat.sub_zero]
  · refine hP.cg hk e1 x2 (fun j hj => ?_)
    rw [fo_upd, if_pos (by omega), show 95 + j - 95 = j by omega]
  · have lo : ∀ j, j < 95 → fo (fun g j => upd g (95 + j) (undone j)) (fo (fun g j => upd g (0 + j) (now j)) kept 0 95) 0 648 j = now j := fun j hj => by
      rw [fo_upd, if_neg (by omega), fo_upd, if_pos (by omega), Nat.sub_zero]
    have hi : ∀ j, j < 648 → fo (fun g j => upd g (95 + j) (undone j)) (fo (fun g j => upd g (0 + j) (now j)) kept 0 95) 0 648 (95 + j) = undone j := fun j hj => by
      rw [fo_upd, if_pos (by omega), show 95 + j - 95 = j by omega]
    refine ⟨hI.1.cg hn6 (lo 0 (by decide)) (fun p hp => lo _ (by omega)) (fun p hp => lo _ (by omega)), ?_⟩
    rw [lo 0 (by decide)]
    obtain ⟨k2, q1, q2, q3⟩ := hI.2
    exact ⟨k2, q1, q2, fun i hi2 => (q3 i hi2).cg hn6 (fun p hp => hi _ (by omega)) (fun p hp => hi _ (by omega))⟩
theorem t_restore (hT : TR people fewest kinds loves many sets chalk wet harvest draw now) (hP : PR known pmany psets pchalk pwet pharvest pdraw undone undos) (hI : II now undone undos) (hJ : KI kept keptUndos mIsKept) (hK : KR isKept kpeople kfewest kkinds kloves kmany ksets kchalk kwet kharvest kdraw kknown qmany qsets qchalk qwet qharvest qdraw kept keptUndos mIsKept) : ∃ r x2 x3 f4 f5 f6 f7 f8 x9 x10 x11 x13 f14 f15 f16 f17 f18 f19 now_r undone_r undos_r, fX5_restore isKept people fewest kinds loves many sets chalk wet harvest draw known pmany psets pchalk pwet pharvest pdraw kpeople kfewest kkinds kloves kmany ksets kchalk kwet kharvest kdraw kknown qmany qsets qchalk qwet qharvest qdraw = some (r, x2, x3, f4, f5, f6, f7, f8, x9, x10, x11, x13, f14, f15, f16, f17, f18, f19) ∧ fX6_restore now undone undos kept keptUndos mIsKept = some (r, now_r, undone_r, undos_r) ∧ TR x2 x3 f4 f5 f6 f7 f8 x9 x10 x11 now_r ∧ PR x13 f14 f15 f16 f17 f18 f19 undone_r undos_r ∧ II now_r undone_r undos_r := by
  obtain ⟨e, c, hK⟩ := hK
  unfold fX5_restore fX6_restore
  rw [← e]
  rcases c with c | c
  · rw [if_pos c, if_pos c]
    exact ⟨_, _, _, _, _, _, _, _, _, _, _, _, _, _, _, _, _, _, _, _, _, rfl, rfl, hT, hP, hI⟩
  · obtain ⟨kT, kP⟩ := hK c
    obtain ⟨k, hk, e1, e2, h⟩ := kP
    have kP : PR kknown qmany qsets qchalk qwet qharvest qdraw (fun j => kept (95 + j)) keptUndos := ⟨k, hk, e1, e2, h⟩
    obtain ⟨m2, s2, c2, w2, h2, d2, x1, x2⟩ := copyPast_x (pmany := qmany) (psets := qsets) (pchalk := qchalk) (pwet := qwet) (pharvest := qharvest) (pdraw := qdraw) hk pmany psets pchalk pwet pharvest pdraw
    rw [if_neg (by rw [c]; decide), if_neg (by rw [c]; decide)]
    unfold fX4_copyTown fX0_copyGoods
    rw [bS6, bS10, e1, x1, bS7, ← e1, rest12, bS1, rest38, bS1]
    refine ⟨_, _, _, _, _, _, _, _, _, _, _, _, _, _, _, _, _, _, _, _, _, rfl, rfl, ?_, ?_, ?_⟩
    · refine kT.cg (fun j hj => sb_cpy0 hj) (fun j hj => sb_cpy0 hj) (fun j hj => sb_cpy0 hj) (fun j hj => sb_cpy0 hj) (fun j hj => sb_cpy0 hj) (fun j hj => ?_)
      rw [fo_upd, if_pos (by omega), Nat.sub_zero]
    · refine kP.cg hk e1 x2 (fun j hj => ?_)
      rw [fo_upd, if_pos (by omega), Nat.sub_zero]
    · have kI := hJ (e.symm.trans c)
      have hn6 := kT.ok.1.1
      have lo : ∀ j, j < 95 → fo (fun g j => upd g (0 + j) (kept j)) now 0 95 j = kept j := fun j hj => by
        rw [fo_upd, if_pos (by omega), Nat.sub_zero]
      have hi : ∀ j, j < 648 → fo (fun g j => upd g (0 + j) (kept (95 + j))) undone 0 648 j = kept (95 + j) := fun j hj => by
        rw [fo_upd, if_pos (by omega), Nat.sub_zero]
      refine ⟨kI.1.cg hn6 (lo 0 (by decide)) (fun p hp => lo _ (by omega)) (fun p hp => lo _ (by omega)), ?_⟩
      rw [lo 0 (by decide)]
      obtain ⟨k2, q1, q2, q3⟩ := kI.2
      exact ⟨k2, q1, q2, fun i hi2 => (q3 i hi2).cg hn6 (fun p hp => hi _ (by omega)) (fun p hp => hi _ (by omega))⟩
end PCs
