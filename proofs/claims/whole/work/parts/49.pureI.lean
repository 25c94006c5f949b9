/-! ===== the market until nobody gains ===== -/
section PI
variable {people fewest : Int32} {kinds loves many sets chalk : Nat → Int32} {wet harvest draw : Int32} {now : Nat → Int32}
theorem market_L {fewest wet harvest draw : Int32} {kinds loves chalk : Nat → Int32} {people : Int32} : ∀ d n c sale gain (many sets g : Nat → Int32), 1440 ≤ wA_ g + d → d < n → c + d ≤ 2000 → TR people fewest kinds loves many sets chalk wet harvest draw g → NI g → SaleOK g sale gain → ∃ many2 sets2 c2 g2 gain2, fX5_market_L30 people fewest kinds loves chalk wet harvest n (nI c) sale many sets = some (many2, sets2, nI c2) ∧ fX6_market_L23 n (nI c) sale gain g = some (g2, gain2, nI c2) ∧ TR people fewest kinds loves many2 sets2 chalk wet harvest draw g2 := by
  have stop : ∀ n c sale gain (many sets g : Nat → Int32), 0 < n → sale = -4 → TR people fewest kinds loves many sets chalk wet harvest draw g → ∃ many2 sets2 c2 g2 gain2, fX5_market_L30 people fewest kinds loves chalk wet harvest n (nI c) sale many sets = some (many2, sets2, nI c2) ∧ fX6_market_L23 n (nI c) sale gain g = some (g2, gain2, nI c2) ∧ TR people fewest kinds loves many2 sets2 chalk wet harvest draw g2 := by
    intro n c sale gain many sets g hn e hT
    obtain ⟨m, rfl⟩ : ∃ m, n = m + 1 := ⟨n - 1, by omega⟩
    rw [fX5_market_L30, fX6_market_L23, if_pos e, if_pos e]
    exact ⟨_, _, _, _, _, rfl, rfl, hT⟩
  intro d
  induction d with
  | zero =>
    intro n c sale gain many sets g hd hn hc hT hI hS
    rcases hS with ⟨e1, -⟩ | ⟨p, q, h, p0, q0, hpq, hh, cm, e1, e2, e3⟩
    · exact stop n c sale gain many sets g hn e1 hT
    · exfalso
      have h6 := hT.ok.1.1
      have e0 : nP (gN g p q h) = nP g := congrArg Int32.toNatClampNeg (gN_lo (by omega))
      have h2 := wA_le (gN g p q h) (by rw [e0]; exact h6)
      have h3 := Int32.lt_iff_toInt_lt.mp e3
      rw [e2, gaN_i h6] at h3
      have : (0 : Int32).toInt = 0 := rfl
      omega
  | succ d ih =>
    intro n c sale gain many sets g hd hn hc hT hI hS
    rcases hS with ⟨e1, -⟩ | ⟨p, q, h, p0, q0, hpq, hh, cm, e1, e2, e3⟩
    · exact stop n c sale gain many sets g (by omega) e1 hT
    · obtain ⟨m, rfl⟩ : ∃ m, n = m + 1 := ⟨n - 1, by omega⟩
      have h6 := hT.ok.1.1
      have hp : p < 6 := by omega
      have hq : q < 6 := by omega
      have n4 : ¬ sale = -4 := by rw [e1]; exact n_ne4 (by omega)
      have nc : ¬ (100000 : Int32) ≤ nI c := nI_ge (b := 100000) (by omega) (by decide)
      have h3 := Int32.lt_iff_toInt_lt.mp e3
      rw [e2, gaN_i h6] at h3
      have z0 : (0 : Int32).toInt = 0 := rfl
      obtain ⟨m2, s2, x1, x2⟩ := hT.move hp hq hpq hh
      have y2 : NI (gN g p q h) := hI.move h6 p0 q0 hpq hh (may_hs cm)
      obtain ⟨m3, s3, sale2, gain2, b1, b2, b3, b4⟩ := best_c x2 y2
      have d1 := de_s hp hq hh
      have d2 := de_b hp hq hh
      have d3 := de_h hp hq hh
      have f1 : nI (1000 * p + 100 * q + h) / 1000 = nI p := Option.some.inj d1
      have f2 : nI (1000 * p + 100 * q + h) / 100 - nI (1000 * p + 100 * q + h) / 100 / 10 * 10 = nI q := Option.some.inj d2
      have f3 : nI (1000 * p + 100 * q + h) - nI (1000 * p + 100 * q + h) / 100 * 100 = nI h := Option.some.inj d3
      rw [fX5_market_L30, fX6_market_L23, if_neg n4, if_neg n4, if_neg nc, e1, d1, bS1, d2, bS1, d3, bS1, x1, bS2, b1, bS3, f1, f2, f3, goes_m g hp hq hpq hh, bS1, b2, bS3, nI_1]
      exact ih m (c + 1) sale2 gain2 m3 s3 (gN g p q h) (by omega) (by omega) (by omega) b3 y2 b4
theorem asides_m (now aside : Nat → Int32) : fX6_asides now aside = some (fo (fun g j => upd g (0 + j) (now j)) aside 0 95) := by
  unfold fX6_asides
  rw [rowL (fX6_asides_L2 now) (fun g j => upd g (0 + j) (now j)) 95 (by decide) (fun n a => by rw [fX6_asides_L2, if_pos (by decide)]) (fun n a i hi => by
    rw [fX6_asides_L2, if_neg (show ¬ (95 : Int32) ≤ nI i from nI_ge (b := 95) hi (by decide)), ix_n hi (by decide), bS1, nI_1, Nat.zero_add]) aside, bS1]
theorem backs_m (now aside : Nat → Int32) : fX6_backs now aside = some (fo (fun g j => upd g (0 + j) (aside j)) now 0 95) := by
  unfold fX6_backs
  rw [rowL (fX6_backs_L2 aside) (fun g j => upd g (0 + j) (aside j)) 95 (by decide) (fun n a => by rw [fX6_backs_L2, if_pos (by decide)]) (fun n a i hi => by
    rw [fX6_backs_L2, if_neg (show ¬ (95 : Int32) ≤ nI i from nI_ge (b := 95) hi (by decide)), ix_n hi (by decide), bS1, nI_1, Nat.zero_add]) now, bS1]
theorem t_market (hT : TR people fewest kinds loves many sets chalk wet harvest draw now) (hI : NI now) (a1 a2 : Int32) (a3 a4 a5 a6 a7 : Nat → Int32) (a8 a9 a10 bg : Int32) (aside : Nat → Int32) (i1 : Int32) : ∃ r x4 x5 f6 f7 q60 q61 f10 x11 x12 x13 now_r bg_r aside_r, fX5_market people fewest kinds loves many sets chalk wet harvest draw a1 a2 a3 a4 a5 a6 a7 a8 a9 a10 i1 = some (r, x4, x5, f6, f7, q60, q61, f10, x11, x12, x13) ∧ fX6_market now bg aside i1 = some (r, now_r, bg_r, aside_r) ∧ ∀ j, j < 95 → now_r j = now j := by
  unfold fX5_market fX6_market
  rcases flag_c i1 with ⟨f1, f3, f4⟩ | ⟨f3, f4⟩
  · simp only [f3, f4, bS1, i10]
    unfold fX4_copyTown fX0_copyGoods
    have hT2 : TR people fewest (va_cpy kinds a3 0 0 6) (va_cpy loves a4 0 0 6) (va_cpy many a5 0 0 72) (va_cpy sets a6 0 0 6) (va_cpy chalk a7 0 0 6) wet harvest draw now := hT.cg (fun j hj => sb_cpy0 hj) (fun j hj => sb_cpy0 hj) (fun j hj => sb_cpy0 hj) (fun j hj => sb_cpy0 hj) (fun j hj => sb_cpy0 hj) (fun _ _ => rfl)
    obtain ⟨m2, s2, sale, gain, x1, x2, x3, x4⟩ := best_c hT2 hI
    obtain ⟨m3, s3, c2, g2, gain2, y1, y2, y3⟩ := market_L 1440 fl 0 sale gain m2 s2 now (by omega) (by decide) (by decide) x3 hI x4
    rw [bS6, bS10, x1, bS3, asides_m, bS1, x2, bS3, show fX5_market_L30 people fewest (va_cpy kinds a3 0 0 6) (va_cpy loves a4 0 0 6) (va_cpy chalk a7 0 0 6) wet harvest fl 0 sale m2 s2 = _ from y1, show fX6_market_L23 fl 0 sale gain now = _ from y2, bS3, bS3, worthAll_m y3.ok, bS1, backs_m, bS1, worthOfAll_x y3, bS1]
    have fin : ∀ j, j < 95 → fo (fun g j => upd g (0 + j) (fo (fun g j => upd g (0 + j) (now j)) aside 0 95 j)) g2 0 95 j = now j := by
      intro j hj
      rw [fo_upd, if_pos (by omega), Nat.sub_zero, fo_upd, if_pos (by omega), Nat.sub_zero]
    by_cases c : i1 = 0
    · rw [if_pos c, if_pos c]
      exact ⟨_, _, _, _, _, _, _, _, _, _, _, _, _, _, rfl, rfl, fin⟩
    · rw [if_neg c, if_neg c]
      exact ⟨_, _, _, _, _, _, _, _, _, _, _, _, _, _, rfl, rfl, fin⟩
  · simp only [f3, f4, bS1, i00]
    exact ⟨_, _, _, _, _, _, _, _, _, _, _, _, _, _, rfl, rfl, fun _ _ => rfl⟩
end PI
