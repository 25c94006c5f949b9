section PQ
variable {people fewest : Int32} {kinds loves many sets chalk : Nat → Int32} {wet harvest draw : Int32} {now : Nat → Int32}
variable {items : Nat → Nat → Int64} {lane size lanes sizes : Nat → Int32} {mitems : Nat → Int64}
theorem i5t (p w : Nat) : 5 + 3 * nI p + nI w = nI (5 + 3 * p + w) := i5 p w
theorem t_told (hT : TR people fewest kinds loves many sets chalk wet harvest draw now) (hH : HR items lane size lanes sizes mitems) (i1 i2 i3 i4 i5 i6 : Int32) : ∃ r now_r, fX5_told people kinds loves sets wet harvest items lane size i1 i2 i3 i4 i5 i6 = some r ∧ fX6_told now lanes sizes mitems i1 i2 i3 i4 i5 i6 = some (r, now_r) ∧ now_r = now := by
  have hk := hT.ok
  have h6 := hk.1.1
  unfold fX5_told fX6_told
  rcases per_c hT i1 with ⟨p, p0, h1, h2, h3, h4⟩ | ⟨h3, h4⟩
  · simp only [h3, h4, bS1, i10]
    rcases sheet_c i2 with ⟨k, e1, e2, e3, e4⟩ | ⟨e3, e4⟩
    · simp only [e3, e4, bS1, i10]
      rcases lane_c i3 with ⟨l, d1, d2, d3, d4⟩ | ⟨d3, d4⟩
      · simp only [d3, d4, bS1, i10]
        rcases wi_ab i5 1 12 1 12 rfl rfl with ⟨g1, g2, g3, g4⟩ | ⟨g3, g4⟩
        · simp only [g3, g4, bS1, i10]
          rcases flag_c i6 with ⟨f1, f3, f4⟩ | ⟨f3, f4⟩
          · simp only [f3, f4, bS1, i10]
            rw [h2, e2, ix_n e1 (by decide), bS1]
            rcases trb hH e1 i3 i4 i5 with ⟨a, m, a1, a2, a3, a4, a5, a6⟩ | ⟨r, a1, a2, a3, a4⟩
            · have hm : m ≤ 12 := by
                rw [a2, nI_toInt (by omega)] at g2
                have : (12 : Int32).toInt = 12 := rfl
                omega
              rw [a4, a5, bS1, bS1, if_pos rfl, if_pos (show (0 : Int32) ≤ 0 by decide), a1, a2]
              rcases f1 with rfl | rfl
              · have eJ : ix (5 + 3 * nI p + 0) 95 = some (5 + 3 * p) := by
                  rw [show (0 : Int32) = nI 0 from rfl, i5t]
                  exact ix_n (by omega) (by decide)
                obtain ⟨q, y1, y2⟩ := told93 (now := now) (mitems := mitems) (p := p) (k := k) (a := a) (m := m) (J := 5 + 3 * p) (N := 5) (i6 := 0) (B := fun v => allB (asB (items k) a (fun h => wbk v h (hs now p) (lvs now p) (nW now).testBit (nH now).testBit)) 0 m) (by omega) (by omega) (by decide) eJ (fun g _ => rfl) (fun v hv => by
                  rw [i24, so_m (hk.kind h1 hv) h1 (by omega) hm, as_cg a3 a6 (fun h hh => wN_kind h1 hv h)]) 5 fl 0 0 now rfl (by decide) (fun _ _ => rfl)
                rw [if_pos rfl, kindsT_x hT h1 a3 hm, bS1, eJ, bS1, show fX6_told_L93 (nI p) (nI k) (nI a) (nI m) 0 mitems fl 0 0 now = _ from y1, bS2]
                exact ⟨_, _, rfl, rfl, back_J y2⟩
              · have eJ : ix (5 + 3 * nI p + 1) 95 = some (6 + 3 * p) := by
                  rw [show (1 : Int32) = nI 1 from rfl, i5t, show 5 + 3 * p + 1 = 6 + 3 * p by omega]
                  exact ix_n (by omega) (by decide)
                obtain ⟨q, y1, y2⟩ := told93 (now := now) (mitems := mitems) (p := p) (k := k) (a := a) (m := m) (J := 6 + 3 * p) (N := nP now) (i6 := 1) (B := fun v => allB (asB (items k) a (fun h => wbk (kd now p) h (hs now p) (fun y => if v = p then false else hs now v y) (nW now).testBit (nH now).testBit)) 0 m) (by omega) (by omega) h6 eJ (fun g hg => by rw [if_neg (by decide), i0, bS1, hg, hk.1.2]) (fun v hv => by
                  rw [i24, so_m (hk.love h1 (show v < 6 by omega)) h1 (by omega) hm, as_cg a3 a6 (fun h hh => wN_love h1 (show v < 6 by omega) h)]) (nP now) fl 0 0 now (Nat.zero_add _) (by unfold fl; omega) (fun _ _ => rfl)
                rw [if_neg (by decide), lovesT_x hT h1 a3 hm, bS1, eJ, bS1, show fX6_told_L93 (nI p) (nI k) (nI a) (nI m) 1 mitems fl 0 0 now = _ from y1, bS2]
                exact ⟨_, _, rfl, rfl, back_J y2⟩
            · rw [a1, a2, bS1, bS1, if_neg a3, if_neg a4]
              exact ⟨_, _, rfl, rfl, rfl⟩
          · simp only [f3, f4, bS1, i00]
            exact ⟨_, _, rfl, rfl, rfl⟩
        · simp only [g3, g4, bS1, i00]
          exact ⟨_, _, rfl, rfl, rfl⟩
      · simp only [d3, d4, bS1, i00]
        exact ⟨_, _, rfl, rfl, rfl⟩
    · simp only [e3, e4, bS1, i00]
      exact ⟨_, _, rfl, rfl, rfl⟩
  · simp only [h3, h4, bS1, i00]
    exact ⟨_, _, rfl, rfl, rfl⟩
end PQ
