/-! ===== what the class's state and the reference's have in common ===== -/
/-- the set of halves that one has: bit h, where it has more than none -/
def hvN (f : Nat → Int32) : Nat → Nat
  | 0 => 0
  | h + 1 => hvN f h + (if 0 < f h then 2 ^ h else 0)
/-- the goods: halves, sets, chalk, and the numbers; o: where the reference has them -/
def GR (many sets chalk : Nat → Int32) (wet harvest draw : Int32) (mw mh md : Int32) (mc mm : Nat → Int32) : Prop :=
  (∀ j, j < 72 → many j = mm j) ∧ (∀ p, p < 6 → chalk p = mc p) ∧ (∀ p, p < 6 → sets p = nI (hvN (fun h => mm (12 * p + h)) 12)) ∧ wet = mw ∧ harvest = mh ∧ draw = md ∧ (∃ w, w < 64 ∧ mw = nI w) ∧ (∃ w, w < 64 ∧ mh = nI w) ∧ ∃ w, w < 2 ^ 31 ∧ md = nI w
def TR (people fewest : Int32) (kinds loves many sets chalk : Nat → Int32) (wet harvest draw : Int32) (now : Nat → Int32) : Prop :=
  (people = now 0 ∧ ∃ n, n ≤ 6 ∧ now 0 = nI n) ∧ (fewest = now 1 ∧ ∃ n, n ≤ 12 ∧ now 1 = nI n) ∧ (∀ p, p < 6 → kinds p = now (5 + 3 * p) ∧ ∃ k, k < 5 ∧ now (5 + 3 * p) = nI k) ∧ (∀ p, p < 6 → loves p = now (6 + 3 * p) ∧ ∃ q, q < 6 ∧ now (6 + 3 * p) = nI q) ∧
  GR many sets chalk wet harvest draw (now 2) (now 3) (now 4) (fun p => now (7 + 3 * p)) (fun j => now (23 + j))
def PR (known : Int32) (many sets chalk : Nat → Nat → Int32) (wet harvest draw : Nat → Int32) (undone : Nat → Int32) (undos : Int32) : Prop :=
  ∃ k, k ≤ 8 ∧ known = nI k ∧ undos = nI k ∧ ∀ i, i < k → GR (many i) (sets i) (chalk i) (wet i) (harvest i) (draw i) (undone (81 * i)) (undone (81 * i + 1)) (undone (81 * i + 2)) (fun p => undone (81 * i + 3 + p)) (fun j => undone (81 * i + 9 + j))
def KR (isKept people fewest : Int32) (kinds loves many sets chalk : Nat → Int32) (wet harvest draw known : Int32) (pmany psets pchalk : Nat → Nat → Int32) (pwet pharvest pdraw : Nat → Int32) (kept : Nat → Int32) (keptUndos mIsKept : Int32) : Prop :=
  isKept = mIsKept ∧ (isKept = 0 ∨ isKept = 1) ∧ (isKept = 1 → TR people fewest kinds loves many sets chalk wet harvest draw kept ∧ PR known pmany psets pchalk pwet pharvest pdraw (fun j => kept (95 + j)) keptUndos)
def AR (letters : Nat → Int32) (length : Int32) (tape : Nat → Int32) (typed : Int32) : Prop :=
  ∃ n, n ≤ 100 ∧ length = nI n ∧ typed = nI n ∧ ∀ j, j < n → letters j = tape j ∧ ∃ c, 32 ≤ c ∧ c ≤ 126 ∧ tape j = nI c
def HR (items : Nat → Nat → Int64) (lane size lanes sizes : Nat → Int32) (mitems : Nat → Int64) : Prop :=
  ∀ k, k < 4 → lane k = lanes k ∧ (lane k = -1 ∨ (∃ a, a < 4 ∧ lane k = nI a) ∧ size k = sizes k ∧ (∃ n, n ≤ 24 ∧ size k = nI n) ∧ ∀ j, j < 24 → items k j = mitems (24 * k + j))
/-- numbers of which none is below 0, and whose sum is small -/
def sI (f : Nat → Int) : Nat → Int
  | 0 => 0
  | n + 1 => sI f n + f n
def NB (n : Nat) (f : Nat → Int32) : Prop := (∀ p, p < n → 0 ≤ (f p).toInt) ∧ sI (fun p => (f p).toInt) n ≤ 1000000 * (n : Int)
def GI (n : Nat) (mc mm : Nat → Int32) : Prop := NB n mc ∧ ∀ h, h < 12 → NB n (fun p => mm (12 * p + h))
def NI (now : Nat → Int32) : Prop := GI (now 0).toNatClampNeg (fun p => now (7 + 3 * p)) (fun j => now (23 + j))
def UI (n : Nat) (undone : Nat → Int32) (undos : Int32) : Prop := ∃ k, k ≤ 8 ∧ undos = nI k ∧ ∀ i, i < k → GI n (fun p => undone (81 * i + 3 + p)) (fun j => undone (81 * i + 9 + j))
def II (now undone : Nat → Int32) (undos : Int32) : Prop := NI now ∧ UI (now 0).toNatClampNeg undone undos
def KI (kept : Nat → Int32) (keptUndos isKept : Int32) : Prop := isKept = 1 → II kept (fun j => kept (95 + j)) keptUndos
def Rel (xx_isKept : Int32) (nw_people : Int32) (nw_fewest : Int32) (nw_kinds : Nat → Int32) (nw_loves : Nat → Int32) (ng_many : Nat → Int32) (ng_sets : Nat → Int32) (ng_chalk : Nat → Int32) (ng_wet : Int32) (ng_harvest : Int32) (ng_draw : Int32) (ps_known : Int32) (ps_many : Nat → Nat → Int32) (ps_sets : Nat → Nat → Int32) (ps_chalk : Nat → Nat → Int32) (ps_wet : Nat → Int32) (ps_harvest : Nat → Int32) (ps_draw : Nat → Int32) (kp_people : Int32) (kp_fewest : Int32) (kp_kinds : Nat → Int32) (kp_loves : Nat → Int32) (kg_many : Nat → Int32) (kg_sets : Nat → Int32) (kg_chalk : Nat → Int32) (kg_wet : Int32) (kg_harvest : Int32) (kg_draw : Int32) (kq_known : Int32) (kq_many : Nat → Nat → Int32) (kq_sets : Nat → Nat → Int32) (kq_chalk : Nat → Nat → Int32) (kq_wet : Nat → Int32) (kq_harvest : Nat → Int32) (kq_draw : Nat → Int32) (tp_letters : Nat → Int32) (tp_length : Int32) (tp_place : Int32) (hs_items : Nat → Nat → Int64) (hs_lane : Nat → Int32) (hs_size : Nat → Int32) (m_now : Nat → Int32) (m_tape : Nat → Int32) (m_typed : Int32) (m_place : Int32) (m_isFault : Int32) (m_readWet : Int32) (m_readHarvest : Int32) (m_read : Nat → Int32) (m_undone : Nat → Int32) (m_undos : Int32) (m_bestGain : Int32) (m_aside : Nat → Int32) (m_kept : Nat → Int32) (m_keptUndos : Int32) (m_isKept : Int32) (m_lanes : Nat → Int32) (m_sizes : Nat → Int32) (m_items : Nat → Int64) (m_moved : Nat → Int64) : Prop :=
  TR nw_people nw_fewest nw_kinds nw_loves ng_many ng_sets ng_chalk ng_wet ng_harvest ng_draw m_now ∧ PR ps_known ps_many ps_sets ps_chalk ps_wet ps_harvest ps_draw m_undone m_undos ∧ KR xx_isKept kp_people kp_fewest kp_kinds kp_loves kg_many kg_sets kg_chalk kg_wet kg_harvest kg_draw kq_known kq_many kq_sets kq_chalk kq_wet kq_harvest kq_draw m_kept m_keptUndos m_isKept ∧ AR tp_letters tp_length m_tape m_typed ∧ HR hs_items hs_lane hs_size m_lanes m_sizes m_items ∧ II m_now m_undone m_undos ∧ KI m_kept m_keptUndos m_isKept
