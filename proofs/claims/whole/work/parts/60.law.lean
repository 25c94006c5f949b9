
/-! THE CLAIM OUT OF ONE WALK OF THE LAW'S BODY. Your part is whole_start (and what it stands on); all else here is the same for every law, but numbers. -/
def R_law : String := "SundayMarketLaw"
def lw_P (b : Addr) (xs : List Int32) (args : Array Value) (s : State) : Prop := args = #[.ref b] ∧ s.IntsAt b xs ∧ xs.length ≤ 3584 ∧ (Jvm.Cond.and given_1 narrow_1).before args s = true
def lw_Q (_ : Array Value) (s : State) (o : Outcome) (t : State) : Prop := o = .returned (some (.int 1)) ∧ Framed s o t [] 600000 7302250
def lw_Z (below : List Frame) (a : Array Value) (s : State) : State → Prop := fun t => ∃ o, t.status = .running ∧ Ended t below o ∧ lw_Q a s o t
/-- the law's own end, with 1 on the stack, nothing written that was there before, its room as the claim has it -/
theorem lw_ret {p : Program} {l : Launch} {e : Env} {s : State} {m : MethodId} {below : List Frame} {meth : Method} {c : Code} {b : Nat} (hx : p.tables.exec = Jvm.exec) (hb : c.code = code) (hr : meth.sig.returnType = ret) (hlocks : meth.locks = false) {pc : Nat} {H : Heap} {ls : Array Slot} (hdg : decode code pc = .ok (.ireturn, 1)) : W p l e room_1 s m #[Value.ref b] below meth c H [] 600000 7302250 (lw_Z below #[Value.ref b] s) (F0 m pc ls [.int 1]) := by
  intro T hT X
  obtain ⟨fs, hret, hrun, hended, hW, hframe⟩ := X.leave (v := some (.int 1)) (hlocks := hlocks) (fun h => by rw [hr] at h; cases h)
  have hmeth' : T.vm.method? m = some meth := X.method'
  refine ⟨T.setFrames fs, ?_, .returned (some (.int 1)), hrun, hended, rfl, ⟨_, rfl⟩, hW, hframe⟩
  jvm_step X.here [X.here.top, hx, hb, hdg, hmeth', hr, ret, narrow_b1]
  (try refine ⟨rfl, ?_⟩); (try refine ⟨rfl, ?_⟩)
  first | (intro acts; rw [hret _ acts rfl rfl rfl]) | rw [hret _ _ rfl rfl rfl]
  exact Steps.refl _
/-- what holds at the law's entry: the machine, the code, the tables' words (any of lw_tbl by 'hts w (by decide +kernel)'), the script of L ints xs at the cell b, what the Statement gives of the start (any of its parts by flat_of_before) -/
def lw_At (p : Program) (s : State) (m : MethodId) (meth : Method) (c : Code) (b L : Nat) (xs : Nat → Int32) : Prop :=
  p.tables.exec = Jvm.exec ∧ c.code = code ∧ meth.sig.returnType = ret ∧ c.maxLocals = 4 ∧ s.vm.findClass R_law = some m.cls ∧ (∀ w ∈ lw_tbl, w.before #[Value.ref b] s = true) ∧ va_X b L xs s s.heap ∧ b < s.heap.size ∧ meth.locks = false ∧ (Jvm.Cond.and given_1 narrow_1).before #[Value.ref b] s = true
theorem t_210 : (Cond.methodLink "SundayMarketLaw" 13 yX5_person) ∈ gtbl := wd 210 (by decide +kernel) (by decide +kernel)
theorem t_229 : (Cond.methodLink "SundayMarketLaw" 18 yX5_love) ∈ gtbl := wd 229 (by decide +kernel) (by decide +kernel)
theorem t_237 : (Cond.methodLink "SundayMarketLaw" 23 yX5_least) ∈ gtbl := wd 237 (by decide +kernel) (by decide +kernel)
theorem t_241 : (Cond.methodLink "SundayMarketLaw" 27 yX5_of) ∈ gtbl := wd 241 (by decide +kernel) (by decide +kernel)
theorem t_271 : (Cond.methodLink "SundayMarketLaw" 31 yX5_has) ∈ gtbl := wd 271 (by decide +kernel) (by decide +kernel)
theorem t_286 : (Cond.methodLink "SundayMarketLaw" 36 yX5_at) ∈ gtbl := wd 286 (by decide +kernel) (by decide +kernel)
theorem t_293 : (Cond.methodLink "SundayMarketLaw" 40 yX5_type) ∈ gtbl := wd 293 (by decide +kernel) (by decide +kernel)
theorem t_301 : (Cond.methodLink "SundayMarketLaw" 44 yX5_read) ∈ gtbl := wd 301 (by decide +kernel) (by decide +kernel)
theorem t_455 : (Cond.methodLink "SundayMarketLaw" 49 yX5_count) ∈ gtbl := wd 455 (by decide +kernel) (by decide +kernel)
theorem t_468 : (Cond.methodLink "SundayMarketLaw" 53 yX5_sell) ∈ gtbl := wd 468 (by decide +kernel) (by decide +kernel)
theorem t_506 : (Cond.methodLink "SundayMarketLaw" 58 yX5_seize) ∈ gtbl := wd 506 (by decide +kernel) (by decide +kernel)
theorem t_515 : (Cond.methodLink "SundayMarketLaw" 62 yX5_give) ∈ gtbl := wd 515 (by decide +kernel) (by decide +kernel)
theorem t_519 : (Cond.methodLink "SundayMarketLaw" 66 yX5_make) ∈ gtbl := wd 519 (by decide +kernel) (by decide +kernel)
theorem t_523 : (Cond.methodLink "SundayMarketLaw" 70 yX5_drift) ∈ gtbl := wd 523 (by decide +kernel) (by decide +kernel)
theorem t_542 : (Cond.methodLink "SundayMarketLaw" 74 yX5_undo) ∈ gtbl := wd 542 (by decide +kernel) (by decide +kernel)
theorem t_550 : (Cond.methodLink "SundayMarketLaw" 78 yX5_seed) ∈ gtbl := wd 550 (by decide +kernel) (by decide +kernel)
theorem t_554 : (Cond.methodLink "SundayMarketLaw" 82 yX5_gain) ∈ gtbl := wd 554 (by decide +kernel) (by decide +kernel)
theorem t_566 : (Cond.methodLink "SundayMarketLaw" 86 yX5_middle) ∈ gtbl := wd 566 (by decide +kernel) (by decide +kernel)
theorem t_571 : (Cond.methodLink "SundayMarketLaw" 90 yX5_best) ∈ gtbl := wd 571 (by decide +kernel) (by decide +kernel)
theorem t_597 : (Cond.methodLink "SundayMarketLaw" 94 yX5_market) ∈ gtbl := wd 597 (by decide +kernel) (by decide +kernel)
theorem t_602 : (Cond.methodLink "SundayMarketLaw" 98 yX5_longest) ∈ gtbl := wd 602 (by decide +kernel) (by decide +kernel)
theorem t_609 : (Cond.methodLink "SundayMarketLaw" 102 yX5_stretch) ∈ gtbl := wd 609 (by decide +kernel) (by decide +kernel)
theorem t_614 : (Cond.methodLink "SundayMarketLaw" 106 yX5_more) ∈ gtbl := wd 614 (by decide +kernel) (by decide +kernel)
theorem t_622 : (Cond.methodLink "SundayMarketLaw" 110 yX5_envy) ∈ gtbl := wd 622 (by decide +kernel) (by decide +kernel)
theorem t_626 : (Cond.methodLink "SundayMarketLaw" 114 yX5_both) ∈ gtbl := wd 626 (by decide +kernel) (by decide +kernel)
theorem t_630 : (Cond.methodLink "SundayMarketLaw" 118 yX5_hands) ∈ gtbl := wd 630 (by decide +kernel) (by decide +kernel)
theorem t_634 : (Cond.methodLink "SundayMarketLaw" 122 yX5_rain) ∈ gtbl := wd 634 (by decide +kernel) (by decide +kernel)
theorem t_650 : (Cond.methodLink "SundayMarketLaw" 126 yX5_image) ∈ gtbl := wd 650 (by decide +kernel) (by decide +kernel)
theorem t_658 : (Cond.methodLink "SundayMarketLaw" 130 yX5_restore) ∈ gtbl := wd 658 (by decide +kernel) (by decide +kernel)
theorem t_662 : (Cond.methodLink "SundayMarketLaw" 134 yX5_told) ∈ gtbl := wd 662 (by decide +kernel) (by decide +kernel)
theorem t_694 : (Cond.methodLink "SundayMarketLaw" 139 yX5_film) ∈ gtbl := wd 694 (by decide +kernel) (by decide +kernel)
theorem t_702 : (Cond.methodLink "SundayMarketLaw" 144 yX5_sheet) ∈ gtbl := wd 702 (by decide +kernel) (by decide +kernel)
theorem t_710 : (Cond.methodLink "SundayMarketLaw" 148 yX5_drop) ∈ gtbl := wd 710 (by decide +kernel) (by decide +kernel)
theorem t_714 : (Cond.methodLink "SundayMarketLaw" 154 yX5_item) ∈ gtbl := wd 714 (by decide +kernel) (by decide +kernel)
theorem t_718 : (Cond.methodLink "SundayMarketLaw" 159 yX5_copy) ∈ gtbl := wd 718 (by decide +kernel) (by decide +kernel)
theorem t_788 : (Cond.methodLink "SundayMarketLaw" 17 yX6_person) ∈ gtbl := wd 788 (by decide +kernel) (by decide +kernel)
theorem t_800 : (Cond.methodLink "SundayMarketLaw" 22 yX6_love) ∈ gtbl := wd 800 (by decide +kernel) (by decide +kernel)
theorem t_812 : (Cond.methodLink "SundayMarketLaw" 26 yX6_least) ∈ gtbl := wd 812 (by decide +kernel) (by decide +kernel)
theorem t_817 : (Cond.methodLink "SundayMarketLaw" 30 yX6_of) ∈ gtbl := wd 817 (by decide +kernel) (by decide +kernel)
theorem t_850 : (Cond.methodLink "SundayMarketLaw" 35 yX6_has) ∈ gtbl := wd 850 (by decide +kernel) (by decide +kernel)
theorem t_858 : (Cond.methodLink "SundayMarketLaw" 39 yX6_at) ∈ gtbl := wd 858 (by decide +kernel) (by decide +kernel)
theorem t_862 : (Cond.methodLink "SundayMarketLaw" 52 yX6_count) ∈ gtbl := wd 862 (by decide +kernel) (by decide +kernel)
theorem t_874 : (Cond.methodLink "SundayMarketLaw" 43 yX6_type) ∈ gtbl := wd 874 (by decide +kernel) (by decide +kernel)
theorem t_880 : (Cond.methodLink "SundayMarketLaw" 48 yX6_read) ∈ gtbl := wd 880 (by decide +kernel) (by decide +kernel)
theorem t_918 : (Cond.methodLink "SundayMarketLaw" 57 yX6_sell) ∈ gtbl := wd 918 (by decide +kernel) (by decide +kernel)
theorem t_946 : (Cond.methodLink "SundayMarketLaw" 61 yX6_seize) ∈ gtbl := wd 946 (by decide +kernel) (by decide +kernel)
theorem t_950 : (Cond.methodLink "SundayMarketLaw" 65 yX6_give) ∈ gtbl := wd 950 (by decide +kernel) (by decide +kernel)
theorem t_954 : (Cond.methodLink "SundayMarketLaw" 69 yX6_make) ∈ gtbl := wd 954 (by decide +kernel) (by decide +kernel)
theorem t_958 : (Cond.methodLink "SundayMarketLaw" 73 yX6_drift) ∈ gtbl := wd 958 (by decide +kernel) (by decide +kernel)
theorem t_975 : (Cond.methodLink "SundayMarketLaw" 77 yX6_undo) ∈ gtbl := wd 975 (by decide +kernel) (by decide +kernel)
theorem t_979 : (Cond.methodLink "SundayMarketLaw" 81 yX6_seed) ∈ gtbl := wd 979 (by decide +kernel) (by decide +kernel)
theorem t_983 : (Cond.methodLink "SundayMarketLaw" 85 yX6_gain) ∈ gtbl := wd 983 (by decide +kernel) (by decide +kernel)
theorem t_991 : (Cond.methodLink "SundayMarketLaw" 89 yX6_middle) ∈ gtbl := wd 991 (by decide +kernel) (by decide +kernel)
theorem t_995 : (Cond.methodLink "SundayMarketLaw" 93 yX6_best) ∈ gtbl := wd 995 (by decide +kernel) (by decide +kernel)
theorem t_1003 : (Cond.methodLink "SundayMarketLaw" 97 yX6_market) ∈ gtbl := wd 1003 (by decide +kernel) (by decide +kernel)
theorem t_1015 : (Cond.methodLink "SundayMarketLaw" 101 yX6_longest) ∈ gtbl := wd 1015 (by decide +kernel) (by decide +kernel)
theorem t_1019 : (Cond.methodLink "SundayMarketLaw" 105 yX6_stretch) ∈ gtbl := wd 1019 (by decide +kernel) (by decide +kernel)
theorem t_1023 : (Cond.methodLink "SundayMarketLaw" 109 yX6_more) ∈ gtbl := wd 1023 (by decide +kernel) (by decide +kernel)
theorem t_1028 : (Cond.methodLink "SundayMarketLaw" 113 yX6_envy) ∈ gtbl := wd 1028 (by decide +kernel) (by decide +kernel)
theorem t_1032 : (Cond.methodLink "SundayMarketLaw" 117 yX6_both) ∈ gtbl := wd 1032 (by decide +kernel) (by decide +kernel)
theorem t_1036 : (Cond.methodLink "SundayMarketLaw" 121 yX6_hands) ∈ gtbl := wd 1036 (by decide +kernel) (by decide +kernel)
theorem t_1040 : (Cond.methodLink "SundayMarketLaw" 125 yX6_rain) ∈ gtbl := wd 1040 (by decide +kernel) (by decide +kernel)
theorem t_1046 : (Cond.methodLink "SundayMarketLaw" 129 yX6_image) ∈ gtbl := wd 1046 (by decide +kernel) (by decide +kernel)
theorem t_1050 : (Cond.methodLink "SundayMarketLaw" 133 yX6_restore) ∈ gtbl := wd 1050 (by decide +kernel) (by decide +kernel)
theorem t_1054 : (Cond.methodLink "SundayMarketLaw" 138 yX6_told) ∈ gtbl := wd 1054 (by decide +kernel) (by decide +kernel)
theorem t_1073 : (Cond.methodLink "SundayMarketLaw" 143 yX6_film) ∈ gtbl := wd 1073 (by decide +kernel) (by decide +kernel)
theorem t_1077 : (Cond.methodLink "SundayMarketLaw" 147 yX6_sheet) ∈ gtbl := wd 1077 (by decide +kernel) (by decide +kernel)
theorem t_1081 : (Cond.methodLink "SundayMarketLaw" 151 yX6_drop) ∈ gtbl := wd 1081 (by decide +kernel) (by decide +kernel)
theorem t_1085 : (Cond.methodLink "SundayMarketLaw" 158 yX6_item) ∈ gtbl := wd 1085 (by decide +kernel) (by decide +kernel)
theorem t_1089 : (Cond.methodLink "SundayMarketLaw" 162 yX6_copy) ∈ gtbl := wd 1089 (by decide +kernel) (by decide +kernel)
theorem t_1093 : (Cond.constantLong "SundayMarketLaw" 152 (4294967295)) ∈ gtbl := wd 1093 (by decide +kernel) (by decide +kernel)
theorem in_k {i k L : Nat} (h : i + k < L) (hL : L ≤ 3584) : vp_in (nI i + nI k) L := by
  rw [nI_add]
  exact vp_in_nI h (by omega)
theorem L_vi {p : Program} {l : Launch} {e : Env} {R : Room} {s : State} {m : MethodId} {args : Array Value} {below : List Frame} {meth : Method} {c : Code} {H : Heap} {locs : List Loc} {Q : State → Prop} {cc : ByteArray} {nL : Nat} {ret : Option FieldType} {own : String} {d : va_G} {cy : Nat → ClassId} {A : Nat → Prop} {w w' w0 w1 : va_W} {pc : Nat} {ls : Array Slot} {rest st0 As : List Value} {b : Nat} {y : MethodName} {bytes : ByteArray} {maxL na f k index cells slots : Nat} {rt : Option FieldType} {C : String} (F : Fx p l s m args meth c cc nL ret own d cy A) {r : Int32} (hM : CI l y bytes maxL rt f k d cy (.ref b :: As) w0 w1 r) (hc : CalV y bytes maxL rt C na) (hlink : Cond.methodLink own index y ∈ gtbl) (hn : As.length = na) (hR : f + 1 ≤ R.frames ∧ 8 + (maxL + 11) + k ≤ R.locals) (hcs : cells ≤ R.cells ∧ slots ≤ R.slots) (hw : Wd d A s.heap w H locs) (hcut : Cut w w0 w1 w') (q0 ci : Nat) {fs : List Value} {T : u_T} {N : Nat} (he : w0[q0]? = some (b, .inr (ci, fs))) (hcl : vwCl[ci]? = some (C, T, N)) (hls : ls.size = nL) (hst : (rest.map fun v => v.category).sum ≤ 8) (hstk : st0 = As.reverse ++ .ref b :: rest) (hdg : decode cc pc = .ok (.invokevirtual index, 3))
    (kk : ∀ (H1 : Heap) (locs1 : List Loc), Wd d A s.heap w' H1 locs1 → W p l e R s m args below meth c H1 locs1 cells slots Q (F0 m (pc + 3) ls (.int r :: rest))) : W p l e R s m args below meth c H locs cells slots Q (F0 m pc ls st0) := by
  have hF := g_cutF F hw hcut
  refine va_calli (va_runV (As := As) (rest := rest) ⟨F.1, F.2.1, F.2.2.2.2.1, F.2.2.2.2.2.1, F.2.2.2.2.2.2.1⟩ (hM H.size) (cwV na F.2.2.2.2.2.2.1 (mws_goodV hc.1 hlink hc.2.1 hc.2.2.1 hc.2.2.2.1) rfl rfl rfl hc.2.2.2.2 hR) ⟨Pre.blind, va_recv F.2.2.2.2.2.2.2.1.1 (hcut.1 d H hw.1) hcl he, g_pre F hw hcut _⟩ rfl hn hls hstk (lv_room hst) hdg hcs) hw.2.2 (fun q _ h => hF q h) hF (fun r2 u t H1 locs1 ht hvm hpost hB hz1 hk1 hS => ?_)
  obtain ⟨hP1, hD1⟩ := hB
  rw [ht] at hP1
  obtain ⟨hP, hD⟩ := hcut.2.2 d A H H1 hw.1 hw.2.1 hk1 hF hP1 hD1
  have hpost : r2 = r := hpost
  rw [hpost]
  exact kk H1 locs1 ⟨hP, hD, hS⟩
def NX (p : Program) (l : Launch) (e : Env) (s : State) (m : MethodId) (args : Array Value) (below : List Frame) (meth : Method) (c : Code) (Q : State → Prop) (d : va_G) (cy : Nat → ClassId) (A : Nat → Prop) (b : Nat) (x3 : Int32) (xx0 nw0 nw1 nw2 ng0 ng1 ng2 ng3 ps0 ps1 kp0 kp1 kp2 kg0 kg1 kg2 kg3 kq0 kq1 tr0 tr1 tr2 tg0 tg1 tg2 tg3 tp0 tp1 hs0 m0 m1 m2 m3 m4 m5 m6 m7 m8 m9 m10 : Nat) : Prop :=
  ∀ (xx_isKept : Int32) (nw_people : Int32) (nw_fewest : Int32) (nw_kinds : Nat → Int32) (nw_loves : Nat → Int32) (ng_many : Nat → Int32) (ng_sets : Nat → Int32) (ng_chalk : Nat → Int32) (ng_wet : Int32) (ng_harvest : Int32) (ng_draw : Int32) (ps_known : Int32) (ps_r0 : Nat → Nat) (ps_r1 : Nat → Nat) (ps_r2 : Nat → Nat) (ps_r3 : Nat → Nat) (ps_many : Nat → Nat → Int32) (ps_sets : Nat → Nat → Int32) (ps_chalk : Nat → Nat → Int32) (ps_wet : Nat → Int32) (ps_harvest : Nat → Int32) (ps_draw : Nat → Int32) (kp_people : Int32) (kp_fewest : Int32) (kp_kinds : Nat → Int32) (kp_loves : Nat → Int32) (kg_many : Nat → Int32) (kg_sets : Nat → Int32) (kg_chalk : Nat → Int32) (kg_wet : Int32) (kg_harvest : Int32) (kg_draw : Int32) (kq_known : Int32) (kq_r0 : Nat → Nat) (kq_r1 : Nat → Nat) (kq_r2 : Nat → Nat) (kq_r3 : Nat → Nat) (kq_many : Nat → Nat → Int32) (kq_sets : Nat → Nat → Int32) (kq_chalk : Nat → Nat → Int32) (kq_wet : Nat → Int32) (kq_harvest : Nat → Int32) (kq_draw : Nat → Int32) (tr_people : Int32) (tr_fewest : Int32) (tr_kinds : Nat → Int32) (tr_loves : Nat → Int32) (tg_many : Nat → Int32) (tg_sets : Nat → Int32) (tg_chalk : Nat → Int32) (tg_wet : Int32) (tg_harvest : Int32) (tg_draw : Int32) (tp_letters : Nat → Int32) (tp_length : Int32) (tp_place : Int32) (hs_r0 : Nat → Nat) (hs_r1 : Nat → Nat) (hs_items : Nat → Nat → Int64) (hs_lane : Nat → Int32) (hs_size : Nat → Int32) (m_now : Nat → Int32) (m_tape : Nat → Int32) (m_typed : Int32) (m_place : Int32) (m_isFault : Int32) (m_readWet : Int32) (m_readHarvest : Int32) (m_read : Nat → Int32) (m_undone : Nat → Int32) (m_undos : Int32) (m_bestGain : Int32) (m_aside : Nat → Int32) (m_kept : Nat → Int32) (m_keptUndos : Int32) (m_isKept : Int32) (m_lanes : Nat → Int32) (m_sizes : Nat → Int32) (m_items : Nat → Int64) (m_moved : Nat → Int64) (H : Heap) (locs : List Loc) (ls : Array Slot), Rel xx_isKept nw_people nw_fewest nw_kinds nw_loves ng_many ng_sets ng_chalk ng_wet ng_harvest ng_draw ps_known ps_many ps_sets ps_chalk ps_wet ps_harvest ps_draw kp_people kp_fewest kp_kinds kp_loves kg_many kg_sets kg_chalk kg_wet kg_harvest kg_draw kq_known kq_many kq_sets kq_chalk kq_wet kq_harvest kq_draw tp_letters tp_length tp_place hs_items hs_lane hs_size m_now m_tape m_typed m_place m_isFault m_readWet m_readHarvest m_read m_undone m_undos m_bestGain m_aside m_kept m_keptUndos m_isKept m_lanes m_sizes m_items m_moved → Wd d A s.heap (List.flatten [wX cy xx0 nw0 ps0 kp0 kq0 tr0 tp0 hs0 xx_isKept, wT cy nw0 nw1 nw2 ng0 nw_people nw_fewest nw_kinds nw_loves, wG cy ng0 ng1 ng2 ng3 ng_many ng_sets ng_chalk ng_wet ng_harvest ng_draw, wP cy ps0 ps1 ps_known ps_r0 ps_r1 ps_r2 ps_r3 ps_many ps_sets ps_chalk ps_wet ps_harvest ps_draw, wT cy kp0 kp1 kp2 kg0 kp_people kp_fewest kp_kinds kp_loves, wG cy kg0 kg1 kg2 kg3 kg_many kg_sets kg_chalk kg_wet kg_harvest kg_draw, wP cy kq0 kq1 kq_known kq_r0 kq_r1 kq_r2 kq_r3 kq_many kq_sets kq_chalk kq_wet kq_harvest kq_draw, wT cy tr0 tr1 tr2 tg0 tr_people tr_fewest tr_kinds tr_loves, wG cy tg0 tg1 tg2 tg3 tg_many tg_sets tg_chalk tg_wet tg_harvest tg_draw, wA cy tp0 tp1 tp_letters tp_length tp_place, wH cy hs0 hs_r0 hs_r1 hs_items hs_lane hs_size, wM cy m0 m1 m2 m3 m4 m5 m6 m7 m8 m9 m10 m_now m_tape m_typed m_place m_isFault m_readWet m_readHarvest m_read m_undone m_undos m_bestGain m_aside m_kept m_keptUndos m_isKept m_lanes m_sizes m_items m_moved]) H locs → lv_has ls 4 [(0, .ref b), (1, .ref xx0), (2, .ref m0), (3, .int x3)] → W p l e room_1 s m args below meth c H locs 112 3862 Q (F0 m 1445 ls [])
