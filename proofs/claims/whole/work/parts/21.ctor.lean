/-! ===== constructors: what makes cells ===== -/
abbrev rmc (f k mc ms : Nat) : Room := { frames := f, cells := mc, slots := ms, locals := k }
/-- the contract of a constructor: from its object's cell to a world of new addresses -/
def CN {S : Type} (l : Launch) (y : MethodName) (c : ByteArray) (n f k mc ms : Nat) (d : va_G) (cy : Nat → ClassId) (av : List Value) (w0 : va_W) (w1 : S → va_W) : Prop :=
  ∀ sz : Nat, Met l y (mws y c n none) (rmc f k mc ms) (va_Pc av (Pre d cy w0 sz)) (va_Qv (fun (_ : S) => True) (fun ad t => va_P d vwCl (w1 ad) t.heap ∧ va_D (va_A w0 sz) (w1 ad)) (va_A w0 sz)) mc ms (va_A w0 sz)
theorem CN.of {S : Type} {l : Launch} {y : MethodName} {cc : ByteArray} {n f k mc ms : Nat} {d : va_G} {cy : Nat → ClassId} {av : List Value} {w0 : va_W} {w1 : S → va_W} (hy : plainName y.cls = true) (hyn : y.name = "<init>") (hlen : (lg_sl av).length ≤ n)
    (body : ∀ (p : Program) (e : Env) (s : State) (m : MethodId) (args : Array Value) (below : List Frame) (meth : Method) (c : Code) (A : Nat → Prop) (ls : Array Slot) (Q : State → Prop), Fx p l s m args meth c cc n none y.cls d cy A → meth.name = "<init>" →
      (∀ (H : Heap) (locs : List Loc) (pc : Nat) (ls : Array Slot) (ad : S), Wd d A s.heap (w1 ad) H locs → decode cc pc = .ok (.return_, 1) → W p l e (rmc f k mc ms) s m args below meth c H locs mc ms Q (F0 m pc ls [])) →
      Wd d A s.heap w0 s.heap [] → lv_has ls n (lv_args 0 av) → W p l e (rmc f k mc ms) s m args below meth c s.heap [] 0 0 Q (F0 m 0 ls [])) : CN l y cc n f k mc ms d cy av w0 w1 := by
  intro sz
  refine Met.ofW (cc := cc) (maxL := n) (ret := none) hy rfl ?_
  intro p e s m args below meth c s₁ B hml hv
  obtain ⟨rfl, hsz, hP, hK, hD0, hSg⟩ := hv
  have hts := atoms_spec (ws := mws y cc n none) B.pre
  subst hsz
  have hl := lv_entry av (n := n) hlen
  rw [lg_entry_eq]
  exact body p e s m av.toArray below meth c (va_A w0 s.heap.size) _ _ ⟨B.exec, B.bytes, B.returns, B.notSynchronized, hml, findClass_of_methodNamed B.named, fun w hw => hts w (List.mem_cons_of_mem _ hw), hK, fun q h => Or.inr h, hSg⟩ ((name_of_methodNamed B.named B.method).1.trans hyn)
    (fun H locs pc ls ad hw hdg => W.vret B.exec B.bytes B.returns (fun t ht hW => ⟨⟨ad, rfl, trivial, by rw [ht]; exact hw.1, hw.2.1⟩, hw.2.2.F ht⟩) hw.2.2.2.2 hdg B.notSynchronized) ⟨hP, hD0.self, va_S.rf⟩ hl
theorem fl_snoc (L : List va_W) (b : va_W) : (L ++ [b]).flatten = L.flatten ++ b := by simp
section GN
variable {p : Program} {l : Launch} {e : Env} {R : Room} {s : State} {m : MethodId} {args : Array Value} {below : List Frame} {meth : Method} {c : Code} {H : Heap} {locs : List Loc} {Q : State → Prop} {cc : ByteArray} {nL : Nat} {ret : Option FieldType} {own : String} {d : va_G} {cy : Nat → ClassId} {A : Nat → Prop} {w w' : va_W} {pc : Nat} {ls : Array Slot} {rest : List Value} {a cells slots c2 s2 : Nat} {L : List va_W}
theorem n_obj (F : Fx p l s m args meth c cc nL ret own d cy A) {idx : Nat} (h1 : Cond.methodLink own idx objectInit ∈ gtbl) (h2 : Cond.instanceMethod objectInit ∈ gtbl) (h3 : Cond.code objectInit ⟨#[0xb1]⟩ 1 none ∈ gtbl) (hls : ls.size = nL) (hdg : decode cc pc = .ok (.invokespecial idx, 3)) (hf : 1 ≤ R.frames) (hlo : 12 ≤ R.locals)
    (kk : W p l e R s m args below meth c H locs cells slots Q (F0 m (pc + 3) ls [])) : W p l e R s m args below meth c H locs cells slots Q (F0 m pc ls [.ref a]) :=
  W.objInit F.1 F.2.1 F.2.2.2.2.2.1 (F.2.2.2.2.2.2.1 _ h1) (F.2.2.2.2.2.2.1 _ h2) (F.2.2.2.2.2.2.1 _ h3) rfl (hls.trans F.2.2.2.2.1.symm) rfl hdg hf hlo kk
theorem n_new (F : Fx p l s m args meth c cc nL ret own d cy A) {C : String} {T : u_T} {N ci index : Nat} (hin : ∀ w ∈ u_ws C T N, w ∈ gtbl) (ty : Nat → FieldType) (hty : ∀ k, k < N → parseFieldDescriptor (T k).2.2.1 = some (ty k)) (hcl : Cond.classLink own index C ∈ gtbl) (hinst : Cond.instantiable C N ∈ gtbl) (hini : Cond.initialized C ∈ gtbl) (hw : Wd d A s.heap L.flatten H locs) (hc : vwCl[ci]? = some (C, T, N)) {fs : List Value} (hfs : ∀ j, j < N → defaultValue (ty j) = vp_V fs j) (e1 : cells + 1 = c2) (e2 : slots + N = s2) (hcells : c2 ≤ R.cells) (hslots : s2 ≤ R.slots) (hdg : decode cc pc = .ok (.new index, 3))
    (kk : ∀ (q : Nat) (H1 : Heap), Wd d A s.heap (L ++ [([(q, .inr (ci, fs))] : va_W)]).flatten H1 locs → W p l e R s m args below meth c H1 locs c2 s2 Q (F0 m (pc + 3) ls (.ref q :: rest))) : W p l e R s m args below meth c H locs cells slots Q (F0 m pc ls rest) := by
  subst e1
  subst e2
  exact va_new F.1 F.2.1 F.2.2.2.2.2.2.1 hin ty hty F.2.2.2.2.2.1 (F.2.2.2.2.2.2.1 _ hcl) (F.2.2.2.2.2.2.1 _ hinst) (F.2.2.2.2.2.2.1 _ hini) F.2.2.2.2.2.2.2.1.1 hw.1 hw.2.1 hw.2.2 F.2.2.2.2.2.2.2.2.1 hc hfs hcells hslots hdg (fun q H1 hP hD hS => kk q H1 (by rw [fl_snoc]; exact ⟨hP, hD, hS⟩))
theorem n_newa (F : Fx p l s m args meth c cc nL ret own d cy A) {atype : ArrayType} {ty : FieldType} (t0 : Nat) (htk : (tysL cy)[t0]? = some (cy t0, ty)) (hra : ∀ (U : State) (x : ClassId), va_RA U x ty → U.vm.findClass ("[" ++ ty.toString) = some x) (harr : Cond.arrayClass ty ∈ gtbl) (hty : newarray.typeOf atype = ty) (hw : Wd d A s.heap L.flatten H locs) {n : Int32} {N' : Nat} {a0 : vp_A} (ha : ∀ cA : ClassId, vp_cell cA a0 = arrV cA N' (fun _ => defaultValue ty)) (hn : ¬ n < 0) (hN : n.toNatClampNeg = N') (hbytes : N' * componentBytes ty ≤ 536870912) (e1 : cells + 1 = c2) (e2 : slots + N' = s2) (hcells : c2 ≤ R.cells) (hslots : s2 ≤ R.slots) (hdg : decode cc pc = .ok (.newarray atype, 2))
    (kk : ∀ (q : Nat) (H1 : Heap), Wd d A s.heap (L ++ [([(q, .inl (cy t0, a0))] : va_W)]).flatten H1 locs → W p l e R s m args below meth c H1 locs c2 s2 Q (F0 m (pc + 2) ls (.ref q :: rest))) : W p l e R s m args below meth c H locs cells slots Q (F0 m pc ls (.int n :: rest)) := by
  subst e1
  subst e2
  refine va_newa F.1 F.2.1 (by rw [hty]; exact F.2.2.2.2.2.2.1 _ harr) hty F.2.2.2.2.2.2.2.1.1 hw.1 hw.2.1 hw.2.2 F.2.2.2.2.2.2.2.2.1 ha hn hN hbytes hcells hslots hdg (fun q cA H1 hK hP hD hS => ?_)
  have h1 := hra s cA (hK.2 5 (cA, ty) rfl).2
  have h2 := hra s (cy t0) (F.2.2.2.2.2.2.2.1.1.2 t0 _ htk).2
  rw [h1] at h2
  cases Option.some.inj h2
  exact kk q H1 (by rw [fl_snoc]; exact ⟨hP, hD, hS⟩)
theorem n_newq (F : Fx p l s m args meth c cc nL ret own d cy A) {C : String} {index : Nat} (t0 : Nat) (htk : (tysL cy)[t0]? = some (cy t0, .object C)) (hover : va_AO C s) (hcl : Cond.classLink own index C ∈ gtbl) (hw : Wd d A s.heap L.flatten H locs) {n : Int32} {N' : Nat} (hn : ¬ n < 0) (hN : n.toNatClampNeg = N') (hbytes : N' * 4 ≤ 536870912) (e1 : cells + 1 = c2) (e2 : slots + N' = s2) (hcells : c2 ≤ R.cells) (hslots : s2 ≤ R.slots) (hdg : decode cc pc = .ok (.anewarray index, 3))
    (kk : ∀ (q : Nat) (H1 : Heap), Wd d A s.heap (L ++ [([(q, .inl (cy t0, N', .inr (.inr (.inr (.inr (fun _ => none))))))] : va_W)]).flatten H1 locs → W p l e R s m args below meth c H1 locs c2 s2 Q (F0 m (pc + 3) ls (.ref q :: rest))) : W p l e R s m args below meth c H locs cells slots Q (F0 m pc ls (.int n :: rest)) := by
  subst e1
  subst e2
  refine va_newq F.1 F.2.1 F.2.2.2.2.2.1 (F.2.2.2.2.2.2.1 _ hcl) hover F.2.2.2.2.2.2.2.1.1 hw.1 hw.2.1 hw.2.2 F.2.2.2.2.2.2.2.2.1 hn hN hbytes hcells hslots hdg (fun q cA H1 hK hP hD hS => ?_)
  obtain ⟨_, _, -, -, -, h1⟩ := (hK.2 5 (cA, .object C) rfl).2
  obtain ⟨_, _, -, -, -, h2⟩ := (F.2.2.2.2.2.2.2.1.1.2 t0 _ htk).2
  rw [h1] at h2
  cases Option.some.inj h2
  exact kk q H1 (by rw [fl_snoc]; exact ⟨hP, hD, hS⟩)
theorem n_putF (F : Fx p l s m args meth c cc nL ret own d cy A) (hinit : meth.name = "<init>") {ref C : String} {T : u_T} {N ci index : Nat} (hin : ∀ w ∈ u_ws C T N, w ∈ gtbl) (ty0 : Nat → FieldType) (hty : ∀ k, k < N → parseFieldDescriptor (T k).2.2.1 = some (ty0 k)) (hnm : ∀ a, a < N → ∀ b, b < N → a ≠ b → (T a).2.1 ≠ (T b).2.1) (hw : Wd d A s.heap w H locs) (q0 : Nat) {fs : List Value} (he : w[q0]? = some (a, .inr (ci, fs))) (hc : vwCl[ci]? = some (C, T, N)) (k : Nat) (hk : k < N) (hlink : Cond.fieldLink own index ref (T k).2.1 (T k).2.2.1 ∈ gtbl) (hsame : ∀ x, s.fieldFound? (T k).1 (T k).2.1 (T k).2.2.1 = some x → s.fieldFound? ref (T k).2.1 (T k).2.2.1 = some x) (hfin : (T k).2.2.2 = true) (hdecl : (T k).1 = own) {ty : FieldType} {v : Value} (hd : parseFieldDescriptor (T k).2.2.1 = some ty) (hn : narrow ty v = v) (hfit : fits ty v = true) (hl : k < fs.length)
    (hdg : decode cc pc = .ok (.putfield index, 3)) (hw' : w.set q0 (a, .inr (ci, fs.set k v)) = w') (kk : ∀ (H1 : Heap) (locs1 : List Loc), Wd d A s.heap w' H1 locs1 → W p l e R s m args below meth c H1 locs1 cells slots Q (F0 m (pc + 3) ls rest)) : W p l e R s m args below meth c H locs cells slots Q (F0 m pc ls (v :: .ref a :: rest)) :=
  va_putF F.1 F.2.1 F.2.2.2.2.2.2.1 hin ty0 hty hnm F.2.2.2.2.2.1 F.2.2.2.2.2.2.2.1.1 hw.1 hw.2.1 hw.2.2 q0 he hc k hk (F.2.2.2.2.2.2.1 _ hlink) hsame hfin hinit hdecl hd hn hfit hl hdg (fun H1 locs1 hP hD hS => kk H1 locs1 (hw' ▸ ⟨hP, hD, hS⟩))
theorem n_put (F : Fx p l s m args meth c cc nL ret own d cy A) {ref C : String} {T : u_T} {N ci index : Nat} (hin : ∀ w ∈ u_ws C T N, w ∈ gtbl) (ty0 : Nat → FieldType) (hty : ∀ k, k < N → parseFieldDescriptor (T k).2.2.1 = some (ty0 k)) (hnm : ∀ a, a < N → ∀ b, b < N → a ≠ b → (T a).2.1 ≠ (T b).2.1) (hw : Wd d A s.heap w H locs) (q0 : Nat) {fs : List Value} (he : w[q0]? = some (a, .inr (ci, fs))) (hc : vwCl[ci]? = some (C, T, N)) (k : Nat) (hk : k < N) (hlink : Cond.fieldLink own index ref (T k).2.1 (T k).2.2.1 ∈ gtbl) (hsame : ∀ x, s.fieldFound? (T k).1 (T k).2.1 (T k).2.2.1 = some x → s.fieldFound? ref (T k).2.1 (T k).2.2.1 = some x) (hfin : (T k).2.2.2 = false) {ty : FieldType} {v : Value} (hd : parseFieldDescriptor (T k).2.2.1 = some ty) (hn : narrow ty v = v) (hfit : fits ty v = true) (hl : k < fs.length)
    (hdg : decode cc pc = .ok (.putfield index, 3)) (hw' : w.set q0 (a, .inr (ci, fs.set k v)) = w') (kk : ∀ (H1 : Heap) (locs1 : List Loc), Wd d A s.heap w' H1 locs1 → W p l e R s m args below meth c H1 locs1 cells slots Q (F0 m (pc + 3) ls rest)) : W p l e R s m args below meth c H locs cells slots Q (F0 m pc ls (v :: .ref a :: rest)) :=
  va_put F.1 F.2.1 F.2.2.2.2.2.2.1 hin ty0 hty hnm F.2.2.2.2.2.1 F.2.2.2.2.2.2.2.1.1 hw.1 hw.2.1 hw.2.2 q0 he hc k hk (F.2.2.2.2.2.2.1 _ hlink) hsame hfin hd hn hfit hl hdg (fun H1 locs1 hP hD hS => kk H1 locs1 (hw' ▸ ⟨hP, hD, hS⟩))
theorem n_get (F : Fx p l s m args meth c cc nL ret own d cy A) {ref C : String} {T : u_T} {N ci index : Nat} (hin : ∀ w ∈ u_ws C T N, w ∈ gtbl) (hw : Wd d A s.heap w H locs) (q0 : Nat) {fs : List Value} (he : w[q0]? = some (a, .inr (ci, fs))) (hc : vwCl[ci]? = some (C, T, N)) (k : Nat) (hk : k < N) (hlink : Cond.fieldLink own index ref (T k).2.1 (T k).2.2.1 ∈ gtbl) (hsame : ∀ x, s.fieldFound? (T k).1 (T k).2.1 (T k).2.2.1 = some x → s.fieldFound? ref (T k).2.1 (T k).2.2.1 = some x) {v : Value} (hv : fs[k]? = some v) (hdg : decode cc pc = .ok (.getfield index, 3))
    (kk : W p l e R s m args below meth c H locs cells slots Q (F0 m (pc + 3) ls (v :: rest))) : W p l e R s m args below meth c H locs cells slots Q (F0 m pc ls (.ref a :: rest)) :=
  va_get F.1 F.2.1 F.2.2.2.2.2.2.1 hin F.2.2.2.2.2.1 F.2.2.2.2.2.2.2.1.1 hw.1 q0 he hc k hk (F.2.2.2.2.2.2.1 _ hlink) hsame hv hdg kk
variable {S : Type} {w0 : va_W} {w1 w2 : S → va_W} {b : Nat} {y : MethodName} {bytes : ByteArray} {maxL f k mc ms index : Nat}
/-- a constructor is called: by the nest's word -/
theorem n_inN (s0 : S) (F : Fx p l s m args meth c cc nL ret own d cy A) (hM : CN l y bytes maxL f k mc ms d cy [.ref b] w0 w1) (hcode : Cond.code y bytes maxL none ∈ gtbl) (hlink : (own, index, y) ∈ nestL) (hinst : Cond.instanceMethod y ∈ gtbl) (hini : Cond.initialized y.cls ∈ gtbl) (hyn : y.name = "<init>") (hd : y.cls ≠ "java/lang/invoke/MethodHandle" ∧ y.cls ≠ "java/lang/invoke/VarHandle" ∧ (parseMethodDescriptor y.desc).map (fun d => d.parameters.length) = some 0) (hR : f + 1 ≤ R.frames ∧ 8 + (maxL + 11) + k ≤ R.locals) (hw : Wd d A s.heap w H locs) (hcut : ∀ ad, Cut w w0 (w1 ad) (w2 ad)) (hls : ls.size = nL) (hst : (rest.map fun v => v.category).sum ≤ 8) (e1 : cells + mc = c2) (e2 : slots + ms = s2) (hcells : c2 ≤ R.cells) (hslots : s2 ≤ R.slots) (hdg : decode cc pc = .ok (.invokespecial index, 3))
    (kk : ∀ (ad : S) (H1 : Heap) (locs1 : List Loc), Wd d A s.heap (w2 ad) H1 locs1 → W p l e R s m args below meth c H1 locs1 c2 s2 Q (F0 m (pc + 3) ls rest)) : W p l e R s m args below meth c H locs cells slots Q (F0 m pc ls (.ref b :: rest)) := by
  subst e1
  subst e2
  have hF := g_cutF F hw (hcut s0)
  refine va_callv (va_runIN (As := []) (rest := rest) ⟨F.1, F.2.1, F.2.2.2.2.1, F.2.2.2.2.2.1, F.2.2.2.2.2.2.1⟩ (hM H.size) ⟨va_cnB 0 F.2.2.2.2.2.2.1 (mws_good hcode) rfl rfl rfl (F.2.2.2.2.2.2.2.1.2.1 _ hlink) (F.2.2.2.2.2.2.1 _ hini) hd hR, hyn, F.2.2.2.2.2.2.1 _ hinst⟩ ⟨Pre.blind, g_pre F hw (hcut s0) _⟩ rfl rfl hls rfl (lv_room hst) hdg ⟨hcells, hslots⟩) hw.2.2 (fun q _ h => hF q h) hF (fun ad t H1 locs1 ht hvm hpost hB hz1 hk1 hS => ?_)
  obtain ⟨hP1, hD1⟩ := hB
  rw [ht] at hP1
  obtain ⟨hP, hD⟩ := (hcut ad).2.2 d A H H1 hw.1 hw.2.1 hk1 hF hP1 hD1
  exact kk ad H1 locs1 ⟨hP, hD, hS⟩
theorem n_in (s0 : S) (F : Fx p l s m args meth c cc nL ret own d cy A) (hM : CN l y bytes maxL f k mc ms d cy [.ref b] w0 w1) (hcode : Cond.code y bytes maxL none ∈ gtbl) (hlink : Cond.methodLink own index y ∈ gtbl) (hinst : Cond.instanceMethod y ∈ gtbl) (hini : Cond.initialized y.cls ∈ gtbl) (hyn : y.name = "<init>") (hd : y.cls ≠ "java/lang/invoke/MethodHandle" ∧ y.cls ≠ "java/lang/invoke/VarHandle" ∧ (parseMethodDescriptor y.desc).map (fun d => d.parameters.length) = some 0) (hR : f + 1 ≤ R.frames ∧ 8 + (maxL + 11) + k ≤ R.locals) (hw : Wd d A s.heap w H locs) (hcut : ∀ ad, Cut w w0 (w1 ad) (w2 ad)) (hls : ls.size = nL) (hst : (rest.map fun v => v.category).sum ≤ 8) (e1 : cells + mc = c2) (e2 : slots + ms = s2) (hcells : c2 ≤ R.cells) (hslots : s2 ≤ R.slots) (hdg : decode cc pc = .ok (.invokespecial index, 3))
    (kk : ∀ (ad : S) (H1 : Heap) (locs1 : List Loc), Wd d A s.heap (w2 ad) H1 locs1 → W p l e R s m args below meth c H1 locs1 c2 s2 Q (F0 m (pc + 3) ls rest)) : W p l e R s m args below meth c H locs cells slots Q (F0 m pc ls (.ref b :: rest)) := by
  subst e1
  subst e2
  have hF := g_cutF F hw (hcut s0)
  refine va_callv (va_runI (As := []) (rest := rest) ⟨F.1, F.2.1, F.2.2.2.2.1, F.2.2.2.2.2.1, F.2.2.2.2.2.2.1⟩ (hM H.size) (cwI 0 F.2.2.2.2.2.2.1 (mws_good hcode) rfl rfl rfl (F.2.2.2.2.2.2.1 _ hini) (F.2.2.2.2.2.2.1 _ hlink) (F.2.2.2.2.2.2.1 _ hinst) hyn hd hR) ⟨Pre.blind, g_pre F hw (hcut s0) _⟩ rfl rfl hls rfl (lv_room hst) hdg ⟨hcells, hslots⟩) hw.2.2 (fun q _ h => hF q h) hF (fun ad t H1 locs1 ht hvm hpost hB hz1 hk1 hS => ?_)
  obtain ⟨hP1, hD1⟩ := hB
  rw [ht] at hP1
  obtain ⟨hP, hD⟩ := (hcut ad).2.2 d A H H1 hw.1 hw.2.1 hk1 hF hP1 hD1
  exact kk ad H1 locs1 ⟨hP, hD, hS⟩
end GN
theorem cell_q {cA : ClassId} {n : Nat} {f g : Nat → Option Nat} (h : ∀ j, j < n → f j = g j) : vp_cell cA (n, .inr (.inr (.inr (.inr f)))) = vp_cell cA (n, .inr (.inr (.inr (.inr g)))) := by
  rw [vp_cell_q, vp_cell_q]
  unfold arrV
  congr 2
  funext j
  show va_rf (f j.val) = va_rf (g j.val)
  rw [h j.val j.isLt]
/-- a row of references, told by another function -/
theorem Wd.recell {d : va_G} {A : Nat → Prop} {H0 : Heap} {w w' : va_W} {H : Heap} {locs : List Loc} (hw : Wd d A H0 w H locs) (k : Nat) {a : Nat} {cA : ClassId} {n : Nat} {f g : Nat → Option Nat} (he : w[k]? = some (a, .inl (cA, n, .inr (.inr (.inr (.inr f)))))) (h : ∀ j, j < n → f j = g j) (hw' : w.set k (a, .inl (cA, n, .inr (.inr (.inr (.inr g))))) = w') : Wd d A H0 w' H locs := by
  subst hw'
  refine ⟨?_, hw.2.1.set he, hw.2.2⟩
  exact hw.1.set hw.2.1 he (show H[a]? = some (vp_cell cA (n, .inr (.inr (.inr (.inr g))))) by rw [← cell_q h]; exact hw.1 k _ he) (fun _ _ => rfl)
