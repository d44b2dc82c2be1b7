/-! constructors: rows over lists of cells -/
def tyC (C : Nat → ClassId) : List (ClassId × FieldType) := [(C 0, .int), (C 1, .boolean), (C 2, .char), (C 3, .object "MoonRights$Standing")]
def M0 (p : Program) (s : State) (m : MethodId) (args : Array Value) (meth : Method) (c : Code) (cc : ByteArray) (nL : Nat) (own : String) (D : va_G) (C : Nat → ClassId) (bi : Bool) : Prop :=
  p.tables.exec = Jvm.exec ∧ c.code = cc ∧ meth.sig.returnType = none ∧ c.maxLocals = nL ∧ s.vm.findClass own = some m.cls ∧ meth.locks = false ∧ (∀ w ∈ TB, w.before args s = true) ∧ va_K D vwCl (tyC C) s ∧ (bi = true → meth.name = "<init>")
def N0 (D : va_G) (ws : va_W) (A : Nat → Prop) (H0 H : Heap) (locs : List Loc) : Prop := va_P D vwCl ws H ∧ va_D A ws ∧ va_S A H0 H locs
abbrev ia (C : Nat → ClassId) (n : Nat) : va_E := .inl (C 0, n, .inl (fun _ => 0))
abbrev ba (C : Nat → ClassId) (n : Nat) : va_E := .inl (C 1, n, .inl (fun _ => 0))
abbrev ca (C : Nat → ClassId) (n : Nat) : va_E := .inl (C 2, n, .inl (fun _ => 0))
section RowsN
variable {p : Program} {l : Launch} {e : Env} {R : Room} {s : State} {m : MethodId} {args : Array Value} {below : List Frame} {meth : Method} {c : Code} {H : Heap} {locs : List Loc} {cells slots : Nat} {Q : State → Prop}
variable {cc : ByteArray} {pc nL : Nat} {ls : Array Slot} {rest : List Value} {A : Nat → Prop} {H0 : Heap} {D : va_G} {C : Nat → ClassId} {ws : va_W} {own : String} {bi : Bool}
theorem n_newi (M : M0 p s m args meth c cc nL own D C bi) (hA : ∀ q, H0.size ≤ q → A q) (hn : N0 D ws A H0 H locs) {n : Int32} (N' : Nat) (h0 : ¬ n < 0) (hN : n.toNatClampNeg = N') (hbytes : N' * componentBytes .int ≤ 536870912) (hcells : cells + 1 ≤ R.cells) (hslots : slots + N' ≤ R.slots) (hdg : decode cc pc = .ok (.newarray .int, 2))
    (kk : ∀ (q : Nat) (H1 : Heap), N0 D (ws ++ [(q, ia C N')]) A H0 H1 locs → W p l e R s m args below meth c H1 locs (cells + 1) (slots + N') Q (F0 m (pc + 2) ls (.ref q :: rest))) : W p l e R s m args below meth c H locs cells slots Q (F0 m pc ls (.int n :: rest)) := by
  obtain ⟨hx, hb, hr, hml, hown, hlk, hT, hK, hin⟩ := M
  refine va_newa (atype := .int) (ty := .int) (a0 := (N', .inl (fun _ => 0))) hx hb (hT _ tw_157) rfl hK hn.1 hn.2.1 hn.2.2 hA (fun cA => rfl) h0 hN hbytes hcells hslots hdg (fun q cA H1 hK1 hP hD hS => ?_)
  have e1 : s.vm.findClass ("[" ++ FieldType.int.toString) = some cA := (hK1.2 4 (cA, .int) rfl).2
  have e2 : s.vm.findClass ("[" ++ FieldType.int.toString) = some (C 0) := (hK.2 0 (C 0, .int) rfl).2
  have e3 : cA = C 0 := Option.some.inj (e1.symm.trans e2)
  subst e3
  exact kk q H1 ⟨hP, hD, hS⟩
theorem n_newz (M : M0 p s m args meth c cc nL own D C bi) (hA : ∀ q, H0.size ≤ q → A q) (hn : N0 D ws A H0 H locs) {n : Int32} (N' : Nat) (h0 : ¬ n < 0) (hN : n.toNatClampNeg = N') (hbytes : N' * componentBytes .boolean ≤ 536870912) (hcells : cells + 1 ≤ R.cells) (hslots : slots + N' ≤ R.slots) (hdg : decode cc pc = .ok (.newarray .boolean, 2))
    (kk : ∀ (q : Nat) (H1 : Heap), N0 D (ws ++ [(q, ba C N')]) A H0 H1 locs → W p l e R s m args below meth c H1 locs (cells + 1) (slots + N') Q (F0 m (pc + 2) ls (.ref q :: rest))) : W p l e R s m args below meth c H locs cells slots Q (F0 m pc ls (.int n :: rest)) := by
  obtain ⟨hx, hb, hr, hml, hown, hlk, hT, hK, hin⟩ := M
  refine va_newa (atype := .boolean) (ty := .boolean) (a0 := (N', .inl (fun _ => 0))) hx hb (hT _ tw_158) rfl hK hn.1 hn.2.1 hn.2.2 hA (fun cA => rfl) h0 hN hbytes hcells hslots hdg (fun q cA H1 hK1 hP hD hS => ?_)
  have e1 : s.vm.findClass ("[" ++ FieldType.boolean.toString) = some cA := (hK1.2 4 (cA, .boolean) rfl).2
  have e2 : s.vm.findClass ("[" ++ FieldType.boolean.toString) = some (C 1) := (hK.2 1 (C 1, .boolean) rfl).2
  have e3 : cA = C 1 := Option.some.inj (e1.symm.trans e2)
  subst e3
  exact kk q H1 ⟨hP, hD, hS⟩
theorem n_newc (M : M0 p s m args meth c cc nL own D C bi) (hA : ∀ q, H0.size ≤ q → A q) (hn : N0 D ws A H0 H locs) {n : Int32} (N' : Nat) (h0 : ¬ n < 0) (hN : n.toNatClampNeg = N') (hbytes : N' * componentBytes .char ≤ 536870912) (hcells : cells + 1 ≤ R.cells) (hslots : slots + N' ≤ R.slots) (hdg : decode cc pc = .ok (.newarray .char, 2))
    (kk : ∀ (q : Nat) (H1 : Heap), N0 D (ws ++ [(q, ca C N')]) A H0 H1 locs → W p l e R s m args below meth c H1 locs (cells + 1) (slots + N') Q (F0 m (pc + 2) ls (.ref q :: rest))) : W p l e R s m args below meth c H locs cells slots Q (F0 m pc ls (.int n :: rest)) := by
  obtain ⟨hx, hb, hr, hml, hown, hlk, hT, hK, hin⟩ := M
  refine va_newa (atype := .char) (ty := .char) (a0 := (N', .inl (fun _ => 0))) hx hb (hT _ tw_92) rfl hK hn.1 hn.2.1 hn.2.2 hA (fun cA => rfl) h0 hN hbytes hcells hslots hdg (fun q cA H1 hK1 hP hD hS => ?_)
  have e1 : s.vm.findClass ("[" ++ FieldType.char.toString) = some cA := (hK1.2 4 (cA, .char) rfl).2
  have e2 : s.vm.findClass ("[" ++ FieldType.char.toString) = some (C 2) := (hK.2 2 (C 2, .char) rfl).2
  have e3 : cA = C 2 := Option.some.inj (e1.symm.trans e2)
  subst e3
  exact kk q H1 ⟨hP, hD, hS⟩
/-- a final field gets its value -/
theorem n_putF (M : M0 p s m args meth c cc nL own D C true) (hn : N0 D ws A H0 H locs) (q0 : Nat) {a ci : Nat} {fs : List Value} (he : ws[q0]? = some (a, .inr (ci, fs))) {T : u_T} {N index : Nat} (hc : vwCl[ci]? = some (own, T, N)) (hin : ∀ w ∈ u_ws own T N, w ∈ TB) (ty0 : Nat → FieldType) (hty : ∀ k, k < N → parseFieldDescriptor (T k).2.2.1 = some (ty0 k)) (hnm : ∀ a, a < N → ∀ b, b < N → a ≠ b → (T a).2.1 ≠ (T b).2.1) (k : Nat) (hk : k < N) (hl : Cond.fieldLink own index (T k).1 (T k).2.1 (T k).2.2.1 ∈ TB) (hfin : (T k).2.2.2 = true) (hdecl : (T k).1 = own) {v : Value} (hnv : narrow (ty0 k) v = v) (hfit : fits (ty0 k) v = true) (hlen : k < fs.length) (hdg : decode cc pc = .ok (.putfield index, 3))
    (kk : ∀ (H1 : Heap) (locs1 : List Loc), N0 D (ws.set q0 (a, .inr (ci, fs.set k v))) A H0 H1 locs1 → W p l e R s m args below meth c H1 locs1 cells slots Q (F0 m (pc + 3) ls rest)) : W p l e R s m args below meth c H locs cells slots Q (F0 m pc ls (v :: .ref a :: rest)) := by
  obtain ⟨hx, hb, hr, hml, hown, hlk, hT, hK, hin2⟩ := M
  exact va_putF hx hb hT hin ty0 hty hnm hown hK hn.1 hn.2.1 hn.2.2 q0 he hc k hk (hT _ hl) (fun _ h9 => h9) hfin (hin2 rfl) hdecl (hty k hk) hnv hfit hlen hdg (fun H1 locs1 hP hD hS => kk H1 locs1 ⟨hP, hD, hS⟩)
theorem n_put (M : M0 p s m args meth c cc nL own D C bi) (hn : N0 D ws A H0 H locs) (q0 : Nat) {a ci : Nat} {fs : List Value} (he : ws[q0]? = some (a, .inr (ci, fs))) {T : u_T} {N index : Nat} {CN : String} (hc : vwCl[ci]? = some (CN, T, N)) (hin : ∀ w ∈ u_ws CN T N, w ∈ TB) (ty0 : Nat → FieldType) (hty : ∀ k, k < N → parseFieldDescriptor (T k).2.2.1 = some (ty0 k)) (hnm : ∀ a, a < N → ∀ b, b < N → a ≠ b → (T a).2.1 ≠ (T b).2.1) (k : Nat) (hk : k < N) (hl : Cond.fieldLink own index (T k).1 (T k).2.1 (T k).2.2.1 ∈ TB) (hfin : (T k).2.2.2 = false) {v : Value} (hnv : narrow (ty0 k) v = v) (hfit : fits (ty0 k) v = true) (hlen : k < fs.length) (hdg : decode cc pc = .ok (.putfield index, 3))
    (kk : ∀ (H1 : Heap) (locs1 : List Loc), N0 D (ws.set q0 (a, .inr (ci, fs.set k v))) A H0 H1 locs1 → W p l e R s m args below meth c H1 locs1 cells slots Q (F0 m (pc + 3) ls rest)) : W p l e R s m args below meth c H locs cells slots Q (F0 m pc ls (v :: .ref a :: rest)) := by
  obtain ⟨hx, hb, hr, hml, hown, hlk, hT, hK, hin2⟩ := M
  exact va_put hx hb hT hin ty0 hty hnm hown hK hn.1 hn.2.1 hn.2.2 q0 he hc k hk (hT _ hl) (fun _ h9 => h9) hfin (hty k hk) hnv hfit hlen hdg (fun H1 locs1 hP hD hS => kk H1 locs1 ⟨hP, hD, hS⟩)
theorem n_get (M : M0 p s m args meth c cc nL own D C bi) (hn : N0 D ws A H0 H locs) (q0 : Nat) {a ci : Nat} {fs : List Value} (he : ws[q0]? = some (a, .inr (ci, fs))) {T : u_T} {N index : Nat} {CN : String} (hc : vwCl[ci]? = some (CN, T, N)) (hin : ∀ w ∈ u_ws CN T N, w ∈ TB) (k : Nat) (hk : k < N) (hl : Cond.fieldLink own index (T k).1 (T k).2.1 (T k).2.2.1 ∈ TB) {v : Value} (hv : fs[k]? = some v) (hdg : decode cc pc = .ok (.getfield index, 3))
    (kk : W p l e R s m args below meth c H locs cells slots Q (F0 m (pc + 3) ls (v :: rest))) : W p l e R s m args below meth c H locs cells slots Q (F0 m pc ls (.ref a :: rest)) := by
  obtain ⟨hx, hb, hr, hml, hown, hlk, hT, hK, hin2⟩ := M
  exact va_get hx hb hT hin hown hK hn.1 q0 he hc k hk (hT _ hl) (fun _ h9 => h9) hv hdg kk
theorem n_obj (M : M0 p s m args meth c cc nL own D C bi) {idx : Nat} (hlink : Cond.methodLink own idx objectInit ∈ TB) (hls : ls.size = nL) {a : Nat} (hrm : (rest.map fun v => v.category).sum = 0) (hdg : decode cc pc = .ok (.invokespecial idx, 3)) (hf : 1 ≤ R.frames) (hlo : 12 ≤ R.locals)
    (kk : W p l e R s m args below meth c H locs cells slots Q (F0 m (pc + 3) ls rest)) : W p l e R s m args below meth c H locs cells slots Q (F0 m pc ls (.ref a :: rest)) := by
  obtain ⟨hx, hb, hr, hml, hown, hlk, hT, hK, hin2⟩ := M
  refine W.objInit hx hb hown (hT _ hlink) (hT _ tw_64) (hT _ tw_65) rfl (by rw [hml]; exact hls) rfl hdg hf (by show 2 * 0 + _ + 12 ≤ _; rw [hrm]; exact hlo) ?_
  exact W.eq (g2 := F0 m (pc + 3) ls rest) rfl kk
end RowsN
/-- a constructor that is met with its own cells wi in the world -/
def PN (D : va_G) (C : Nat → ClassId) (E : State → Prop) (wi : va_W) (sz : Nat) (U : State) : Prop := U.heap.size = sz ∧ va_P D vwCl wi U.heap ∧ va_K D vwCl (tyC C) U ∧ va_D (fun _ => True) wi ∧ E U
def QN (D : va_G) (wi : va_W) (sz : Nat) (wo : (Nat → Nat) → va_W) : Array Value → State → Outcome → State → Prop := va_Qv (fun _ : Nat → Nat => True) (fun u t => va_P D vwCl (wo u) t.heap ∧ va_D (va_A wi sz) (wo u)) (va_A wi sz)
/-- words that a state keeps -/
def EB (E : State → Prop) : Prop := (∀ u U : State, u.vm = U.vm → E u → E U) ∧ ∀ u U : State, u.WarmedH U.vm → E u → E U
def E1 : State → Prop := fun _ => True
theorem eb1 : EB E1 := ⟨fun _ _ _ _ => trivial, fun _ _ _ _ => trivial⟩
theorem n_ent {l : Launch} {y : MethodName} {cc : ByteArray} {nL : Nat} {vs : List Value} {fr lo mc ms : Nat} {D : va_G} {C : Nat → ClassId} {E : State → Prop} {wi : va_W} {sz : Nat} {wo : (Nat → Nat) → va_W} (hy : plainName y.cls = true) (hyn : y.name = "<init>") (hn : (lg_sl vs).length ≤ nL)
    (body : ∀ (p : Program) (e : Env) (s : State) (m : MethodId) (below : List Frame) (meth : Method) (c : Code) (ls : Array Slot) (A : Nat → Prop), s.heap.size = sz → va_A wi sz = A → (∀ q, s.heap.size ≤ q → A q) → M0 p s m vs.toArray meth c cc nL y.cls D C true → N0 D wi A s.heap s.heap [] → lv_has ls nL (lv_args 0 vs) → E s → W p l e { frames := fr, cells := mc, slots := ms, locals := lo } s m vs.toArray below meth c s.heap [] 0 0 (MQ below (QN D wi sz wo) vs.toArray s mc ms (va_A wi sz)) (F0 m 0 ls [])) :
    Met l y (Cond.code y cc nL none :: TB) { frames := fr, cells := mc, slots := ms, locals := lo } (va_Pc vs (PN D C E wi sz)) (QN D wi sz wo) mc ms (va_A wi sz) := by
  refine Met.ofW (cc := cc) (maxL := nL) (ret := none) hy rfl ?_
  intro p e s m args below meth c s₁ B hml hv
  obtain ⟨rfl, hsz, hP, hK, hD0, hE⟩ := hv
  have hts := atoms_spec (ws := Cond.code y cc nL none :: TB) B.pre
  have hl := lv_entry vs (n := nL) hn
  rw [lg_entry_eq]
  subst hsz
  exact body p e s m below meth c _ _ rfl rfl (fun q h => Or.inr h) ⟨B.exec, B.bytes, B.returns, hml, findClass_of_methodNamed B.named, B.notSynchronized, fun w h => hts w (List.mem_cons_of_mem _ h), hK, fun _ => (name_of_methodNamed B.named B.method).1.trans hyn⟩ ⟨hP, hD0.self (sz := s.heap.size), va_S.rf⟩ hl hE
theorem n_entV {l : Launch} {y : MethodName} {cc : ByteArray} {nL : Nat} {vs : List Value} {fr lo mc ms : Nat} {D : va_G} {C : Nat → ClassId} {E : State → Prop} {wi : va_W} {sz : Nat} {wo : (Nat → Nat) → va_W} (hy : plainName y.cls = true) (hn : (lg_sl vs).length ≤ nL)
    (body : ∀ (p : Program) (e : Env) (s : State) (m : MethodId) (below : List Frame) (meth : Method) (c : Code) (ls : Array Slot) (A : Nat → Prop), s.heap.size = sz → va_A wi sz = A → (∀ q, s.heap.size ≤ q → A q) → M0 p s m vs.toArray meth c cc nL y.cls D C false → N0 D wi A s.heap s.heap [] → lv_has ls nL (lv_args 0 vs) → E s → W p l e { frames := fr, cells := mc, slots := ms, locals := lo } s m vs.toArray below meth c s.heap [] 0 0 (MQ below (QN D wi sz wo) vs.toArray s mc ms (va_A wi sz)) (F0 m 0 ls [])) :
    Met l y (Cond.code y cc nL none :: TB) { frames := fr, cells := mc, slots := ms, locals := lo } (va_Pc vs (PN D C E wi sz)) (QN D wi sz wo) mc ms (va_A wi sz) := by
  refine Met.ofW (cc := cc) (maxL := nL) (ret := none) hy rfl ?_
  intro p e s m args below meth c s₁ B hml hv
  obtain ⟨rfl, hsz, hP, hK, hD0, hE⟩ := hv
  have hts := atoms_spec (ws := Cond.code y cc nL none :: TB) B.pre
  have hl := lv_entry vs (n := nL) hn
  rw [lg_entry_eq]
  subst hsz
  exact body p e s m below meth c _ _ rfl rfl (fun q h => Or.inr h) ⟨B.exec, B.bytes, B.returns, hml, findClass_of_methodNamed B.named, B.notSynchronized, fun w h => hts w (List.mem_cons_of_mem _ h), hK, fun f => absurd f (by decide)⟩ ⟨hP, hD0.self (sz := s.heap.size), va_S.rf⟩ hl hE
section
variable {p : Program} {l : Launch} {e : Env} {R : Room} {s : State} {m : MethodId} {args : Array Value} {below : List Frame} {meth : Method} {c : Code} {H : Heap} {locs : List Loc} {cells slots mc ms : Nat}
variable {cc : ByteArray} {pc nL : Nat} {ls : Array Slot} {A : Nat → Prop} {D : va_G} {C : Nat → ClassId} {ws wi : va_W} {own : String} {bi : Bool} {sz : Nat} {wo : (Nat → Nat) → va_W}
theorem n_ret (M : M0 p s m args meth c cc nL own D C bi) (u : Nat → Nat) (hn : N0 D ws (va_A wi sz) s.heap H locs) (hw : ws = wo u) (h1 : cells ≤ mc) (h2 : slots ≤ ms) (hdg : decode cc pc = .ok (.return_, 1)) : W p l e R s m args below meth c H locs cells slots (MQ below (QN D wi sz wo) args s mc ms (va_A wi sz)) (F0 m pc ls []) := by
  obtain ⟨hx, hb, hr, hml, hown, hlk, hT, hK, hin⟩ := M
  subst hw
  refine W.widen (k := mc) (n := ms) h1 h2 ?_
  exact W.vret hx hb hr (fun t ht hW => ⟨⟨u, rfl, trivial, by rw [ht]; exact hn.1, hn.2.1⟩, hn.2.2.F ht⟩) hn.2.2.2.2 hdg hlk
/-- what is known of a constructor that is called -/
def MI (y : MethodName) (b : ByteArray) (n nL : Nat) : Prop := Cond.instanceMethod y ∈ TB ∧ Cond.initialized y.cls ∈ TB ∧ Cond.code y b nL none ∈ TB ∧ y.name = "<init>" ∧ (y.cls ≠ "java/lang/invoke/MethodHandle" ∧ y.cls ≠ "java/lang/invoke/VarHandle" ∧ (parseMethodDescriptor y.desc).map (fun d => d.parameters.length) = some n)
variable {Q : State → Prop} {H0 : Heap} {E : State → Prop} {wc wr : va_W} {y : MethodName} {b : ByteArray} {nL' n fr lo index bq : Nat} {As rest st : List Value}
theorem n_call (M : M0 p s m args meth c cc nL own D C bi) (hA : ∀ q, H0.size ≤ q → A q) (hn : N0 D ws A H0 H locs) (hEB : EB E) (hE : E s) (isC isR : List Nat) (hC : isC.map (fun i => ws[i]?) = wc.map some) (hF : isC.filterMap (fun i => ws[i]?) = wc) (hR : isR.map (fun i => ws[i]?) = wr.map some) (hcd : va_nd isC = true) (hnd : va_nd isR = true) (hdis : ∀ i ∈ isR, i ∉ isC) (hM : Met l y (Cond.code y b nL' none :: TB) { frames := fr, cells := mc, slots := ms, locals := lo } (va_Pc (.ref bq :: As) (PN D C E wc H.size)) (QN D wc H.size wo) mc ms (va_A wc H.size)) (hmi : MI y b n nL')
    (hml' : Cond.methodLink own index y ∈ TB) (hln : As.length = n) (hls : ls.size = nL) (hst : st = As.reverse ++ .ref bq :: rest) (hrm : (rest.map fun v => v.category).sum ≤ 8) (hRm : fr + 1 ≤ R.frames ∧ 8 + (nL' + 11) + lo ≤ R.locals) (hcs : cells + mc ≤ R.cells ∧ slots + ms ≤ R.slots) (hdg : decode cc pc = .ok (.invokespecial index, 3))
    (kk : ∀ (u : Nat → Nat) (H1 : Heap) (locs1 : List Loc), N0 D (wr ++ wo u) A H0 H1 locs1 → W p l e R s m args below meth c H1 locs1 (cells + mc) (slots + ms) Q (F0 m (pc + 3) ls rest)) : W p l e R s m args below meth c H locs cells slots Q (F0 m pc ls st) := by
  obtain ⟨hx, hb, hr, hmx, hown, hlk, hT, hK, hin⟩ := M
  obtain ⟨b1, b2, b3, b4, b5⟩ := hmi
  have hPc := hn.1.sub (ws' := wc) isC hF
  have hDc := hn.2.1.sub (ws' := wc) isC hcd hC
  have hFc := va_free (wc := wc) hn.2.1 hn.2.2 hA isC hC
  refine va_callv (va_runI (As := As) (rest := rest) ⟨hx, hb, hmx, hown, hT⟩ hM (cwI n hT (gdT (fun w h => ?_)) rfl rfl rfl (hT _ b2) (hT _ hml') (hT _ b1) b4 b5 hRm) ⟨fun a U g mk q => ?_, fun U hU hW => ⟨rfl, by rw [hU], by rw [hU]; exact hPc, va_K.moved hW.alike hK, hDc.weaken (fun _ _ _ _ => trivial), hEB.2 s U hW hE⟩⟩ rfl hln hls hst (lv_room hrm) hdg hcs) hn.2.2 (fun q _ h => hFc q h) hFc (fun u t H1 locs1 ht hvm hw hB hz1 hk1 hS => ?_)
  · rcases List.mem_cons.mp h with rfl | h
    · exact b3
    · exact h
  · obtain ⟨q0, q1, qP, qK, qD, qE⟩ := q
    exact ⟨q0, q1, qP, va_K.moved (u := U) (U := U.calling g mk a) (Vm.Alike.refl U.vm) qK, qD, hEB.1 U _ rfl qE⟩
  · obtain ⟨hP1, hD1⟩ := hB
    rw [ht] at hP1
    have := va_join (wr := wr) (w1 := wo u) hn.1 hn.2.1 isC isR hC hR hnd hdis hk1 hFc hP1 hD1
    exact kk u H1 locs1 ⟨this.1, this.2, hS⟩
theorem n_callN (M : M0 p s m args meth c cc nL own D C bi) (hA : ∀ q, H0.size ≤ q → A q) (hn : N0 D ws A H0 H locs) (hEB : EB E) (hE : E s) (isC isR : List Nat) (hC : isC.map (fun i => ws[i]?) = wc.map some) (hF : isC.filterMap (fun i => ws[i]?) = wc) (hR : isR.map (fun i => ws[i]?) = wr.map some) (hcd : va_nd isC = true) (hnd : va_nd isR = true) (hdis : ∀ i ∈ isR, i ∉ isC) (hM : Met l y (Cond.code y b nL' none :: TB) { frames := fr, cells := mc, slots := ms, locals := lo } (va_Pc (.ref bq :: As) (PN D C E wc H.size)) (QN D wc H.size wo) mc ms (va_A wc H.size)) (hmi : MI y b n nL')
    {host : String} (hml' : va_Nw (.methodLinkNest own index y host) s) (hln : As.length = n) (hls : ls.size = nL) (hst : st = As.reverse ++ .ref bq :: rest) (hrm : (rest.map fun v => v.category).sum ≤ 8) (hRm : fr + 1 ≤ R.frames ∧ 8 + (nL' + 11) + lo ≤ R.locals) (hcs : cells + mc ≤ R.cells ∧ slots + ms ≤ R.slots) (hdg : decode cc pc = .ok (.invokespecial index, 3))
    (kk : ∀ (u : Nat → Nat) (H1 : Heap) (locs1 : List Loc), N0 D (wr ++ wo u) A H0 H1 locs1 → W p l e R s m args below meth c H1 locs1 (cells + mc) (slots + ms) Q (F0 m (pc + 3) ls rest)) : W p l e R s m args below meth c H locs cells slots Q (F0 m pc ls st) := by
  obtain ⟨hx, hb, hr, hmx, hown, hlk, hT, hK, hin⟩ := M
  obtain ⟨b1, b2, b3, b4, b5⟩ := hmi
  have hPc := hn.1.sub (ws' := wc) isC hF
  have hDc := hn.2.1.sub (ws' := wc) isC hcd hC
  have hFc := va_free (wc := wc) hn.2.1 hn.2.2 hA isC hC
  refine va_callv (va_runIN (As := As) (rest := rest) ⟨hx, hb, hmx, hown, hT⟩ hM ⟨va_cnB n hT (gdT (fun w h => ?_)) rfl rfl rfl hml' (hT _ b2) b5 hRm, b4, hT _ b1⟩ ⟨fun a U g mk q => ?_, fun U hU hW => ⟨rfl, by rw [hU], by rw [hU]; exact hPc, va_K.moved hW.alike hK, hDc.weaken (fun _ _ _ _ => trivial), hEB.2 s U hW hE⟩⟩ rfl hln hls hst (lv_room hrm) hdg hcs) hn.2.2 (fun q _ h => hFc q h) hFc (fun u t H1 locs1 ht hvm hw hB hz1 hk1 hS => ?_)
  · rcases List.mem_cons.mp h with rfl | h
    · exact b3
    · exact h
  · obtain ⟨q0, q1, qP, qK, qD, qE⟩ := q
    exact ⟨q0, q1, qP, va_K.moved (u := U) (U := U.calling g mk a) (Vm.Alike.refl U.vm) qK, qD, hEB.1 U _ rfl qE⟩
  · obtain ⟨hP1, hD1⟩ := hB
    rw [ht] at hP1
    have := va_join (wr := wr) (w1 := wo u) hn.1 hn.2.1 isC isR hC hR hnd hdis hk1 hFc hP1 hD1
    exact kk u H1 locs1 ⟨this.1, this.2, hS⟩
theorem n_callV (M : M0 p s m args meth c cc nL own D C bi) (hA : ∀ q, H0.size ≤ q → A q) (hn : N0 D ws A H0 H locs) (hEB : EB E) (hE : E s) (isC isR : List Nat) (hC : isC.map (fun i => ws[i]?) = wc.map some) (hF : isC.filterMap (fun i => ws[i]?) = wc) (hR : isR.map (fun i => ws[i]?) = wr.map some) (hcd : va_nd isC = true) (hnd : va_nd isR = true) (hdis : ∀ i ∈ isR, i ∉ isC) {CN : String} {T : u_T} {N ci q0 : Nat} {fs : List Value} (hq0 : wc[q0]? = some (bq, .inr (ci, fs))) (hcl : vwCl[ci]? = some (CN, T, N)) (hM : Met l y (Cond.code y b nL' none :: TB) { frames := fr, cells := mc, slots := ms, locals := lo } (va_Pc (.ref bq :: As) (PN D C E wc H.size)) (QN D wc H.size wo) mc ms (va_A wc H.size)) (hmb : MB CN y b n nL' none)
    (hml' : Cond.methodLink own index y ∈ TB) (hln : As.length = n) (hls : ls.size = nL) (hst : st = As.reverse ++ .ref bq :: rest) (hrm : (rest.map fun v => v.category).sum ≤ 8) (hRm : fr + 1 ≤ R.frames ∧ 8 + (nL' + 11) + lo ≤ R.locals) (hcs : cells + mc ≤ R.cells ∧ slots + ms ≤ R.slots) (hdg : decode cc pc = .ok (.invokevirtual index, 3))
    (kk : ∀ (u : Nat → Nat) (H1 : Heap) (locs1 : List Loc), N0 D (wr ++ wo u) A H0 H1 locs1 → W p l e R s m args below meth c H1 locs1 (cells + mc) (slots + ms) Q (F0 m (pc + 3) ls rest)) : W p l e R s m args below meth c H locs cells slots Q (F0 m pc ls st) := by
  obtain ⟨hx, hb, hr, hmx, hown, hlk, hT, hK, hin⟩ := M
  obtain ⟨b1, b2, b3, b4, b5⟩ := hmb
  have hPc := hn.1.sub (ws' := wc) isC hF
  have hDc := hn.2.1.sub (ws' := wc) isC hcd hC
  have hFc := va_free (wc := wc) hn.2.1 hn.2.2 hA isC hC
  refine va_callv (va_runV (As := As) (rest := rest) ⟨hx, hb, hmx, hown, hT⟩ hM (cwV n hT (gdT ?_) rfl rfl rfl b5 hRm) ⟨fun a U g mk q => ?_, va_recv hK hPc hcl hq0, fun U hU hW => ⟨rfl, by rw [hU], by rw [hU]; exact hPc, va_K.moved hW.alike hK, hDc.weaken (fun _ _ _ _ => trivial), hEB.2 s U hW hE⟩⟩ rfl hln hls hst (lv_room hrm) hdg hcs) hn.2.2 (fun q _ h => hFc q h) hFc (fun u t H1 locs1 ht hvm hw hB hz1 hk1 hS => ?_)
  · intro w h
    simp only [wsV, List.cons_append, List.nil_append, List.mem_cons] at h
    rcases h with rfl | rfl | rfl | rfl | rfl | h
    · exact hml'
    · exact b1
    · exact b2
    · exact b3
    · exact b4
    · exact h
  · obtain ⟨q0, q1, qP, qK, qD, qE⟩ := q
    exact ⟨q0, q1, qP, va_K.moved (u := U) (U := U.calling g mk a) (Vm.Alike.refl U.vm) qK, qD, hEB.1 U _ rfl qE⟩
  · obtain ⟨hP1, hD1⟩ := hB
    rw [ht] at hP1
    have := va_join (wr := wr) (w1 := wo u) hn.1 hn.2.1 isC isR hC hR hnd hdis hk1 hFc hP1 hD1
    exact kk u H1 locs1 ⟨this.1, this.2, hS⟩
theorem n_new (M : M0 p s m args meth c cc nL own D C bi) (hA : ∀ q, H0.size ≤ q → A q) (hn : N0 D ws A H0 H locs) {CN : String} {T : u_T} {N ci : Nat} (hin : ∀ w ∈ u_ws CN T N, w ∈ TB) (ty : Nat → FieldType) (hty : ∀ k, k < N → parseFieldDescriptor (T k).2.2.1 = some (ty k)) (hcl : Cond.classLink own index CN ∈ TB) (hinst : Cond.instantiable CN N ∈ TB) (hini : Cond.initialized CN ∈ TB) (hc : vwCl[ci]? = some (CN, T, N)) {fs : List Value} (hfs : ∀ j, j < N → defaultValue (ty j) = vp_V fs j) (hcells : cells + 1 ≤ R.cells) (hslots : slots + N ≤ R.slots) (hdg : decode cc pc = .ok (.new index, 3))
    (kk : ∀ (q : Nat) (H1 : Heap), N0 D (ws ++ [(q, .inr (ci, fs))]) A H0 H1 locs → W p l e R s m args below meth c H1 locs (cells + 1) (slots + N) Q (F0 m (pc + 3) ls (.ref q :: rest))) : W p l e R s m args below meth c H locs cells slots Q (F0 m pc ls rest) := by
  obtain ⟨hx, hb, hr, hmx, hown, hlk, hT, hK, hin'⟩ := M
  exact va_new hx hb hT hin ty hty hown (hT _ hcl) (hT _ hinst) (hT _ hini) hK hn.1 hn.2.1 hn.2.2 hA hc hfs hcells hslots hdg (fun q H1 hP hD hS => kk q H1 ⟨hP, hD, hS⟩)
end
