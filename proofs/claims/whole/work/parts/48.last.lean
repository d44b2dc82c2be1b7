/-! a constructor of the newest cell: all others stay as they are -/
theorem last_C {ws : va_W} {x : Nat × va_E} : [ws.length].map (fun i => (ws ++ [x])[i]?) = [x].map some := by simp
theorem last_F {ws : va_W} {x : Nat × va_E} : [ws.length].filterMap (fun i => (ws ++ [x])[i]?) = [x] := by simp
theorem last_R {ws : va_W} {x : Nat × va_E} : (List.range ws.length).map (fun i => (ws ++ [x])[i]?) = ws.map some := by
  apply List.ext_getElem?
  intro j
  by_cases h : j < ws.length
  · simp [h, List.getElem?_append_left h]
  · rw [List.getElem?_eq_none (by simp; omega), List.getElem?_eq_none (by simp; omega)]
theorem nd_iff : ∀ (is : List Nat), is.Nodup → va_nd is = true := by
  intro is h
  induction is with
  | nil => rfl
  | cons a is ih =>
    have h := List.nodup_cons.mp h
    simp [va_nd, ih h.2, h.1]
theorem last_D {n : Nat} : ∀ i ∈ List.range n, i ∉ [n] := by
  intro i hi
  have := List.mem_range.mp hi
  simp
  omega
def E2 (U : State) : Prop := va_AO "MoonRights$Standing" U ∧ va_Nw (.methodLinkNest "MoonRights$History" 17 yX4_init "MoonRights") U
theorem eb2 : EB E2 := ⟨fun u U h q => ⟨va_AO.moved (by rw [h]; exact Vm.Alike.refl _) q.1, va_Nw.same rfl h q.2⟩, fun u U h q => ⟨va_AO.moved h.alike q.1, va_Nw.warmM h q.2⟩⟩
abbrev sa (C : Nat → ClassId) (n : Nat) (f : Nat → Option Nat) : va_E := .inl (C 3, n, .inr (.inr (.inr (.inr f))))
section
variable {p : Program} {l : Launch} {e : Env} {R : Room} {s : State} {m : MethodId} {args : Array Value} {below : List Frame} {meth : Method} {c : Code} {H : Heap} {locs : List Loc} {cells slots : Nat} {Q : State → Prop}
variable {cc : ByteArray} {pc nL : Nat} {ls : Array Slot} {rest : List Value} {A : Nat → Prop} {H0 : Heap} {D : va_G} {C : Nat → ClassId} {ws : va_W} {own : String} {bi : Bool}
theorem n_newq (M : M0 p s m args meth c cc nL own D C bi) (hA : ∀ q, H0.size ≤ q → A q) (hn : N0 D ws A H0 H locs) (hO : va_AO "MoonRights$Standing" s) {index : Nat} (hcl : Cond.classLink own index "MoonRights$Standing" ∈ TB) {n : Int32} (N' : Nat) (h0 : ¬ n < 0) (hN : n.toNatClampNeg = N') (hbytes : N' * 4 ≤ 536870912) (hcells : cells + 1 ≤ R.cells) (hslots : slots + N' ≤ R.slots) (hdg : decode cc pc = .ok (.anewarray index, 3))
    (kk : ∀ (q : Nat) (H1 : Heap), N0 D (ws ++ [(q, sa C N' (fun _ => none))]) A H0 H1 locs → W p l e R s m args below meth c H1 locs (cells + 1) (slots + N') Q (F0 m (pc + 3) ls (.ref q :: rest))) : W p l e R s m args below meth c H locs cells slots Q (F0 m pc ls (.int n :: rest)) := by
  obtain ⟨hx, hb, hr, hml, hown, hlk, hT, hK, hin⟩ := M
  refine va_newq hx hb hown (hT _ hcl) hO hK hn.1 hn.2.1 hn.2.2 hA h0 hN hbytes hcells hslots hdg (fun q cA H1 hK1 hP hD hS => ?_)
  obtain ⟨-, -, -, -, -, e1⟩ : va_RA s cA (.object "MoonRights$Standing") := (hK1.2 4 (cA, .object "MoonRights$Standing") rfl).2
  obtain ⟨-, -, -, -, -, e2⟩ : va_RA s (C 3) (.object "MoonRights$Standing") := (hK.2 3 (C 3, .object "MoonRights$Standing") rfl).2
  have e3 : cA = C 3 := Option.some.inj (e1.symm.trans e2)
  subst e3
  exact kk q H1 ⟨hP, hD, hS⟩
theorem n_astq (M : M0 p s m args meth c cc nL own D C bi) (hn : N0 D ws A H0 H locs) (q0 qk : Nat) {a v n : Nat} {f : Nat → Option Nat} {vs : List Value} (ha : ws[q0]? = some (a, sa C n f)) (hv : ws[qk]? = some (v, .inr (4, vs))) {i : Int32} (hin : vp_in i n) (hdg : decode cc pc = .ok (.aastore, 1))
    (kk : ∀ (H1 : Heap) (locs1 : List Loc), N0 D (ws.set q0 (a, sa C n (va_up f i.toNatClampNeg (some v)))) A H0 H1 locs1 → W p l e R s m args below meth c H1 locs1 cells slots Q (F0 m (pc + 1) ls rest)) : W p l e R s m args below meth c H locs cells slots Q (F0 m pc ls (.ref v :: .int i :: .ref a :: rest)) := by
  obtain ⟨hx, hb, hr, hml, hown, hlk, hT, hK, hin2⟩ := M
  exact va_astq (r := (RX4, TX4, 7)) hx hb hK hn.1 hn.2.1 hn.2.2 q0 3 qk 4 ha rfl hv rfl hin hdg (fun H1 locs1 hP hD hS => kk H1 locs1 ⟨hP, hD, hS⟩)
end
