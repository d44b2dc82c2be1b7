/-! rows for the constructor of MoonRights -/
def Yf (D : va_G) (C : Nat → ClassId) (q : Nat → Nat) (fs : List Value) : LY := (D, C, q, 23, fun _ => .inr (6, fs))
theorem Yf_B {D : va_G} {C : Nat → ClassId} {q : Nat → Nat} {fs : List Value} : YB (Yf D C q fs) := ⟨fun _ _ _ _ _ => rfl, fun _ _ => rfl⟩
theorem Yf_0 {D : va_G} {C : Nat → ClassId} {q : Nat → Nat} {fs : List Value} {σ : St} {pl : va_W} : (wd (Yf D C q fs) σ ++ pl)[0]? = some (q 0, .inr (6, fs)) := rfl
theorem Yf_set {D : va_G} {C : Nat → ClassId} {q : Nat → Nat} {fs fs' : List Value} {σ : St} {pl : va_W} : (wd (Yf D C q fs) σ ++ pl).set 0 (q 0, .inr (6, fs')) = wd (Yf D C q fs') σ ++ pl := rfl
theorem mid_at {P R : va_W} {x : Nat × va_E} : (P ++ x :: R)[P.length]? = some x := by
  rw [List.getElem?_append_right (Nat.le_refl _), Nat.sub_self]; rfl
theorem mid_set {P R : va_W} {x y : Nat × va_E} : (P ++ x :: R).set P.length y = P ++ y :: R := by
  rw [List.set_append_right _ _ (Nat.le_refl _), Nat.sub_self]; rfl
section
variable {p : Program} {l : Launch} {e : Env} {R : Room} {s : State} {m : MethodId} {args : Array Value} {below : List Frame} {meth : Method} {c : Code} {H : Heap} {locs : List Loc} {cells slots mc ms : Nat} {Q : State → Prop}
variable {cc : ByteArray} {pc nL : Nat} {ls : Array Slot} {rest : List Value} {A : Nat → Prop} {H0 : Heap} {D : va_G} {C : Nat → ClassId} {ws : va_W} {own : String} {bi : Bool} {E : State → Prop} {x : va_E} {y : MethodName} {b : ByteArray} {nL' n fr lo index bq : Nat} {As st : List Value} {wo : (Nat → Nat) → va_W}
theorem n_last (M : M0 p s m args meth c cc nL own D C bi) (hA : ∀ q, H0.size ≤ q → A q) (hn : N0 D (ws ++ [(bq, x)]) A H0 H locs) (hEB : EB E) (hE : E s) (hM : Met l y (Cond.code y b nL' none :: TB) { frames := fr, cells := mc, slots := ms, locals := lo } (va_Pc (.ref bq :: As) (PN D C E [(bq, x)] H.size)) (QN D [(bq, x)] H.size wo) mc ms (va_A [(bq, x)] H.size)) (hmi : MI y b n nL')
    (hml' : Cond.methodLink own index y ∈ TB) (hln : As.length = n) (hls : ls.size = nL) (hst : st = As.reverse ++ .ref bq :: rest) (hrm : (rest.map fun v => v.category).sum ≤ 8) (hRm : fr + 1 ≤ R.frames ∧ 8 + (nL' + 11) + lo ≤ R.locals) (hcs : cells + mc ≤ R.cells ∧ slots + ms ≤ R.slots) (hdg : decode cc pc = .ok (.invokespecial index, 3))
    (kk : ∀ (u : Nat → Nat) (H1 : Heap) (locs1 : List Loc), N0 D (ws ++ wo u) A H0 H1 locs1 → W p l e R s m args below meth c H1 locs1 (cells + mc) (slots + ms) Q (F0 m (pc + 3) ls rest)) : W p l e R s m args below meth c H locs cells slots Q (F0 m pc ls st) :=
  n_call M hA hn hEB hE [ws.length] (List.range ws.length) last_C last_F last_R rfl (nd_iff _ List.nodup_range) last_D hM hmi hml' hln hls hst hrm hRm hcs hdg kk
end
def E6 (U : State) : Prop := E2 U ∧ va_Nw (.methodLinkNest "MoonRights" 9 yX5_init "MoonRights") U ∧ va_Nw (.methodLinkNest "MoonRights" 18 yX3_init "MoonRights") U ∧ va_Nw (.methodLinkNest "MoonRights" 28 yX0_init "MoonRights") U ∧ va_Nw (.methodLinkNest "MoonRights" 35 yX4_init "MoonRights") U ∧ va_Nw (.methodLinkNest "MoonRights" 57 yX1_init "MoonRights") U
theorem eb6 : EB E6 := ⟨fun u U h q => ⟨eb2.1 u U h q.1, va_Nw.same rfl h q.2.1, va_Nw.same rfl h q.2.2.1, va_Nw.same rfl h q.2.2.2.1, va_Nw.same rfl h q.2.2.2.2.1, va_Nw.same rfl h q.2.2.2.2.2⟩, fun u U h q => ⟨eb2.2 u U h q.1, va_Nw.warmM h q.2.1, va_Nw.warmM h q.2.2.1, va_Nw.warmM h q.2.2.2.1, va_Nw.warmM h q.2.2.2.2.1, va_Nw.warmM h q.2.2.2.2.2⟩⟩
