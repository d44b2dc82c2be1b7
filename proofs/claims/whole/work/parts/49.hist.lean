/-! History() -/
def stC (C : Nat → ClassId) (q : Nat → Nat) (b : Nat) : va_W := [(q b, .inr (5, [.ref (q (b + 1)), .ref (q (b + 2)), .ref (q (b + 3)), .ref (q (b + 4)), .int 0, .int 0, .int 0])), (q (b + 1), ia C 5), (q (b + 2), ia C 5), (q (b + 3), ia C 7), (q (b + 4), ia C 7)]
def pastC (C : Nat → ClassId) (q : Nat → Nat) : Nat → va_W
  | 0 => []
  | j + 1 => pastC C q j ++ stC C q (1 + 5 * j)
theorem pastC_eq {C : Nat → ClassId} {q q' : Nat → Nat} : ∀ j, (∀ a, a < 1 + 5 * j → q' a = q a) → pastC C q' j = pastC C q j
  | 0, _ => rfl
  | j + 1, h => by
      unfold pastC stC
      rw [pastC_eq j (fun a ha => h a (by omega)), h _ (by omega), h _ (by omega), h _ (by omega), h _ (by omega), h _ (by omega)]
def qx (q : Nat → Nat) (b qs : Nat) (u : Nat → Nat) : Nat → Nat := fun a => if a = b then qs else if b < a ∧ a < b + 5 then u (a - b) else q a
theorem qx_lo {q : Nat → Nat} {b qs a : Nat} {u : Nat → Nat} (h : a < b) : qx q b qs u a = q a := by unfold qx; rw [if_neg (by omega), if_neg (by omega)]
theorem qx_st {C : Nat → ClassId} {q : Nat → Nat} {b qs : Nat} {u : Nat → Nat} : woX5_init C qs u = stC C (qx q b qs u) b := by
  have e0 : qx q b qs u b = qs := by unfold qx; rw [if_pos rfl]
  have e : ∀ i, 1 ≤ i → i < 5 → qx q b qs u (b + i) = u i := fun i h1 h2 => by unfold qx; rw [if_neg (by omega), if_pos (by omega), Nat.add_sub_cancel_left]
  unfold stC
  rw [e0, e 1 (by omega) (by omega), e 2 (by omega) (by omega), e 3 (by omega) (by omega), e 4 (by omega) (by omega)]
  rfl
section
variable {p : Program} {l : Launch} {e : Env} {R : Room} {s : State} {m : MethodId} {args : Array Value} {below : List Frame} {meth : Method} {c : Code} {H : Heap} {locs : List Loc} {cells slots mc ms : Nat} {Q : State → Prop}
variable {cc : ByteArray} {pc nL : Nat} {ls : Array Slot} {rest : List Value} {A : Nat → Prop} {H0 : Heap} {D : va_G} {C : Nat → ClassId} {ws : va_W} {own : String} {bi : Bool} {E : State → Prop} {x : va_E} {y : MethodName} {b : ByteArray} {nL' n fr lo index bq : Nat} {As st : List Value} {wo : (Nat → Nat) → va_W}
theorem n_lastN (M : M0 p s m args meth c cc nL own D C bi) (hA : ∀ q, H0.size ≤ q → A q) (hn : N0 D (ws ++ [(bq, x)]) A H0 H locs) (hEB : EB E) (hE : E s) (hM : Met l y (Cond.code y b nL' none :: TB) { frames := fr, cells := mc, slots := ms, locals := lo } (va_Pc (.ref bq :: As) (PN D C E [(bq, x)] H.size)) (QN D [(bq, x)] H.size wo) mc ms (va_A [(bq, x)] H.size)) (hmi : MI y b n nL')
    {host : String} (hml' : va_Nw (.methodLinkNest own index y host) s) (hln : As.length = n) (hls : ls.size = nL) (hst : st = As.reverse ++ .ref bq :: rest) (hrm : (rest.map fun v => v.category).sum ≤ 8) (hRm : fr + 1 ≤ R.frames ∧ 8 + (nL' + 11) + lo ≤ R.locals) (hcs : cells + mc ≤ R.cells ∧ slots + ms ≤ R.slots) (hdg : decode cc pc = .ok (.invokespecial index, 3))
    (kk : ∀ (u : Nat → Nat) (H1 : Heap) (locs1 : List Loc), N0 D (ws ++ wo u) A H0 H1 locs1 → W p l e R s m args below meth c H1 locs1 (cells + mc) (slots + ms) Q (F0 m (pc + 3) ls rest)) : W p l e R s m args below meth c H locs cells slots Q (F0 m pc ls st) :=
  n_callN M hA hn hEB hE [ws.length] (List.range ws.length) last_C last_F last_R rfl (nd_iff _ List.nodup_range) last_D hM hmi hml' hln hls hst hrm hRm hcs hdg kk
end
theorem dX2_init_0 : decode cX2_init 0 = .ok (.aload_n 0, 1) := by decide +kernel
theorem dX2_init_1 : decode cX2_init 1 = .ok (.invokespecial 3, 3) := by decide +kernel
theorem dX2_init_4 : decode cX2_init 4 = .ok (.aload_n 0, 1) := by decide +kernel
theorem dX2_init_5 : decode cX2_init 5 = .ok (.bipush 10, 2) := by decide +kernel
theorem dX2_init_7 : decode cX2_init 7 = .ok (.anewarray 9, 3) := by decide +kernel
theorem dX2_init_10 : decode cX2_init 10 = .ok (.putfield 11, 3) := by decide +kernel
theorem dX2_init_13 : decode cX2_init 13 = .ok (.iconst 0, 1) := by decide +kernel
theorem dX2_init_14 : decode cX2_init 14 = .ok (.istore_n 1, 1) := by decide +kernel
theorem dX2_init_15 : decode cX2_init 15 = .ok (.iload_n 1, 1) := by decide +kernel
theorem dX2_init_16 : decode cX2_init 16 = .ok (.bipush 10, 2) := by decide +kernel
theorem dX2_init_18 : decode cX2_init 18 = .ok (.if_icmp .ge 22, 3) := by decide +kernel
theorem dX2_init_21 : decode cX2_init 21 = .ok (.aload_n 0, 1) := by decide +kernel
theorem dX2_init_22 : decode cX2_init 22 = .ok (.getfield 11, 3) := by decide +kernel
theorem dX2_init_25 : decode cX2_init 25 = .ok (.iload_n 1, 1) := by decide +kernel
theorem dX2_init_26 : decode cX2_init 26 = .ok (.new 9, 3) := by decide +kernel
theorem dX2_init_29 : decode cX2_init 29 = .ok (.dup, 1) := by decide +kernel
theorem dX2_init_30 : decode cX2_init 30 = .ok (.invokespecial 17, 3) := by decide +kernel
theorem dX2_init_33 : decode cX2_init 33 = .ok (.aastore, 1) := by decide +kernel
theorem dX2_init_34 : decode cX2_init 34 = .ok (.iinc 1 1, 3) := by decide +kernel
theorem dX2_init_37 : decode cX2_init 37 = .ok (.goto (-22), 3) := by decide +kernel
theorem dX2_init_40 : decode cX2_init 40 = .ok (.return_, 1) := by decide +kernel
