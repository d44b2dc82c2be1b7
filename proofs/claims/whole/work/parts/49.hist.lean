/-! History() -/
def stC (C : Nat → ClassId) (q : Nat → Nat) (b : Nat) : va_W := [(q b, .inr (4, [.ref (q (b + 1)), .ref (q (b + 2)), .ref (q (b + 3)), .ref (q (b + 4)), .int 0, .int 0, .int 0])), (q (b + 1), ia C 5), (q (b + 2), ia C 5), (q (b + 3), ia C 7), (q (b + 4), ia C 7)]
def pastC (C : Nat → ClassId) (q : Nat → Nat) : Nat → va_W
  | 0 => []
  | j + 1 => pastC C q j ++ stC C q (1 + 5 * j)
theorem pastC_eq {C : Nat → ClassId} {q q' : Nat → Nat} : ∀ j, (∀ a, a < 1 + 5 * j → q' a = q a) → pastC C q' j = pastC C q j
  | 0, _ => rfl
  | j + 1, h => by
      unfold pastC stC
      rw [pastC_eq j (fun a ha => h a (by omega)), h _ (by omega), h _ (by omega), h _ (by omega), h _ (by omega), h _ (by omega)]
def qx (q : Nat → Nat) (b qs : Nat) (u : Nat → Nat) : Nat → Nat := fun a => if a = b then qs else if b < a ∧ a < b + 5 then u (a - b) else q a
theorem qx_lo {q : Nat → Nat} {b qs a : Nat} {u : Nat → Nat} (h : a < b) : qx q b qs u a = q a := by unfold qx; rw [if_neg (by omega), if_neg (by omega)]
theorem qx_st {C : Nat → ClassId} {q : Nat → Nat} {b qs : Nat} {u : Nat → Nat} : woX4_init C qs u = stC C (qx q b qs u) b := by
  have e0 : qx q b qs u b = qs := by unfold qx; rw [if_pos rfl]
  have e : ∀ i, 1 ≤ i → i < 5 → qx q b qs u (b + i) = u i := fun i h1 h2 => by unfold qx; rw [if_neg (by omega), if_pos (by omega), Nat.add_sub_cancel_left]
  unfold stC
  rw [e0, e 1 (by omega) (by omega), e 2 (by omega) (by omega), e 3 (by omega) (by omega), e 4 (by omega) (by omega)]
  rfl
section
variable {p : Program} {l : Launch} {e : Env} {R : Room} {s : State} {m : MethodId} {args : Array Value} {below : List Frame} {meth : Method} {c : Code} {H : Heap} {locs : List Loc} {cells slots mc ms : Nat} {Q : State → Prop}
variable {cc : ByteArray} {pc nL : Nat} {ls : Array Slot} {rest : List Value} {A : Nat → Prop} {H0 : Heap} {D : va_G} {C : Nat → ClassId} {ws : va_W} {own : String} {bi : Bool} {E : State → Prop} {x : va_E} {y : MethodName} {b : ByteArray} {nL' n fr lo index bq : Nat} {As st : List Value} {wo : (Nat → Nat) → va_W}
theorem n_lastN (M : M0 p s m args meth c cc nL own D C bi) (hA : ∀ q, H0.size ≤ q → A q) (hn : N0 D (ws ++ [(bq, x)]) A H0 H locs) (hEB : EB E) (hE : E s) (hM : Met l y (Cond.code y b nL' none :: TB) { frames := fr, cells := mc, slots := ms, locals := lo } (va_Pc (.ref bq :: As) (PN D C E [(bq, x)] H.size)) (QN D [(bq, x)] H.size wo) mc ms (va_A [(bq, x)] H.size)) (hmi : MI y b n nL')
    {host : String} (hml' : va_Nw (.methodLinkNest own index y host) s) (hln : As.length = n) (hls : ls.size = nL) (hst : st = As.reverse ++ .ref bq :: rest) (hrm : (rest.map fun v => v.category).sum ≤ 8) (hRm : fr + 1 ≤ R.frames ∧ 8 + (nL' + 11) + lo ≤ R.locals) (hcs : cells + mc ≤ R.cells ∧ slots + ms ≤ R.slots) (hdg : decode cc pc = .ok (.invokespecial index, 3))
    (kk : ∀ (u : Nat → Nat) (H1 : Heap) (locs1 : List Loc), N0 D (ws ++ wo u) A H0 H1 locs1 → W p l e R s m args below meth c H1 locs1 (cells + mc) (slots + ms) Q (F0 m (pc + 3) ls rest)) : W p l e R s m args below meth c H locs cells slots Q (F0 m pc ls st) :=
  n_callN M hA hn hEB hE [ws.length] (List.range ws.length) last_C last_F last_R rfl (nd_iff _ List.nodup_range) last_D hM hmi hml' hln hls hst hrm hRm hcs hdg kk
end
theorem dX2_init_0 : decode cX2_init 0 = .ok (.aload_n 0, 1) := by decide +kernel
theorem dX2_init_1 : decode cX2_init 1 = .ok (.invokespecial 3, 3) := by decide +kernel
theorem dX2_init_4 : decode cX2_init 4 = .ok (.aload_n 0, 1) := by decide +kernel
theorem dX2_init_5 : decode cX2_init 5 = .ok (.bipush 10, 2) := by decide +kernel
theorem dX2_init_7 : decode cX2_init 7 = .ok (.anewarray 9, 3) := by decide +kernel
theorem dX2_init_10 : decode cX2_init 10 = .ok (.putfield 11, 3) := by decide +kernel
theorem dX2_init_13 : decode cX2_init 13 = .ok (.iconst 0, 1) := by decide +kernel
theorem dX2_init_14 : decode cX2_init 14 = .ok (.istore_n 1, 1) := by decide +kernel
theorem dX2_init_15 : decode cX2_init 15 = .ok (.iload_n 1, 1) := by decide +kernel
theorem dX2_init_16 : decode cX2_init 16 = .ok (.bipush 10, 2) := by decide +kernel
theorem dX2_init_18 : decode cX2_init 18 = .ok (.if_icmp .ge 22, 3) := by decide +kernel
theorem dX2_init_21 : decode cX2_init 21 = .ok (.aload_n 0, 1) := by decide +kernel
theorem dX2_init_22 : decode cX2_init 22 = .ok (.getfield 11, 3) := by decide +kernel
theorem dX2_init_25 : decode cX2_init 25 = .ok (.iload_n 1, 1) := by decide +kernel
theorem dX2_init_26 : decode cX2_init 26 = .ok (.new 9, 3) := by decide +kernel
theorem dX2_init_29 : decode cX2_init 29 = .ok (.dup, 1) := by decide +kernel
theorem dX2_init_30 : decode cX2_init 30 = .ok (.invokespecial 17, 3) := by decide +kernel
theorem dX2_init_33 : decode cX2_init 33 = .ok (.aastore, 1) := by decide +kernel
theorem dX2_init_34 : decode cX2_init 34 = .ok (.iinc 1 1, 3) := by decide +kernel
theorem dX2_init_37 : decode cX2_init 37 = .ok (.goto (-22), 3) := by decide +kernel
theorem dX2_init_40 : decode cX2_init 40 = .ok (.return_, 1) := by decide +kernel
def woX2_init (C : Nat → ClassId) (h0 : Nat) (q : Nat → Nat) : va_W := [(h0, .inr (2, [.ref (q 0), .int 0, .int 0])), (q 0, sa C 10 (fun j => if j < 10 then some (q (1 + 5 * j)) else none))] ++ pastC C q 10
set_option maxHeartbeats 4000000 in
set_option maxRecDepth 100000 in
theorem x2_loop {p : Program} {l : Launch} {e : Env} {s : State} {m : MethodId} {args : Array Value} {below : List Frame} {meth : Method} {c : Code} {D : va_G} {C : Nat → ClassId} {h0 sz : Nat} (M : M0 p s m args meth c cX2_init 2 RX2 D C true) (hA : ∀ q, s.heap.size ≤ q → va_A [(h0, .inr (2, [.null, .int 0, .int 0]))] sz q) (hE : E2 s) : ∀ (d j : Nat), j + d = 10 → ∀ (q : Nat → Nat) (H : Heap) (locs : List Loc) (ls : Array Slot) (cells slots : Nat), cells = 1 + 5 * j → slots = 10 + 31 * j → N0 D ([(h0, .inr (2, [.ref (q 0), .int 0, .int 0])), (q 0, sa C 10 (fun i => if i < j then some (q (1 + 5 * i)) else none))] ++ pastC C q j) (va_A [(h0, .inr (2, [.null, .int 0, .int 0]))] sz) s.heap H locs → lv_has ls 2 [(1, .int (nI j)), (0, .ref h0)] → W p l e { frames := 2, cells := 51, slots := 320, locals := 32 } s m args below meth c H locs cells slots (MQ below (QN D [(h0, .inr (2, [.null, .int 0, .int 0]))] sz (woX2_init C h0)) args s 51 320 (va_A [(h0, .inr (2, [.null, .int 0, .int 0]))] sz)) (F0 m 15 ls []) := by
  obtain ⟨hx, hb, hr, hml, hown, hlk, hT, hK, hin⟩ := id M
  intro d
  induction d with
  | zero =>
    intro j hj q H locs ls cells slots hc hs hn hl
    have : j = 10 := by omega
    subst this
    refine lv_iload_n hx hb dX2_init_15 rfl (lv_at hl 0 rfl) ?_
    refine lv_bipush (v := 10) hx hb dX2_init_16 (by decide) ?_
    refine lv_icmp_ge (tgt := 40) hx hb dX2_init_18 (by decide) (fun _ => ?_) (fun c2 => absurd (by decide) c2)
    exact n_ret (wo := woX2_init C h0) M q hn rfl (by omega) (by omega) dX2_init_40
  | succ d ih =>
    intro j hj q H locs ls cells slots hc hs hn hl
    refine lv_iload_n hx hb dX2_init_15 rfl (lv_at hl 0 rfl) ?_
    refine lv_bipush (v := 10) hx hb dX2_init_16 (by decide) ?_
    refine lv_icmp_ge (tgt := 40) hx hb dX2_init_18 (by decide) (fun c2 => absurd c2 (nI_ge (b := 10) (by omega) (by omega))) (fun _ => ?_)
    refine lv_aload_n hx hb dX2_init_21 rfl (lv_at hl 1 rfl) ?_
    refine n_get (v := .ref (q 0)) M hn 0 rfl rfl inq_2 0 (by decide) tw_223 rfl dX2_init_22 ?_
    refine lv_iload_n hx hb dX2_init_25 rfl (lv_at hl 0 rfl) ?_
    refine n_new (ci := 4) (fs := [.null, .null, .null, .null, .int 0, .int 0, .int 0]) M hA hn inq_4 tyX4 tyX4_ok tw_220 tw_180 tw_53 rfl (by decide) (by show _ ≤ 51; omega) (by show _ ≤ 320; omega) dX2_init_26 (fun qs H hn => ?_)
    refine lv_dup hx hb dX2_init_29 rfl ?_
    refine n_lastN (rest := [.ref qs, .int (nI j), .ref (q 0)]) (As := []) M hA hn eb1 trivial (ctX4_init l D C qs H.size) miX4_init hE.2 rfl hl.1 rfl (Nat.le_of_ble_eq_true rfl) ⟨(Nat.le_of_ble_eq_true rfl), (Nat.le_of_ble_eq_true rfl)⟩ ⟨by show _ ≤ 51; omega, by show _ ≤ 320; omega⟩ dX2_init_30 (fun u H locs hn => ?_)
    refine n_astq M hn 1 ([(h0, .inr (2, [.ref (q 0), .int 0, .int 0])), (q 0, sa C 10 (fun i => if i < j then some (q (1 + 5 * i)) else none))] ++ pastC C q j).length rfl (by rw [List.getElem?_append_right (Nat.le_refl _), Nat.sub_self]; rfl) (vin (by omega) (by omega)) dX2_init_33 (fun H locs hn => ?_)
    rw [nIc (by omega)] at hn
    have hn : N0 D (([(h0, .inr (2, [.ref (q 0), .int 0, .int 0])), (q 0, sa C 10 (va_up (fun i => if i < j then some (q (1 + 5 * i)) else none) j (some qs)))] ++ pastC C q j) ++ woX4_init C qs u) (va_A [(h0, .inr (2, [.null, .int 0, .int 0]))] sz) s.heap H locs := hn
    have e1 : va_up (fun i => if i < j then some (q (1 + 5 * i)) else none) j (some qs) = (fun i => if i < j + 1 then some (qx q (1 + 5 * j) qs u (1 + 5 * i)) else none) := by
      funext i
      unfold va_up
      by_cases h1 : i = j
      · subst h1
        rw [if_pos rfl, if_pos (by omega)]
        unfold qx
        rw [if_pos rfl]
      · rw [if_neg h1]
        show (if i < j then some (q (1 + 5 * i)) else none) = _
        by_cases h2 : i < j
        · rw [if_pos h2, if_pos (by omega), qx_lo (by omega)]
        · rw [if_neg h2, if_neg (by omega)]
    rw [e1, qx_st (q := q) (b := 1 + 5 * j), ← pastC_eq (q' := qx q (1 + 5 * j) qs u) j (fun a ha => qx_lo ha), ← qx_lo (q := q) (b := 1 + 5 * j) (qs := qs) (u := u) (a := 0) (by omega), List.append_assoc] at hn
    refine lv_iinc (v := nI (j + 1)) (lv' := [(1, .int (nI (j + 1))), (0, .ref h0)]) hx hb dX2_init_34 hl (k := 0) rfl (nI_1 j) (by decide) rfl (fun ls hl => ?_)
    refine lv_goto (tgt := 15) hx hb dX2_init_37 (by decide) ?_
    exact ih (j + 1) (by omega) (qx q (1 + 5 * j) qs u) H locs ls _ _ (by omega) (by omega) hn hl
set_option maxHeartbeats 4000000 in
set_option maxRecDepth 100000 in
theorem ctX2_init (l : Launch) (D : va_G) (C : Nat → ClassId) (h0 sz : Nat) : Met l yX2_init (Cond.code yX2_init cX2_init 2 none :: TB) { frames := 2, cells := 51, slots := 320, locals := 32 } (va_Pc [.ref h0] (PN D C E2 [(h0, .inr (2, [.null, .int 0, .int 0]))] sz)) (QN D [(h0, .inr (2, [.null, .int 0, .int 0]))] sz (woX2_init C h0)) 51 320 (va_A [(h0, .inr (2, [.null, .int 0, .int 0]))] sz) := by
  refine n_ent (by decide +kernel) rfl (Nat.le_of_ble_eq_true rfl) (fun p e s m below meth c ls A hsz hAe hA M hn hl hE => ?_)
  subst hAe
  obtain ⟨hx, hb, hr, hml, hown, hlk, hT, hK, hin⟩ := id M
  refine lv_aload_n hx hb dX2_init_0 rfl (lv_at hl 0 rfl) ?_
  refine n_obj M tw_219 hl.1 rfl dX2_init_1 (Nat.le_of_ble_eq_true rfl) (Nat.le_of_ble_eq_true rfl) ?_
  refine lv_aload_n hx hb dX2_init_4 rfl (lv_at hl 0 rfl) ?_
  refine lv_bipush (v := 10) hx hb dX2_init_5 (by decide) ?_
  refine n_newq M hA hn hE.1 tw_220 10 (by decide) rfl (Nat.le_of_ble_eq_true rfl) (Nat.le_of_ble_eq_true rfl) (Nat.le_of_ble_eq_true rfl) dX2_init_7 (fun qa H hn => ?_)
  refine n_putF (v := .ref qa) M hn 0 rfl rfl inq_2 tyX2 tyX2_ok nmX2 0 (by decide) tw_223 rfl rfl rfl rfl (Nat.le_of_ble_eq_true rfl) dX2_init_10 (fun H locs hn => ?_)
  refine lv_iconst (v := 0) hx hb dX2_init_13 (by decide) ?_
  refine lv_istore_n (lv' := [(1, .int 0), (0, .ref h0)]) hx hb dX2_init_14 rfl hl (by decide) rfl (fun ls hl => ?_)
  have e0 : (fun _ => none : Nat → Option Nat) = (fun i => if i < 0 then some ((fun _ => qa : Nat → Nat) (1 + 5 * i)) else none) := by
    funext i
    rw [if_neg (by omega)]
  have hn : N0 D ([(h0, .inr (2, [.ref qa, .int 0, .int 0])), (qa, sa C 10 (fun _ => none))] ++ pastC C (fun _ => qa) 0) (va_A [(h0, .inr (2, [.null, .int 0, .int 0]))] sz) s.heap H locs := hn
  rw [e0] at hn
  exact x2_loop M hA hE 10 0 rfl (fun _ => qa) H locs ls _ _ rfl rfl hn hl
theorem miX2_init : MI yX2_init cX2_init 0 2 := ⟨tw_217, tw_54, tw_218, rfl, by decide +kernel⟩
