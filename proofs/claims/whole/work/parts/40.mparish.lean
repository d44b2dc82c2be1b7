/-! parish() as the machine runs it -/
def Yx (Y : LY) (t u : Nat) : LY := (Y.1, Y.2.1, Y.2.2.1, Y.2.2.2.1, fun σ => .inr (6, f0 Y t u σ))
theorem Yx_c {Y : LY} {t u : Nat} : c0s (Yx Y t u) t u := fun _ => rfl
theorem Yx_wd {Y : LY} {t u : Nat} {σ : St} (hN : yN Y = 108) : wd (Yx Y t u) σ = (wd Y σ).set 0 (yA Y 0, .inr (6, f0 Y t u σ)) := by
  apply List.ext_getElem?
  intro j
  have hx : yN (Yx Y t u) = yN Y := rfl
  by_cases hj : j < yN Y
  · rw [wd_at (Y := Yx Y t u) hj]
    by_cases e : j = 0
    · subst e
      rw [List.getElem?_set_self (by rw [wd_len]; exact hj)]
      rfl
    · rw [List.getElem?_set_ne (Ne.symm e), wd_at hj]
      unfold ce
      rw [if_neg e, if_neg e]
      rfl
  · rw [List.getElem?_eq_none (by rw [wd_len]; omega), List.getElem?_eq_none (by rw [List.length_set, wd_len]; omega)]
/-- the two parishes exchanged -/
def sw (i : Nat) : Nat := if 3 ≤ i ∧ i ≤ 8 then i + 6 else if 9 ≤ i ∧ i ≤ 14 then i - 6 else i
def Ysw (Y : LY) : LY := (Y.1, Y.2.1, fun i => yA Y (sw i), Y.2.2.2.1, fun σ => .inr (6, f0 Y 9 3 σ))
theorem Ysw_c {Y : LY} : c0s (Ysw Y) 3 9 := fun _ => rfl
theorem sw_id {i : Nat} (h : i < 3 ∨ 15 ≤ i) : sw i = i := by unfold sw; rw [if_neg (by omega), if_neg (by omega)]
theorem sw_lt {i : Nat} (h : i < 108) : sw i < 108 := by
  unfold sw
  split
  · omega
  · split <;> omega
theorem sw_sw (i : Nat) : sw (sw i) = i := by
  by_cases h : 3 ≤ i ∧ i ≤ 8
  · have e : sw i = i + 6 := by unfold sw; rw [if_pos h]
    rw [e]; unfold sw; rw [if_neg (by omega), if_pos (by omega)]; omega
  · by_cases g : 9 ≤ i ∧ i ≤ 14
    · have e : sw i = i - 6 := by unfold sw; rw [if_neg h, if_pos g]
      rw [e]; unfold sw; rw [if_pos (by omega)]; omega
    · have e := sw_id (i := i) (by omega)
      rw [e, e]
theorem sw_A {Y : LY} {j : Nat} (h : j < 3 ∨ 15 ≤ j) : yA (Ysw Y) j = yA Y j := by
  show yA Y (sw j) = yA Y j
  rw [sw_id h]
theorem sw_hi {Y : LY} {σ : St} {i k n : Nat} (h : 16 ≤ i) (hk : k ≠ 6) : cek (Ysw Y) (xc σ) i k n = cek (Yx Y 9 3) σ i k n := by
  have e : (xc σ).1 i = σ.1 i := by unfold xc; rw [xch_ne (by omega)]
  have a : ∀ j, j < 3 ∨ 15 ≤ j → yA (Ysw Y) j = yA (Yx Y 9 3) j := fun j hj => sw_A hj
  unfold cek
  rw [e, a 1 (by omega), a 16 (by omega), a 17 (by omega), a 24 (by omega), a 88 (by omega), a 89 (by omega), a 90 (by omega), a (i + 1) (by omega), a (i + 2) (by omega), a (i + 3) (by omega), a (i + 4) (by omega), a (i + 5) (by omega), a 93 (by omega), a 94 (by omega), a 95 (by omega), a 96 (by omega), a 97 (by omega), a 98 (by omega), a 99 (by omega), a 100 (by omega), a 101 (by omega), a 102 (by omega), a 103 (by omega), a 104 (by omega), a 105 (by omega), a 106 (by omega), a 107 (by omega)]
  have f : (fun j => if j < n then some (yA (Ysw Y) (i + 1 + 5 * j)) else none) = (fun j => if j < n then some (yA (Yx Y 9 3) (i + 1 + 5 * j)) else none) := by
    funext j
    rw [a _ (by omega)]
  rw [f]
  split <;> first | rfl | (exfalso; exact hk rfl)
theorem kd_hi : ∀ i, i < 108 → 16 ≤ i → (kd i).1 ≠ 6 := by decide
theorem sw_ce {Y : LY} {σ : St} {i : Nat} (hi : i < 108) : ce (Ysw Y) (xc σ) i = ce (Yx Y 9 3) σ (sw i) := by
  by_cases h : 16 ≤ i
  · rw [sw_id (by omega)]
    unfold ce
    rw [if_neg (by omega), if_neg (by omega)]
    exact sw_hi h (kd_hi i hi h)
  · have : i = 0 ∨ i = 1 ∨ i = 2 ∨ i = 3 ∨ i = 4 ∨ i = 5 ∨ i = 6 ∨ i = 7 ∨ i = 8 ∨ i = 9 ∨ i = 10 ∨ i = 11 ∨ i = 12 ∨ i = 13 ∨ i = 14 ∨ i = 15 := by omega
    rcases this with rfl | rfl | rfl | rfl | rfl | rfl | rfl | rfl | rfl | rfl | rfl | rfl | rfl | rfl | rfl | rfl
    all_goals rfl
theorem sw_P {Y : LY} {σ : St} {H : Heap} (hN : yN Y = 108) (h : va_P (yD Y) vwCl (wd (Yx Y 9 3) σ) H) : va_P (yD Y) vwCl (wd (Ysw Y) (xc σ)) H := by
  intro k q hk
  have a := wd_ad hk
  have k108 : k < 108 := by rw [← hN]; exact a.1
  rw [wd_at a.1] at hk
  have e : q = (yA Y (sw k), ce (Yx Y 9 3) σ (sw k)) := by
    rw [← sw_ce k108]
    exact (Option.some.inj hk).symm
  rw [e]
  exact h (sw k) _ (wd_at (Y := Yx Y 9 3) (by show sw k < yN Y; rw [hN]; exact sw_lt k108))
theorem sw_D {Y : LY} {σ σ' : St} {A : Nat → Prop} (hN : yN Y = 108) (h : va_D A (wd Y σ)) : va_D A (wd (Ysw Y) σ') := by
  have lt : ∀ k, k < yN (Ysw Y) → sw k < yN Y := fun k hk => by
    have : k < yN Y := hk
    rw [hN] at this ⊢; exact sw_lt this
  constructor
  · intro i j p q hi hj e
    have a := wd_ad hi
    have b := wd_ad hj
    have := h.1 (sw i) (sw j) _ _ (wd_at (lt i a.1)) (wd_at (lt j b.1)) (by show yA Y (sw i) = yA Y (sw j); exact (a.2.symm.trans e).trans b.2)
    rw [← sw_sw i, this, sw_sw]
  · intro k q hk
    have a := wd_ad hk
    have b := h.2 (sw k) _ (wd_at (lt k a.1))
    rw [a.2]
    exact b
theorem sw_AD {Y : LY} (hN : yN Y = 108) {q : Nat} : AD (Ysw Y) q ↔ AD Y q := by
  constructor
  · rintro ⟨i, hi, rfl⟩
    have hi : i < yN Y := hi
    exact ⟨sw i, by rw [hN] at hi ⊢; exact sw_lt hi, rfl⟩
  · rintro ⟨i, hi, rfl⟩
    exact ⟨sw i, by show sw i < yN Y; rw [hN] at hi ⊢; exact sw_lt hi, by show yA Y (sw (sw i)) = yA Y i; rw [sw_sw]⟩
def Yb (Y : LY) : Bool → LY
  | true => Ysw Y
  | false => Y
abbrev QX (Y : LY) (Q : Int32 → Bool × St → Prop) : Array Value → State → Outcome → State → Prop := va_Qi Q (fun u t => BW (Yb Y u.1) u.2 t) (AD Y)
section
variable {p : Program} {l : Launch} {e : Env} {R : Room} {s : State} {m : MethodId} {args : Array Value} {below : List Frame} {meth : Method} {c : Code} {H : Heap} {locs : List Loc} {cells slots : Nat} {Q : State → Prop}
variable {cc : ByteArray} {pc nL : Nat} {ls : Array Slot} {rest : List Value} {A : Nat → Prop} {H0 : Heap} {Y : LY} {σ : St} {own : String} {ret : Option FieldType}
theorem q_putR (M : MC p s m args meth c cc nL ret own Y) (hw : WS Y A H0 σ H locs) (hN : yN Y = 108) {t u t' u' : Nat} (h0 : c0s Y t u) {index : Nat} (k : Nat) (hk : k < 11) (hl : Cond.fieldLink own index (TX6 k).1 (TX6 k).2.1 (TX6 k).2.2.1 ∈ TB) (hfin : (TX6 k).2.2.2 = false) {v : Value} (hn : narrow (tyX6 k) v = v) (hfit : fits (tyX6 k) v = true) (hlen : k < (f0 Y t u σ).length) (hset : (f0 Y t u σ).set k v = f0 Y t' u' σ) (hdg : decode cc pc = .ok (.putfield index, 3))
    (kk : ∀ (H1 : Heap) (locs1 : List Loc), MC p s m args meth c cc nL ret own (Yx Y t' u') → WS (Yx Y t' u') A H0 σ H1 locs1 → W p l e R s m args below meth c H1 locs1 cells slots Q (F0 m (pc + 3) ls rest)) : W p l e R s m args below meth c H locs cells slots Q (F0 m pc ls (v :: .ref (yA Y 0) :: rest)) := by
  obtain ⟨hx, hb, hr, hml, hown, hlk, hT, hK, hB⟩ := M
  have ho := ob_0 hN h0
  refine va_put hx hb hT inq_6 tyX6 tyX6_ok nmX6 hown hK hw.1 hw.2.1 hw.2.2 0 ((wd_at ho.1).trans (by rw [ho.2 σ])) rfl k hk (hT _ hl) (fun _ h9 => h9) hfin (tyX6_ok k hk) hn hfit hlen hdg (fun H1 locs1 hP hD hS => ?_)
  rw [hset, ← Yx_wd hN] at hP hD
  exact kk H1 locs1 ⟨hx, hb, hr, hml, hown, hlk, hT, hK, c0s_B Yx_c⟩ ⟨hP, hD, hS⟩
theorem q_iretX {Qp : Int32 → Bool × St → Prop} {Y1 : LY} (b : Bool) (hx : p.tables.exec = Jvm.exec) (hb : c.code = cc) (hr : meth.sig.returnType = some .int) (hlk : meth.locks = false) (hK : va_K (yD Y) vwCl (tyL Y) s) (hP : va_P (yD (Yb Y b)) vwCl (wd (Yb Y b) σ) H) (hS : va_S (AD Y) s.heap H locs) {v : Int32} (h : Qp v (b, σ)) (hdg : decode cc pc = .ok (.ireturn, 1)) : W p l e R s m args below meth c H locs cells slots (MQ below (QX Y Qp) args s cells slots (AD Y)) (F0 m pc ls [.int v]) :=
  W.iret hx hb hr (fun t ht hW => ⟨⟨v, (b, σ), rfl, h, ⟨by rw [ht]; exact hP, by cases b <;> exact va_K.moved hW.alike hK⟩⟩, hS.F ht⟩) hS.2.2 hdg hlk
theorem dX6_parish_0 : decode cX6_parish 0 = .ok (.aload_n 0, 1) := by decide +kernel
theorem dX6_parish_1 : decode cX6_parish 1 = .ok (.getfield 10, 3) := by decide +kernel
theorem dX6_parish_4 : decode cX6_parish 4 = .ok (.aload_n 0, 1) := by decide +kernel
theorem dX6_parish_5 : decode cX6_parish 5 = .ok (.getfield 23, 3) := by decide +kernel
theorem dX6_parish_8 : decode cX6_parish 8 = .ok (.invokevirtual 74, 3) := by decide +kernel
theorem dX6_parish_11 : decode cX6_parish 11 = .ok (.istore_n 1, 1) := by decide +kernel
theorem dX6_parish_12 : decode cX6_parish 12 = .ok (.iload_n 1, 1) := by decide +kernel
theorem dX6_parish_13 : decode cX6_parish 13 = .ok (.ifCond .ge 5, 3) := by decide +kernel
theorem dX6_parish_16 : decode cX6_parish 16 = .ok (.iload_n 1, 1) := by decide +kernel
theorem dX6_parish_17 : decode cX6_parish 17 = .ok (.ireturn, 1) := by decide +kernel
theorem dX6_parish_18 : decode cX6_parish 18 = .ok (.aload_n 0, 1) := by decide +kernel
theorem dX6_parish_19 : decode cX6_parish 19 = .ok (.getfield 19, 3) := by decide +kernel
theorem dX6_parish_22 : decode cX6_parish 22 = .ok (.astore_n 2, 1) := by decide +kernel
theorem dX6_parish_23 : decode cX6_parish 23 = .ok (.aload_n 0, 1) := by decide +kernel
theorem dX6_parish_24 : decode cX6_parish 24 = .ok (.aload_n 0, 1) := by decide +kernel
theorem dX6_parish_25 : decode cX6_parish 25 = .ok (.getfield 23, 3) := by decide +kernel
theorem dX6_parish_28 : decode cX6_parish 28 = .ok (.putfield 19, 3) := by decide +kernel
theorem dX6_parish_31 : decode cX6_parish 31 = .ok (.aload_n 0, 1) := by decide +kernel
theorem dX6_parish_32 : decode cX6_parish 32 = .ok (.aload_n 2, 1) := by decide +kernel
theorem dX6_parish_33 : decode cX6_parish 33 = .ok (.putfield 23, 3) := by decide +kernel
theorem dX6_parish_36 : decode cX6_parish 36 = .ok (.aload_n 0, 1) := by decide +kernel
theorem dX6_parish_37 : decode cX6_parish 37 = .ok (.getfield 10, 3) := by decide +kernel
theorem dX6_parish_40 : decode cX6_parish 40 = .ok (.iconst 0, 1) := by decide +kernel
theorem dX6_parish_41 : decode cX6_parish 41 = .ok (.putfield 70, 3) := by decide +kernel
theorem dX6_parish_44 : decode cX6_parish 44 = .ok (.aload_n 0, 1) := by decide +kernel
theorem dX6_parish_45 : decode cX6_parish 45 = .ok (.getfield 29, 3) := by decide +kernel
theorem dX6_parish_48 : decode cX6_parish 48 = .ok (.iconst 0, 1) := by decide +kernel
theorem dX6_parish_49 : decode cX6_parish 49 = .ok (.putfield 78, 3) := by decide +kernel
theorem dX6_parish_52 : decode cX6_parish 52 = .ok (.aload_n 0, 1) := by decide +kernel
theorem dX6_parish_53 : decode cX6_parish 53 = .ok (.getfield 36, 3) := by decide +kernel
theorem dX6_parish_56 : decode cX6_parish 56 = .ok (.aload_n 0, 1) := by decide +kernel
theorem dX6_parish_57 : decode cX6_parish 57 = .ok (.getfield 19, 3) := by decide +kernel
theorem dX6_parish_60 : decode cX6_parish 60 = .ok (.invokevirtual 82, 3) := by decide +kernel
theorem dX6_parish_63 : decode cX6_parish 63 = .ok (.aload_n 0, 1) := by decide +kernel
theorem dX6_parish_64 : decode cX6_parish 64 = .ok (.getfield 43, 3) := by decide +kernel
theorem dX6_parish_67 : decode cX6_parish 67 = .ok (.invokevirtual 86, 3) := by decide +kernel
theorem dX6_parish_70 : decode cX6_parish 70 = .ok (.aload_n 0, 1) := by decide +kernel
theorem dX6_parish_71 : decode cX6_parish 71 = .ok (.getfield 58, 3) := by decide +kernel
theorem dX6_parish_74 : decode cX6_parish 74 = .ok (.iconst 0, 1) := by decide +kernel
theorem dX6_parish_75 : decode cX6_parish 75 = .ok (.putfield 89, 3) := by decide +kernel
theorem dX6_parish_78 : decode cX6_parish 78 = .ok (.iconst 0, 1) := by decide +kernel
theorem dX6_parish_79 : decode cX6_parish 79 = .ok (.istore_n 3, 1) := by decide +kernel
theorem dX6_parish_80 : decode cX6_parish 80 = .ok (.iload_n 3, 1) := by decide +kernel
theorem dX6_parish_81 : decode cX6_parish 81 = .ok (.iconst 2, 1) := by decide +kernel
theorem dX6_parish_82 : decode cX6_parish 82 = .ok (.if_icmp .ge 16, 3) := by decide +kernel
theorem dX6_parish_85 : decode cX6_parish 85 = .ok (.aload_n 0, 1) := by decide +kernel
theorem dX6_parish_86 : decode cX6_parish 86 = .ok (.getfield 51, 3) := by decide +kernel
theorem dX6_parish_89 : decode cX6_parish 89 = .ok (.iload_n 3, 1) := by decide +kernel
theorem dX6_parish_90 : decode cX6_parish 90 = .ok (.iconst 0, 1) := by decide +kernel
theorem dX6_parish_91 : decode cX6_parish 91 = .ok (.bastore, 1) := by decide +kernel
theorem dX6_parish_92 : decode cX6_parish 92 = .ok (.iinc 3 1, 3) := by decide +kernel
theorem dX6_parish_95 : decode cX6_parish 95 = .ok (.goto (-15), 3) := by decide +kernel
theorem dX6_parish_98 : decode cX6_parish 98 = .ok (.iload_n 1, 1) := by decide +kernel
theorem dX6_parish_99 : decode cX6_parish 99 = .ok (.ireturn, 1) := by decide +kernel
set_option maxHeartbeats 4000000 in
set_option maxRecDepth 100000 in
theorem tX6_parish_E {Q : Int32 → Bool × St → Prop} (M : MC p s m args meth c cX6_parish 4 (some .int) RX6 Y) (hN : yN Y = 108) (h0 : c0s Y 3 9) (σ : St) (H : Heap) (locs : List Loc) (ls : Array Slot) (hw : WS Y (AD Y) s.heap σ H locs) (hl : lv_has ls 4 [(0, .ref (yA Y 0))]) (h : wX6_parish σ (fun r σ1 => (r < 0 → Q r (false, σ1)) ∧ (¬ r < 0 → Q r (true, σ1)))) : W p l e { frames := 6, cells := 0, slots := 0, locals := 126 } s m args below meth c H locs 0 0 (MQ below (QX Y Q) args s 0 0 (AD Y)) (F0 m 0 ls []) := by
  obtain ⟨hx, hb, hr, hml, hown, hlk, hT, hK, hB⟩ := id M
  unfold wX6_parish at h
  refine lv_aload_n hx hb dX6_parish_0 rfl (lv_at hl 0 rfl) ?_
  refine q_get (v := .ref (yA Y 2)) M hw (ob_0 hN h0) rfl inq_6 0 (by decide) tw_257 rfl dX6_parish_1 ?_
  refine lv_aload_n hx hb dX6_parish_4 rfl (lv_at hl 0 rfl) ?_
  refine q_get (v := .ref (yA Y 9)) M hw (ob_0 hN h0) rfl inq_6 2 (by decide) tw_259 rfl dX6_parish_5 ?_
  refine q_goI hw (q_runV (rest := []) M hw (ctX5_read l hB hN σ _ h) mbX5_read (ob_2 hN) rfl tw_307 rfl hl.1 rfl (Nat.le_of_ble_eq_true rfl) ⟨Nat.le_of_ble_eq_true rfl, Nat.le_of_ble_eq_true rfl⟩ ⟨Nat.le_refl _, Nat.le_refl _⟩ dX6_parish_8) (fun r1 σ1 H locs h hw => ?_)
  refine lv_istore_n (lv' := [(1, .int r1), (0, .ref (yA Y 0))]) hx hb dX6_parish_11 rfl hl (by decide) rfl (fun ls hl => ?_)
  refine lv_iload_n hx hb dX6_parish_12 rfl (lv_at hl 0 rfl) ?_
  refine lv_if_ge (tgt := 18) hx hb dX6_parish_13 (by decide) (fun c1 => ?_) (fun c1 => ?_)
  · have n1 : ¬ r1 < 0 := fun f => by rw [Int32.lt_iff_toInt_lt] at f; rw [Int32.le_iff_toInt_le] at c1; omega
    have h := h.2 n1
    refine lv_aload_n hx hb dX6_parish_18 rfl (lv_at hl 1 rfl) ?_
    refine q_get (v := .ref (yA Y 3)) M hw (ob_0 hN h0) rfl inq_6 1 (by decide) tw_258 rfl dX6_parish_19 ?_
    refine lv_astore_n (lv' := [(2, .ref (yA Y 3)), (1, .int r1), (0, .ref (yA Y 0))]) hx hb dX6_parish_22 rfl hl (by decide) rfl (fun ls hl => ?_)
    refine lv_aload_n hx hb dX6_parish_23 rfl (lv_at hl 2 rfl) ?_
    refine lv_aload_n hx hb dX6_parish_24 rfl (lv_at hl 2 rfl) ?_
    refine q_get (v := .ref (yA Y 9)) M hw (ob_0 hN h0) rfl inq_6 2 (by decide) tw_259 rfl dX6_parish_25 ?_
    refine q_putR (t' := 9) (u' := 9) M hw hN h0 1 (by decide) tw_258 rfl rfl rfl (Nat.le_of_ble_eq_true rfl) rfl dX6_parish_28 (fun H locs M hw => ?_)
    refine lv_aload_n hx hb dX6_parish_31 rfl (lv_at hl 2 rfl) ?_
    refine lv_aload_n hx hb dX6_parish_32 rfl (lv_at hl 0 rfl) ?_
    refine q_putR (Y := Yx Y 9 9) (t' := 9) (u' := 3) M hw hN Yx_c 2 (by decide) tw_259 rfl rfl rfl (Nat.le_of_ble_eq_true rfl) rfl dX6_parish_33 (fun H locs M hw => ?_)
    have hN3 : yN (Yx Y 9 3) = 108 := hN
    have h03 : c0s (Yx Y 9 3) 9 3 := Yx_c
    have hB3 : YB (Yx Y 9 3) := c0s_B h03
    have hl3 : lv_has ls 4 [(2, .ref (yA (Yx Y 9 3) 3)), (1, .int r1), (0, .ref (yA (Yx Y 9 3) 0))] := hl
    have M3 : MC p s m args meth c cX6_parish 4 (some .int) RX6 (Yx Y 9 3) := M
    have hw3 : WS (Yx Y 9 3) (AD (Yx Y 9 3)) s.heap σ1 H locs := hw
    have sP := fun (σ' : St) (H' : Heap) => @sw_P Y σ' H' hN
    have goal' : W p l e { frames := 6, cells := 0, slots := 0, locals := 126 } s m args below meth c H locs 0 0 (MQ below (QX Y Q) args s 0 0 (AD Y)) (F0 m 36 ls []) := by
      have Qeq : AD (Yx Y 9 3) = AD Y := rfl
      have Deq : yD (Yx Y 9 3) = yD Y := rfl
      have ret' : ∀ (σ' : St) (H' : Heap) (locs' : List Loc) (ls' : Array Slot), WS (Yx Y 9 3) (AD (Yx Y 9 3)) s.heap σ' H' locs' → lv_has ls' 4 [(3, .int 2), (2, .ref (yA (Yx Y 9 3) 3)), (1, .int r1), (0, .ref (yA (Yx Y 9 3) 0))] → Q r1 (true, xc σ') → W p l e { frames := 6, cells := 0, slots := 0, locals := 126 } s m args below meth c H' locs' 0 0 (MQ below (QX Y Q) args s 0 0 (AD Y)) (F0 m 98 ls' []) := by
        intro σ' H' locs' ls' hw' hl' hq
        refine lv_iload_n hx hb dX6_parish_98 rfl (lv_at hl' 2 rfl) ?_
        exact q_iretX (Y1 := Y) true hx hb hr hlk hK (sP σ' H' hw'.1) hw'.2.2 hq dX6_parish_99
      clear M hw hl sP Qeq Deq
      generalize Yx Y 9 3 = Z at hN3 h03 hB3 hl3 M3 hw3 ret'
      refine lv_aload_n hx hb dX6_parish_36 rfl (lv_at hl3 2 rfl) ?_
      refine q_get (v := .ref (yA Z 2)) M3 hw3 (ob_0 hN3 h03) rfl inq_6 0 (by decide) tw_257 rfl dX6_parish_37 ?_
      refine lv_iconst (v := 0) hx hb dX6_parish_40 (by decide) ?_
      refine q_put (v := 0) M3 hw3 (ob_2 hN3) rfl inq_5 tyX5 tyX5_ok nmX5 1 (by decide) tw_74 rfl rfl rfl (Nat.le_of_ble_eq_true rfl) (by simp [up, upd, f0]) dX6_parish_41 (fun σ2 H locs es hw3 => ?_)
      have h := h σ2 es
      refine lv_aload_n hx hb dX6_parish_44 rfl (lv_at hl3 2 rfl) ?_
      refine q_get (v := .ref (yA Z 15)) M3 hw3 (ob_0 hN3 h03) rfl inq_6 3 (by decide) tw_260 rfl dX6_parish_45 ?_
      refine lv_iconst (v := 0) hx hb dX6_parish_48 (by decide) ?_
      refine q_put (v := 0) M3 hw3 (ob_15 hN3) rfl inq_0 tyX0 tyX0_ok nmX0 3 (by decide) tw_169 rfl (by decide) rfl (Nat.le_of_ble_eq_true rfl) (by simp [up, upd, f0]) dX6_parish_49 (fun σ3 H locs es hw3 => ?_)
      have h := h σ3 es
      refine lv_aload_n hx hb dX6_parish_52 rfl (lv_at hl3 2 rfl) ?_
      refine q_get (v := .ref (yA Z 18)) M3 hw3 (ob_0 hN3 h03) rfl inq_6 4 (by decide) tw_261 rfl dX6_parish_53 ?_
      refine lv_aload_n hx hb dX6_parish_56 rfl (lv_at hl3 2 rfl) ?_
      refine q_get (v := .ref (yA Z 9)) M3 hw3 (ob_0 hN3 h03) rfl inq_6 1 (by decide) tw_258 rfl dX6_parish_57 ?_
      refine q_goV hw3 (q_runV (rest := []) M3 hw3 (ctX4_begin l hB3 (sh_18 hN3) (ph_9 hN3) σ3 _ h) mbX4_begin (sh_ob (sh_18 hN3)) rfl tw_355 rfl hl3.1 rfl (Nat.le_of_ble_eq_true rfl) ⟨Nat.le_of_ble_eq_true rfl, Nat.le_of_ble_eq_true rfl⟩ ⟨Nat.le_refl _, Nat.le_refl _⟩ dX6_parish_60) (fun σ4 H locs h hw3 => ?_)
      refine lv_aload_n hx hb dX6_parish_63 rfl (lv_at hl3 2 rfl) ?_
      refine q_get (v := .ref (yA Z 23)) M3 hw3 (ob_0 hN3 h03) rfl inq_6 5 (by decide) tw_262 rfl dX6_parish_64 ?_
      refine q_goV hw3 (q_runV (rest := []) M3 hw3 (ctX2_forgetAll l hB3 hN3 σ4 _ h) mbX2_forgetAll (ob_23 hN3) rfl tw_359 rfl hl3.1 rfl (Nat.le_of_ble_eq_true rfl) ⟨Nat.le_of_ble_eq_true rfl, Nat.le_of_ble_eq_true rfl⟩ ⟨Nat.le_refl _, Nat.le_refl _⟩ dX6_parish_67) (fun σ5 H locs h hw3 => ?_)
      refine lv_aload_n hx hb dX6_parish_70 rfl (lv_at hl3 2 rfl) ?_
      refine q_get (v := .ref (yA Z 87)) M3 hw3 (ob_0 hN3 h03) rfl inq_6 8 (by decide) tw_265 rfl dX6_parish_71 ?_
      refine lv_iconst (v := 0) hx hb dX6_parish_74 (by decide) ?_
      refine q_put (v := 0) M3 hw3 (ob_87 hN3) rfl inq_1 tyX1 tyX1_ok nmX1 3 (by decide) tw_247 rfl rfl rfl (Nat.le_of_ble_eq_true rfl) (by simp [up, upd, f0]) dX6_parish_75 (fun σ6 H locs es hw3 => ?_)
      have h := h σ6 es
      refine lv_iconst (v := 0) hx hb dX6_parish_78 (by decide) ?_
      refine lv_istore_n (lv' := [(3, .int 0), (2, .ref (yA Z 3)), (1, .int r1), (0, .ref (yA Z 0))]) hx hb dX6_parish_79 rfl hl3 (by decide) rfl (fun ls hl3 => ?_)
      refine lv_iload_n hx hb dX6_parish_80 rfl (lv_at hl3 0 rfl) ?_
      refine lv_iconst (v := 2) hx hb dX6_parish_81 (by decide) ?_
      refine lv_icmp_ge (tgt := 98) hx hb dX6_parish_82 (by decide) (fun c2 => absurd c2 (by decide)) (fun c2 => ?_)
      refine lv_aload_n hx hb dX6_parish_85 rfl (lv_at hl3 3 rfl) ?_
      refine q_get (v := .ref (yA Z 86)) M3 hw3 (ob_0 hN3 h03) rfl inq_6 7 (by decide) tw_264 rfl dX6_parish_86 ?_
      refine lv_iload_n hx hb dX6_parish_89 rfl (lv_at hl3 0 rfl) ?_
      refine lv_iconst (v := 0) hx hb dX6_parish_90 (by decide) ?_
      refine q_zst' 0 M3 hw3 (ar_86 hN3) (vin (k := 0) (by omega) (by omega)) (by decide) dX6_parish_91 (fun σ7 H locs es hw3 => ?_)
      have h := h σ7 es
      refine lv_iinc (v := 1) (lv' := [(3, .int 1), (2, .ref (yA Z 3)), (1, .int r1), (0, .ref (yA Z 0))]) hx hb dX6_parish_92 hl3 (k := 0) rfl (by decide) (by decide) rfl (fun ls hl3 => ?_)
      refine lv_goto (tgt := 80) hx hb dX6_parish_95 (by decide) ?_
      refine lv_iload_n hx hb dX6_parish_80 rfl (lv_at hl3 0 rfl) ?_
      refine lv_iconst (v := 2) hx hb dX6_parish_81 (by decide) ?_
      refine lv_icmp_ge (tgt := 98) hx hb dX6_parish_82 (by decide) (fun c2 => absurd c2 (by decide)) (fun c2 => ?_)
      refine lv_aload_n hx hb dX6_parish_85 rfl (lv_at hl3 3 rfl) ?_
      refine q_get (v := .ref (yA Z 86)) M3 hw3 (ob_0 hN3 h03) rfl inq_6 7 (by decide) tw_264 rfl dX6_parish_86 ?_
      refine lv_iload_n hx hb dX6_parish_89 rfl (lv_at hl3 0 rfl) ?_
      refine lv_iconst (v := 0) hx hb dX6_parish_90 (by decide) ?_
      refine q_zst' 1 M3 hw3 (ar_86 hN3) (vin (k := 1) (by omega) (by omega)) (by decide) dX6_parish_91 (fun σ8 H locs es hw3 => ?_)
      have h := h σ8 es
      refine lv_iinc (v := 2) (lv' := [(3, .int 2), (2, .ref (yA Z 3)), (1, .int r1), (0, .ref (yA Z 0))]) hx hb dX6_parish_92 hl3 (k := 0) rfl (by decide) (by decide) rfl (fun ls hl3 => ?_)
      refine lv_goto (tgt := 80) hx hb dX6_parish_95 (by decide) ?_
      refine lv_iload_n hx hb dX6_parish_80 rfl (lv_at hl3 0 rfl) ?_
      refine lv_iconst (v := 2) hx hb dX6_parish_81 (by decide) ?_
      refine lv_icmp_ge (tgt := 98) hx hb dX6_parish_82 (by decide) (fun c2 => ?_) (fun c2 => absurd (by decide) c2)
      exact ret' σ8 _ _ _ hw3 hl3 (h.2 n1)
    exact goal'
  · have n1 : r1 < 0 := by rw [Int32.lt_iff_toInt_lt]; rw [Int32.le_iff_toInt_le] at c1; omega
    have h := (h.1 n1).1 n1
    refine lv_iload_n hx hb dX6_parish_16 rfl (lv_at hl 0 rfl) ?_
    exact q_iretX (Y1 := Y) false hx hb hr hlk hK hw.1 hw.2.2 h dX6_parish_17
set_option maxRecDepth 100000 in
theorem ctX6_parish (l : Launch) {Y : LY} (hB : YB Y) (hN : yN Y = 108) (h0 : c0s Y 3 9) (σ : St) (Q : Int32 → Bool × St → Prop) (h : wX6_parish σ (fun r σ1 => (r < 0 → Q r (false, σ1)) ∧ (¬ r < 0 → Q r (true, σ1)))) : CT l yX6_parish (Cond.code yX6_parish cX6_parish 4 (some .int)) { frames := 6, cells := 0, slots := 0, locals := 126 } Y [.ref (yA Y 0)] σ (QX Y Q) :=
  q_ent hB (by decide +kernel) (Nat.le_of_ble_eq_true rfl) (fun p e s m below meth c ls M hw hl => tX6_parish_E M hN h0 σ _ _ ls hw hl h)
theorem mbX6_parish : MB RX6 yX6_parish cX6_parish 0 4 (some .int) := ⟨tw_304, tw_305, tw_49, tw_306, by decide +kernel⟩
end
