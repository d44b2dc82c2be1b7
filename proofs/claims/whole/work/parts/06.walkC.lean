section
variable {p : Program} {l : Launch} {e : Env} {s : State} {m : MethodId} {args : Array Value} {below : List Frame} {meth : Method} {c : Code} {Y : LY}
theorem dX7_in_0 : decode cX7_in 0 = .ok (.iload_n 0, 1) := by decide +kernel
theorem dX7_in_1 : decode cX7_in 1 = .ok (.iload_n 1, 1) := by decide +kernel
theorem dX7_in_2 : decode cX7_in 2 = .ok (.if_icmp .lt 12, 3) := by decide +kernel
theorem dX7_in_5 : decode cX7_in 5 = .ok (.iload_n 0, 1) := by decide +kernel
theorem dX7_in_6 : decode cX7_in 6 = .ok (.iload_n 2, 1) := by decide +kernel
theorem dX7_in_7 : decode cX7_in 7 = .ok (.if_icmp .gt 7, 3) := by decide +kernel
theorem dX7_in_10 : decode cX7_in 10 = .ok (.iconst 1, 1) := by decide +kernel
theorem dX7_in_11 : decode cX7_in 11 = .ok (.goto 4, 3) := by decide +kernel
theorem dX7_in_14 : decode cX7_in 14 = .ok (.iconst 0, 1) := by decide +kernel
theorem dX7_in_15 : decode cX7_in 15 = .ok (.ireturn, 1) := by decide +kernel
def wX7_in (a0 : Int32) (a1 : Int32) (a2 : Int32) (σ : St) (Q : Int32 → St → Prop) : Prop :=
  ((a0 < a1 → Q 0 σ) ∧ (¬ a0 < a1 → ((a2 < a0 → Q 0 σ) ∧ (¬ a2 < a0 → Q 1 σ))))
set_option maxHeartbeats 4000000 in
set_option maxRecDepth 100000 in
theorem tX7_in_E {Q : Int32 → St → Prop} (M : MC p s m args meth c cX7_in 3 (some .boolean) RX7 Y)  (a0 : Int32) (a1 : Int32) (a2 : Int32) (σ : St) (H : Heap) (locs : List Loc) (ls : Array Slot) (hw : WS Y (AD Y) s.heap σ H locs) (hl : lv_has ls 3 [(0, .int a0), (1, .int a1), (2, .int a2)]) (h : wX7_in a0 a1 a2 σ Q) : W p l e { frames := 0, cells := 0, slots := 0, locals := 0 } s m args below meth c H locs 0 0 (MQ below (QI Y Q) args s 0 0 (AD Y)) (F0 m 0 ls []) := by
  obtain ⟨hx, hb, hr, hml, hown, hlk, hT, hK, hB⟩ := id M
  unfold wX7_in at h
  refine lv_iload_n hx hb dX7_in_0 rfl (lv_at hl 0 rfl) ?_
  refine lv_iload_n hx hb dX7_in_1 rfl (lv_at hl 1 rfl) ?_
  refine lv_icmp_lt (tgt := 14) hx hb dX7_in_2 (by decide) (fun c1 => ?_) (fun c1 => ?_)
  · have h := h.1 c1
    refine lv_iconst (v := 0) hx hb dX7_in_14 (by decide) ?_
    exact q_zret M hw (by decide) h dX7_in_15
  · have h := h.2 c1
    refine lv_iload_n hx hb dX7_in_5 rfl (lv_at hl 0 rfl) ?_
    refine lv_iload_n hx hb dX7_in_6 rfl (lv_at hl 2 rfl) ?_
    refine lv_icmp_gt (tgt := 14) hx hb dX7_in_7 (by decide) (fun c2 => ?_) (fun c2 => ?_)
    · have h := h.1 c2
      refine lv_iconst (v := 0) hx hb dX7_in_14 (by decide) ?_
      exact q_zret M hw (by decide) h dX7_in_15
    · have h := h.2 c2
      refine lv_iconst (v := 1) hx hb dX7_in_10 (by decide) ?_
      refine lv_goto (tgt := 15) hx hb dX7_in_11 (by decide) ?_
      exact q_zret M hw (by decide) h dX7_in_15
set_option maxRecDepth 100000 in
theorem ctX7_in (l : Launch) {Y : LY} (hB : YB Y) (a0 : Int32) (a1 : Int32) (a2 : Int32) (σ : St) (Q : Int32 → St → Prop) (h : wX7_in a0 a1 a2 σ Q) : CT l yX7_in (Cond.code yX7_in cX7_in 3 (some .boolean)) { frames := 0, cells := 0, slots := 0, locals := 0 } Y [.int a0, .int a1, .int a2] σ (QI Y Q) :=
  q_ent hB (by decide +kernel) (Nat.le_of_ble_eq_true rfl) (fun p e s m below meth c ls M hw hl => tX7_in_E M a0 a1 a2 σ _ _ ls hw hl h)
theorem mbX7_in : MBS yX7_in cX7_in 3 3 (some .boolean) := ⟨tw_719, tw_56, tw_720, by decide +kernel⟩
end
section
variable {p : Program} {l : Launch} {e : Env} {s : State} {m : MethodId} {args : Array Value} {below : List Frame} {meth : Method} {c : Code} {Y : LY}
theorem dX7_type_0 : decode cX7_type 0 = .ok (.aload_n 0, 1) := by decide +kernel
theorem dX7_type_1 : decode cX7_type 1 = .ok (.iconst 0, 1) := by decide +kernel
theorem dX7_type_2 : decode cX7_type 2 = .ok (.putfield 62, 3) := by decide +kernel
theorem dX7_type_5 : decode cX7_type 5 = .ok (.iload_n 1, 1) := by decide +kernel
theorem dX7_type_6 : decode cX7_type 6 = .ok (.iconst 0, 1) := by decide +kernel
theorem dX7_type_7 : decode cX7_type 7 = .ok (.sipush 255, 3) := by decide +kernel
theorem dX7_type_10 : decode cX7_type 10 = .ok (.invokestatic 66, 3) := by decide +kernel
theorem dX7_type_13 : decode cX7_type 13 = .ok (.ifCond .ne 5, 3) := by decide +kernel
theorem dX7_type_16 : decode cX7_type 16 = .ok (.iconst (-1), 1) := by decide +kernel
theorem dX7_type_17 : decode cX7_type 17 = .ok (.ireturn, 1) := by decide +kernel
theorem dX7_type_18 : decode cX7_type 18 = .ok (.aload_n 0, 1) := by decide +kernel
theorem dX7_type_19 : decode cX7_type 19 = .ok (.getfield 70, 3) := by decide +kernel
theorem dX7_type_22 : decode cX7_type 22 = .ok (.sipush 200, 3) := by decide +kernel
theorem dX7_type_25 : decode cX7_type 25 = .ok (.if_icmp .ne 6, 3) := by decide +kernel
theorem dX7_type_28 : decode cX7_type 28 = .ok (.bipush (-3), 2) := by decide +kernel
theorem dX7_type_30 : decode cX7_type 30 = .ok (.ireturn, 1) := by decide +kernel
theorem dX7_type_31 : decode cX7_type 31 = .ok (.aload_n 0, 1) := by decide +kernel
theorem dX7_type_32 : decode cX7_type 32 = .ok (.getfield 7, 3) := by decide +kernel
theorem dX7_type_35 : decode cX7_type 35 = .ok (.aload_n 0, 1) := by decide +kernel
theorem dX7_type_36 : decode cX7_type 36 = .ok (.getfield 70, 3) := by decide +kernel
theorem dX7_type_39 : decode cX7_type 39 = .ok (.iload_n 1, 1) := by decide +kernel
theorem dX7_type_40 : decode cX7_type 40 = .ok (.iastore, 1) := by decide +kernel
theorem dX7_type_41 : decode cX7_type 41 = .ok (.aload_n 0, 1) := by decide +kernel
theorem dX7_type_42 : decode cX7_type 42 = .ok (.dup, 1) := by decide +kernel
theorem dX7_type_43 : decode cX7_type 43 = .ok (.getfield 70, 3) := by decide +kernel
theorem dX7_type_46 : decode cX7_type 46 = .ok (.iconst 1, 1) := by decide +kernel
theorem dX7_type_47 : decode cX7_type 47 = .ok (.iadd, 1) := by decide +kernel
theorem dX7_type_48 : decode cX7_type 48 = .ok (.putfield 70, 3) := by decide +kernel
theorem dX7_type_51 : decode cX7_type 51 = .ok (.aload_n 0, 1) := by decide +kernel
theorem dX7_type_52 : decode cX7_type 52 = .ok (.getfield 70, 3) := by decide +kernel
theorem dX7_type_55 : decode cX7_type 55 = .ok (.ireturn, 1) := by decide +kernel
def wX7_type (a0 : Int32) (σ : St) (Q : Int32 → St → Prop) : Prop :=
  (∀ σ1 : St, σ1 = up σ 92 0 0 → wX7_in a0 0 255 σ1 (fun r3 σ2 => ((r3 = 0 → Q (-1) σ2) ∧ (¬ r3 = 0 → (((σ2.1 92 3) = 200 → Q (-3) σ2) ∧ (¬ (σ2.1 92 3) = 200 → (vp_in (σ2.1 92 3) 200 ∧ ∀ σ7 : St, σ7 = up σ2 93 (σ2.1 92 3).toNatClampNeg a0 → (∀ σ8 : St, σ8 = up σ7 92 3 ((σ7.1 92 3) + 1) → Q (σ8.1 92 3) σ8))))))))
set_option maxHeartbeats 4000000 in
set_option maxRecDepth 100000 in
theorem tX7_type_E {Q : Int32 → St → Prop} (M : MC p s m args meth c cX7_type 2 (some .int) RX7 Y) (hN : yN Y = 108) (a0 : Int32) (σ : St) (H : Heap) (locs : List Loc) (ls : Array Slot) (hw : WS Y (AD Y) s.heap σ H locs) (hl : lv_has ls 2 [(0, .ref (yA Y 92)), (1, .int a0)]) (h : wX7_type a0 σ Q) : W p l e { frames := 1, cells := 0, slots := 0, locals := 22 } s m args below meth c H locs 0 0 (MQ below (QI Y Q) args s 0 0 (AD Y)) (F0 m 0 ls []) := by
  obtain ⟨hx, hb, hr, hml, hown, hlk, hT, hK, hB⟩ := id M
  unfold wX7_type at h
  refine lv_aload_n hx hb dX7_type_0 rfl (lv_at hl 0 rfl) ?_
  refine lv_iconst (v := 0) hx hb dX7_type_1 (by decide) ?_
  refine q_put (v := 0) M hw (ob_92 hN) rfl inq_7 tyX7 tyX7_ok nmX7 0 (by decide) tw_635 rfl rfl rfl (Nat.le_of_ble_eq_true rfl) (by simp [up, upd, f0]) dX7_type_2 (fun σ1 H locs es hw => ?_)
  have h := h σ1 es
  refine lv_iload_n hx hb dX7_type_5 rfl (lv_at hl 1 rfl) ?_
  refine lv_iconst (v := 0) hx hb dX7_type_6 (by decide) ?_
  refine lv_sipush (v := 255) hx hb dX7_type_7 (by decide) ?_
  refine q_goI hw (q_runS (rest := []) M hw (ctX7_in l hB a0 0 255 σ1 _ h) mbX7_in tw_718 rfl hl.1 rfl (Nat.le_of_ble_eq_true rfl) ⟨Nat.le_of_ble_eq_true rfl, Nat.le_of_ble_eq_true rfl⟩ ⟨Nat.le_refl _, Nat.le_refl _⟩ dX7_type_10) (fun r3 σ2 H locs h hw => ?_)
  refine lv_if_ne (tgt := 18) hx hb dX7_type_13 (by decide) (fun c4 => ?_) (fun c4 => ?_)
  · have h := h.2 c4
    refine lv_aload_n hx hb dX7_type_18 rfl (lv_at hl 0 rfl) ?_
    refine q_get (v := .int (σ2.1 92 3)) M hw (ob_92 hN) rfl inq_7 3 (by decide) tw_638 rfl dX7_type_19 ?_
    refine lv_sipush (v := 200) hx hb dX7_type_22 (by decide) ?_
    refine lv_icmp_ne (tgt := 31) hx hb dX7_type_25 (by decide) (fun c5 => ?_) (fun c5 => ?_)
    · have h := h.2 c5
      refine lv_aload_n hx hb dX7_type_31 rfl (lv_at hl 0 rfl) ?_
      refine q_get (v := .ref (yA Y 93)) M hw (ob_92 hN) rfl inq_7 2 (by decide) tw_637 rfl dX7_type_32 ?_
      refine lv_aload_n hx hb dX7_type_35 rfl (lv_at hl 0 rfl) ?_
      refine q_get (v := .int (σ2.1 92 3)) M hw (ob_92 hN) rfl inq_7 3 (by decide) tw_638 rfl dX7_type_36 ?_
      refine lv_iload_n hx hb dX7_type_39 rfl (lv_at hl 1 rfl) ?_
      have c6 := h.1
      refine q_ist M hw (ar_93 hN) c6 dX7_type_40 (fun σ7 H locs es hw => ?_)
      have h := h.2 σ7 es
      refine lv_aload_n hx hb dX7_type_41 rfl (lv_at hl 0 rfl) ?_
      refine lv_dup hx hb dX7_type_42 rfl ?_
      refine q_get (v := .int (σ7.1 92 3)) M hw (ob_92 hN) rfl inq_7 3 (by decide) tw_638 rfl dX7_type_43 ?_
      refine lv_iconst (v := 1) hx hb dX7_type_46 (by decide) ?_
      refine lv_iadd hx hb dX7_type_47 ?_
      refine q_put (v := ((σ7.1 92 3) + 1)) M hw (ob_92 hN) rfl inq_7 tyX7 tyX7_ok nmX7 3 (by decide) tw_638 rfl rfl rfl (Nat.le_of_ble_eq_true rfl) (by simp [up, upd, f0]) dX7_type_48 (fun σ8 H locs es hw => ?_)
      have h := h σ8 es
      refine lv_aload_n hx hb dX7_type_51 rfl (lv_at hl 0 rfl) ?_
      refine q_get (v := .int (σ8.1 92 3)) M hw (ob_92 hN) rfl inq_7 3 (by decide) tw_638 rfl dX7_type_52 ?_
      exact q_iret M hw h dX7_type_55
    · have h := h.1 c5
      refine lv_bipush (v := (-3)) hx hb dX7_type_28 (by decide) ?_
      exact q_iret M hw h dX7_type_30
  · have h := h.1 c4
    refine lv_iconst (v := (-1)) hx hb dX7_type_16 (by decide) ?_
    exact q_iret M hw h dX7_type_17
set_option maxRecDepth 100000 in
theorem ctX7_type (l : Launch) {Y : LY} (hB : YB Y) (hN : yN Y = 108) (a0 : Int32) (σ : St) (Q : Int32 → St → Prop) (h : wX7_type a0 σ Q) : CT l yX7_type (Cond.code yX7_type cX7_type 2 (some .int)) { frames := 1, cells := 0, slots := 0, locals := 22 } Y [.ref (yA Y 92), .int a0] σ (QI Y Q) :=
  q_ent hB (by decide +kernel) (Nat.le_of_ble_eq_true rfl) (fun p e s m below meth c ls M hw hl => tX7_type_E M hN a0 σ _ _ ls hw hl h)
theorem mbX7_type : MB RX7 yX7_type cX7_type 1 2 (some .int) := ⟨tw_715, tw_716, tw_56, tw_717, by decide +kernel⟩
end
section
variable {p : Program} {l : Launch} {e : Env} {s : State} {m : MethodId} {args : Array Value} {below : List Frame} {meth : Method} {c : Code} {Y : LY}
theorem dX7_clear_0 : decode cX7_clear 0 = .ok (.aload_n 0, 1) := by decide +kernel
theorem dX7_clear_1 : decode cX7_clear 1 = .ok (.iconst 0, 1) := by decide +kernel
theorem dX7_clear_2 : decode cX7_clear 2 = .ok (.putfield 62, 3) := by decide +kernel
theorem dX7_clear_5 : decode cX7_clear 5 = .ok (.aload_n 0, 1) := by decide +kernel
theorem dX7_clear_6 : decode cX7_clear 6 = .ok (.getfield 70, 3) := by decide +kernel
theorem dX7_clear_9 : decode cX7_clear 9 = .ok (.istore_n 1, 1) := by decide +kernel
theorem dX7_clear_10 : decode cX7_clear 10 = .ok (.aload_n 0, 1) := by decide +kernel
theorem dX7_clear_11 : decode cX7_clear 11 = .ok (.iconst 0, 1) := by decide +kernel
theorem dX7_clear_12 : decode cX7_clear 12 = .ok (.putfield 70, 3) := by decide +kernel
theorem dX7_clear_15 : decode cX7_clear 15 = .ok (.iload_n 1, 1) := by decide +kernel
theorem dX7_clear_16 : decode cX7_clear 16 = .ok (.ireturn, 1) := by decide +kernel
def wX7_clear (σ : St) (Q : Int32 → St → Prop) : Prop :=
  (∀ σ1 : St, σ1 = up σ 92 0 0 → (∀ x2 : Int32, x2 = (σ1.1 92 3) → (∀ σ3 : St, σ3 = up σ1 92 3 0 → Q x2 σ3)))
set_option maxHeartbeats 4000000 in
set_option maxRecDepth 100000 in
theorem tX7_clear_E {Q : Int32 → St → Prop} (M : MC p s m args meth c cX7_clear 2 (some .int) RX7 Y) (hN : yN Y = 108)  (σ : St) (H : Heap) (locs : List Loc) (ls : Array Slot) (hw : WS Y (AD Y) s.heap σ H locs) (hl : lv_has ls 2 [(0, .ref (yA Y 92))]) (h : wX7_clear σ Q) : W p l e { frames := 0, cells := 0, slots := 0, locals := 0 } s m args below meth c H locs 0 0 (MQ below (QI Y Q) args s 0 0 (AD Y)) (F0 m 0 ls []) := by
  obtain ⟨hx, hb, hr, hml, hown, hlk, hT, hK, hB⟩ := id M
  unfold wX7_clear at h
  refine lv_aload_n hx hb dX7_clear_0 rfl (lv_at hl 0 rfl) ?_
  refine lv_iconst (v := 0) hx hb dX7_clear_1 (by decide) ?_
  refine q_put (v := 0) M hw (ob_92 hN) rfl inq_7 tyX7 tyX7_ok nmX7 0 (by decide) tw_635 rfl rfl rfl (Nat.le_of_ble_eq_true rfl) (by simp [up, upd, f0]) dX7_clear_2 (fun σ1 H locs es hw => ?_)
  have h := h σ1 es
  refine lv_aload_n hx hb dX7_clear_5 rfl (lv_at hl 0 rfl) ?_
  refine q_get (v := .int (σ1.1 92 3)) M hw (ob_92 hN) rfl inq_7 3 (by decide) tw_638 rfl dX7_clear_6 ?_
  refine lv_topi (fun x2 ex2 => ?_)
  have h := h x2 ex2
  refine lv_istore_n (lv' := [(1, .int x2), (0, .ref (yA Y 92))]) hx hb dX7_clear_9 rfl hl (by decide) rfl (fun ls hl => ?_)
  refine lv_aload_n hx hb dX7_clear_10 rfl (lv_at hl 1 rfl) ?_
  refine lv_iconst (v := 0) hx hb dX7_clear_11 (by decide) ?_
  refine q_put (v := 0) M hw (ob_92 hN) rfl inq_7 tyX7 tyX7_ok nmX7 3 (by decide) tw_638 rfl rfl rfl (Nat.le_of_ble_eq_true rfl) (by simp [up, upd, f0]) dX7_clear_12 (fun σ3 H locs es hw => ?_)
  have h := h σ3 es
  refine lv_iload_n hx hb dX7_clear_15 rfl (lv_at hl 0 rfl) ?_
  exact q_iret M hw h dX7_clear_16
set_option maxRecDepth 100000 in
theorem ctX7_clear (l : Launch) {Y : LY} (hB : YB Y) (hN : yN Y = 108) (σ : St) (Q : Int32 → St → Prop) (h : wX7_clear σ Q) : CT l yX7_clear (Cond.code yX7_clear cX7_clear 2 (some .int)) { frames := 0, cells := 0, slots := 0, locals := 0 } Y [.ref (yA Y 92)] σ (QI Y Q) :=
  q_ent hB (by decide +kernel) (Nat.le_of_ble_eq_true rfl) (fun p e s m below meth c ls M hw hl => tX7_clear_E M hN σ _ _ ls hw hl h)
theorem mbX7_clear : MB RX7 yX7_clear cX7_clear 0 2 (some .int) := ⟨tw_722, tw_723, tw_56, tw_724, by decide +kernel⟩
end
section
variable {p : Program} {l : Launch} {e : Env} {s : State} {m : MethodId} {args : Array Value} {below : List Frame} {meth : Method} {c : Code} {Y : LY}
theorem dX7_letterAt_0 : decode cX7_letterAt 0 = .ok (.iload_n 1, 1) := by decide +kernel
theorem dX7_letterAt_1 : decode cX7_letterAt 1 = .ok (.aload_n 0, 1) := by decide +kernel
theorem dX7_letterAt_2 : decode cX7_letterAt 2 = .ok (.getfield 70, 3) := by decide +kernel
theorem dX7_letterAt_5 : decode cX7_letterAt 5 = .ok (.if_icmp .ge 12, 3) := by decide +kernel
theorem dX7_letterAt_8 : decode cX7_letterAt 8 = .ok (.aload_n 0, 1) := by decide +kernel
theorem dX7_letterAt_9 : decode cX7_letterAt 9 = .ok (.getfield 7, 3) := by decide +kernel
theorem dX7_letterAt_12 : decode cX7_letterAt 12 = .ok (.iload_n 1, 1) := by decide +kernel
theorem dX7_letterAt_13 : decode cX7_letterAt 13 = .ok (.iaload, 1) := by decide +kernel
theorem dX7_letterAt_14 : decode cX7_letterAt 14 = .ok (.goto 4, 3) := by decide +kernel
theorem dX7_letterAt_17 : decode cX7_letterAt 17 = .ok (.iconst (-1), 1) := by decide +kernel
theorem dX7_letterAt_18 : decode cX7_letterAt 18 = .ok (.ireturn, 1) := by decide +kernel
def wX7_letterAt (a0 : Int32) (σ : St) (Q : Int32 → St → Prop) : Prop :=
  (((σ.1 92 3) ≤ a0 → Q (-1) σ) ∧ (¬ (σ.1 92 3) ≤ a0 → (vp_in a0 200 ∧ Q (σ.1 93 a0.toNatClampNeg) σ)))
set_option maxHeartbeats 4000000 in
set_option maxRecDepth 100000 in
theorem tX7_letterAt_E {Q : Int32 → St → Prop} (M : MC p s m args meth c cX7_letterAt 2 (some .int) RX7 Y) (hN : yN Y = 108) (a0 : Int32) (σ : St) (H : Heap) (locs : List Loc) (ls : Array Slot) (hw : WS Y (AD Y) s.heap σ H locs) (hl : lv_has ls 2 [(0, .ref (yA Y 92)), (1, .int a0)]) (h : wX7_letterAt a0 σ Q) : W p l e { frames := 0, cells := 0, slots := 0, locals := 0 } s m args below meth c H locs 0 0 (MQ below (QI Y Q) args s 0 0 (AD Y)) (F0 m 0 ls []) := by
  obtain ⟨hx, hb, hr, hml, hown, hlk, hT, hK, hB⟩ := id M
  unfold wX7_letterAt at h
  refine lv_iload_n hx hb dX7_letterAt_0 rfl (lv_at hl 1 rfl) ?_
  refine lv_aload_n hx hb dX7_letterAt_1 rfl (lv_at hl 0 rfl) ?_
  refine q_get (v := .int (σ.1 92 3)) M hw (ob_92 hN) rfl inq_7 3 (by decide) tw_638 rfl dX7_letterAt_2 ?_
  refine lv_icmp_ge (tgt := 17) hx hb dX7_letterAt_5 (by decide) (fun c1 => ?_) (fun c1 => ?_)
  · have h := h.1 c1
    refine lv_iconst (v := (-1)) hx hb dX7_letterAt_17 (by decide) ?_
    exact q_iret M hw h dX7_letterAt_18
  · have h := h.2 c1
    refine lv_aload_n hx hb dX7_letterAt_8 rfl (lv_at hl 0 rfl) ?_
    refine q_get (v := .ref (yA Y 93)) M hw (ob_92 hN) rfl inq_7 2 (by decide) tw_637 rfl dX7_letterAt_9 ?_
    refine lv_iload_n hx hb dX7_letterAt_12 rfl (lv_at hl 1 rfl) ?_
    have c2 := h.1
    have h := h.2
    refine q_ild M hw (ar_93 hN) c2 dX7_letterAt_13 ?_
    refine lv_goto (tgt := 18) hx hb dX7_letterAt_14 (by decide) ?_
    exact q_iret M hw h dX7_letterAt_18
set_option maxRecDepth 100000 in
theorem ctX7_letterAt (l : Launch) {Y : LY} (hB : YB Y) (hN : yN Y = 108) (a0 : Int32) (σ : St) (Q : Int32 → St → Prop) (h : wX7_letterAt a0 σ Q) : CT l yX7_letterAt (Cond.code yX7_letterAt cX7_letterAt 2 (some .int)) { frames := 0, cells := 0, slots := 0, locals := 0 } Y [.ref (yA Y 92), .int a0] σ (QI Y Q) :=
  q_ent hB (by decide +kernel) (Nat.le_of_ble_eq_true rfl) (fun p e s m below meth c ls M hw hl => tX7_letterAt_E M hN a0 σ _ _ ls hw hl h)
theorem mbX7_letterAt : MB RX7 yX7_letterAt cX7_letterAt 1 2 (some .int) := ⟨tw_735, tw_31, tw_56, tw_736, by decide +kernel⟩
end
section
variable {p : Program} {l : Launch} {e : Env} {s : State} {m : MethodId} {args : Array Value} {below : List Frame} {meth : Method} {c : Code} {Y : LY}
theorem dX7_isLetter_0 : decode cX7_isLetter 0 = .ok (.iload_n 0, 1) := by decide +kernel
theorem dX7_isLetter_1 : decode cX7_isLetter 1 = .ok (.bipush 102, 2) := by decide +kernel
theorem dX7_isLetter_3 : decode cX7_isLetter 3 = .ok (.if_icmp .eq 27, 3) := by decide +kernel
theorem dX7_isLetter_6 : decode cX7_isLetter 6 = .ok (.iload_n 0, 1) := by decide +kernel
theorem dX7_isLetter_7 : decode cX7_isLetter 7 = .ok (.bipush 115, 2) := by decide +kernel
theorem dX7_isLetter_9 : decode cX7_isLetter 9 = .ok (.if_icmp .eq 21, 3) := by decide +kernel
theorem dX7_isLetter_12 : decode cX7_isLetter 12 = .ok (.iload_n 0, 1) := by decide +kernel
theorem dX7_isLetter_13 : decode cX7_isLetter 13 = .ok (.bipush 99, 2) := by decide +kernel
theorem dX7_isLetter_15 : decode cX7_isLetter 15 = .ok (.if_icmp .eq 15, 3) := by decide +kernel
theorem dX7_isLetter_18 : decode cX7_isLetter 18 = .ok (.iload_n 0, 1) := by decide +kernel
theorem dX7_isLetter_19 : decode cX7_isLetter 19 = .ok (.bipush 109, 2) := by decide +kernel
theorem dX7_isLetter_21 : decode cX7_isLetter 21 = .ok (.if_icmp .eq 9, 3) := by decide +kernel
theorem dX7_isLetter_24 : decode cX7_isLetter 24 = .ok (.iload_n 0, 1) := by decide +kernel
theorem dX7_isLetter_25 : decode cX7_isLetter 25 = .ok (.bipush 101, 2) := by decide +kernel
theorem dX7_isLetter_27 : decode cX7_isLetter 27 = .ok (.if_icmp .ne 7, 3) := by decide +kernel
theorem dX7_isLetter_30 : decode cX7_isLetter 30 = .ok (.iconst 1, 1) := by decide +kernel
theorem dX7_isLetter_31 : decode cX7_isLetter 31 = .ok (.goto 4, 3) := by decide +kernel
theorem dX7_isLetter_34 : decode cX7_isLetter 34 = .ok (.iconst 0, 1) := by decide +kernel
theorem dX7_isLetter_35 : decode cX7_isLetter 35 = .ok (.ireturn, 1) := by decide +kernel
def bX7_isLetter_30 (σ : St) (Q : Int32 → St → Prop) : Prop :=
  Q 1 σ
set_option maxHeartbeats 4000000 in
set_option maxRecDepth 100000 in
theorem tX7_isLetter_30 {Q : Int32 → St → Prop} (M : MC p s m args meth c cX7_isLetter 1 (some .boolean) RX7 Y)   (σ : St) (H : Heap) (locs : List Loc) (ls : Array Slot) (hw : WS Y (AD Y) s.heap σ H locs) (hl : lv_has ls 1 []) (h : bX7_isLetter_30 σ Q) : W p l e { frames := 0, cells := 0, slots := 0, locals := 0 } s m args below meth c H locs 0 0 (MQ below (QI Y Q) args s 0 0 (AD Y)) (F0 m 30 ls []) := by
  obtain ⟨hx, hb, hr, hml, hown, hlk, hT, hK, hB⟩ := id M
  unfold bX7_isLetter_30 at h
  refine lv_iconst (v := 1) hx hb dX7_isLetter_30 (by decide) ?_
  refine lv_goto (tgt := 35) hx hb dX7_isLetter_31 (by decide) ?_
  exact q_zret M hw (by decide) h dX7_isLetter_35
def wX7_isLetter (a0 : Int32) (σ : St) (Q : Int32 → St → Prop) : Prop :=
  ((a0 = 102 → bX7_isLetter_30 σ Q) ∧ (¬ a0 = 102 → ((a0 = 115 → bX7_isLetter_30 σ Q) ∧ (¬ a0 = 115 → ((a0 = 99 → bX7_isLetter_30 σ Q) ∧ (¬ a0 = 99 → ((a0 = 109 → bX7_isLetter_30 σ Q) ∧ (¬ a0 = 109 → ((a0 = 101 → bX7_isLetter_30 σ Q) ∧ (¬ a0 = 101 → Q 0 σ))))))))))
set_option maxHeartbeats 4000000 in
set_option maxRecDepth 100000 in
theorem tX7_isLetter_E {Q : Int32 → St → Prop} (M : MC p s m args meth c cX7_isLetter 1 (some .boolean) RX7 Y)  (a0 : Int32) (σ : St) (H : Heap) (locs : List Loc) (ls : Array Slot) (hw : WS Y (AD Y) s.heap σ H locs) (hl : lv_has ls 1 [(0, .int a0)]) (h : wX7_isLetter a0 σ Q) : W p l e { frames := 0, cells := 0, slots := 0, locals := 0 } s m args below meth c H locs 0 0 (MQ below (QI Y Q) args s 0 0 (AD Y)) (F0 m 0 ls []) := by
  obtain ⟨hx, hb, hr, hml, hown, hlk, hT, hK, hB⟩ := id M
  unfold wX7_isLetter at h
  refine lv_iload_n hx hb dX7_isLetter_0 rfl (lv_at hl 0 rfl) ?_
  refine lv_bipush (v := 102) hx hb dX7_isLetter_1 (by decide) ?_
  refine lv_icmp_eq (tgt := 30) hx hb dX7_isLetter_3 (by decide) (fun c1 => ?_) (fun c1 => ?_)
  · have h := h.1 c1
    exact tX7_isLetter_30 M σ _ _ _ hw (lv_sub hl [] rfl) h
  · have h := h.2 c1
    refine lv_iload_n hx hb dX7_isLetter_6 rfl (lv_at hl 0 rfl) ?_
    refine lv_bipush (v := 115) hx hb dX7_isLetter_7 (by decide) ?_
    refine lv_icmp_eq (tgt := 30) hx hb dX7_isLetter_9 (by decide) (fun c2 => ?_) (fun c2 => ?_)
    · have h := h.1 c2
      exact tX7_isLetter_30 M σ _ _ _ hw (lv_sub hl [] rfl) h
    · have h := h.2 c2
      refine lv_iload_n hx hb dX7_isLetter_12 rfl (lv_at hl 0 rfl) ?_
      refine lv_bipush (v := 99) hx hb dX7_isLetter_13 (by decide) ?_
      refine lv_icmp_eq (tgt := 30) hx hb dX7_isLetter_15 (by decide) (fun c3 => ?_) (fun c3 => ?_)
      · have h := h.1 c3
        exact tX7_isLetter_30 M σ _ _ _ hw (lv_sub hl [] rfl) h
      · have h := h.2 c3
        refine lv_iload_n hx hb dX7_isLetter_18 rfl (lv_at hl 0 rfl) ?_
        refine lv_bipush (v := 109) hx hb dX7_isLetter_19 (by decide) ?_
        refine lv_icmp_eq (tgt := 30) hx hb dX7_isLetter_21 (by decide) (fun c4 => ?_) (fun c4 => ?_)
        · have h := h.1 c4
          exact tX7_isLetter_30 M σ _ _ _ hw (lv_sub hl [] rfl) h
        · have h := h.2 c4
          refine lv_iload_n hx hb dX7_isLetter_24 rfl (lv_at hl 0 rfl) ?_
          refine lv_bipush (v := 101) hx hb dX7_isLetter_25 (by decide) ?_
          refine lv_icmp_ne (tgt := 34) hx hb dX7_isLetter_27 (by decide) (fun c5 => ?_) (fun c5 => ?_)
          · have h := h.2 c5
            refine lv_iconst (v := 0) hx hb dX7_isLetter_34 (by decide) ?_
            exact q_zret M hw (by decide) h dX7_isLetter_35
          · have h := h.1 c5
            exact tX7_isLetter_30 M σ _ _ _ hw (lv_sub hl [] rfl) h
set_option maxRecDepth 100000 in
theorem ctX7_isLetter (l : Launch) {Y : LY} (hB : YB Y) (a0 : Int32) (σ : St) (Q : Int32 → St → Prop) (h : wX7_isLetter a0 σ Q) : CT l yX7_isLetter (Cond.code yX7_isLetter cX7_isLetter 1 (some .boolean)) { frames := 0, cells := 0, slots := 0, locals := 0 } Y [.int a0] σ (QI Y Q) :=
  q_ent hB (by decide +kernel) (Nat.le_of_ble_eq_true rfl) (fun p e s m below meth c ls M hw hl => tX7_isLetter_E M a0 σ _ _ ls hw hl h)
theorem mbX7_isLetter : MBS yX7_isLetter cX7_isLetter 1 1 (some .boolean) := ⟨tw_738, tw_56, tw_739, by decide +kernel⟩
end
section
variable {p : Program} {l : Launch} {e : Env} {s : State} {m : MethodId} {args : Array Value} {below : List Frame} {meth : Method} {c : Code} {Y : LY}
theorem dX7_advances_0 : decode cX7_advances 0 = .ok (.aload_n 0, 1) := by decide +kernel
theorem dX7_advances_1 : decode cX7_advances 1 = .ok (.aload_n 0, 1) := by decide +kernel
theorem dX7_advances_2 : decode cX7_advances 2 = .ok (.getfield 73, 3) := by decide +kernel
theorem dX7_advances_5 : decode cX7_advances 5 = .ok (.invokevirtual 76, 3) := by decide +kernel
theorem dX7_advances_8 : decode cX7_advances 8 = .ok (.bipush 32, 2) := by decide +kernel
theorem dX7_advances_10 : decode cX7_advances 10 = .ok (.if_icmp .ne 16, 3) := by decide +kernel
theorem dX7_advances_13 : decode cX7_advances 13 = .ok (.aload_n 0, 1) := by decide +kernel
theorem dX7_advances_14 : decode cX7_advances 14 = .ok (.dup, 1) := by decide +kernel
theorem dX7_advances_15 : decode cX7_advances 15 = .ok (.getfield 73, 3) := by decide +kernel
theorem dX7_advances_18 : decode cX7_advances 18 = .ok (.iconst 1, 1) := by decide +kernel
theorem dX7_advances_19 : decode cX7_advances 19 = .ok (.iadd, 1) := by decide +kernel
theorem dX7_advances_20 : decode cX7_advances 20 = .ok (.putfield 73, 3) := by decide +kernel
theorem dX7_advances_23 : decode cX7_advances 23 = .ok (.goto (-23), 3) := by decide +kernel
theorem dX7_advances_26 : decode cX7_advances 26 = .ok (.aload_n 0, 1) := by decide +kernel
theorem dX7_advances_27 : decode cX7_advances 27 = .ok (.aload_n 0, 1) := by decide +kernel
theorem dX7_advances_28 : decode cX7_advances 28 = .ok (.getfield 73, 3) := by decide +kernel
theorem dX7_advances_31 : decode cX7_advances 31 = .ok (.putfield 80, 3) := by decide +kernel
theorem dX7_advances_34 : decode cX7_advances 34 = .ok (.aload_n 0, 1) := by decide +kernel
theorem dX7_advances_35 : decode cX7_advances 35 = .ok (.aload_n 0, 1) := by decide +kernel
theorem dX7_advances_36 : decode cX7_advances 36 = .ok (.getfield 73, 3) := by decide +kernel
theorem dX7_advances_39 : decode cX7_advances 39 = .ok (.invokevirtual 76, 3) := by decide +kernel
theorem dX7_advances_42 : decode cX7_advances 42 = .ok (.istore_n 1, 1) := by decide +kernel
theorem dX7_advances_43 : decode cX7_advances 43 = .ok (.iload_n 1, 1) := by decide +kernel
theorem dX7_advances_44 : decode cX7_advances 44 = .ok (.ifCond .ge 11, 3) := by decide +kernel
theorem dX7_advances_47 : decode cX7_advances 47 = .ok (.aload_n 0, 1) := by decide +kernel
theorem dX7_advances_48 : decode cX7_advances 48 = .ok (.iconst 0, 1) := by decide +kernel
theorem dX7_advances_49 : decode cX7_advances 49 = .ok (.putfield 83, 3) := by decide +kernel
theorem dX7_advances_52 : decode cX7_advances 52 = .ok (.goto 170, 3) := by decide +kernel
theorem dX7_advances_55 : decode cX7_advances 55 = .ok (.iload_n 1, 1) := by decide +kernel
theorem dX7_advances_56 : decode cX7_advances 56 = .ok (.bipush 48, 2) := by decide +kernel
theorem dX7_advances_58 : decode cX7_advances 58 = .ok (.bipush 57, 2) := by decide +kernel
theorem dX7_advances_60 : decode cX7_advances 60 = .ok (.invokestatic 66, 3) := by decide +kernel
theorem dX7_advances_63 : decode cX7_advances 63 = .ok (.ifCond .eq 118, 3) := by decide +kernel
theorem dX7_advances_66 : decode cX7_advances 66 = .ok (.aload_n 0, 1) := by decide +kernel
theorem dX7_advances_67 : decode cX7_advances 67 = .ok (.iconst 0, 1) := by decide +kernel
theorem dX7_advances_68 : decode cX7_advances 68 = .ok (.putfield 86, 3) := by decide +kernel
theorem dX7_advances_71 : decode cX7_advances 71 = .ok (.aload_n 0, 1) := by decide +kernel
theorem dX7_advances_72 : decode cX7_advances 72 = .ok (.aload_n 0, 1) := by decide +kernel
theorem dX7_advances_73 : decode cX7_advances 73 = .ok (.getfield 73, 3) := by decide +kernel
theorem dX7_advances_76 : decode cX7_advances 76 = .ok (.invokevirtual 76, 3) := by decide +kernel
theorem dX7_advances_79 : decode cX7_advances 79 = .ok (.bipush 48, 2) := by decide +kernel
theorem dX7_advances_81 : decode cX7_advances 81 = .ok (.bipush 57, 2) := by decide +kernel
theorem dX7_advances_83 : decode cX7_advances 83 = .ok (.invokestatic 66, 3) := by decide +kernel
theorem dX7_advances_86 : decode cX7_advances 86 = .ok (.ifCond .eq 55, 3) := by decide +kernel
theorem dX7_advances_89 : decode cX7_advances 89 = .ok (.aload_n 0, 1) := by decide +kernel
theorem dX7_advances_90 : decode cX7_advances 90 = .ok (.aload_n 0, 1) := by decide +kernel
theorem dX7_advances_91 : decode cX7_advances 91 = .ok (.getfield 86, 3) := by decide +kernel
theorem dX7_advances_94 : decode cX7_advances 94 = .ok (.bipush 99, 2) := by decide +kernel
theorem dX7_advances_96 : decode cX7_advances 96 = .ok (.if_icmp .le 10, 3) := by decide +kernel
theorem dX7_advances_99 : decode cX7_advances 99 = .ok (.aload_n 0, 1) := by decide +kernel
theorem dX7_advances_100 : decode cX7_advances 100 = .ok (.getfield 86, 3) := by decide +kernel
theorem dX7_advances_103 : decode cX7_advances 103 = .ok (.goto 22, 3) := by decide +kernel
theorem dX7_advances_106 : decode cX7_advances 106 = .ok (.bipush 10, 2) := by decide +kernel
theorem dX7_advances_108 : decode cX7_advances 108 = .ok (.aload_n 0, 1) := by decide +kernel
theorem dX7_advances_109 : decode cX7_advances 109 = .ok (.getfield 86, 3) := by decide +kernel
theorem dX7_advances_112 : decode cX7_advances 112 = .ok (.imul, 1) := by decide +kernel
theorem dX7_advances_113 : decode cX7_advances 113 = .ok (.aload_n 0, 1) := by decide +kernel
theorem dX7_advances_114 : decode cX7_advances 114 = .ok (.aload_n 0, 1) := by decide +kernel
theorem dX7_advances_115 : decode cX7_advances 115 = .ok (.getfield 73, 3) := by decide +kernel
theorem dX7_advances_118 : decode cX7_advances 118 = .ok (.invokevirtual 76, 3) := by decide +kernel
theorem dX7_advances_121 : decode cX7_advances 121 = .ok (.iadd, 1) := by decide +kernel
theorem dX7_advances_122 : decode cX7_advances 122 = .ok (.bipush 48, 2) := by decide +kernel
theorem dX7_advances_124 : decode cX7_advances 124 = .ok (.isub, 1) := by decide +kernel
theorem dX7_advances_125 : decode cX7_advances 125 = .ok (.putfield 86, 3) := by decide +kernel
theorem dX7_advances_128 : decode cX7_advances 128 = .ok (.aload_n 0, 1) := by decide +kernel
theorem dX7_advances_129 : decode cX7_advances 129 = .ok (.dup, 1) := by decide +kernel
theorem dX7_advances_130 : decode cX7_advances 130 = .ok (.getfield 73, 3) := by decide +kernel
theorem dX7_advances_133 : decode cX7_advances 133 = .ok (.iconst 1, 1) := by decide +kernel
theorem dX7_advances_134 : decode cX7_advances 134 = .ok (.iadd, 1) := by decide +kernel
theorem dX7_advances_135 : decode cX7_advances 135 = .ok (.putfield 73, 3) := by decide +kernel
theorem dX7_advances_138 : decode cX7_advances 138 = .ok (.goto (-67), 3) := by decide +kernel
theorem dX7_advances_141 : decode cX7_advances 141 = .ok (.aload_n 0, 1) := by decide +kernel
theorem dX7_advances_142 : decode cX7_advances 142 = .ok (.aload_n 0, 1) := by decide +kernel
theorem dX7_advances_143 : decode cX7_advances 143 = .ok (.getfield 86, 3) := by decide +kernel
theorem dX7_advances_146 : decode cX7_advances 146 = .ok (.bipush 99, 2) := by decide +kernel
theorem dX7_advances_148 : decode cX7_advances 148 = .ok (.if_icmp .gt 22, 3) := by decide +kernel
theorem dX7_advances_151 : decode cX7_advances 151 = .ok (.iload_n 1, 1) := by decide +kernel
theorem dX7_advances_152 : decode cX7_advances 152 = .ok (.bipush 48, 2) := by decide +kernel
theorem dX7_advances_154 : decode cX7_advances 154 = .ok (.if_icmp .ne 20, 3) := by decide +kernel
theorem dX7_advances_157 : decode cX7_advances 157 = .ok (.aload_n 0, 1) := by decide +kernel
theorem dX7_advances_158 : decode cX7_advances 158 = .ok (.getfield 73, 3) := by decide +kernel
theorem dX7_advances_161 : decode cX7_advances 161 = .ok (.aload_n 0, 1) := by decide +kernel
theorem dX7_advances_162 : decode cX7_advances 162 = .ok (.getfield 80, 3) := by decide +kernel
theorem dX7_advances_165 : decode cX7_advances 165 = .ok (.isub, 1) := by decide +kernel
theorem dX7_advances_166 : decode cX7_advances 166 = .ok (.iconst 1, 1) := by decide +kernel
theorem dX7_advances_167 : decode cX7_advances 167 = .ok (.if_icmp .le 7, 3) := by decide +kernel
theorem dX7_advances_170 : decode cX7_advances 170 = .ok (.iconst 4, 1) := by decide +kernel
theorem dX7_advances_171 : decode cX7_advances 171 = .ok (.goto 4, 3) := by decide +kernel
theorem dX7_advances_174 : decode cX7_advances 174 = .ok (.iconst 2, 1) := by decide +kernel
theorem dX7_advances_175 : decode cX7_advances 175 = .ok (.putfield 83, 3) := by decide +kernel
theorem dX7_advances_178 : decode cX7_advances 178 = .ok (.goto 44, 3) := by decide +kernel
theorem dX7_advances_181 : decode cX7_advances 181 = .ok (.aload_n 0, 1) := by decide +kernel
theorem dX7_advances_182 : decode cX7_advances 182 = .ok (.dup, 1) := by decide +kernel
theorem dX7_advances_183 : decode cX7_advances 183 = .ok (.getfield 73, 3) := by decide +kernel
theorem dX7_advances_186 : decode cX7_advances 186 = .ok (.iconst 1, 1) := by decide +kernel
theorem dX7_advances_187 : decode cX7_advances 187 = .ok (.iadd, 1) := by decide +kernel
theorem dX7_advances_188 : decode cX7_advances 188 = .ok (.putfield 73, 3) := by decide +kernel
theorem dX7_advances_191 : decode cX7_advances 191 = .ok (.aload_n 0, 1) := by decide +kernel
theorem dX7_advances_192 : decode cX7_advances 192 = .ok (.iload_n 1, 1) := by decide +kernel
theorem dX7_advances_193 : decode cX7_advances 193 = .ok (.putfield 86, 3) := by decide +kernel
theorem dX7_advances_196 : decode cX7_advances 196 = .ok (.aload_n 0, 1) := by decide +kernel
theorem dX7_advances_197 : decode cX7_advances 197 = .ok (.iload_n 1, 1) := by decide +kernel
theorem dX7_advances_198 : decode cX7_advances 198 = .ok (.bipush 59, 2) := by decide +kernel
theorem dX7_advances_200 : decode cX7_advances 200 = .ok (.if_icmp .ne 7, 3) := by decide +kernel
theorem dX7_advances_203 : decode cX7_advances 203 = .ok (.iconst 3, 1) := by decide +kernel
theorem dX7_advances_204 : decode cX7_advances 204 = .ok (.goto 15, 3) := by decide +kernel
theorem dX7_advances_207 : decode cX7_advances 207 = .ok (.iload_n 1, 1) := by decide +kernel
theorem dX7_advances_208 : decode cX7_advances 208 = .ok (.invokestatic 89, 3) := by decide +kernel
theorem dX7_advances_211 : decode cX7_advances 211 = .ok (.ifCond .eq 7, 3) := by decide +kernel
theorem dX7_advances_214 : decode cX7_advances 214 = .ok (.iconst 1, 1) := by decide +kernel
theorem dX7_advances_215 : decode cX7_advances 215 = .ok (.goto 4, 3) := by decide +kernel
theorem dX7_advances_218 : decode cX7_advances 218 = .ok (.iconst 4, 1) := by decide +kernel
theorem dX7_advances_219 : decode cX7_advances 219 = .ok (.putfield 83, 3) := by decide +kernel
theorem dX7_advances_222 : decode cX7_advances 222 = .ok (.return_, 1) := by decide +kernel
def bX7_advances_125 (R_71 : Int32 × St → Prop) (y1 : Int32) (z0 : Int32) (σ : St) (Q : St → Prop) : Prop :=
  (∀ σ1 : St, σ1 = up σ 92 7 z0 → (∀ σ2 : St, σ2 = up σ1 92 4 ((σ1.1 92 4) + 1) → R_71 (y1, σ2)))
set_option maxHeartbeats 4000000 in
set_option maxRecDepth 100000 in
theorem tX7_advances_125 {R_71 : Int32 × St → Prop} {Q : St → Prop} (M : MC p s m args meth c cX7_advances 2 none RX7 Y) (hN : yN Y = 108) (hR_71 : ∀ (y1 : Int32) (σ : St) (H : Heap) (locs : List Loc) (ls : Array Slot), WS Y (AD Y) s.heap σ H locs → lv_has ls 2 [(0, .ref (yA Y 92)), (1, .int y1)] → R_71 (y1, σ) → W p l e { frames := 1, cells := 0, slots := 0, locals := 22 } s m args below meth c H locs 0 0 (MQ below (QV Y Q) args s 0 0 (AD Y)) (F0 m 71 ls [])) (y1 : Int32) (z0 : Int32) (σ : St) (H : Heap) (locs : List Loc) (ls : Array Slot) (hw : WS Y (AD Y) s.heap σ H locs) (hl : lv_has ls 2 [(0, .ref (yA Y 92)), (1, .int y1)]) (h : bX7_advances_125 R_71 y1 z0 σ Q) : W p l e { frames := 1, cells := 0, slots := 0, locals := 22 } s m args below meth c H locs 0 0 (MQ below (QV Y Q) args s 0 0 (AD Y)) (F0 m 125 ls [.int z0, .ref (yA Y 92)]) := by
  obtain ⟨hx, hb, hr, hml, hown, hlk, hT, hK, hB⟩ := id M
  unfold bX7_advances_125 at h
  refine q_put (v := z0) M hw (ob_92 hN) rfl inq_7 tyX7 tyX7_ok nmX7 7 (by decide) tw_642 rfl rfl rfl (Nat.le_of_ble_eq_true rfl) (by simp [up, upd, f0]) dX7_advances_125 (fun σ1 H locs es hw => ?_)
  have h := h σ1 es
  refine lv_aload_n hx hb dX7_advances_128 rfl (lv_at hl 0 rfl) ?_
  refine lv_dup hx hb dX7_advances_129 rfl ?_
  refine q_get (v := .int (σ1.1 92 4)) M hw (ob_92 hN) rfl inq_7 4 (by decide) tw_639 rfl dX7_advances_130 ?_
  refine lv_iconst (v := 1) hx hb dX7_advances_133 (by decide) ?_
  refine lv_iadd hx hb dX7_advances_134 ?_
  refine q_put (v := ((σ1.1 92 4) + 1)) M hw (ob_92 hN) rfl inq_7 tyX7 tyX7_ok nmX7 4 (by decide) tw_639 rfl rfl rfl (Nat.le_of_ble_eq_true rfl) (by simp [up, upd, f0]) dX7_advances_135 (fun σ2 H locs es hw => ?_)
  have h := h σ2 es
  refine lv_goto (tgt := 71) hx hb dX7_advances_138 (by decide) ?_
  exact hR_71 y1 σ2 _ _ _ hw (lv_sub hl [0, 1] rfl) h
def bX7_advances_175 (z0 : Int32) (σ : St) (Q : St → Prop) : Prop :=
  (∀ σ1 : St, σ1 = up σ 92 5 z0 → Q σ1)
set_option maxHeartbeats 4000000 in
set_option maxRecDepth 100000 in
theorem tX7_advances_175 {Q : St → Prop} (M : MC p s m args meth c cX7_advances 2 none RX7 Y) (hN : yN Y = 108) (z0 : Int32) (σ : St) (H : Heap) (locs : List Loc) (ls : Array Slot) (hw : WS Y (AD Y) s.heap σ H locs) (hl : lv_has ls 2 []) (h : bX7_advances_175 z0 σ Q) : W p l e { frames := 1, cells := 0, slots := 0, locals := 22 } s m args below meth c H locs 0 0 (MQ below (QV Y Q) args s 0 0 (AD Y)) (F0 m 175 ls [.int z0, .ref (yA Y 92)]) := by
  obtain ⟨hx, hb, hr, hml, hown, hlk, hT, hK, hB⟩ := id M
  unfold bX7_advances_175 at h
  refine q_put (v := z0) M hw (ob_92 hN) rfl inq_7 tyX7 tyX7_ok nmX7 5 (by decide) tw_640 rfl rfl rfl (Nat.le_of_ble_eq_true rfl) (by simp [up, upd, f0]) dX7_advances_175 (fun σ1 H locs es hw => ?_)
  have h := h σ1 es
  refine lv_goto (tgt := 222) hx hb dX7_advances_178 (by decide) ?_
  exact q_vret M hw h dX7_advances_222
def bX7_advances_170 (σ : St) (Q : St → Prop) : Prop :=
  bX7_advances_175 4 σ Q
set_option maxHeartbeats 4000000 in
set_option maxRecDepth 100000 in
theorem tX7_advances_170 {Q : St → Prop} (M : MC p s m args meth c cX7_advances 2 none RX7 Y) (hN : yN Y = 108)  (σ : St) (H : Heap) (locs : List Loc) (ls : Array Slot) (hw : WS Y (AD Y) s.heap σ H locs) (hl : lv_has ls 2 []) (h : bX7_advances_170 σ Q) : W p l e { frames := 1, cells := 0, slots := 0, locals := 22 } s m args below meth c H locs 0 0 (MQ below (QV Y Q) args s 0 0 (AD Y)) (F0 m 170 ls [.ref (yA Y 92)]) := by
  obtain ⟨hx, hb, hr, hml, hown, hlk, hT, hK, hB⟩ := id M
  unfold bX7_advances_170 at h
  refine lv_iconst (v := 4) hx hb dX7_advances_170 (by decide) ?_
  refine lv_goto (tgt := 175) hx hb dX7_advances_171 (by decide) ?_
  exact tX7_advances_175 M hN 4 σ _ _ _ hw (lv_sub hl [] rfl) h
def bX7_advances_174 (σ : St) (Q : St → Prop) : Prop :=
  bX7_advances_175 2 σ Q
set_option maxHeartbeats 4000000 in
set_option maxRecDepth 100000 in
theorem tX7_advances_174 {Q : St → Prop} (M : MC p s m args meth c cX7_advances 2 none RX7 Y) (hN : yN Y = 108)  (σ : St) (H : Heap) (locs : List Loc) (ls : Array Slot) (hw : WS Y (AD Y) s.heap σ H locs) (hl : lv_has ls 2 []) (h : bX7_advances_174 σ Q) : W p l e { frames := 1, cells := 0, slots := 0, locals := 22 } s m args below meth c H locs 0 0 (MQ below (QV Y Q) args s 0 0 (AD Y)) (F0 m 174 ls [.ref (yA Y 92)]) := by
  obtain ⟨hx, hb, hr, hml, hown, hlk, hT, hK, hB⟩ := id M
  unfold bX7_advances_174 at h
  refine lv_iconst (v := 2) hx hb dX7_advances_174 (by decide) ?_
  exact tX7_advances_175 M hN 2 σ _ _ _ hw (lv_sub hl [] rfl) h
def bX7_advances_71 (R_71 : Int32 × St → Prop) (y1 : Int32) (σ : St) (Q : St → Prop) : Prop :=
  wX7_letterAt (σ.1 92 4) σ (fun r2 σ1 => wX7_in r2 48 57 σ1 (fun r4 σ3 => ((r4 = 0 → ((99 < (σ3.1 92 7) → bX7_advances_170 σ3 Q) ∧ (¬ 99 < (σ3.1 92 7) → ((y1 = 48 → ((((σ3.1 92 4) - (σ3.1 92 6)) ≤ 1 → bX7_advances_174 σ3 Q) ∧ (¬ ((σ3.1 92 4) - (σ3.1 92 6)) ≤ 1 → bX7_advances_170 σ3 Q))) ∧ (¬ y1 = 48 → bX7_advances_174 σ3 Q))))) ∧ (¬ r4 = 0 → (((σ3.1 92 7) ≤ 99 → wX7_letterAt (σ3.1 92 4) σ3 (fun r11 σ10 => bX7_advances_125 R_71 y1 (((10 * (σ3.1 92 7)) + r11) - 48) σ10 Q)) ∧ (¬ (σ3.1 92 7) ≤ 99 → bX7_advances_125 R_71 y1 (σ3.1 92 7) σ3 Q))))))
set_option maxHeartbeats 4000000 in
set_option maxRecDepth 100000 in
theorem tX7_advances_71 {R_71 : Int32 × St → Prop} {Q : St → Prop} (M : MC p s m args meth c cX7_advances 2 none RX7 Y) (hN : yN Y = 108) (hR_71 : ∀ (y1 : Int32) (σ : St) (H : Heap) (locs : List Loc) (ls : Array Slot), WS Y (AD Y) s.heap σ H locs → lv_has ls 2 [(0, .ref (yA Y 92)), (1, .int y1)] → R_71 (y1, σ) → W p l e { frames := 1, cells := 0, slots := 0, locals := 22 } s m args below meth c H locs 0 0 (MQ below (QV Y Q) args s 0 0 (AD Y)) (F0 m 71 ls [])) (y1 : Int32) (σ : St) (H : Heap) (locs : List Loc) (ls : Array Slot) (hw : WS Y (AD Y) s.heap σ H locs) (hl : lv_has ls 2 [(0, .ref (yA Y 92)), (1, .int y1)]) (h : bX7_advances_71 R_71 y1 σ Q) : W p l e { frames := 1, cells := 0, slots := 0, locals := 22 } s m args below meth c H locs 0 0 (MQ below (QV Y Q) args s 0 0 (AD Y)) (F0 m 71 ls []) := by
  obtain ⟨hx, hb, hr, hml, hown, hlk, hT, hK, hB⟩ := id M
  unfold bX7_advances_71 at h
  refine lv_aload_n hx hb dX7_advances_71 rfl (lv_at hl 0 rfl) ?_
  refine lv_aload_n hx hb dX7_advances_72 rfl (lv_at hl 0 rfl) ?_
  refine q_get (v := .int (σ.1 92 4)) M hw (ob_92 hN) rfl inq_7 4 (by decide) tw_639 rfl dX7_advances_73 ?_
  refine q_goI hw (q_runV (rest := []) M hw (ctX7_letterAt l hB hN (σ.1 92 4) σ _ h) mbX7_letterAt (ob_92 hN) rfl tw_733 rfl hl.1 rfl (Nat.le_of_ble_eq_true rfl) ⟨Nat.le_of_ble_eq_true rfl, Nat.le_of_ble_eq_true rfl⟩ ⟨Nat.le_refl _, Nat.le_refl _⟩ dX7_advances_76) (fun r2 σ1 H locs h hw => ?_)
  refine lv_bipush (v := 48) hx hb dX7_advances_79 (by decide) ?_
  refine lv_bipush (v := 57) hx hb dX7_advances_81 (by decide) ?_
  refine q_goI hw (q_runS (rest := []) M hw (ctX7_in l hB r2 48 57 σ1 _ h) mbX7_in tw_718 rfl hl.1 rfl (Nat.le_of_ble_eq_true rfl) ⟨Nat.le_of_ble_eq_true rfl, Nat.le_of_ble_eq_true rfl⟩ ⟨Nat.le_refl _, Nat.le_refl _⟩ dX7_advances_83) (fun r4 σ3 H locs h hw => ?_)
  refine lv_if_eq (tgt := 141) hx hb dX7_advances_86 (by decide) (fun c5 => ?_) (fun c5 => ?_)
  · have h := h.1 c5
    refine lv_aload_n hx hb dX7_advances_141 rfl (lv_at hl 0 rfl) ?_
    refine lv_aload_n hx hb dX7_advances_142 rfl (lv_at hl 0 rfl) ?_
    refine q_get (v := .int (σ3.1 92 7)) M hw (ob_92 hN) rfl inq_7 7 (by decide) tw_642 rfl dX7_advances_143 ?_
    refine lv_bipush (v := 99) hx hb dX7_advances_146 (by decide) ?_
    refine lv_icmp_gt (tgt := 170) hx hb dX7_advances_148 (by decide) (fun c6 => ?_) (fun c6 => ?_)
    · have h := h.1 c6
      exact tX7_advances_170 M hN σ3 _ _ _ hw (lv_sub hl [] rfl) h
    · have h := h.2 c6
      refine lv_iload_n hx hb dX7_advances_151 rfl (lv_at hl 1 rfl) ?_
      refine lv_bipush (v := 48) hx hb dX7_advances_152 (by decide) ?_
      refine lv_icmp_ne (tgt := 174) hx hb dX7_advances_154 (by decide) (fun c7 => ?_) (fun c7 => ?_)
      · have h := h.2 c7
        exact tX7_advances_174 M hN σ3 _ _ _ hw (lv_sub hl [] rfl) h
      · have h := h.1 c7
        refine lv_aload_n hx hb dX7_advances_157 rfl (lv_at hl 0 rfl) ?_
        refine q_get (v := .int (σ3.1 92 4)) M hw (ob_92 hN) rfl inq_7 4 (by decide) tw_639 rfl dX7_advances_158 ?_
        refine lv_aload_n hx hb dX7_advances_161 rfl (lv_at hl 0 rfl) ?_
        refine q_get (v := .int (σ3.1 92 6)) M hw (ob_92 hN) rfl inq_7 6 (by decide) tw_641 rfl dX7_advances_162 ?_
        refine lv_isub hx hb dX7_advances_165 ?_
        refine lv_iconst (v := 1) hx hb dX7_advances_166 (by decide) ?_
        refine lv_icmp_le (tgt := 174) hx hb dX7_advances_167 (by decide) (fun c8 => ?_) (fun c8 => ?_)
        · have h := h.1 c8
          exact tX7_advances_174 M hN σ3 _ _ _ hw (lv_sub hl [] rfl) h
        · have h := h.2 c8
          exact tX7_advances_170 M hN σ3 _ _ _ hw (lv_sub hl [] rfl) h
  · have h := h.2 c5
    refine lv_aload_n hx hb dX7_advances_89 rfl (lv_at hl 0 rfl) ?_
    refine lv_aload_n hx hb dX7_advances_90 rfl (lv_at hl 0 rfl) ?_
    refine q_get (v := .int (σ3.1 92 7)) M hw (ob_92 hN) rfl inq_7 7 (by decide) tw_642 rfl dX7_advances_91 ?_
    refine lv_bipush (v := 99) hx hb dX7_advances_94 (by decide) ?_
    refine lv_icmp_le (tgt := 106) hx hb dX7_advances_96 (by decide) (fun c9 => ?_) (fun c9 => ?_)
    · have h := h.1 c9
      refine lv_bipush (v := 10) hx hb dX7_advances_106 (by decide) ?_
      refine lv_aload_n hx hb dX7_advances_108 rfl (lv_at hl 0 rfl) ?_
      refine q_get (v := .int (σ3.1 92 7)) M hw (ob_92 hN) rfl inq_7 7 (by decide) tw_642 rfl dX7_advances_109 ?_
      refine lv_imul hx hb dX7_advances_112 ?_
      refine lv_aload_n hx hb dX7_advances_113 rfl (lv_at hl 0 rfl) ?_
      refine lv_aload_n hx hb dX7_advances_114 rfl (lv_at hl 0 rfl) ?_
      refine q_get (v := .int (σ3.1 92 4)) M hw (ob_92 hN) rfl inq_7 4 (by decide) tw_639 rfl dX7_advances_115 ?_
      refine q_goI hw (q_runV (rest := [.int (10 * (σ3.1 92 7)), .ref (yA Y 92)]) M hw (ctX7_letterAt l hB hN (σ3.1 92 4) σ3 _ h) mbX7_letterAt (ob_92 hN) rfl tw_733 rfl hl.1 rfl (Nat.le_of_ble_eq_true rfl) ⟨Nat.le_of_ble_eq_true rfl, Nat.le_of_ble_eq_true rfl⟩ ⟨Nat.le_refl _, Nat.le_refl _⟩ dX7_advances_118) (fun r11 σ10 H locs h hw => ?_)
      refine lv_iadd hx hb dX7_advances_121 ?_
      refine lv_bipush (v := 48) hx hb dX7_advances_122 (by decide) ?_
      refine lv_isub hx hb dX7_advances_124 ?_
      exact tX7_advances_125 M hN hR_71 y1 (((10 * (σ3.1 92 7)) + r11) - 48) σ10 _ _ _ hw (lv_sub hl [0, 1] rfl) h
    · have h := h.2 c9
      refine lv_aload_n hx hb dX7_advances_99 rfl (lv_at hl 0 rfl) ?_
      refine q_get (v := .int (σ3.1 92 7)) M hw (ob_92 hN) rfl inq_7 7 (by decide) tw_642 rfl dX7_advances_100 ?_
      refine lv_goto (tgt := 125) hx hb dX7_advances_103 (by decide) ?_
      exact tX7_advances_125 M hN hR_71 y1 (σ3.1 92 7) σ3 _ _ _ hw (lv_sub hl [0, 1] rfl) h
def lX7_advances_71 (Q : St → Prop) : (Int32 × St → Prop) → Int32 × St → Prop := fun R a => bX7_advances_71 R a.1 a.2 Q
theorem tlX7_advances_71 {Q : St → Prop} (M : MC p s m args meth c cX7_advances 2 none RX7 Y) (hN : yN Y = 108) (n : Nat) : ∀ (y1 : Int32) (σ : St) (H : Heap) (locs : List Loc) (ls : Array Slot) (hw : WS Y (AD Y) s.heap σ H locs) (hl : lv_has ls 2 [(0, .ref (yA Y 92)), (1, .int y1)]) (h : Lp (lX7_advances_71 Q) n (y1, σ)), W p l e { frames := 1, cells := 0, slots := 0, locals := 22 } s m args below meth c H locs 0 0 (MQ below (QV Y Q) args s 0 0 (AD Y)) (F0 m 71 ls []) := by
  induction n with
  | zero => intro y1 σ H locs ls hw hl h; exact h.elim
  | succ n ih =>
    intro y1 σ H locs ls hw hl h
    exact tX7_advances_71 M hN ih y1 σ H locs ls hw hl h
def bX7_advances_219 (z0 : Int32) (σ : St) (Q : St → Prop) : Prop :=
  (∀ σ1 : St, σ1 = up σ 92 5 z0 → Q σ1)
set_option maxHeartbeats 4000000 in
set_option maxRecDepth 100000 in
theorem tX7_advances_219 {Q : St → Prop} (M : MC p s m args meth c cX7_advances 2 none RX7 Y) (hN : yN Y = 108) (z0 : Int32) (σ : St) (H : Heap) (locs : List Loc) (ls : Array Slot) (hw : WS Y (AD Y) s.heap σ H locs) (hl : lv_has ls 2 []) (h : bX7_advances_219 z0 σ Q) : W p l e { frames := 1, cells := 0, slots := 0, locals := 22 } s m args below meth c H locs 0 0 (MQ below (QV Y Q) args s 0 0 (AD Y)) (F0 m 219 ls [.int z0, .ref (yA Y 92)]) := by
  obtain ⟨hx, hb, hr, hml, hown, hlk, hT, hK, hB⟩ := id M
  unfold bX7_advances_219 at h
  refine q_put (v := z0) M hw (ob_92 hN) rfl inq_7 tyX7 tyX7_ok nmX7 5 (by decide) tw_640 rfl rfl rfl (Nat.le_of_ble_eq_true rfl) (by simp [up, upd, f0]) dX7_advances_219 (fun σ1 H locs es hw => ?_)
  have h := h σ1 es
  exact q_vret M hw h dX7_advances_222
def bX7_advances_0 (R_0 : St → Prop) (σ : St) (Q : St → Prop) : Prop :=
  wX7_letterAt (σ.1 92 4) σ (fun r2 σ1 => ((r2 = 32 → (∀ σ19 : St, σ19 = up σ1 92 4 ((σ1.1 92 4) + 1) → R_0 σ19)) ∧ (¬ r2 = 32 → (∀ σ4 : St, σ4 = up σ1 92 6 (σ1.1 92 4) → wX7_letterAt (σ4.1 92 4) σ4 (fun r6 σ5 => ((0 ≤ r6 → wX7_in r6 48 57 σ5 (fun r9 σ8 => ((r9 = 0 → (∀ σ11 : St, σ11 = up σ8 92 4 ((σ8.1 92 4) + 1) → (∀ σ12 : St, σ12 = up σ11 92 7 r6 → ((r6 = 59 → bX7_advances_219 3 σ12 Q) ∧ (¬ r6 = 59 → wX7_isLetter r6 σ12 (fun r15 σ14 => ((r15 = 0 → bX7_advances_219 4 σ14 Q) ∧ (¬ r15 = 0 → bX7_advances_219 1 σ14 Q)))))))) ∧ (¬ r9 = 0 → (∀ σ17 : St, σ17 = up σ8 92 7 0 → ∃ n : Nat, Lp (lX7_advances_71 Q) n (r6, σ17)))))) ∧ (¬ 0 ≤ r6 → (∀ σ18 : St, σ18 = up σ5 92 5 0 → Q σ18))))))))
set_option maxHeartbeats 4000000 in
set_option maxRecDepth 100000 in
theorem tX7_advances_0 {R_0 : St → Prop} {Q : St → Prop} (M : MC p s m args meth c cX7_advances 2 none RX7 Y) (hN : yN Y = 108) (hR_0 : ∀ (σ : St) (H : Heap) (locs : List Loc) (ls : Array Slot), WS Y (AD Y) s.heap σ H locs → lv_has ls 2 [(0, .ref (yA Y 92))] → R_0 σ → W p l e { frames := 1, cells := 0, slots := 0, locals := 22 } s m args below meth c H locs 0 0 (MQ below (QV Y Q) args s 0 0 (AD Y)) (F0 m 0 ls []))  (σ : St) (H : Heap) (locs : List Loc) (ls : Array Slot) (hw : WS Y (AD Y) s.heap σ H locs) (hl : lv_has ls 2 [(0, .ref (yA Y 92))]) (h : bX7_advances_0 R_0 σ Q) : W p l e { frames := 1, cells := 0, slots := 0, locals := 22 } s m args below meth c H locs 0 0 (MQ below (QV Y Q) args s 0 0 (AD Y)) (F0 m 0 ls []) := by
  obtain ⟨hx, hb, hr, hml, hown, hlk, hT, hK, hB⟩ := id M
  unfold bX7_advances_0 at h
  refine lv_aload_n hx hb dX7_advances_0 rfl (lv_at hl 0 rfl) ?_
  refine lv_aload_n hx hb dX7_advances_1 rfl (lv_at hl 0 rfl) ?_
  refine q_get (v := .int (σ.1 92 4)) M hw (ob_92 hN) rfl inq_7 4 (by decide) tw_639 rfl dX7_advances_2 ?_
  refine q_goI hw (q_runV (rest := []) M hw (ctX7_letterAt l hB hN (σ.1 92 4) σ _ h) mbX7_letterAt (ob_92 hN) rfl tw_733 rfl hl.1 rfl (Nat.le_of_ble_eq_true rfl) ⟨Nat.le_of_ble_eq_true rfl, Nat.le_of_ble_eq_true rfl⟩ ⟨Nat.le_refl _, Nat.le_refl _⟩ dX7_advances_5) (fun r2 σ1 H locs h hw => ?_)
  refine lv_bipush (v := 32) hx hb dX7_advances_8 (by decide) ?_
  refine lv_icmp_ne (tgt := 26) hx hb dX7_advances_10 (by decide) (fun c3 => ?_) (fun c3 => ?_)
  · have h := h.2 c3
    refine lv_aload_n hx hb dX7_advances_26 rfl (lv_at hl 0 rfl) ?_
    refine lv_aload_n hx hb dX7_advances_27 rfl (lv_at hl 0 rfl) ?_
    refine q_get (v := .int (σ1.1 92 4)) M hw (ob_92 hN) rfl inq_7 4 (by decide) tw_639 rfl dX7_advances_28 ?_
    refine q_put (v := (σ1.1 92 4)) M hw (ob_92 hN) rfl inq_7 tyX7 tyX7_ok nmX7 6 (by decide) tw_641 rfl rfl rfl (Nat.le_of_ble_eq_true rfl) (by simp [up, upd, f0]) dX7_advances_31 (fun σ4 H locs es hw => ?_)
    have h := h σ4 es
    refine lv_aload_n hx hb dX7_advances_34 rfl (lv_at hl 0 rfl) ?_
    refine lv_aload_n hx hb dX7_advances_35 rfl (lv_at hl 0 rfl) ?_
    refine q_get (v := .int (σ4.1 92 4)) M hw (ob_92 hN) rfl inq_7 4 (by decide) tw_639 rfl dX7_advances_36 ?_
    refine q_goI hw (q_runV (rest := []) M hw (ctX7_letterAt l hB hN (σ4.1 92 4) σ4 _ h) mbX7_letterAt (ob_92 hN) rfl tw_733 rfl hl.1 rfl (Nat.le_of_ble_eq_true rfl) ⟨Nat.le_of_ble_eq_true rfl, Nat.le_of_ble_eq_true rfl⟩ ⟨Nat.le_refl _, Nat.le_refl _⟩ dX7_advances_39) (fun r6 σ5 H locs h hw => ?_)
    refine lv_istore_n (lv' := [(1, .int r6), (0, .ref (yA Y 92))]) hx hb dX7_advances_42 rfl hl (by decide) rfl (fun ls hl => ?_)
    refine lv_iload_n hx hb dX7_advances_43 rfl (lv_at hl 0 rfl) ?_
    refine lv_if_ge (tgt := 55) hx hb dX7_advances_44 (by decide) (fun c7 => ?_) (fun c7 => ?_)
    · have h := h.1 c7
      refine lv_iload_n hx hb dX7_advances_55 rfl (lv_at hl 0 rfl) ?_
      refine lv_bipush (v := 48) hx hb dX7_advances_56 (by decide) ?_
      refine lv_bipush (v := 57) hx hb dX7_advances_58 (by decide) ?_
      refine q_goI hw (q_runS (rest := []) M hw (ctX7_in l hB r6 48 57 σ5 _ h) mbX7_in tw_718 rfl hl.1 rfl (Nat.le_of_ble_eq_true rfl) ⟨Nat.le_of_ble_eq_true rfl, Nat.le_of_ble_eq_true rfl⟩ ⟨Nat.le_refl _, Nat.le_refl _⟩ dX7_advances_60) (fun r9 σ8 H locs h hw => ?_)
      refine lv_if_eq (tgt := 181) hx hb dX7_advances_63 (by decide) (fun c10 => ?_) (fun c10 => ?_)
      · have h := h.1 c10
        refine lv_aload_n hx hb dX7_advances_181 rfl (lv_at hl 1 rfl) ?_
        refine lv_dup hx hb dX7_advances_182 rfl ?_
        refine q_get (v := .int (σ8.1 92 4)) M hw (ob_92 hN) rfl inq_7 4 (by decide) tw_639 rfl dX7_advances_183 ?_
        refine lv_iconst (v := 1) hx hb dX7_advances_186 (by decide) ?_
        refine lv_iadd hx hb dX7_advances_187 ?_
        refine q_put (v := ((σ8.1 92 4) + 1)) M hw (ob_92 hN) rfl inq_7 tyX7 tyX7_ok nmX7 4 (by decide) tw_639 rfl rfl rfl (Nat.le_of_ble_eq_true rfl) (by simp [up, upd, f0]) dX7_advances_188 (fun σ11 H locs es hw => ?_)
        have h := h σ11 es
        refine lv_aload_n hx hb dX7_advances_191 rfl (lv_at hl 1 rfl) ?_
        refine lv_iload_n hx hb dX7_advances_192 rfl (lv_at hl 0 rfl) ?_
        refine q_put (v := r6) M hw (ob_92 hN) rfl inq_7 tyX7 tyX7_ok nmX7 7 (by decide) tw_642 rfl rfl rfl (Nat.le_of_ble_eq_true rfl) (by simp [up, upd, f0]) dX7_advances_193 (fun σ12 H locs es hw => ?_)
        have h := h σ12 es
        refine lv_aload_n hx hb dX7_advances_196 rfl (lv_at hl 1 rfl) ?_
        refine lv_iload_n hx hb dX7_advances_197 rfl (lv_at hl 0 rfl) ?_
        refine lv_bipush (v := 59) hx hb dX7_advances_198 (by decide) ?_
        refine lv_icmp_ne (tgt := 207) hx hb dX7_advances_200 (by decide) (fun c13 => ?_) (fun c13 => ?_)
        · have h := h.2 c13
          refine lv_iload_n hx hb dX7_advances_207 rfl (lv_at hl 0 rfl) ?_
          refine q_goI hw (q_runS (rest := [.ref (yA Y 92)]) M hw (ctX7_isLetter l hB r6 σ12 _ h) mbX7_isLetter tw_737 rfl hl.1 rfl (Nat.le_of_ble_eq_true rfl) ⟨Nat.le_of_ble_eq_true rfl, Nat.le_of_ble_eq_true rfl⟩ ⟨Nat.le_refl _, Nat.le_refl _⟩ dX7_advances_208) (fun r15 σ14 H locs h hw => ?_)
          refine lv_if_eq (tgt := 218) hx hb dX7_advances_211 (by decide) (fun c16 => ?_) (fun c16 => ?_)
          · have h := h.1 c16
            refine lv_iconst (v := 4) hx hb dX7_advances_218 (by decide) ?_
            exact tX7_advances_219 M hN 4 σ14 _ _ _ hw (lv_sub hl [] rfl) h
          · have h := h.2 c16
            refine lv_iconst (v := 1) hx hb dX7_advances_214 (by decide) ?_
            refine lv_goto (tgt := 219) hx hb dX7_advances_215 (by decide) ?_
            exact tX7_advances_219 M hN 1 σ14 _ _ _ hw (lv_sub hl [] rfl) h
        · have h := h.1 c13
          refine lv_iconst (v := 3) hx hb dX7_advances_203 (by decide) ?_
          refine lv_goto (tgt := 219) hx hb dX7_advances_204 (by decide) ?_
          exact tX7_advances_219 M hN 3 σ12 _ _ _ hw (lv_sub hl [] rfl) h
      · have h := h.2 c10
        refine lv_aload_n hx hb dX7_advances_66 rfl (lv_at hl 1 rfl) ?_
        refine lv_iconst (v := 0) hx hb dX7_advances_67 (by decide) ?_
        refine q_put (v := 0) M hw (ob_92 hN) rfl inq_7 tyX7 tyX7_ok nmX7 7 (by decide) tw_642 rfl rfl rfl (Nat.le_of_ble_eq_true rfl) (by simp [up, upd, f0]) dX7_advances_68 (fun σ17 H locs es hw => ?_)
        have h := h σ17 es
        obtain ⟨n, h⟩ := h
        exact tlX7_advances_71 M hN n r6 σ17 _ _ _ hw (lv_sub hl [1, 0] rfl) h
    · have h := h.2 c7
      refine lv_aload_n hx hb dX7_advances_47 rfl (lv_at hl 1 rfl) ?_
      refine lv_iconst (v := 0) hx hb dX7_advances_48 (by decide) ?_
      refine q_put (v := 0) M hw (ob_92 hN) rfl inq_7 tyX7 tyX7_ok nmX7 5 (by decide) tw_640 rfl rfl rfl (Nat.le_of_ble_eq_true rfl) (by simp [up, upd, f0]) dX7_advances_49 (fun σ18 H locs es hw => ?_)
      have h := h σ18 es
      refine lv_goto (tgt := 222) hx hb dX7_advances_52 (by decide) ?_
      exact q_vret M hw h dX7_advances_222
  · have h := h.1 c3
    refine lv_aload_n hx hb dX7_advances_13 rfl (lv_at hl 0 rfl) ?_
    refine lv_dup hx hb dX7_advances_14 rfl ?_
    refine q_get (v := .int (σ1.1 92 4)) M hw (ob_92 hN) rfl inq_7 4 (by decide) tw_639 rfl dX7_advances_15 ?_
    refine lv_iconst (v := 1) hx hb dX7_advances_18 (by decide) ?_
    refine lv_iadd hx hb dX7_advances_19 ?_
    refine q_put (v := ((σ1.1 92 4) + 1)) M hw (ob_92 hN) rfl inq_7 tyX7 tyX7_ok nmX7 4 (by decide) tw_639 rfl rfl rfl (Nat.le_of_ble_eq_true rfl) (by simp [up, upd, f0]) dX7_advances_20 (fun σ19 H locs es hw => ?_)
    have h := h σ19 es
    refine lv_goto (tgt := 0) hx hb dX7_advances_23 (by decide) ?_
    exact hR_0 σ19 _ _ _ hw (lv_sub hl [0] rfl) h
def lX7_advances_0 (Q : St → Prop) : (St → Prop) → St → Prop := fun R a => bX7_advances_0 R a Q
theorem tlX7_advances_0 {Q : St → Prop} (M : MC p s m args meth c cX7_advances 2 none RX7 Y) (hN : yN Y = 108) (n : Nat) : ∀  (σ : St) (H : Heap) (locs : List Loc) (ls : Array Slot) (hw : WS Y (AD Y) s.heap σ H locs) (hl : lv_has ls 2 [(0, .ref (yA Y 92))]) (h : Lp (lX7_advances_0 Q) n σ), W p l e { frames := 1, cells := 0, slots := 0, locals := 22 } s m args below meth c H locs 0 0 (MQ below (QV Y Q) args s 0 0 (AD Y)) (F0 m 0 ls []) := by
  induction n with
  | zero => intro  σ H locs ls hw hl h; exact h.elim
  | succ n ih =>
    intro  σ H locs ls hw hl h
    exact tX7_advances_0 M hN ih  σ H locs ls hw hl h
def wX7_advances (σ : St) (Q : St → Prop) : Prop :=
  ∃ n : Nat, Lp (lX7_advances_0 Q) n σ
set_option maxHeartbeats 4000000 in
set_option maxRecDepth 100000 in
theorem tX7_advances_E {Q : St → Prop} (M : MC p s m args meth c cX7_advances 2 none RX7 Y) (hN : yN Y = 108)  (σ : St) (H : Heap) (locs : List Loc) (ls : Array Slot) (hw : WS Y (AD Y) s.heap σ H locs) (hl : lv_has ls 2 [(0, .ref (yA Y 92))]) (h : wX7_advances σ Q) : W p l e { frames := 1, cells := 0, slots := 0, locals := 22 } s m args below meth c H locs 0 0 (MQ below (QV Y Q) args s 0 0 (AD Y)) (F0 m 0 ls []) := by
  obtain ⟨hx, hb, hr, hml, hown, hlk, hT, hK, hB⟩ := id M
  unfold wX7_advances at h
  obtain ⟨n, h⟩ := h
  exact tlX7_advances_0 M hN n σ _ _ _ hw (lv_sub hl [0] rfl) h
set_option maxRecDepth 100000 in
theorem ctX7_advances (l : Launch) {Y : LY} (hB : YB Y) (hN : yN Y = 108) (σ : St) (Q : St → Prop) (h : wX7_advances σ Q) : CT l yX7_advances (Cond.code yX7_advances cX7_advances 2 none) { frames := 1, cells := 0, slots := 0, locals := 22 } Y [.ref (yA Y 92)] σ (QV Y Q) :=
  q_ent hB (by decide +kernel) (Nat.le_of_ble_eq_true rfl) (fun p e s m below meth c ls M hw hl => tX7_advances_E M hN σ _ _ ls hw hl h)
theorem mbX7_advances : MB RX7 yX7_advances cX7_advances 0 2 none := ⟨tw_731, tw_30, tw_56, tw_732, by decide +kernel⟩
end
section
variable {p : Program} {l : Launch} {e : Env} {s : State} {m : MethodId} {args : Array Value} {below : List Frame} {meth : Method} {c : Code} {Y : LY}
theorem dX7_isWell_0 : decode cX7_isWell 0 = .ok (.aload_n 0, 1) := by decide +kernel
theorem dX7_isWell_1 : decode cX7_isWell 1 = .ok (.getfield 93, 3) := by decide +kernel
theorem dX7_isWell_4 : decode cX7_isWell 4 = .ok (.ifCond .ge 7, 3) := by decide +kernel
theorem dX7_isWell_7 : decode cX7_isWell 7 = .ok (.iconst 1, 1) := by decide +kernel
theorem dX7_isWell_8 : decode cX7_isWell 8 = .ok (.goto 4, 3) := by decide +kernel
theorem dX7_isWell_11 : decode cX7_isWell 11 = .ok (.iconst 0, 1) := by decide +kernel
theorem dX7_isWell_12 : decode cX7_isWell 12 = .ok (.ireturn, 1) := by decide +kernel
def wX7_isWell (σ : St) (Q : Int32 → St → Prop) : Prop :=
  ((0 ≤ (σ.1 92 8) → Q 0 σ) ∧ (¬ 0 ≤ (σ.1 92 8) → Q 1 σ))
set_option maxHeartbeats 4000000 in
set_option maxRecDepth 100000 in
theorem tX7_isWell_E {Q : Int32 → St → Prop} (M : MC p s m args meth c cX7_isWell 1 (some .boolean) RX7 Y) (hN : yN Y = 108)  (σ : St) (H : Heap) (locs : List Loc) (ls : Array Slot) (hw : WS Y (AD Y) s.heap σ H locs) (hl : lv_has ls 1 [(0, .ref (yA Y 92))]) (h : wX7_isWell σ Q) : W p l e { frames := 0, cells := 0, slots := 0, locals := 0 } s m args below meth c H locs 0 0 (MQ below (QI Y Q) args s 0 0 (AD Y)) (F0 m 0 ls []) := by
  obtain ⟨hx, hb, hr, hml, hown, hlk, hT, hK, hB⟩ := id M
  unfold wX7_isWell at h
  refine lv_aload_n hx hb dX7_isWell_0 rfl (lv_at hl 0 rfl) ?_
  refine q_get (v := .int (σ.1 92 8)) M hw (ob_92 hN) rfl inq_7 8 (by decide) tw_643 rfl dX7_isWell_1 ?_
  refine lv_if_ge (tgt := 11) hx hb dX7_isWell_4 (by decide) (fun c1 => ?_) (fun c1 => ?_)
  · have h := h.1 c1
    refine lv_iconst (v := 0) hx hb dX7_isWell_11 (by decide) ?_
    exact q_zret M hw (by decide) h dX7_isWell_12
  · have h := h.2 c1
    refine lv_iconst (v := 1) hx hb dX7_isWell_7 (by decide) ?_
    refine lv_goto (tgt := 12) hx hb dX7_isWell_8 (by decide) ?_
    exact q_zret M hw (by decide) h dX7_isWell_12
set_option maxRecDepth 100000 in
theorem ctX7_isWell (l : Launch) {Y : LY} (hB : YB Y) (hN : yN Y = 108) (σ : St) (Q : Int32 → St → Prop) (h : wX7_isWell σ Q) : CT l yX7_isWell (Cond.code yX7_isWell cX7_isWell 1 (some .boolean)) { frames := 0, cells := 0, slots := 0, locals := 0 } Y [.ref (yA Y 92)] σ (QI Y Q) :=
  q_ent hB (by decide +kernel) (Nat.le_of_ble_eq_true rfl) (fun p e s m below meth c ls M hw hl => tX7_isWell_E M hN σ _ _ ls hw hl h)
theorem mbX7_isWell : MB RX7 yX7_isWell cX7_isWell 0 1 (some .boolean) := ⟨tw_742, tw_32, tw_56, tw_743, by decide +kernel⟩
end
section
variable {p : Program} {l : Launch} {e : Env} {s : State} {m : MethodId} {args : Array Value} {below : List Frame} {meth : Method} {c : Code} {Y : LY}
theorem dX7_takes_0 : decode cX7_takes 0 = .ok (.aload_n 0, 1) := by decide +kernel
theorem dX7_takes_1 : decode cX7_takes 1 = .ok (.invokevirtual 96, 3) := by decide +kernel
theorem dX7_takes_4 : decode cX7_takes 4 = .ok (.ifCond .ne 5, 3) := by decide +kernel
theorem dX7_takes_7 : decode cX7_takes 7 = .ok (.iconst 0, 1) := by decide +kernel
theorem dX7_takes_8 : decode cX7_takes 8 = .ok (.ireturn, 1) := by decide +kernel
theorem dX7_takes_9 : decode cX7_takes 9 = .ok (.iload_n 1, 1) := by decide +kernel
theorem dX7_takes_10 : decode cX7_takes 10 = .ok (.ifCond .ne 13, 3) := by decide +kernel
theorem dX7_takes_13 : decode cX7_takes 13 = .ok (.aload_n 0, 1) := by decide +kernel
theorem dX7_takes_14 : decode cX7_takes 14 = .ok (.aload_n 0, 1) := by decide +kernel
theorem dX7_takes_15 : decode cX7_takes 15 = .ok (.getfield 80, 3) := by decide +kernel
theorem dX7_takes_18 : decode cX7_takes 18 = .ok (.putfield 93, 3) := by decide +kernel
theorem dX7_takes_21 : decode cX7_takes 21 = .ok (.iconst 0, 1) := by decide +kernel
theorem dX7_takes_22 : decode cX7_takes 22 = .ok (.ireturn, 1) := by decide +kernel
theorem dX7_takes_23 : decode cX7_takes 23 = .ok (.aload_n 0, 1) := by decide +kernel
theorem dX7_takes_24 : decode cX7_takes 24 = .ok (.getfield 86, 3) := by decide +kernel
theorem dX7_takes_27 : decode cX7_takes 27 = .ok (.istore_n 2, 1) := by decide +kernel
theorem dX7_takes_28 : decode cX7_takes 28 = .ok (.aload_n 0, 1) := by decide +kernel
theorem dX7_takes_29 : decode cX7_takes 29 = .ok (.invokevirtual 100, 3) := by decide +kernel
theorem dX7_takes_32 : decode cX7_takes 32 = .ok (.iload_n 2, 1) := by decide +kernel
theorem dX7_takes_33 : decode cX7_takes 33 = .ok (.ireturn, 1) := by decide +kernel
def wX7_takes (a0 : Int32) (σ : St) (Q : Int32 → St → Prop) : Prop :=
  wX7_isWell σ (fun r2 σ1 => ((r2 = 0 → Q 0 σ1) ∧ (¬ r2 = 0 → ((a0 = 0 → (∀ σ7 : St, σ7 = up σ1 92 8 (σ1.1 92 6) → Q 0 σ7)) ∧ (¬ a0 = 0 → (∀ x5 : Int32, x5 = (σ1.1 92 7) → wX7_advances σ1 (fun σ6 => Q x5 σ6)))))))
set_option maxHeartbeats 4000000 in
set_option maxRecDepth 100000 in
theorem tX7_takes_E {Q : Int32 → St → Prop} (M : MC p s m args meth c cX7_takes 3 (some .int) RX7 Y) (hN : yN Y = 108) (a0 : Int32) (σ : St) (H : Heap) (locs : List Loc) (ls : Array Slot) (hw : WS Y (AD Y) s.heap σ H locs) (hl : lv_has ls 3 [(0, .ref (yA Y 92)), (1, .int a0)]) (h : wX7_takes a0 σ Q) : W p l e { frames := 2, cells := 0, slots := 0, locals := 43 } s m args below meth c H locs 0 0 (MQ below (QI Y Q) args s 0 0 (AD Y)) (F0 m 0 ls []) := by
  obtain ⟨hx, hb, hr, hml, hown, hlk, hT, hK, hB⟩ := id M
  unfold wX7_takes at h
  refine lv_aload_n hx hb dX7_takes_0 rfl (lv_at hl 0 rfl) ?_
  refine q_goI hw (q_runV (rest := []) M hw (ctX7_isWell l hB hN σ _ h) mbX7_isWell (ob_92 hN) rfl tw_740 rfl hl.1 rfl (Nat.le_of_ble_eq_true rfl) ⟨Nat.le_of_ble_eq_true rfl, Nat.le_of_ble_eq_true rfl⟩ ⟨Nat.le_refl _, Nat.le_refl _⟩ dX7_takes_1) (fun r2 σ1 H locs h hw => ?_)
  refine lv_if_ne (tgt := 9) hx hb dX7_takes_4 (by decide) (fun c3 => ?_) (fun c3 => ?_)
  · have h := h.2 c3
    refine lv_iload_n hx hb dX7_takes_9 rfl (lv_at hl 1 rfl) ?_
    refine lv_if_ne (tgt := 23) hx hb dX7_takes_10 (by decide) (fun c4 => ?_) (fun c4 => ?_)
    · have h := h.2 c4
      refine lv_aload_n hx hb dX7_takes_23 rfl (lv_at hl 0 rfl) ?_
      refine q_get (v := .int (σ1.1 92 7)) M hw (ob_92 hN) rfl inq_7 7 (by decide) tw_642 rfl dX7_takes_24 ?_
      refine lv_topi (fun x5 ex5 => ?_)
      have h := h x5 ex5
      refine lv_istore_n (lv' := [(2, .int x5), (0, .ref (yA Y 92)), (1, .int a0)]) hx hb dX7_takes_27 rfl hl (by decide) rfl (fun ls hl => ?_)
      refine lv_aload_n hx hb dX7_takes_28 rfl (lv_at hl 1 rfl) ?_
      refine q_goV hw (q_runV (rest := []) M hw (ctX7_advances l hB hN σ1 _ h) mbX7_advances (ob_92 hN) rfl tw_729 rfl hl.1 rfl (Nat.le_of_ble_eq_true rfl) ⟨Nat.le_of_ble_eq_true rfl, Nat.le_of_ble_eq_true rfl⟩ ⟨Nat.le_refl _, Nat.le_refl _⟩ dX7_takes_29) (fun σ6 H locs h hw => ?_)
      refine lv_iload_n hx hb dX7_takes_32 rfl (lv_at hl 0 rfl) ?_
      exact q_iret M hw h dX7_takes_33
    · have h := h.1 c4
      refine lv_aload_n hx hb dX7_takes_13 rfl (lv_at hl 0 rfl) ?_
      refine lv_aload_n hx hb dX7_takes_14 rfl (lv_at hl 0 rfl) ?_
      refine q_get (v := .int (σ1.1 92 6)) M hw (ob_92 hN) rfl inq_7 6 (by decide) tw_641 rfl dX7_takes_15 ?_
      refine q_put (v := (σ1.1 92 6)) M hw (ob_92 hN) rfl inq_7 tyX7 tyX7_ok nmX7 8 (by decide) tw_643 rfl rfl rfl (Nat.le_of_ble_eq_true rfl) (by simp [up, upd, f0]) dX7_takes_18 (fun σ7 H locs es hw => ?_)
      have h := h σ7 es
      refine lv_iconst (v := 0) hx hb dX7_takes_21 (by decide) ?_
      exact q_iret M hw h dX7_takes_22
  · have h := h.1 c3
    refine lv_iconst (v := 0) hx hb dX7_takes_7 (by decide) ?_
    exact q_iret M hw h dX7_takes_8
set_option maxRecDepth 100000 in
theorem ctX7_takes (l : Launch) {Y : LY} (hB : YB Y) (hN : yN Y = 108) (a0 : Int32) (σ : St) (Q : Int32 → St → Prop) (h : wX7_takes a0 σ Q) : CT l yX7_takes (Cond.code yX7_takes cX7_takes 3 (some .int)) { frames := 2, cells := 0, slots := 0, locals := 43 } Y [.ref (yA Y 92), .int a0] σ (QI Y Q) :=
  q_ent hB (by decide +kernel) (Nat.le_of_ble_eq_true rfl) (fun p e s m below meth c ls M hw hl => tX7_takes_E M hN a0 σ _ _ ls hw hl h)
theorem mbX7_takes : MB RX7 yX7_takes cX7_takes 1 3 (some .int) := ⟨tw_750, tw_34, tw_56, tw_751, by decide +kernel⟩
end
section
variable {p : Program} {l : Launch} {e : Env} {s : State} {m : MethodId} {args : Array Value} {below : List Frame} {meth : Method} {c : Code} {Y : LY}
theorem dX7_number_0 : decode cX7_number 0 = .ok (.aload_n 0, 1) := by decide +kernel
theorem dX7_number_1 : decode cX7_number 1 = .ok (.aload_n 0, 1) := by decide +kernel
theorem dX7_number_2 : decode cX7_number 2 = .ok (.getfield 83, 3) := by decide +kernel
theorem dX7_number_5 : decode cX7_number 5 = .ok (.iconst 2, 1) := by decide +kernel
theorem dX7_number_6 : decode cX7_number 6 = .ok (.if_icmp .ne 19, 3) := by decide +kernel
theorem dX7_number_9 : decode cX7_number 9 = .ok (.aload_n 0, 1) := by decide +kernel
theorem dX7_number_10 : decode cX7_number 10 = .ok (.getfield 86, 3) := by decide +kernel
theorem dX7_number_13 : decode cX7_number 13 = .ok (.iload_n 1, 1) := by decide +kernel
theorem dX7_number_14 : decode cX7_number 14 = .ok (.iload_n 2, 1) := by decide +kernel
theorem dX7_number_15 : decode cX7_number 15 = .ok (.invokestatic 66, 3) := by decide +kernel
theorem dX7_number_18 : decode cX7_number 18 = .ok (.ifCond .eq 7, 3) := by decide +kernel
theorem dX7_number_21 : decode cX7_number 21 = .ok (.iconst 1, 1) := by decide +kernel
theorem dX7_number_22 : decode cX7_number 22 = .ok (.goto 4, 3) := by decide +kernel
theorem dX7_number_25 : decode cX7_number 25 = .ok (.iconst 0, 1) := by decide +kernel
theorem dX7_number_26 : decode cX7_number 26 = .ok (.invokevirtual 103, 3) := by decide +kernel
theorem dX7_number_29 : decode cX7_number 29 = .ok (.ireturn, 1) := by decide +kernel
def bX7_number_26 (z0 : Int32) (σ : St) (Q : Int32 → St → Prop) : Prop :=
  wX7_takes z0 σ (fun r2 σ1 => Q r2 σ1)
set_option maxHeartbeats 4000000 in
set_option maxRecDepth 100000 in
theorem tX7_number_26 {Q : Int32 → St → Prop} (M : MC p s m args meth c cX7_number 3 (some .int) RX7 Y) (hN : yN Y = 108) (z0 : Int32) (σ : St) (H : Heap) (locs : List Loc) (ls : Array Slot) (hw : WS Y (AD Y) s.heap σ H locs) (hl : lv_has ls 3 []) (h : bX7_number_26 z0 σ Q) : W p l e { frames := 3, cells := 0, slots := 0, locals := 65 } s m args below meth c H locs 0 0 (MQ below (QI Y Q) args s 0 0 (AD Y)) (F0 m 26 ls [.int z0, .ref (yA Y 92)]) := by
  obtain ⟨hx, hb, hr, hml, hown, hlk, hT, hK, hB⟩ := id M
  unfold bX7_number_26 at h
  refine q_goI hw (q_runV (rest := []) M hw (ctX7_takes l hB hN z0 σ _ h) mbX7_takes (ob_92 hN) rfl tw_748 rfl hl.1 rfl (Nat.le_of_ble_eq_true rfl) ⟨Nat.le_of_ble_eq_true rfl, Nat.le_of_ble_eq_true rfl⟩ ⟨Nat.le_refl _, Nat.le_refl _⟩ dX7_number_26) (fun r2 σ1 H locs h hw => ?_)
  exact q_iret M hw h dX7_number_29
def bX7_number_25 (σ : St) (Q : Int32 → St → Prop) : Prop :=
  bX7_number_26 0 σ Q
set_option maxHeartbeats 4000000 in
set_option maxRecDepth 100000 in
theorem tX7_number_25 {Q : Int32 → St → Prop} (M : MC p s m args meth c cX7_number 3 (some .int) RX7 Y) (hN : yN Y = 108)  (σ : St) (H : Heap) (locs : List Loc) (ls : Array Slot) (hw : WS Y (AD Y) s.heap σ H locs) (hl : lv_has ls 3 []) (h : bX7_number_25 σ Q) : W p l e { frames := 3, cells := 0, slots := 0, locals := 65 } s m args below meth c H locs 0 0 (MQ below (QI Y Q) args s 0 0 (AD Y)) (F0 m 25 ls [.ref (yA Y 92)]) := by
  obtain ⟨hx, hb, hr, hml, hown, hlk, hT, hK, hB⟩ := id M
  unfold bX7_number_25 at h
  refine lv_iconst (v := 0) hx hb dX7_number_25 (by decide) ?_
  exact tX7_number_26 M hN 0 σ _ _ _ hw (lv_sub hl [] rfl) h
def wX7_number (a0 : Int32) (a1 : Int32) (σ : St) (Q : Int32 → St → Prop) : Prop :=
  (((σ.1 92 5) = 2 → wX7_in (σ.1 92 7) a0 a1 σ (fun r3 σ2 => ((r3 = 0 → bX7_number_25 σ2 Q) ∧ (¬ r3 = 0 → bX7_number_26 1 σ2 Q)))) ∧ (¬ (σ.1 92 5) = 2 → bX7_number_25 σ Q))
set_option maxHeartbeats 4000000 in
set_option maxRecDepth 100000 in
theorem tX7_number_E {Q : Int32 → St → Prop} (M : MC p s m args meth c cX7_number 3 (some .int) RX7 Y) (hN : yN Y = 108) (a0 : Int32) (a1 : Int32) (σ : St) (H : Heap) (locs : List Loc) (ls : Array Slot) (hw : WS Y (AD Y) s.heap σ H locs) (hl : lv_has ls 3 [(0, .ref (yA Y 92)), (1, .int a0), (2, .int a1)]) (h : wX7_number a0 a1 σ Q) : W p l e { frames := 3, cells := 0, slots := 0, locals := 65 } s m args below meth c H locs 0 0 (MQ below (QI Y Q) args s 0 0 (AD Y)) (F0 m 0 ls []) := by
  obtain ⟨hx, hb, hr, hml, hown, hlk, hT, hK, hB⟩ := id M
  unfold wX7_number at h
  refine lv_aload_n hx hb dX7_number_0 rfl (lv_at hl 0 rfl) ?_
  refine lv_aload_n hx hb dX7_number_1 rfl (lv_at hl 0 rfl) ?_
  refine q_get (v := .int (σ.1 92 5)) M hw (ob_92 hN) rfl inq_7 5 (by decide) tw_640 rfl dX7_number_2 ?_
  refine lv_iconst (v := 2) hx hb dX7_number_5 (by decide) ?_
  refine lv_icmp_ne (tgt := 25) hx hb dX7_number_6 (by decide) (fun c1 => ?_) (fun c1 => ?_)
  · have h := h.2 c1
    exact tX7_number_25 M hN σ _ _ _ hw (lv_sub hl [] rfl) h
  · have h := h.1 c1
    refine lv_aload_n hx hb dX7_number_9 rfl (lv_at hl 0 rfl) ?_
    refine q_get (v := .int (σ.1 92 7)) M hw (ob_92 hN) rfl inq_7 7 (by decide) tw_642 rfl dX7_number_10 ?_
    refine lv_iload_n hx hb dX7_number_13 rfl (lv_at hl 1 rfl) ?_
    refine lv_iload_n hx hb dX7_number_14 rfl (lv_at hl 2 rfl) ?_
    refine q_goI hw (q_runS (rest := [.ref (yA Y 92)]) M hw (ctX7_in l hB (σ.1 92 7) a0 a1 σ _ h) mbX7_in tw_718 rfl hl.1 rfl (Nat.le_of_ble_eq_true rfl) ⟨Nat.le_of_ble_eq_true rfl, Nat.le_of_ble_eq_true rfl⟩ ⟨Nat.le_refl _, Nat.le_refl _⟩ dX7_number_15) (fun r3 σ2 H locs h hw => ?_)
    refine lv_if_eq (tgt := 25) hx hb dX7_number_18 (by decide) (fun c4 => ?_) (fun c4 => ?_)
    · have h := h.1 c4
      exact tX7_number_25 M hN σ2 _ _ _ hw (lv_sub hl [] rfl) h
    · have h := h.2 c4
      refine lv_iconst (v := 1) hx hb dX7_number_21 (by decide) ?_
      refine lv_goto (tgt := 26) hx hb dX7_number_22 (by decide) ?_
      exact tX7_number_26 M hN 1 σ2 _ _ _ hw (lv_sub hl [] rfl) h
set_option maxRecDepth 100000 in
theorem ctX7_number (l : Launch) {Y : LY} (hB : YB Y) (hN : yN Y = 108) (a0 : Int32) (a1 : Int32) (σ : St) (Q : Int32 → St → Prop) (h : wX7_number a0 a1 σ Q) : CT l yX7_number (Cond.code yX7_number cX7_number 3 (some .int)) { frames := 3, cells := 0, slots := 0, locals := 65 } Y [.ref (yA Y 92), .int a0, .int a1] σ (QI Y Q) :=
  q_ent hB (by decide +kernel) (Nat.le_of_ble_eq_true rfl) (fun p e s m below meth c ls M hw hl => tX7_number_E M hN a0 a1 σ _ _ ls hw hl h)
theorem mbX7_number : MB RX7 yX7_number cX7_number 2 3 (some .int) := ⟨tw_758, tw_36, tw_56, tw_759, by decide +kernel⟩
end
section
variable {p : Program} {l : Launch} {e : Env} {s : State} {m : MethodId} {args : Array Value} {below : List Frame} {meth : Method} {c : Code} {Y : LY}
theorem dX7_begins_0 : decode cX7_begins 0 = .ok (.aload_n 0, 1) := by decide +kernel
theorem dX7_begins_1 : decode cX7_begins 1 = .ok (.iconst 0, 1) := by decide +kernel
theorem dX7_begins_2 : decode cX7_begins 2 = .ok (.putfield 107, 3) := by decide +kernel
theorem dX7_begins_5 : decode cX7_begins 5 = .ok (.aload_n 0, 1) := by decide +kernel
theorem dX7_begins_6 : decode cX7_begins 6 = .ok (.getfield 13, 3) := by decide +kernel
theorem dX7_begins_9 : decode cX7_begins 9 = .ok (.iconst 4, 1) := by decide +kernel
theorem dX7_begins_10 : decode cX7_begins 10 = .ok (.iconst 0, 1) := by decide +kernel
theorem dX7_begins_11 : decode cX7_begins 11 = .ok (.iastore, 1) := by decide +kernel
theorem dX7_begins_12 : decode cX7_begins 12 = .ok (.aload_n 0, 1) := by decide +kernel
theorem dX7_begins_13 : decode cX7_begins 13 = .ok (.getfield 13, 3) := by decide +kernel
theorem dX7_begins_16 : decode cX7_begins 16 = .ok (.iconst 5, 1) := by decide +kernel
theorem dX7_begins_17 : decode cX7_begins 17 = .ok (.iconst 0, 1) := by decide +kernel
theorem dX7_begins_18 : decode cX7_begins 18 = .ok (.iastore, 1) := by decide +kernel
theorem dX7_begins_19 : decode cX7_begins 19 = .ok (.aload_n 0, 1) := by decide +kernel
theorem dX7_begins_20 : decode cX7_begins 20 = .ok (.getfield 13, 3) := by decide +kernel
theorem dX7_begins_23 : decode cX7_begins 23 = .ok (.bipush 6, 2) := by decide +kernel
theorem dX7_begins_25 : decode cX7_begins 25 = .ok (.iconst 0, 1) := by decide +kernel
theorem dX7_begins_26 : decode cX7_begins 26 = .ok (.iastore, 1) := by decide +kernel
theorem dX7_begins_27 : decode cX7_begins 27 = .ok (.aload_n 0, 1) := by decide +kernel
theorem dX7_begins_28 : decode cX7_begins 28 = .ok (.getfield 13, 3) := by decide +kernel
theorem dX7_begins_31 : decode cX7_begins 31 = .ok (.bipush 7, 2) := by decide +kernel
theorem dX7_begins_33 : decode cX7_begins 33 = .ok (.bipush 30, 2) := by decide +kernel
theorem dX7_begins_35 : decode cX7_begins 35 = .ok (.iastore, 1) := by decide +kernel
theorem dX7_begins_36 : decode cX7_begins 36 = .ok (.bipush 100, 2) := by decide +kernel
theorem dX7_begins_38 : decode cX7_begins 38 = .ok (.istore_n 1, 1) := by decide +kernel
theorem dX7_begins_39 : decode cX7_begins 39 = .ok (.iload_n 1, 1) := by decide +kernel
theorem dX7_begins_40 : decode cX7_begins 40 = .ok (.sipush 200, 3) := by decide +kernel
theorem dX7_begins_43 : decode cX7_begins 43 = .ok (.if_icmp .ge 16, 3) := by decide +kernel
theorem dX7_begins_46 : decode cX7_begins 46 = .ok (.aload_n 0, 1) := by decide +kernel
theorem dX7_begins_47 : decode cX7_begins 47 = .ok (.getfield 28, 3) := by decide +kernel
theorem dX7_begins_50 : decode cX7_begins 50 = .ok (.iload_n 1, 1) := by decide +kernel
theorem dX7_begins_51 : decode cX7_begins 51 = .ok (.iconst 0, 1) := by decide +kernel
theorem dX7_begins_52 : decode cX7_begins 52 = .ok (.bastore, 1) := by decide +kernel
theorem dX7_begins_53 : decode cX7_begins 53 = .ok (.iinc 1 1, 3) := by decide +kernel
theorem dX7_begins_56 : decode cX7_begins 56 = .ok (.goto (-17), 3) := by decide +kernel
theorem dX7_begins_59 : decode cX7_begins 59 = .ok (.return_, 1) := by decide +kernel
def bX7_begins_39 (R_39 : Int32 × St → Prop) (y1 : Int32) (σ : St) (Q : St → Prop) : Prop :=
  ((200 ≤ y1 → Q σ) ∧ (¬ 200 ≤ y1 → (vp_in y1 200 ∧ ∀ σ3 : St, σ3 = up σ 99 y1.toNatClampNeg (vp_nar .boolean 0) → (∀ x4 : Int32, x4 = y1 + 1 → R_39 (x4, σ3)))))
set_option maxHeartbeats 4000000 in
set_option maxRecDepth 100000 in
theorem tX7_begins_39 {R_39 : Int32 × St → Prop} {Q : St → Prop} (M : MC p s m args meth c cX7_begins 2 none RX7 Y) (hN : yN Y = 108) (hR_39 : ∀ (y1 : Int32) (σ : St) (H : Heap) (locs : List Loc) (ls : Array Slot), WS Y (AD Y) s.heap σ H locs → lv_has ls 2 [(0, .ref (yA Y 92)), (1, .int y1)] → R_39 (y1, σ) → W p l e { frames := 0, cells := 0, slots := 0, locals := 0 } s m args below meth c H locs 0 0 (MQ below (QV Y Q) args s 0 0 (AD Y)) (F0 m 39 ls [])) (y1 : Int32) (σ : St) (H : Heap) (locs : List Loc) (ls : Array Slot) (hw : WS Y (AD Y) s.heap σ H locs) (hl : lv_has ls 2 [(0, .ref (yA Y 92)), (1, .int y1)]) (h : bX7_begins_39 R_39 y1 σ Q) : W p l e { frames := 0, cells := 0, slots := 0, locals := 0 } s m args below meth c H locs 0 0 (MQ below (QV Y Q) args s 0 0 (AD Y)) (F0 m 39 ls []) := by
  obtain ⟨hx, hb, hr, hml, hown, hlk, hT, hK, hB⟩ := id M
  unfold bX7_begins_39 at h
  refine lv_iload_n hx hb dX7_begins_39 rfl (lv_at hl 1 rfl) ?_
  refine lv_sipush (v := 200) hx hb dX7_begins_40 (by decide) ?_
  refine lv_icmp_ge (tgt := 59) hx hb dX7_begins_43 (by decide) (fun c1 => ?_) (fun c1 => ?_)
  · have h := h.1 c1
    exact q_vret M hw h dX7_begins_59
  · have h := h.2 c1
    refine lv_aload_n hx hb dX7_begins_46 rfl (lv_at hl 0 rfl) ?_
    refine q_get (v := .ref (yA Y 99)) M hw (ob_92 hN) rfl inq_7 15 (by decide) tw_650 rfl dX7_begins_47 ?_
    refine lv_iload_n hx hb dX7_begins_50 rfl (lv_at hl 1 rfl) ?_
    refine lv_iconst (v := 0) hx hb dX7_begins_51 (by decide) ?_
    have c2 := h.1
    refine q_zst M hw (ar_99 hN) c2 dX7_begins_52 (fun σ3 H locs es hw => ?_)
    have h := h.2 σ3 es
    obtain ⟨x4, ex4⟩ : ∃ y : Int32, y = y1 + 1 := ⟨_, rfl⟩
    have h := h x4 ex4
    refine lv_iinc (v := x4) (lv' := [(1, .int x4), (0, .ref (yA Y 92))]) hx hb dX7_begins_53 hl (k := 1) rfl (by rw [ex4]; rfl) (by decide) rfl (fun ls hl => ?_)
    refine lv_goto (tgt := 39) hx hb dX7_begins_56 (by decide) ?_
    exact hR_39 x4 σ3 _ _ _ hw (lv_sub hl [1, 0] rfl) h
def lX7_begins_39 (Q : St → Prop) : (Int32 × St → Prop) → Int32 × St → Prop := fun R a => bX7_begins_39 R a.1 a.2 Q
theorem tlX7_begins_39 {Q : St → Prop} (M : MC p s m args meth c cX7_begins 2 none RX7 Y) (hN : yN Y = 108) (n : Nat) : ∀ (y1 : Int32) (σ : St) (H : Heap) (locs : List Loc) (ls : Array Slot) (hw : WS Y (AD Y) s.heap σ H locs) (hl : lv_has ls 2 [(0, .ref (yA Y 92)), (1, .int y1)]) (h : Lp (lX7_begins_39 Q) n (y1, σ)), W p l e { frames := 0, cells := 0, slots := 0, locals := 0 } s m args below meth c H locs 0 0 (MQ below (QV Y Q) args s 0 0 (AD Y)) (F0 m 39 ls []) := by
  induction n with
  | zero => intro y1 σ H locs ls hw hl h; exact h.elim
  | succ n ih =>
    intro y1 σ H locs ls hw hl h
    exact tX7_begins_39 M hN ih y1 σ H locs ls hw hl h
def wX7_begins (σ : St) (Q : St → Prop) : Prop :=
  (∀ σ1 : St, σ1 = up σ 92 10 0 → (∀ σ3 : St, σ3 = up σ1 94 4 0 → (∀ σ5 : St, σ5 = up σ3 94 5 0 → (∀ σ7 : St, σ7 = up σ5 94 6 0 → (∀ σ9 : St, σ9 = up σ7 94 7 30 → ∃ n : Nat, Lp (lX7_begins_39 Q) n (100, σ9))))))
set_option maxHeartbeats 4000000 in
set_option maxRecDepth 100000 in
theorem tX7_begins_E {Q : St → Prop} (M : MC p s m args meth c cX7_begins 2 none RX7 Y) (hN : yN Y = 108)  (σ : St) (H : Heap) (locs : List Loc) (ls : Array Slot) (hw : WS Y (AD Y) s.heap σ H locs) (hl : lv_has ls 2 [(0, .ref (yA Y 92))]) (h : wX7_begins σ Q) : W p l e { frames := 0, cells := 0, slots := 0, locals := 0 } s m args below meth c H locs 0 0 (MQ below (QV Y Q) args s 0 0 (AD Y)) (F0 m 0 ls []) := by
  obtain ⟨hx, hb, hr, hml, hown, hlk, hT, hK, hB⟩ := id M
  unfold wX7_begins at h
  refine lv_aload_n hx hb dX7_begins_0 rfl (lv_at hl 0 rfl) ?_
  refine lv_iconst (v := 0) hx hb dX7_begins_1 (by decide) ?_
  refine q_put (v := 0) M hw (ob_92 hN) rfl inq_7 tyX7 tyX7_ok nmX7 10 (by decide) tw_645 rfl rfl rfl (Nat.le_of_ble_eq_true rfl) (by simp [up, upd, f0]) dX7_begins_2 (fun σ1 H locs es hw => ?_)
  have h := h σ1 es
  refine lv_aload_n hx hb dX7_begins_5 rfl (lv_at hl 0 rfl) ?_
  refine q_get (v := .ref (yA Y 94)) M hw (ob_92 hN) rfl inq_7 9 (by decide) tw_644 rfl dX7_begins_6 ?_
  refine lv_iconst (v := 4) hx hb dX7_begins_9 (by decide) ?_
  refine lv_iconst (v := 0) hx hb dX7_begins_10 (by decide) ?_
  refine q_ist' 4 M hw (ar_94 hN) (by unfold vp_in; decide) (by decide) dX7_begins_11 (fun σ3 H locs es hw => ?_)
  have h := h σ3 es
  refine lv_aload_n hx hb dX7_begins_12 rfl (lv_at hl 0 rfl) ?_
  refine q_get (v := .ref (yA Y 94)) M hw (ob_92 hN) rfl inq_7 9 (by decide) tw_644 rfl dX7_begins_13 ?_
  refine lv_iconst (v := 5) hx hb dX7_begins_16 (by decide) ?_
  refine lv_iconst (v := 0) hx hb dX7_begins_17 (by decide) ?_
  refine q_ist' 5 M hw (ar_94 hN) (by unfold vp_in; decide) (by decide) dX7_begins_18 (fun σ5 H locs es hw => ?_)
  have h := h σ5 es
  refine lv_aload_n hx hb dX7_begins_19 rfl (lv_at hl 0 rfl) ?_
  refine q_get (v := .ref (yA Y 94)) M hw (ob_92 hN) rfl inq_7 9 (by decide) tw_644 rfl dX7_begins_20 ?_
  refine lv_bipush (v := 6) hx hb dX7_begins_23 (by decide) ?_
  refine lv_iconst (v := 0) hx hb dX7_begins_25 (by decide) ?_
  refine q_ist' 6 M hw (ar_94 hN) (by unfold vp_in; decide) (by decide) dX7_begins_26 (fun σ7 H locs es hw => ?_)
  have h := h σ7 es
  refine lv_aload_n hx hb dX7_begins_27 rfl (lv_at hl 0 rfl) ?_
  refine q_get (v := .ref (yA Y 94)) M hw (ob_92 hN) rfl inq_7 9 (by decide) tw_644 rfl dX7_begins_28 ?_
  refine lv_bipush (v := 7) hx hb dX7_begins_31 (by decide) ?_
  refine lv_bipush (v := 30) hx hb dX7_begins_33 (by decide) ?_
  refine q_ist' 7 M hw (ar_94 hN) (by unfold vp_in; decide) (by decide) dX7_begins_35 (fun σ9 H locs es hw => ?_)
  have h := h σ9 es
  refine lv_bipush (v := 100) hx hb dX7_begins_36 (by decide) ?_
  refine lv_istore_n (lv' := [(1, .int 100), (0, .ref (yA Y 92))]) hx hb dX7_begins_38 rfl hl (by decide) rfl (fun ls hl => ?_)
  obtain ⟨n, h⟩ := h
  exact tlX7_begins_39 M hN n 100 σ9 _ _ _ hw (lv_sub hl [1, 0] rfl) h
set_option maxRecDepth 100000 in
theorem ctX7_begins (l : Launch) {Y : LY} (hB : YB Y) (hN : yN Y = 108) (σ : St) (Q : St → Prop) (h : wX7_begins σ Q) : CT l yX7_begins (Cond.code yX7_begins cX7_begins 2 none) { frames := 0, cells := 0, slots := 0, locals := 0 } Y [.ref (yA Y 92)] σ (QV Y Q) :=
  q_ent hB (by decide +kernel) (Nat.le_of_ble_eq_true rfl) (fun p e s m below meth c ls M hw hl => tX7_begins_E M hN σ _ _ ls hw hl h)
theorem mbX7_begins : MB RX7 yX7_begins cX7_begins 0 2 none := ⟨tw_629, tw_28, tw_56, tw_630, by decide +kernel⟩
end
section
variable {p : Program} {l : Launch} {e : Env} {s : State} {m : MethodId} {args : Array Value} {below : List Frame} {meth : Method} {c : Code} {Y : LY}
theorem dX7_mayBegin_0 : decode cX7_mayBegin 0 = .ok (.aload_n 0, 1) := by decide +kernel
theorem dX7_mayBegin_1 : decode cX7_mayBegin 1 = .ok (.getfield 86, 3) := by decide +kernel
theorem dX7_mayBegin_4 : decode cX7_mayBegin 4 = .ok (.bipush 102, 2) := by decide +kernel
theorem dX7_mayBegin_6 : decode cX7_mayBegin 6 = .ok (.if_icmp .eq 12, 3) := by decide +kernel
theorem dX7_mayBegin_9 : decode cX7_mayBegin 9 = .ok (.aload_n 0, 1) := by decide +kernel
theorem dX7_mayBegin_10 : decode cX7_mayBegin 10 = .ok (.getfield 86, 3) := by decide +kernel
theorem dX7_mayBegin_13 : decode cX7_mayBegin 13 = .ok (.bipush 115, 2) := by decide +kernel
theorem dX7_mayBegin_15 : decode cX7_mayBegin 15 = .ok (.if_icmp .ne 47, 3) := by decide +kernel
theorem dX7_mayBegin_18 : decode cX7_mayBegin 18 = .ok (.aload_n 0, 1) := by decide +kernel
theorem dX7_mayBegin_19 : decode cX7_mayBegin 19 = .ok (.getfield 86, 3) := by decide +kernel
theorem dX7_mayBegin_22 : decode cX7_mayBegin 22 = .ok (.bipush 102, 2) := by decide +kernel
theorem dX7_mayBegin_24 : decode cX7_mayBegin 24 = .ok (.if_icmp .ne 21, 3) := by decide +kernel
theorem dX7_mayBegin_27 : decode cX7_mayBegin 27 = .ok (.aload_n 0, 1) := by decide +kernel
theorem dX7_mayBegin_28 : decode cX7_mayBegin 28 = .ok (.getfield 13, 3) := by decide +kernel
theorem dX7_mayBegin_31 : decode cX7_mayBegin 31 = .ok (.iconst 4, 1) := by decide +kernel
theorem dX7_mayBegin_32 : decode cX7_mayBegin 32 = .ok (.iaload, 1) := by decide +kernel
theorem dX7_mayBegin_33 : decode cX7_mayBegin 33 = .ok (.iconst 5, 1) := by decide +kernel
theorem dX7_mayBegin_34 : decode cX7_mayBegin 34 = .ok (.if_icmp .ge 7, 3) := by decide +kernel
theorem dX7_mayBegin_37 : decode cX7_mayBegin 37 = .ok (.iconst 1, 1) := by decide +kernel
theorem dX7_mayBegin_38 : decode cX7_mayBegin 38 = .ok (.goto 23, 3) := by decide +kernel
theorem dX7_mayBegin_41 : decode cX7_mayBegin 41 = .ok (.iconst 0, 1) := by decide +kernel
theorem dX7_mayBegin_42 : decode cX7_mayBegin 42 = .ok (.goto 19, 3) := by decide +kernel
theorem dX7_mayBegin_45 : decode cX7_mayBegin 45 = .ok (.aload_n 0, 1) := by decide +kernel
theorem dX7_mayBegin_46 : decode cX7_mayBegin 46 = .ok (.getfield 13, 3) := by decide +kernel
theorem dX7_mayBegin_49 : decode cX7_mayBegin 49 = .ok (.iconst 5, 1) := by decide +kernel
theorem dX7_mayBegin_50 : decode cX7_mayBegin 50 = .ok (.iaload, 1) := by decide +kernel
theorem dX7_mayBegin_51 : decode cX7_mayBegin 51 = .ok (.bipush 7, 2) := by decide +kernel
theorem dX7_mayBegin_53 : decode cX7_mayBegin 53 = .ok (.if_icmp .ge 7, 3) := by decide +kernel
theorem dX7_mayBegin_56 : decode cX7_mayBegin 56 = .ok (.iconst 1, 1) := by decide +kernel
theorem dX7_mayBegin_57 : decode cX7_mayBegin 57 = .ok (.goto 4, 3) := by decide +kernel
theorem dX7_mayBegin_60 : decode cX7_mayBegin 60 = .ok (.iconst 0, 1) := by decide +kernel
theorem dX7_mayBegin_61 : decode cX7_mayBegin 61 = .ok (.ireturn, 1) := by decide +kernel
theorem dX7_mayBegin_62 : decode cX7_mayBegin 62 = .ok (.aload_n 0, 1) := by decide +kernel
theorem dX7_mayBegin_63 : decode cX7_mayBegin 63 = .ok (.getfield 86, 3) := by decide +kernel
theorem dX7_mayBegin_66 : decode cX7_mayBegin 66 = .ok (.bipush 99, 2) := by decide +kernel
theorem dX7_mayBegin_68 : decode cX7_mayBegin 68 = .ok (.if_icmp .eq 25, 3) := by decide +kernel
theorem dX7_mayBegin_71 : decode cX7_mayBegin 71 = .ok (.aload_n 0, 1) := by decide +kernel
theorem dX7_mayBegin_72 : decode cX7_mayBegin 72 = .ok (.getfield 107, 3) := by decide +kernel
theorem dX7_mayBegin_75 : decode cX7_mayBegin 75 = .ok (.aload_n 0, 1) := by decide +kernel
theorem dX7_mayBegin_76 : decode cX7_mayBegin 76 = .ok (.getfield 86, 3) := by decide +kernel
theorem dX7_mayBegin_79 : decode cX7_mayBegin 79 = .ok (.bipush 109, 2) := by decide +kernel
theorem dX7_mayBegin_81 : decode cX7_mayBegin 81 = .ok (.if_icmp .ne 7, 3) := by decide +kernel
theorem dX7_mayBegin_84 : decode cX7_mayBegin 84 = .ok (.iconst 1, 1) := by decide +kernel
theorem dX7_mayBegin_85 : decode cX7_mayBegin 85 = .ok (.goto 4, 3) := by decide +kernel
theorem dX7_mayBegin_88 : decode cX7_mayBegin 88 = .ok (.iconst 2, 1) := by decide +kernel
theorem dX7_mayBegin_89 : decode cX7_mayBegin 89 = .ok (.iand, 1) := by decide +kernel
theorem dX7_mayBegin_90 : decode cX7_mayBegin 90 = .ok (.ifCond .ne 7, 3) := by decide +kernel
theorem dX7_mayBegin_93 : decode cX7_mayBegin 93 = .ok (.iconst 1, 1) := by decide +kernel
theorem dX7_mayBegin_94 : decode cX7_mayBegin 94 = .ok (.goto 4, 3) := by decide +kernel
theorem dX7_mayBegin_97 : decode cX7_mayBegin 97 = .ok (.iconst 0, 1) := by decide +kernel
theorem dX7_mayBegin_98 : decode cX7_mayBegin 98 = .ok (.ireturn, 1) := by decide +kernel
def bX7_mayBegin_18 (σ : St) (Q : Int32 → St → Prop) : Prop :=
  (((σ.1 92 7) = 102 → ((5 ≤ (σ.1 94 4) → Q 0 σ) ∧ (¬ 5 ≤ (σ.1 94 4) → Q 1 σ))) ∧ (¬ (σ.1 92 7) = 102 → ((7 ≤ (σ.1 94 5) → Q 0 σ) ∧ (¬ 7 ≤ (σ.1 94 5) → Q 1 σ))))
set_option maxHeartbeats 4000000 in
set_option maxRecDepth 100000 in
theorem tX7_mayBegin_18 {Q : Int32 → St → Prop} (M : MC p s m args meth c cX7_mayBegin 1 (some .boolean) RX7 Y) (hN : yN Y = 108)  (σ : St) (H : Heap) (locs : List Loc) (ls : Array Slot) (hw : WS Y (AD Y) s.heap σ H locs) (hl : lv_has ls 1 [(0, .ref (yA Y 92))]) (h : bX7_mayBegin_18 σ Q) : W p l e { frames := 0, cells := 0, slots := 0, locals := 0 } s m args below meth c H locs 0 0 (MQ below (QI Y Q) args s 0 0 (AD Y)) (F0 m 18 ls []) := by
  obtain ⟨hx, hb, hr, hml, hown, hlk, hT, hK, hB⟩ := id M
  unfold bX7_mayBegin_18 at h
  refine lv_aload_n hx hb dX7_mayBegin_18 rfl (lv_at hl 0 rfl) ?_
  refine q_get (v := .int (σ.1 92 7)) M hw (ob_92 hN) rfl inq_7 7 (by decide) tw_642 rfl dX7_mayBegin_19 ?_
  refine lv_bipush (v := 102) hx hb dX7_mayBegin_22 (by decide) ?_
  refine lv_icmp_ne (tgt := 45) hx hb dX7_mayBegin_24 (by decide) (fun c1 => ?_) (fun c1 => ?_)
  · have h := h.2 c1
    refine lv_aload_n hx hb dX7_mayBegin_45 rfl (lv_at hl 0 rfl) ?_
    refine q_get (v := .ref (yA Y 94)) M hw (ob_92 hN) rfl inq_7 9 (by decide) tw_644 rfl dX7_mayBegin_46 ?_
    refine lv_iconst (v := 5) hx hb dX7_mayBegin_49 (by decide) ?_
    refine q_ild' 5 M hw (ar_94 hN) (by unfold vp_in; decide) (by decide) dX7_mayBegin_50 ?_
    refine lv_bipush (v := 7) hx hb dX7_mayBegin_51 (by decide) ?_
    refine lv_icmp_ge (tgt := 60) hx hb dX7_mayBegin_53 (by decide) (fun c2 => ?_) (fun c2 => ?_)
    · have h := h.1 c2
      refine lv_iconst (v := 0) hx hb dX7_mayBegin_60 (by decide) ?_
      exact q_zret M hw (by decide) h dX7_mayBegin_61
    · have h := h.2 c2
      refine lv_iconst (v := 1) hx hb dX7_mayBegin_56 (by decide) ?_
      refine lv_goto (tgt := 61) hx hb dX7_mayBegin_57 (by decide) ?_
      exact q_zret M hw (by decide) h dX7_mayBegin_61
  · have h := h.1 c1
    refine lv_aload_n hx hb dX7_mayBegin_27 rfl (lv_at hl 0 rfl) ?_
    refine q_get (v := .ref (yA Y 94)) M hw (ob_92 hN) rfl inq_7 9 (by decide) tw_644 rfl dX7_mayBegin_28 ?_
    refine lv_iconst (v := 4) hx hb dX7_mayBegin_31 (by decide) ?_
    refine q_ild' 4 M hw (ar_94 hN) (by unfold vp_in; decide) (by decide) dX7_mayBegin_32 ?_
    refine lv_iconst (v := 5) hx hb dX7_mayBegin_33 (by decide) ?_
    refine lv_icmp_ge (tgt := 41) hx hb dX7_mayBegin_34 (by decide) (fun c3 => ?_) (fun c3 => ?_)
    · have h := h.1 c3
      refine lv_iconst (v := 0) hx hb dX7_mayBegin_41 (by decide) ?_
      refine lv_goto (tgt := 61) hx hb dX7_mayBegin_42 (by decide) ?_
      exact q_zret M hw (by decide) h dX7_mayBegin_61
    · have h := h.2 c3
      refine lv_iconst (v := 1) hx hb dX7_mayBegin_37 (by decide) ?_
      refine lv_goto (tgt := 61) hx hb dX7_mayBegin_38 (by decide) ?_
      exact q_zret M hw (by decide) h dX7_mayBegin_61
def bX7_mayBegin_93 (σ : St) (Q : Int32 → St → Prop) : Prop :=
  Q 1 σ
set_option maxHeartbeats 4000000 in
set_option maxRecDepth 100000 in
theorem tX7_mayBegin_93 {Q : Int32 → St → Prop} (M : MC p s m args meth c cX7_mayBegin 1 (some .boolean) RX7 Y) (hN : yN Y = 108)  (σ : St) (H : Heap) (locs : List Loc) (ls : Array Slot) (hw : WS Y (AD Y) s.heap σ H locs) (hl : lv_has ls 1 []) (h : bX7_mayBegin_93 σ Q) : W p l e { frames := 0, cells := 0, slots := 0, locals := 0 } s m args below meth c H locs 0 0 (MQ below (QI Y Q) args s 0 0 (AD Y)) (F0 m 93 ls []) := by
  obtain ⟨hx, hb, hr, hml, hown, hlk, hT, hK, hB⟩ := id M
  unfold bX7_mayBegin_93 at h
  refine lv_iconst (v := 1) hx hb dX7_mayBegin_93 (by decide) ?_
  refine lv_goto (tgt := 98) hx hb dX7_mayBegin_94 (by decide) ?_
  exact q_zret M hw (by decide) h dX7_mayBegin_98
def bX7_mayBegin_89 (z0 : Int32) (z1 : Int32) (σ : St) (Q : Int32 → St → Prop) : Prop :=
  (((z1 &&& z0) = 0 → bX7_mayBegin_93 σ Q) ∧ (¬ (z1 &&& z0) = 0 → Q 0 σ))
set_option maxHeartbeats 4000000 in
set_option maxRecDepth 100000 in
theorem tX7_mayBegin_89 {Q : Int32 → St → Prop} (M : MC p s m args meth c cX7_mayBegin 1 (some .boolean) RX7 Y) (hN : yN Y = 108) (z0 : Int32) (z1 : Int32) (σ : St) (H : Heap) (locs : List Loc) (ls : Array Slot) (hw : WS Y (AD Y) s.heap σ H locs) (hl : lv_has ls 1 []) (h : bX7_mayBegin_89 z0 z1 σ Q) : W p l e { frames := 0, cells := 0, slots := 0, locals := 0 } s m args below meth c H locs 0 0 (MQ below (QI Y Q) args s 0 0 (AD Y)) (F0 m 89 ls [.int z0, .int z1]) := by
  obtain ⟨hx, hb, hr, hml, hown, hlk, hT, hK, hB⟩ := id M
  unfold bX7_mayBegin_89 at h
  refine lv_iand hx hb dX7_mayBegin_89 ?_
  refine lv_if_ne (tgt := 97) hx hb dX7_mayBegin_90 (by decide) (fun c1 => ?_) (fun c1 => ?_)
  · have h := h.2 c1
    refine lv_iconst (v := 0) hx hb dX7_mayBegin_97 (by decide) ?_
    exact q_zret M hw (by decide) h dX7_mayBegin_98
  · have h := h.1 c1
    exact tX7_mayBegin_93 M hN σ _ _ _ hw (lv_sub hl [] rfl) h
def wX7_mayBegin (σ : St) (Q : Int32 → St → Prop) : Prop :=
  (((σ.1 92 7) = 102 → bX7_mayBegin_18 σ Q) ∧ (¬ (σ.1 92 7) = 102 → (((σ.1 92 7) = 115 → bX7_mayBegin_18 σ Q) ∧ (¬ (σ.1 92 7) = 115 → (((σ.1 92 7) = 99 → bX7_mayBegin_93 σ Q) ∧ (¬ (σ.1 92 7) = 99 → (((σ.1 92 7) = 109 → bX7_mayBegin_89 1 (σ.1 92 10) σ Q) ∧ (¬ (σ.1 92 7) = 109 → bX7_mayBegin_89 2 (σ.1 92 10) σ Q))))))))
set_option maxHeartbeats 4000000 in
set_option maxRecDepth 100000 in
theorem tX7_mayBegin_E {Q : Int32 → St → Prop} (M : MC p s m args meth c cX7_mayBegin 1 (some .boolean) RX7 Y) (hN : yN Y = 108)  (σ : St) (H : Heap) (locs : List Loc) (ls : Array Slot) (hw : WS Y (AD Y) s.heap σ H locs) (hl : lv_has ls 1 [(0, .ref (yA Y 92))]) (h : wX7_mayBegin σ Q) : W p l e { frames := 0, cells := 0, slots := 0, locals := 0 } s m args below meth c H locs 0 0 (MQ below (QI Y Q) args s 0 0 (AD Y)) (F0 m 0 ls []) := by
  obtain ⟨hx, hb, hr, hml, hown, hlk, hT, hK, hB⟩ := id M
  unfold wX7_mayBegin at h
  refine lv_aload_n hx hb dX7_mayBegin_0 rfl (lv_at hl 0 rfl) ?_
  refine q_get (v := .int (σ.1 92 7)) M hw (ob_92 hN) rfl inq_7 7 (by decide) tw_642 rfl dX7_mayBegin_1 ?_
  refine lv_bipush (v := 102) hx hb dX7_mayBegin_4 (by decide) ?_
  refine lv_icmp_eq (tgt := 18) hx hb dX7_mayBegin_6 (by decide) (fun c1 => ?_) (fun c1 => ?_)
  · have h := h.1 c1
    exact tX7_mayBegin_18 M hN σ _ _ _ hw (lv_sub hl [0] rfl) h
  · have h := h.2 c1
    refine lv_aload_n hx hb dX7_mayBegin_9 rfl (lv_at hl 0 rfl) ?_
    refine q_get (v := .int (σ.1 92 7)) M hw (ob_92 hN) rfl inq_7 7 (by decide) tw_642 rfl dX7_mayBegin_10 ?_
    refine lv_bipush (v := 115) hx hb dX7_mayBegin_13 (by decide) ?_
    refine lv_icmp_ne (tgt := 62) hx hb dX7_mayBegin_15 (by decide) (fun c2 => ?_) (fun c2 => ?_)
    · have h := h.2 c2
      refine lv_aload_n hx hb dX7_mayBegin_62 rfl (lv_at hl 0 rfl) ?_
      refine q_get (v := .int (σ.1 92 7)) M hw (ob_92 hN) rfl inq_7 7 (by decide) tw_642 rfl dX7_mayBegin_63 ?_
      refine lv_bipush (v := 99) hx hb dX7_mayBegin_66 (by decide) ?_
      refine lv_icmp_eq (tgt := 93) hx hb dX7_mayBegin_68 (by decide) (fun c3 => ?_) (fun c3 => ?_)
      · have h := h.1 c3
        exact tX7_mayBegin_93 M hN σ _ _ _ hw (lv_sub hl [] rfl) h
      · have h := h.2 c3
        refine lv_aload_n hx hb dX7_mayBegin_71 rfl (lv_at hl 0 rfl) ?_
        refine q_get (v := .int (σ.1 92 10)) M hw (ob_92 hN) rfl inq_7 10 (by decide) tw_645 rfl dX7_mayBegin_72 ?_
        refine lv_aload_n hx hb dX7_mayBegin_75 rfl (lv_at hl 0 rfl) ?_
        refine q_get (v := .int (σ.1 92 7)) M hw (ob_92 hN) rfl inq_7 7 (by decide) tw_642 rfl dX7_mayBegin_76 ?_
        refine lv_bipush (v := 109) hx hb dX7_mayBegin_79 (by decide) ?_
        refine lv_icmp_ne (tgt := 88) hx hb dX7_mayBegin_81 (by decide) (fun c4 => ?_) (fun c4 => ?_)
        · have h := h.2 c4
          refine lv_iconst (v := 2) hx hb dX7_mayBegin_88 (by decide) ?_
          exact tX7_mayBegin_89 M hN 2 (σ.1 92 10) σ _ _ _ hw (lv_sub hl [] rfl) h
        · have h := h.1 c4
          refine lv_iconst (v := 1) hx hb dX7_mayBegin_84 (by decide) ?_
          refine lv_goto (tgt := 89) hx hb dX7_mayBegin_85 (by decide) ?_
          exact tX7_mayBegin_89 M hN 1 (σ.1 92 10) σ _ _ _ hw (lv_sub hl [] rfl) h
    · have h := h.1 c2
      exact tX7_mayBegin_18 M hN σ _ _ _ hw (lv_sub hl [0] rfl) h
set_option maxRecDepth 100000 in
theorem ctX7_mayBegin (l : Launch) {Y : LY} (hB : YB Y) (hN : yN Y = 108) (σ : St) (Q : Int32 → St → Prop) (h : wX7_mayBegin σ Q) : CT l yX7_mayBegin (Cond.code yX7_mayBegin cX7_mayBegin 1 (some .boolean)) { frames := 0, cells := 0, slots := 0, locals := 0 } Y [.ref (yA Y 92)] σ (QI Y Q) :=
  q_ent hB (by decide +kernel) (Nat.le_of_ble_eq_true rfl) (fun p e s m below meth c ls M hw hl => tX7_mayBegin_E M hN σ _ _ ls hw hl h)
theorem mbX7_mayBegin : MB RX7 yX7_mayBegin cX7_mayBegin 0 1 (some .boolean) := ⟨tw_746, tw_33, tw_56, tw_747, by decide +kernel⟩
end
section
variable {p : Program} {l : Launch} {e : Env} {s : State} {m : MethodId} {args : Array Value} {below : List Frame} {meth : Method} {c : Code} {Y : LY}
theorem dX7_readsItem_0 : decode cX7_readsItem 0 = .ok (.iload_n 1, 1) := by decide +kernel
theorem dX7_readsItem_1 : decode cX7_readsItem 1 = .ok (.bipush 102, 2) := by decide +kernel
theorem dX7_readsItem_3 : decode cX7_readsItem 3 = .ok (.if_icmp .ne 50, 3) := by decide +kernel
theorem dX7_readsItem_6 : decode cX7_readsItem 6 = .ok (.aload_n 0, 1) := by decide +kernel
theorem dX7_readsItem_7 : decode cX7_readsItem 7 = .ok (.getfield 13, 3) := by decide +kernel
theorem dX7_readsItem_10 : decode cX7_readsItem 10 = .ok (.iconst 4, 1) := by decide +kernel
theorem dX7_readsItem_11 : decode cX7_readsItem 11 = .ok (.iaload, 1) := by decide +kernel
theorem dX7_readsItem_12 : decode cX7_readsItem 12 = .ok (.istore_n 2, 1) := by decide +kernel
theorem dX7_readsItem_13 : decode cX7_readsItem 13 = .ok (.aload_n 0, 1) := by decide +kernel
theorem dX7_readsItem_14 : decode cX7_readsItem 14 = .ok (.getfield 16, 3) := by decide +kernel
theorem dX7_readsItem_17 : decode cX7_readsItem 17 = .ok (.iload_n 2, 1) := by decide +kernel
theorem dX7_readsItem_18 : decode cX7_readsItem 18 = .ok (.aload_n 0, 1) := by decide +kernel
theorem dX7_readsItem_19 : decode cX7_readsItem 19 = .ok (.iconst 0, 1) := by decide +kernel
theorem dX7_readsItem_20 : decode cX7_readsItem 20 = .ok (.bipush 99, 2) := by decide +kernel
theorem dX7_readsItem_22 : decode cX7_readsItem 22 = .ok (.invokevirtual 110, 3) := by decide +kernel
theorem dX7_readsItem_25 : decode cX7_readsItem 25 = .ok (.iastore, 1) := by decide +kernel
theorem dX7_readsItem_26 : decode cX7_readsItem 26 = .ok (.aload_n 0, 1) := by decide +kernel
theorem dX7_readsItem_27 : decode cX7_readsItem 27 = .ok (.getfield 19, 3) := by decide +kernel
theorem dX7_readsItem_30 : decode cX7_readsItem 30 = .ok (.iconst 5, 1) := by decide +kernel
theorem dX7_readsItem_31 : decode cX7_readsItem 31 = .ok (.iload_n 2, 1) := by decide +kernel
theorem dX7_readsItem_32 : decode cX7_readsItem 32 = .ok (.iadd, 1) := by decide +kernel
theorem dX7_readsItem_33 : decode cX7_readsItem 33 = .ok (.aload_n 0, 1) := by decide +kernel
theorem dX7_readsItem_34 : decode cX7_readsItem 34 = .ok (.iconst 1, 1) := by decide +kernel
theorem dX7_readsItem_35 : decode cX7_readsItem 35 = .ok (.iconst 4, 1) := by decide +kernel
theorem dX7_readsItem_36 : decode cX7_readsItem 36 = .ok (.invokevirtual 110, 3) := by decide +kernel
theorem dX7_readsItem_39 : decode cX7_readsItem 39 = .ok (.iastore, 1) := by decide +kernel
theorem dX7_readsItem_40 : decode cX7_readsItem 40 = .ok (.aload_n 0, 1) := by decide +kernel
theorem dX7_readsItem_41 : decode cX7_readsItem 41 = .ok (.getfield 13, 3) := by decide +kernel
theorem dX7_readsItem_44 : decode cX7_readsItem 44 = .ok (.iconst 4, 1) := by decide +kernel
theorem dX7_readsItem_45 : decode cX7_readsItem 45 = .ok (.dup2, 1) := by decide +kernel
theorem dX7_readsItem_46 : decode cX7_readsItem 46 = .ok (.iaload, 1) := by decide +kernel
theorem dX7_readsItem_47 : decode cX7_readsItem 47 = .ok (.iconst 1, 1) := by decide +kernel
theorem dX7_readsItem_48 : decode cX7_readsItem 48 = .ok (.iadd, 1) := by decide +kernel
theorem dX7_readsItem_49 : decode cX7_readsItem 49 = .ok (.iastore, 1) := by decide +kernel
theorem dX7_readsItem_50 : decode cX7_readsItem 50 = .ok (.goto 171, 3) := by decide +kernel
theorem dX7_readsItem_53 : decode cX7_readsItem 53 = .ok (.iload_n 1, 1) := by decide +kernel
theorem dX7_readsItem_54 : decode cX7_readsItem 54 = .ok (.bipush 115, 2) := by decide +kernel
theorem dX7_readsItem_56 : decode cX7_readsItem 56 = .ok (.if_icmp .ne 58, 3) := by decide +kernel
theorem dX7_readsItem_59 : decode cX7_readsItem 59 = .ok (.aload_n 0, 1) := by decide +kernel
theorem dX7_readsItem_60 : decode cX7_readsItem 60 = .ok (.getfield 13, 3) := by decide +kernel
theorem dX7_readsItem_63 : decode cX7_readsItem 63 = .ok (.iconst 5, 1) := by decide +kernel
theorem dX7_readsItem_64 : decode cX7_readsItem 64 = .ok (.iaload, 1) := by decide +kernel
theorem dX7_readsItem_65 : decode cX7_readsItem 65 = .ok (.istore_n 2, 1) := by decide +kernel
theorem dX7_readsItem_66 : decode cX7_readsItem 66 = .ok (.aload_n 0, 1) := by decide +kernel
theorem dX7_readsItem_67 : decode cX7_readsItem 67 = .ok (.getfield 22, 3) := by decide +kernel
theorem dX7_readsItem_70 : decode cX7_readsItem 70 = .ok (.iload_n 2, 1) := by decide +kernel
theorem dX7_readsItem_71 : decode cX7_readsItem 71 = .ok (.aload_n 0, 1) := by decide +kernel
theorem dX7_readsItem_72 : decode cX7_readsItem 72 = .ok (.iconst 0, 1) := by decide +kernel
theorem dX7_readsItem_73 : decode cX7_readsItem 73 = .ok (.aload_n 0, 1) := by decide +kernel
theorem dX7_readsItem_74 : decode cX7_readsItem 74 = .ok (.getfield 13, 3) := by decide +kernel
theorem dX7_readsItem_77 : decode cX7_readsItem 77 = .ok (.iconst 4, 1) := by decide +kernel
theorem dX7_readsItem_78 : decode cX7_readsItem 78 = .ok (.iaload, 1) := by decide +kernel
theorem dX7_readsItem_79 : decode cX7_readsItem 79 = .ok (.iconst 1, 1) := by decide +kernel
theorem dX7_readsItem_80 : decode cX7_readsItem 80 = .ok (.isub, 1) := by decide +kernel
theorem dX7_readsItem_81 : decode cX7_readsItem 81 = .ok (.invokevirtual 110, 3) := by decide +kernel
theorem dX7_readsItem_84 : decode cX7_readsItem 84 = .ok (.iastore, 1) := by decide +kernel
theorem dX7_readsItem_85 : decode cX7_readsItem 85 = .ok (.aload_n 0, 1) := by decide +kernel
theorem dX7_readsItem_86 : decode cX7_readsItem 86 = .ok (.getfield 25, 3) := by decide +kernel
theorem dX7_readsItem_89 : decode cX7_readsItem 89 = .ok (.bipush 7, 2) := by decide +kernel
theorem dX7_readsItem_91 : decode cX7_readsItem 91 = .ok (.iload_n 2, 1) := by decide +kernel
theorem dX7_readsItem_92 : decode cX7_readsItem 92 = .ok (.iadd, 1) := by decide +kernel
theorem dX7_readsItem_93 : decode cX7_readsItem 93 = .ok (.aload_n 0, 1) := by decide +kernel
theorem dX7_readsItem_94 : decode cX7_readsItem 94 = .ok (.iconst 1, 1) := by decide +kernel
theorem dX7_readsItem_95 : decode cX7_readsItem 95 = .ok (.bipush 60, 2) := by decide +kernel
theorem dX7_readsItem_97 : decode cX7_readsItem 97 = .ok (.invokevirtual 110, 3) := by decide +kernel
theorem dX7_readsItem_100 : decode cX7_readsItem 100 = .ok (.iastore, 1) := by decide +kernel
theorem dX7_readsItem_101 : decode cX7_readsItem 101 = .ok (.aload_n 0, 1) := by decide +kernel
theorem dX7_readsItem_102 : decode cX7_readsItem 102 = .ok (.getfield 13, 3) := by decide +kernel
theorem dX7_readsItem_105 : decode cX7_readsItem 105 = .ok (.iconst 5, 1) := by decide +kernel
theorem dX7_readsItem_106 : decode cX7_readsItem 106 = .ok (.dup2, 1) := by decide +kernel
theorem dX7_readsItem_107 : decode cX7_readsItem 107 = .ok (.iaload, 1) := by decide +kernel
theorem dX7_readsItem_108 : decode cX7_readsItem 108 = .ok (.iconst 1, 1) := by decide +kernel
theorem dX7_readsItem_109 : decode cX7_readsItem 109 = .ok (.iadd, 1) := by decide +kernel
theorem dX7_readsItem_110 : decode cX7_readsItem 110 = .ok (.iastore, 1) := by decide +kernel
theorem dX7_readsItem_111 : decode cX7_readsItem 111 = .ok (.goto 110, 3) := by decide +kernel
theorem dX7_readsItem_114 : decode cX7_readsItem 114 = .ok (.iload_n 1, 1) := by decide +kernel
theorem dX7_readsItem_115 : decode cX7_readsItem 115 = .ok (.bipush 99, 2) := by decide +kernel
theorem dX7_readsItem_117 : decode cX7_readsItem 117 = .ok (.if_icmp .ne 47, 3) := by decide +kernel
theorem dX7_readsItem_120 : decode cX7_readsItem 120 = .ok (.aload_n 0, 1) := by decide +kernel
theorem dX7_readsItem_121 : decode cX7_readsItem 121 = .ok (.iconst 0, 1) := by decide +kernel
theorem dX7_readsItem_122 : decode cX7_readsItem 122 = .ok (.bipush 99, 2) := by decide +kernel
theorem dX7_readsItem_124 : decode cX7_readsItem 124 = .ok (.invokevirtual 110, 3) := by decide +kernel
theorem dX7_readsItem_127 : decode cX7_readsItem 127 = .ok (.istore_n 2, 1) := by decide +kernel
theorem dX7_readsItem_128 : decode cX7_readsItem 128 = .ok (.aload_n 0, 1) := by decide +kernel
theorem dX7_readsItem_129 : decode cX7_readsItem 129 = .ok (.getfield 28, 3) := by decide +kernel
theorem dX7_readsItem_132 : decode cX7_readsItem 132 = .ok (.bipush 100, 2) := by decide +kernel
theorem dX7_readsItem_134 : decode cX7_readsItem 134 = .ok (.iload_n 2, 1) := by decide +kernel
theorem dX7_readsItem_135 : decode cX7_readsItem 135 = .ok (.iadd, 1) := by decide +kernel
theorem dX7_readsItem_136 : decode cX7_readsItem 136 = .ok (.aload_n 0, 1) := by decide +kernel
theorem dX7_readsItem_137 : decode cX7_readsItem 137 = .ok (.getfield 28, 3) := by decide +kernel
theorem dX7_readsItem_140 : decode cX7_readsItem 140 = .ok (.bipush 100, 2) := by decide +kernel
theorem dX7_readsItem_142 : decode cX7_readsItem 142 = .ok (.iload_n 2, 1) := by decide +kernel
theorem dX7_readsItem_143 : decode cX7_readsItem 143 = .ok (.iadd, 1) := by decide +kernel
theorem dX7_readsItem_144 : decode cX7_readsItem 144 = .ok (.baload, 1) := by decide +kernel
theorem dX7_readsItem_145 : decode cX7_readsItem 145 = .ok (.ifCond .ne 10, 3) := by decide +kernel
theorem dX7_readsItem_148 : decode cX7_readsItem 148 = .ok (.aload_n 0, 1) := by decide +kernel
theorem dX7_readsItem_149 : decode cX7_readsItem 149 = .ok (.invokevirtual 96, 3) := by decide +kernel
theorem dX7_readsItem_152 : decode cX7_readsItem 152 = .ok (.ifCond .eq 7, 3) := by decide +kernel
theorem dX7_readsItem_155 : decode cX7_readsItem 155 = .ok (.iconst 1, 1) := by decide +kernel
theorem dX7_readsItem_156 : decode cX7_readsItem 156 = .ok (.goto 4, 3) := by decide +kernel
theorem dX7_readsItem_159 : decode cX7_readsItem 159 = .ok (.iconst 0, 1) := by decide +kernel
theorem dX7_readsItem_160 : decode cX7_readsItem 160 = .ok (.bastore, 1) := by decide +kernel
theorem dX7_readsItem_161 : decode cX7_readsItem 161 = .ok (.goto 60, 3) := by decide +kernel
theorem dX7_readsItem_164 : decode cX7_readsItem 164 = .ok (.iload_n 1, 1) := by decide +kernel
theorem dX7_readsItem_165 : decode cX7_readsItem 165 = .ok (.bipush 109, 2) := by decide +kernel
theorem dX7_readsItem_167 : decode cX7_readsItem 167 = .ok (.if_icmp .ne 30, 3) := by decide +kernel
theorem dX7_readsItem_170 : decode cX7_readsItem 170 = .ok (.aload_n 0, 1) := by decide +kernel
theorem dX7_readsItem_171 : decode cX7_readsItem 171 = .ok (.getfield 13, 3) := by decide +kernel
theorem dX7_readsItem_174 : decode cX7_readsItem 174 = .ok (.bipush 6, 2) := by decide +kernel
theorem dX7_readsItem_176 : decode cX7_readsItem 176 = .ok (.aload_n 0, 1) := by decide +kernel
theorem dX7_readsItem_177 : decode cX7_readsItem 177 = .ok (.iconst 0, 1) := by decide +kernel
theorem dX7_readsItem_178 : decode cX7_readsItem 178 = .ok (.bipush 15, 2) := by decide +kernel
theorem dX7_readsItem_180 : decode cX7_readsItem 180 = .ok (.invokevirtual 110, 3) := by decide +kernel
theorem dX7_readsItem_183 : decode cX7_readsItem 183 = .ok (.iastore, 1) := by decide +kernel
theorem dX7_readsItem_184 : decode cX7_readsItem 184 = .ok (.aload_n 0, 1) := by decide +kernel
theorem dX7_readsItem_185 : decode cX7_readsItem 185 = .ok (.dup, 1) := by decide +kernel
theorem dX7_readsItem_186 : decode cX7_readsItem 186 = .ok (.getfield 107, 3) := by decide +kernel
theorem dX7_readsItem_189 : decode cX7_readsItem 189 = .ok (.iconst 1, 1) := by decide +kernel
theorem dX7_readsItem_190 : decode cX7_readsItem 190 = .ok (.ior, 1) := by decide +kernel
theorem dX7_readsItem_191 : decode cX7_readsItem 191 = .ok (.putfield 107, 3) := by decide +kernel
theorem dX7_readsItem_194 : decode cX7_readsItem 194 = .ok (.goto 27, 3) := by decide +kernel
theorem dX7_readsItem_197 : decode cX7_readsItem 197 = .ok (.aload_n 0, 1) := by decide +kernel
theorem dX7_readsItem_198 : decode cX7_readsItem 198 = .ok (.getfield 13, 3) := by decide +kernel
theorem dX7_readsItem_201 : decode cX7_readsItem 201 = .ok (.bipush 7, 2) := by decide +kernel
theorem dX7_readsItem_203 : decode cX7_readsItem 203 = .ok (.aload_n 0, 1) := by decide +kernel
theorem dX7_readsItem_204 : decode cX7_readsItem 204 = .ok (.iconst 1, 1) := by decide +kernel
theorem dX7_readsItem_205 : decode cX7_readsItem 205 = .ok (.bipush 60, 2) := by decide +kernel
theorem dX7_readsItem_207 : decode cX7_readsItem 207 = .ok (.invokevirtual 110, 3) := by decide +kernel
theorem dX7_readsItem_210 : decode cX7_readsItem 210 = .ok (.iastore, 1) := by decide +kernel
theorem dX7_readsItem_211 : decode cX7_readsItem 211 = .ok (.aload_n 0, 1) := by decide +kernel
theorem dX7_readsItem_212 : decode cX7_readsItem 212 = .ok (.dup, 1) := by decide +kernel
theorem dX7_readsItem_213 : decode cX7_readsItem 213 = .ok (.getfield 107, 3) := by decide +kernel
theorem dX7_readsItem_216 : decode cX7_readsItem 216 = .ok (.iconst 2, 1) := by decide +kernel
theorem dX7_readsItem_217 : decode cX7_readsItem 217 = .ok (.ior, 1) := by decide +kernel
theorem dX7_readsItem_218 : decode cX7_readsItem 218 = .ok (.putfield 107, 3) := by decide +kernel
theorem dX7_readsItem_221 : decode cX7_readsItem 221 = .ok (.return_, 1) := by decide +kernel
def bX7_readsItem_160 (z0 : Int32) (z1 : Int32) (σ : St) (Q : St → Prop) : Prop :=
  (vp_in z1 200 ∧ ∀ σ2 : St, σ2 = up σ 99 z1.toNatClampNeg (vp_nar .boolean z0) → Q σ2)
set_option maxHeartbeats 4000000 in
set_option maxRecDepth 100000 in
theorem tX7_readsItem_160 {Q : St → Prop} (M : MC p s m args meth c cX7_readsItem 3 none RX7 Y) (hN : yN Y = 108) (z0 : Int32) (z1 : Int32) (σ : St) (H : Heap) (locs : List Loc) (ls : Array Slot) (hw : WS Y (AD Y) s.heap σ H locs) (hl : lv_has ls 3 []) (h : bX7_readsItem_160 z0 z1 σ Q) : W p l e { frames := 4, cells := 0, slots := 0, locals := 87 } s m args below meth c H locs 0 0 (MQ below (QV Y Q) args s 0 0 (AD Y)) (F0 m 160 ls [.int z0, .int z1, .ref (yA Y 99)]) := by
  obtain ⟨hx, hb, hr, hml, hown, hlk, hT, hK, hB⟩ := id M
  unfold bX7_readsItem_160 at h
  have c1 := h.1
  refine q_zst M hw (ar_99 hN) c1 dX7_readsItem_160 (fun σ2 H locs es hw => ?_)
  have h := h.2 σ2 es
  refine lv_goto (tgt := 221) hx hb dX7_readsItem_161 (by decide) ?_
  exact q_vret M hw h dX7_readsItem_221
def bX7_readsItem_155 (z0 : Int32) (σ : St) (Q : St → Prop) : Prop :=
  bX7_readsItem_160 1 z0 σ Q
set_option maxHeartbeats 4000000 in
set_option maxRecDepth 100000 in
theorem tX7_readsItem_155 {Q : St → Prop} (M : MC p s m args meth c cX7_readsItem 3 none RX7 Y) (hN : yN Y = 108) (z0 : Int32) (σ : St) (H : Heap) (locs : List Loc) (ls : Array Slot) (hw : WS Y (AD Y) s.heap σ H locs) (hl : lv_has ls 3 []) (h : bX7_readsItem_155 z0 σ Q) : W p l e { frames := 4, cells := 0, slots := 0, locals := 87 } s m args below meth c H locs 0 0 (MQ below (QV Y Q) args s 0 0 (AD Y)) (F0 m 155 ls [.int z0, .ref (yA Y 99)]) := by
  obtain ⟨hx, hb, hr, hml, hown, hlk, hT, hK, hB⟩ := id M
  unfold bX7_readsItem_155 at h
  refine lv_iconst (v := 1) hx hb dX7_readsItem_155 (by decide) ?_
  refine lv_goto (tgt := 160) hx hb dX7_readsItem_156 (by decide) ?_
  exact tX7_readsItem_160 M hN 1 z0 σ _ _ _ hw (lv_sub hl [] rfl) h
def wX7_readsItem (a0 : Int32) (σ : St) (Q : St → Prop) : Prop :=
  ((a0 = 102 → (∀ x33 : Int32, x33 = (σ.1 94 4) → wX7_number 0 99 σ (fun r35 σ34 => (vp_in x33 5 ∧ ∀ σ37 : St, σ37 = up σ34 95 x33.toNatClampNeg r35 → wX7_number 1 4 σ37 (fun r39 σ38 => (vp_in (5 + x33) 10 ∧ ∀ σ41 : St, σ41 = up σ38 96 (5 + x33).toNatClampNeg r39 → (∀ σ43 : St, σ43 = up σ41 94 4 ((σ41.1 94 4) + 1) → Q σ43))))))) ∧ (¬ a0 = 102 → ((a0 = 115 → (∀ x22 : Int32, x22 = (σ.1 94 5) → wX7_number 0 ((σ.1 94 4) - 1) σ (fun r24 σ23 => (vp_in x22 7 ∧ ∀ σ26 : St, σ26 = up σ23 97 x22.toNatClampNeg r24 → wX7_number 1 60 σ26 (fun r28 σ27 => (vp_in (7 + x22) 14 ∧ ∀ σ30 : St, σ30 = up σ27 98 (7 + x22).toNatClampNeg r28 → (∀ σ32 : St, σ32 = up σ30 94 5 ((σ30.1 94 5) + 1) → Q σ32))))))) ∧ (¬ a0 = 115 → ((a0 = 99 → wX7_number 0 99 σ (fun r16 σ15 => (vp_in (100 + r16) 200 ∧ (((σ15.1 99 (100 + r16).toNatClampNeg) = 0 → wX7_isWell σ15 (fun r20 σ19 => ((r20 = 0 → bX7_readsItem_160 0 (100 + r16) σ19 Q) ∧ (¬ r20 = 0 → bX7_readsItem_155 (100 + r16) σ19 Q)))) ∧ (¬ (σ15.1 99 (100 + r16).toNatClampNeg) = 0 → bX7_readsItem_155 (100 + r16) σ15 Q))))) ∧ (¬ a0 = 99 → ((a0 = 109 → wX7_number 0 15 σ (fun r11 σ10 => (∀ σ13 : St, σ13 = up σ10 94 6 r11 → (∀ σ14 : St, σ14 = up σ13 92 10 ((σ13.1 92 10) ||| 1) → Q σ14)))) ∧ (¬ a0 = 109 → wX7_number 1 60 σ (fun r6 σ5 => (∀ σ8 : St, σ8 = up σ5 94 7 r6 → (∀ σ9 : St, σ9 = up σ8 92 10 ((σ8.1 92 10) ||| 2) → Q σ9)))))))))))
set_option maxHeartbeats 4000000 in
set_option maxRecDepth 100000 in
theorem tX7_readsItem_E {Q : St → Prop} (M : MC p s m args meth c cX7_readsItem 3 none RX7 Y) (hN : yN Y = 108) (a0 : Int32) (σ : St) (H : Heap) (locs : List Loc) (ls : Array Slot) (hw : WS Y (AD Y) s.heap σ H locs) (hl : lv_has ls 3 [(0, .ref (yA Y 92)), (1, .int a0)]) (h : wX7_readsItem a0 σ Q) : W p l e { frames := 4, cells := 0, slots := 0, locals := 87 } s m args below meth c H locs 0 0 (MQ below (QV Y Q) args s 0 0 (AD Y)) (F0 m 0 ls []) := by
  obtain ⟨hx, hb, hr, hml, hown, hlk, hT, hK, hB⟩ := id M
  unfold wX7_readsItem at h
  refine lv_iload_n hx hb dX7_readsItem_0 rfl (lv_at hl 1 rfl) ?_
  refine lv_bipush (v := 102) hx hb dX7_readsItem_1 (by decide) ?_
  refine lv_icmp_ne (tgt := 53) hx hb dX7_readsItem_3 (by decide) (fun c1 => ?_) (fun c1 => ?_)
  · have h := h.2 c1
    refine lv_iload_n hx hb dX7_readsItem_53 rfl (lv_at hl 1 rfl) ?_
    refine lv_bipush (v := 115) hx hb dX7_readsItem_54 (by decide) ?_
    refine lv_icmp_ne (tgt := 114) hx hb dX7_readsItem_56 (by decide) (fun c2 => ?_) (fun c2 => ?_)
    · have h := h.2 c2
      refine lv_iload_n hx hb dX7_readsItem_114 rfl (lv_at hl 1 rfl) ?_
      refine lv_bipush (v := 99) hx hb dX7_readsItem_115 (by decide) ?_
      refine lv_icmp_ne (tgt := 164) hx hb dX7_readsItem_117 (by decide) (fun c3 => ?_) (fun c3 => ?_)
      · have h := h.2 c3
        refine lv_iload_n hx hb dX7_readsItem_164 rfl (lv_at hl 1 rfl) ?_
        refine lv_bipush (v := 109) hx hb dX7_readsItem_165 (by decide) ?_
        refine lv_icmp_ne (tgt := 197) hx hb dX7_readsItem_167 (by decide) (fun c4 => ?_) (fun c4 => ?_)
        · have h := h.2 c4
          refine lv_aload_n hx hb dX7_readsItem_197 rfl (lv_at hl 0 rfl) ?_
          refine q_get (v := .ref (yA Y 94)) M hw (ob_92 hN) rfl inq_7 9 (by decide) tw_644 rfl dX7_readsItem_198 ?_
          refine lv_bipush (v := 7) hx hb dX7_readsItem_201 (by decide) ?_
          refine lv_aload_n hx hb dX7_readsItem_203 rfl (lv_at hl 0 rfl) ?_
          refine lv_iconst (v := 1) hx hb dX7_readsItem_204 (by decide) ?_
          refine lv_bipush (v := 60) hx hb dX7_readsItem_205 (by decide) ?_
          refine q_goI hw (q_runV (rest := [.int 7, .ref (yA Y 94)]) M hw (ctX7_number l hB hN 1 60 σ _ h) mbX7_number (ob_92 hN) rfl tw_756 rfl hl.1 rfl (Nat.le_of_ble_eq_true rfl) ⟨Nat.le_of_ble_eq_true rfl, Nat.le_of_ble_eq_true rfl⟩ ⟨Nat.le_refl _, Nat.le_refl _⟩ dX7_readsItem_207) (fun r6 σ5 H locs h hw => ?_)
          refine q_ist' 7 M hw (ar_94 hN) (by unfold vp_in; decide) (by decide) dX7_readsItem_210 (fun σ8 H locs es hw => ?_)
          have h := h σ8 es
          refine lv_aload_n hx hb dX7_readsItem_211 rfl (lv_at hl 0 rfl) ?_
          refine lv_dup hx hb dX7_readsItem_212 rfl ?_
          refine q_get (v := .int (σ8.1 92 10)) M hw (ob_92 hN) rfl inq_7 10 (by decide) tw_645 rfl dX7_readsItem_213 ?_
          refine lv_iconst (v := 2) hx hb dX7_readsItem_216 (by decide) ?_
          refine lv_ior hx hb dX7_readsItem_217 ?_
          refine q_put (v := ((σ8.1 92 10) ||| 2)) M hw (ob_92 hN) rfl inq_7 tyX7 tyX7_ok nmX7 10 (by decide) tw_645 rfl rfl rfl (Nat.le_of_ble_eq_true rfl) (by simp [up, upd, f0]) dX7_readsItem_218 (fun σ9 H locs es hw => ?_)
          have h := h σ9 es
          exact q_vret M hw h dX7_readsItem_221
        · have h := h.1 c4
          refine lv_aload_n hx hb dX7_readsItem_170 rfl (lv_at hl 0 rfl) ?_
          refine q_get (v := .ref (yA Y 94)) M hw (ob_92 hN) rfl inq_7 9 (by decide) tw_644 rfl dX7_readsItem_171 ?_
          refine lv_bipush (v := 6) hx hb dX7_readsItem_174 (by decide) ?_
          refine lv_aload_n hx hb dX7_readsItem_176 rfl (lv_at hl 0 rfl) ?_
          refine lv_iconst (v := 0) hx hb dX7_readsItem_177 (by decide) ?_
          refine lv_bipush (v := 15) hx hb dX7_readsItem_178 (by decide) ?_
          refine q_goI hw (q_runV (rest := [.int 6, .ref (yA Y 94)]) M hw (ctX7_number l hB hN 0 15 σ _ h) mbX7_number (ob_92 hN) rfl tw_756 rfl hl.1 rfl (Nat.le_of_ble_eq_true rfl) ⟨Nat.le_of_ble_eq_true rfl, Nat.le_of_ble_eq_true rfl⟩ ⟨Nat.le_refl _, Nat.le_refl _⟩ dX7_readsItem_180) (fun r11 σ10 H locs h hw => ?_)
          refine q_ist' 6 M hw (ar_94 hN) (by unfold vp_in; decide) (by decide) dX7_readsItem_183 (fun σ13 H locs es hw => ?_)
          have h := h σ13 es
          refine lv_aload_n hx hb dX7_readsItem_184 rfl (lv_at hl 0 rfl) ?_
          refine lv_dup hx hb dX7_readsItem_185 rfl ?_
          refine q_get (v := .int (σ13.1 92 10)) M hw (ob_92 hN) rfl inq_7 10 (by decide) tw_645 rfl dX7_readsItem_186 ?_
          refine lv_iconst (v := 1) hx hb dX7_readsItem_189 (by decide) ?_
          refine lv_ior hx hb dX7_readsItem_190 ?_
          refine q_put (v := ((σ13.1 92 10) ||| 1)) M hw (ob_92 hN) rfl inq_7 tyX7 tyX7_ok nmX7 10 (by decide) tw_645 rfl rfl rfl (Nat.le_of_ble_eq_true rfl) (by simp [up, upd, f0]) dX7_readsItem_191 (fun σ14 H locs es hw => ?_)
          have h := h σ14 es
          refine lv_goto (tgt := 221) hx hb dX7_readsItem_194 (by decide) ?_
          exact q_vret M hw h dX7_readsItem_221
      · have h := h.1 c3
        refine lv_aload_n hx hb dX7_readsItem_120 rfl (lv_at hl 0 rfl) ?_
        refine lv_iconst (v := 0) hx hb dX7_readsItem_121 (by decide) ?_
        refine lv_bipush (v := 99) hx hb dX7_readsItem_122 (by decide) ?_
        refine q_goI hw (q_runV (rest := []) M hw (ctX7_number l hB hN 0 99 σ _ h) mbX7_number (ob_92 hN) rfl tw_756 rfl hl.1 rfl (Nat.le_of_ble_eq_true rfl) ⟨Nat.le_of_ble_eq_true rfl, Nat.le_of_ble_eq_true rfl⟩ ⟨Nat.le_refl _, Nat.le_refl _⟩ dX7_readsItem_124) (fun r16 σ15 H locs h hw => ?_)
        refine lv_istore_n (lv' := [(2, .int r16), (0, .ref (yA Y 92)), (1, .int a0)]) hx hb dX7_readsItem_127 rfl hl (by decide) rfl (fun ls hl => ?_)
        refine lv_aload_n hx hb dX7_readsItem_128 rfl (lv_at hl 1 rfl) ?_
        refine q_get (v := .ref (yA Y 99)) M hw (ob_92 hN) rfl inq_7 15 (by decide) tw_650 rfl dX7_readsItem_129 ?_
        refine lv_bipush (v := 100) hx hb dX7_readsItem_132 (by decide) ?_
        refine lv_iload_n hx hb dX7_readsItem_134 rfl (lv_at hl 0 rfl) ?_
        refine lv_iadd hx hb dX7_readsItem_135 ?_
        refine lv_aload_n hx hb dX7_readsItem_136 rfl (lv_at hl 1 rfl) ?_
        refine q_get (v := .ref (yA Y 99)) M hw (ob_92 hN) rfl inq_7 15 (by decide) tw_650 rfl dX7_readsItem_137 ?_
        refine lv_bipush (v := 100) hx hb dX7_readsItem_140 (by decide) ?_
        refine lv_iload_n hx hb dX7_readsItem_142 rfl (lv_at hl 0 rfl) ?_
        refine lv_iadd hx hb dX7_readsItem_143 ?_
        have c17 := h.1
        have h := h.2
        refine q_zld M hw (ar_99 hN) c17 dX7_readsItem_144 ?_
        refine lv_if_ne (tgt := 155) hx hb dX7_readsItem_145 (by decide) (fun c18 => ?_) (fun c18 => ?_)
        · have h := h.2 c18
          exact tX7_readsItem_155 M hN (100 + r16) σ15 _ _ _ hw (lv_sub hl [] rfl) h
        · have h := h.1 c18
          refine lv_aload_n hx hb dX7_readsItem_148 rfl (lv_at hl 1 rfl) ?_
          refine q_goI hw (q_runV (rest := [.int (100 + r16), .ref (yA Y 99)]) M hw (ctX7_isWell l hB hN σ15 _ h) mbX7_isWell (ob_92 hN) rfl tw_740 rfl hl.1 rfl (Nat.le_of_ble_eq_true rfl) ⟨Nat.le_of_ble_eq_true rfl, Nat.le_of_ble_eq_true rfl⟩ ⟨Nat.le_refl _, Nat.le_refl _⟩ dX7_readsItem_149) (fun r20 σ19 H locs h hw => ?_)
          refine lv_if_eq (tgt := 159) hx hb dX7_readsItem_152 (by decide) (fun c21 => ?_) (fun c21 => ?_)
          · have h := h.1 c21
            refine lv_iconst (v := 0) hx hb dX7_readsItem_159 (by decide) ?_
            exact tX7_readsItem_160 M hN 0 (100 + r16) σ19 _ _ _ hw (lv_sub hl [] rfl) h
          · have h := h.2 c21
            exact tX7_readsItem_155 M hN (100 + r16) σ19 _ _ _ hw (lv_sub hl [] rfl) h
    · have h := h.1 c2
      refine lv_aload_n hx hb dX7_readsItem_59 rfl (lv_at hl 0 rfl) ?_
      refine q_get (v := .ref (yA Y 94)) M hw (ob_92 hN) rfl inq_7 9 (by decide) tw_644 rfl dX7_readsItem_60 ?_
      refine lv_iconst (v := 5) hx hb dX7_readsItem_63 (by decide) ?_
      refine q_ild' 5 M hw (ar_94 hN) (by unfold vp_in; decide) (by decide) dX7_readsItem_64 ?_
      refine lv_topi (fun x22 ex22 => ?_)
      have h := h x22 ex22
      refine lv_istore_n (lv' := [(2, .int x22), (0, .ref (yA Y 92)), (1, .int a0)]) hx hb dX7_readsItem_65 rfl hl (by decide) rfl (fun ls hl => ?_)
      refine lv_aload_n hx hb dX7_readsItem_66 rfl (lv_at hl 1 rfl) ?_
      refine q_get (v := .ref (yA Y 97)) M hw (ob_92 hN) rfl inq_7 13 (by decide) tw_648 rfl dX7_readsItem_67 ?_
      refine lv_iload_n hx hb dX7_readsItem_70 rfl (lv_at hl 0 rfl) ?_
      refine lv_aload_n hx hb dX7_readsItem_71 rfl (lv_at hl 1 rfl) ?_
      refine lv_iconst (v := 0) hx hb dX7_readsItem_72 (by decide) ?_
      refine lv_aload_n hx hb dX7_readsItem_73 rfl (lv_at hl 1 rfl) ?_
      refine q_get (v := .ref (yA Y 94)) M hw (ob_92 hN) rfl inq_7 9 (by decide) tw_644 rfl dX7_readsItem_74 ?_
      refine lv_iconst (v := 4) hx hb dX7_readsItem_77 (by decide) ?_
      refine q_ild' 4 M hw (ar_94 hN) (by unfold vp_in; decide) (by decide) dX7_readsItem_78 ?_
      refine lv_iconst (v := 1) hx hb dX7_readsItem_79 (by decide) ?_
      refine lv_isub hx hb dX7_readsItem_80 ?_
      refine q_goI hw (q_runV (rest := [.int x22, .ref (yA Y 97)]) M hw (ctX7_number l hB hN 0 ((σ.1 94 4) - 1) σ _ h) mbX7_number (ob_92 hN) rfl tw_756 rfl hl.1 rfl (Nat.le_of_ble_eq_true rfl) ⟨Nat.le_of_ble_eq_true rfl, Nat.le_of_ble_eq_true rfl⟩ ⟨Nat.le_refl _, Nat.le_refl _⟩ dX7_readsItem_81) (fun r24 σ23 H locs h hw => ?_)
      have c25 := h.1
      refine q_ist M hw (ar_97 hN) c25 dX7_readsItem_84 (fun σ26 H locs es hw => ?_)
      have h := h.2 σ26 es
      refine lv_aload_n hx hb dX7_readsItem_85 rfl (lv_at hl 1 rfl) ?_
      refine q_get (v := .ref (yA Y 98)) M hw (ob_92 hN) rfl inq_7 14 (by decide) tw_649 rfl dX7_readsItem_86 ?_
      refine lv_bipush (v := 7) hx hb dX7_readsItem_89 (by decide) ?_
      refine lv_iload_n hx hb dX7_readsItem_91 rfl (lv_at hl 0 rfl) ?_
      refine lv_iadd hx hb dX7_readsItem_92 ?_
      refine lv_aload_n hx hb dX7_readsItem_93 rfl (lv_at hl 1 rfl) ?_
      refine lv_iconst (v := 1) hx hb dX7_readsItem_94 (by decide) ?_
      refine lv_bipush (v := 60) hx hb dX7_readsItem_95 (by decide) ?_
      refine q_goI hw (q_runV (rest := [.int (7 + x22), .ref (yA Y 98)]) M hw (ctX7_number l hB hN 1 60 σ26 _ h) mbX7_number (ob_92 hN) rfl tw_756 rfl hl.1 rfl (Nat.le_of_ble_eq_true rfl) ⟨Nat.le_of_ble_eq_true rfl, Nat.le_of_ble_eq_true rfl⟩ ⟨Nat.le_refl _, Nat.le_refl _⟩ dX7_readsItem_97) (fun r28 σ27 H locs h hw => ?_)
      have c29 := h.1
      refine q_ist M hw (ar_98 hN) c29 dX7_readsItem_100 (fun σ30 H locs es hw => ?_)
      have h := h.2 σ30 es
      refine lv_aload_n hx hb dX7_readsItem_101 rfl (lv_at hl 1 rfl) ?_
      refine q_get (v := .ref (yA Y 94)) M hw (ob_92 hN) rfl inq_7 9 (by decide) tw_644 rfl dX7_readsItem_102 ?_
      refine lv_iconst (v := 5) hx hb dX7_readsItem_105 (by decide) ?_
      refine lv_dup2_11 hx hb dX7_readsItem_106 rfl rfl ?_
      refine q_ild' 5 M hw (ar_94 hN) (by unfold vp_in; decide) (by decide) dX7_readsItem_107 ?_
      refine lv_iconst (v := 1) hx hb dX7_readsItem_108 (by decide) ?_
      refine lv_iadd hx hb dX7_readsItem_109 ?_
      refine q_ist' 5 M hw (ar_94 hN) (by unfold vp_in; decide) (by decide) dX7_readsItem_110 (fun σ32 H locs es hw => ?_)
      have h := h σ32 es
      refine lv_goto (tgt := 221) hx hb dX7_readsItem_111 (by decide) ?_
      exact q_vret M hw h dX7_readsItem_221
  · have h := h.1 c1
    refine lv_aload_n hx hb dX7_readsItem_6 rfl (lv_at hl 0 rfl) ?_
    refine q_get (v := .ref (yA Y 94)) M hw (ob_92 hN) rfl inq_7 9 (by decide) tw_644 rfl dX7_readsItem_7 ?_
    refine lv_iconst (v := 4) hx hb dX7_readsItem_10 (by decide) ?_
    refine q_ild' 4 M hw (ar_94 hN) (by unfold vp_in; decide) (by decide) dX7_readsItem_11 ?_
    refine lv_topi (fun x33 ex33 => ?_)
    have h := h x33 ex33
    refine lv_istore_n (lv' := [(2, .int x33), (0, .ref (yA Y 92)), (1, .int a0)]) hx hb dX7_readsItem_12 rfl hl (by decide) rfl (fun ls hl => ?_)
    refine lv_aload_n hx hb dX7_readsItem_13 rfl (lv_at hl 1 rfl) ?_
    refine q_get (v := .ref (yA Y 95)) M hw (ob_92 hN) rfl inq_7 11 (by decide) tw_646 rfl dX7_readsItem_14 ?_
    refine lv_iload_n hx hb dX7_readsItem_17 rfl (lv_at hl 0 rfl) ?_
    refine lv_aload_n hx hb dX7_readsItem_18 rfl (lv_at hl 1 rfl) ?_
    refine lv_iconst (v := 0) hx hb dX7_readsItem_19 (by decide) ?_
    refine lv_bipush (v := 99) hx hb dX7_readsItem_20 (by decide) ?_
    refine q_goI hw (q_runV (rest := [.int x33, .ref (yA Y 95)]) M hw (ctX7_number l hB hN 0 99 σ _ h) mbX7_number (ob_92 hN) rfl tw_756 rfl hl.1 rfl (Nat.le_of_ble_eq_true rfl) ⟨Nat.le_of_ble_eq_true rfl, Nat.le_of_ble_eq_true rfl⟩ ⟨Nat.le_refl _, Nat.le_refl _⟩ dX7_readsItem_22) (fun r35 σ34 H locs h hw => ?_)
    have c36 := h.1
    refine q_ist M hw (ar_95 hN) c36 dX7_readsItem_25 (fun σ37 H locs es hw => ?_)
    have h := h.2 σ37 es
    refine lv_aload_n hx hb dX7_readsItem_26 rfl (lv_at hl 1 rfl) ?_
    refine q_get (v := .ref (yA Y 96)) M hw (ob_92 hN) rfl inq_7 12 (by decide) tw_647 rfl dX7_readsItem_27 ?_
    refine lv_iconst (v := 5) hx hb dX7_readsItem_30 (by decide) ?_
    refine lv_iload_n hx hb dX7_readsItem_31 rfl (lv_at hl 0 rfl) ?_
    refine lv_iadd hx hb dX7_readsItem_32 ?_
    refine lv_aload_n hx hb dX7_readsItem_33 rfl (lv_at hl 1 rfl) ?_
    refine lv_iconst (v := 1) hx hb dX7_readsItem_34 (by decide) ?_
    refine lv_iconst (v := 4) hx hb dX7_readsItem_35 (by decide) ?_
    refine q_goI hw (q_runV (rest := [.int (5 + x33), .ref (yA Y 96)]) M hw (ctX7_number l hB hN 1 4 σ37 _ h) mbX7_number (ob_92 hN) rfl tw_756 rfl hl.1 rfl (Nat.le_of_ble_eq_true rfl) ⟨Nat.le_of_ble_eq_true rfl, Nat.le_of_ble_eq_true rfl⟩ ⟨Nat.le_refl _, Nat.le_refl _⟩ dX7_readsItem_36) (fun r39 σ38 H locs h hw => ?_)
    have c40 := h.1
    refine q_ist M hw (ar_96 hN) c40 dX7_readsItem_39 (fun σ41 H locs es hw => ?_)
    have h := h.2 σ41 es
    refine lv_aload_n hx hb dX7_readsItem_40 rfl (lv_at hl 1 rfl) ?_
    refine q_get (v := .ref (yA Y 94)) M hw (ob_92 hN) rfl inq_7 9 (by decide) tw_644 rfl dX7_readsItem_41 ?_
    refine lv_iconst (v := 4) hx hb dX7_readsItem_44 (by decide) ?_
    refine lv_dup2_11 hx hb dX7_readsItem_45 rfl rfl ?_
    refine q_ild' 4 M hw (ar_94 hN) (by unfold vp_in; decide) (by decide) dX7_readsItem_46 ?_
    refine lv_iconst (v := 1) hx hb dX7_readsItem_47 (by decide) ?_
    refine lv_iadd hx hb dX7_readsItem_48 ?_
    refine q_ist' 4 M hw (ar_94 hN) (by unfold vp_in; decide) (by decide) dX7_readsItem_49 (fun σ43 H locs es hw => ?_)
    have h := h σ43 es
    refine lv_goto (tgt := 221) hx hb dX7_readsItem_50 (by decide) ?_
    exact q_vret M hw h dX7_readsItem_221
set_option maxRecDepth 100000 in
theorem ctX7_readsItem (l : Launch) {Y : LY} (hB : YB Y) (hN : yN Y = 108) (a0 : Int32) (σ : St) (Q : St → Prop) (h : wX7_readsItem a0 σ Q) : CT l yX7_readsItem (Cond.code yX7_readsItem cX7_readsItem 3 none) { frames := 4, cells := 0, slots := 0, locals := 87 } Y [.ref (yA Y 92), .int a0] σ (QV Y Q) :=
  q_ent hB (by decide +kernel) (Nat.le_of_ble_eq_true rfl) (fun p e s m below meth c ls M hw hl => tX7_readsItem_E M hN a0 σ _ _ ls hw hl h)
theorem mbX7_readsItem : MB RX7 yX7_readsItem cX7_readsItem 1 3 none := ⟨tw_754, tw_35, tw_56, tw_755, by decide +kernel⟩
end
section
variable {p : Program} {l : Launch} {e : Env} {s : State} {m : MethodId} {args : Array Value} {below : List Frame} {meth : Method} {c : Code} {Y : LY}
theorem dX7_settles_0 : decode cX7_settles 0 = .ok (.iconst 0, 1) := by decide +kernel
theorem dX7_settles_1 : decode cX7_settles 1 = .ok (.istore_n 1, 1) := by decide +kernel
theorem dX7_settles_2 : decode cX7_settles 2 = .ok (.iload_n 1, 1) := by decide +kernel
theorem dX7_settles_3 : decode cX7_settles 3 = .ok (.iconst 4, 1) := by decide +kernel
theorem dX7_settles_4 : decode cX7_settles 4 = .ok (.if_icmp .ge 23, 3) := by decide +kernel
theorem dX7_settles_7 : decode cX7_settles 7 = .ok (.aload_n 0, 1) := by decide +kernel
theorem dX7_settles_8 : decode cX7_settles 8 = .ok (.getfield 13, 3) := by decide +kernel
theorem dX7_settles_11 : decode cX7_settles 11 = .ok (.iload_n 1, 1) := by decide +kernel
theorem dX7_settles_12 : decode cX7_settles 12 = .ok (.aload_n 0, 1) := by decide +kernel
theorem dX7_settles_13 : decode cX7_settles 13 = .ok (.getfield 13, 3) := by decide +kernel
theorem dX7_settles_16 : decode cX7_settles 16 = .ok (.iconst 4, 1) := by decide +kernel
theorem dX7_settles_17 : decode cX7_settles 17 = .ok (.iload_n 1, 1) := by decide +kernel
theorem dX7_settles_18 : decode cX7_settles 18 = .ok (.iadd, 1) := by decide +kernel
theorem dX7_settles_19 : decode cX7_settles 19 = .ok (.iaload, 1) := by decide +kernel
theorem dX7_settles_20 : decode cX7_settles 20 = .ok (.iastore, 1) := by decide +kernel
theorem dX7_settles_21 : decode cX7_settles 21 = .ok (.iinc 1 1, 3) := by decide +kernel
theorem dX7_settles_24 : decode cX7_settles 24 = .ok (.goto (-22), 3) := by decide +kernel
theorem dX7_settles_27 : decode cX7_settles 27 = .ok (.iconst 0, 1) := by decide +kernel
theorem dX7_settles_28 : decode cX7_settles 28 = .ok (.istore_n 1, 1) := by decide +kernel
theorem dX7_settles_29 : decode cX7_settles 29 = .ok (.iload_n 1, 1) := by decide +kernel
theorem dX7_settles_30 : decode cX7_settles 30 = .ok (.bipush 27, 2) := by decide +kernel
theorem dX7_settles_32 : decode cX7_settles 32 = .ok (.if_icmp .ge 16, 3) := by decide +kernel
theorem dX7_settles_35 : decode cX7_settles 35 = .ok (.aload_n 0, 1) := by decide +kernel
theorem dX7_settles_36 : decode cX7_settles 36 = .ok (.getfield 32, 3) := by decide +kernel
theorem dX7_settles_39 : decode cX7_settles 39 = .ok (.iload_n 1, 1) := by decide +kernel
theorem dX7_settles_40 : decode cX7_settles 40 = .ok (.iconst 0, 1) := by decide +kernel
theorem dX7_settles_41 : decode cX7_settles 41 = .ok (.iastore, 1) := by decide +kernel
theorem dX7_settles_42 : decode cX7_settles 42 = .ok (.iinc 1 1, 3) := by decide +kernel
theorem dX7_settles_45 : decode cX7_settles 45 = .ok (.goto (-16), 3) := by decide +kernel
theorem dX7_settles_48 : decode cX7_settles 48 = .ok (.iconst 0, 1) := by decide +kernel
theorem dX7_settles_49 : decode cX7_settles 49 = .ok (.istore_n 1, 1) := by decide +kernel
theorem dX7_settles_50 : decode cX7_settles 50 = .ok (.iload_n 1, 1) := by decide +kernel
theorem dX7_settles_51 : decode cX7_settles 51 = .ok (.bipush 100, 2) := by decide +kernel
theorem dX7_settles_53 : decode cX7_settles 53 = .ok (.if_icmp .ge 24, 3) := by decide +kernel
theorem dX7_settles_56 : decode cX7_settles 56 = .ok (.aload_n 0, 1) := by decide +kernel
theorem dX7_settles_57 : decode cX7_settles 57 = .ok (.getfield 28, 3) := by decide +kernel
theorem dX7_settles_60 : decode cX7_settles 60 = .ok (.iload_n 1, 1) := by decide +kernel
theorem dX7_settles_61 : decode cX7_settles 61 = .ok (.aload_n 0, 1) := by decide +kernel
theorem dX7_settles_62 : decode cX7_settles 62 = .ok (.getfield 28, 3) := by decide +kernel
theorem dX7_settles_65 : decode cX7_settles 65 = .ok (.bipush 100, 2) := by decide +kernel
theorem dX7_settles_67 : decode cX7_settles 67 = .ok (.iload_n 1, 1) := by decide +kernel
theorem dX7_settles_68 : decode cX7_settles 68 = .ok (.iadd, 1) := by decide +kernel
theorem dX7_settles_69 : decode cX7_settles 69 = .ok (.baload, 1) := by decide +kernel
theorem dX7_settles_70 : decode cX7_settles 70 = .ok (.bastore, 1) := by decide +kernel
theorem dX7_settles_71 : decode cX7_settles 71 = .ok (.iinc 1 1, 3) := by decide +kernel
theorem dX7_settles_74 : decode cX7_settles 74 = .ok (.goto (-24), 3) := by decide +kernel
theorem dX7_settles_77 : decode cX7_settles 77 = .ok (.iconst 0, 1) := by decide +kernel
theorem dX7_settles_78 : decode cX7_settles 78 = .ok (.istore_n 1, 1) := by decide +kernel
theorem dX7_settles_79 : decode cX7_settles 79 = .ok (.iload_n 1, 1) := by decide +kernel
theorem dX7_settles_80 : decode cX7_settles 80 = .ok (.iconst 5, 1) := by decide +kernel
theorem dX7_settles_81 : decode cX7_settles 81 = .ok (.if_icmp .ge 51, 3) := by decide +kernel
theorem dX7_settles_84 : decode cX7_settles 84 = .ok (.aload_n 0, 1) := by decide +kernel
theorem dX7_settles_85 : decode cX7_settles 85 = .ok (.getfield 19, 3) := by decide +kernel
theorem dX7_settles_88 : decode cX7_settles 88 = .ok (.iload_n 1, 1) := by decide +kernel
theorem dX7_settles_89 : decode cX7_settles 89 = .ok (.aload_n 0, 1) := by decide +kernel
theorem dX7_settles_90 : decode cX7_settles 90 = .ok (.getfield 19, 3) := by decide +kernel
theorem dX7_settles_93 : decode cX7_settles 93 = .ok (.iconst 5, 1) := by decide +kernel
theorem dX7_settles_94 : decode cX7_settles 94 = .ok (.iload_n 1, 1) := by decide +kernel
theorem dX7_settles_95 : decode cX7_settles 95 = .ok (.iadd, 1) := by decide +kernel
theorem dX7_settles_96 : decode cX7_settles 96 = .ok (.iaload, 1) := by decide +kernel
theorem dX7_settles_97 : decode cX7_settles 97 = .ok (.iastore, 1) := by decide +kernel
theorem dX7_settles_98 : decode cX7_settles 98 = .ok (.aload_n 0, 1) := by decide +kernel
theorem dX7_settles_99 : decode cX7_settles 99 = .ok (.getfield 32, 3) := by decide +kernel
theorem dX7_settles_102 : decode cX7_settles 102 = .ok (.iconst 1, 1) := by decide +kernel
theorem dX7_settles_103 : decode cX7_settles 103 = .ok (.iload_n 1, 1) := by decide +kernel
theorem dX7_settles_104 : decode cX7_settles 104 = .ok (.iadd, 1) := by decide +kernel
theorem dX7_settles_105 : decode cX7_settles 105 = .ok (.iload_n 1, 1) := by decide +kernel
theorem dX7_settles_106 : decode cX7_settles 106 = .ok (.aload_n 0, 1) := by decide +kernel
theorem dX7_settles_107 : decode cX7_settles 107 = .ok (.getfield 13, 3) := by decide +kernel
theorem dX7_settles_110 : decode cX7_settles 110 = .ok (.iconst 0, 1) := by decide +kernel
theorem dX7_settles_111 : decode cX7_settles 111 = .ok (.iaload, 1) := by decide +kernel
theorem dX7_settles_112 : decode cX7_settles 112 = .ok (.if_icmp .ge 12, 3) := by decide +kernel
theorem dX7_settles_115 : decode cX7_settles 115 = .ok (.aload_n 0, 1) := by decide +kernel
theorem dX7_settles_116 : decode cX7_settles 116 = .ok (.getfield 16, 3) := by decide +kernel
theorem dX7_settles_119 : decode cX7_settles 119 = .ok (.iload_n 1, 1) := by decide +kernel
theorem dX7_settles_120 : decode cX7_settles 120 = .ok (.iaload, 1) := by decide +kernel
theorem dX7_settles_121 : decode cX7_settles 121 = .ok (.goto 4, 3) := by decide +kernel
theorem dX7_settles_124 : decode cX7_settles 124 = .ok (.iconst 0, 1) := by decide +kernel
theorem dX7_settles_125 : decode cX7_settles 125 = .ok (.iastore, 1) := by decide +kernel
theorem dX7_settles_126 : decode cX7_settles 126 = .ok (.iinc 1 1, 3) := by decide +kernel
theorem dX7_settles_129 : decode cX7_settles 129 = .ok (.goto (-50), 3) := by decide +kernel
theorem dX7_settles_132 : decode cX7_settles 132 = .ok (.iconst 0, 1) := by decide +kernel
theorem dX7_settles_133 : decode cX7_settles 133 = .ok (.istore_n 1, 1) := by decide +kernel
theorem dX7_settles_134 : decode cX7_settles 134 = .ok (.iload_n 1, 1) := by decide +kernel
theorem dX7_settles_135 : decode cX7_settles 135 = .ok (.bipush 7, 2) := by decide +kernel
theorem dX7_settles_137 : decode cX7_settles 137 = .ok (.if_icmp .ge 82, 3) := by decide +kernel
theorem dX7_settles_140 : decode cX7_settles 140 = .ok (.aload_n 0, 1) := by decide +kernel
theorem dX7_settles_141 : decode cX7_settles 141 = .ok (.getfield 25, 3) := by decide +kernel
theorem dX7_settles_144 : decode cX7_settles 144 = .ok (.iload_n 1, 1) := by decide +kernel
theorem dX7_settles_145 : decode cX7_settles 145 = .ok (.aload_n 0, 1) := by decide +kernel
theorem dX7_settles_146 : decode cX7_settles 146 = .ok (.getfield 25, 3) := by decide +kernel
theorem dX7_settles_149 : decode cX7_settles 149 = .ok (.bipush 7, 2) := by decide +kernel
theorem dX7_settles_151 : decode cX7_settles 151 = .ok (.iload_n 1, 1) := by decide +kernel
theorem dX7_settles_152 : decode cX7_settles 152 = .ok (.iadd, 1) := by decide +kernel
theorem dX7_settles_153 : decode cX7_settles 153 = .ok (.iaload, 1) := by decide +kernel
theorem dX7_settles_154 : decode cX7_settles 154 = .ok (.iastore, 1) := by decide +kernel
theorem dX7_settles_155 : decode cX7_settles 155 = .ok (.aload_n 0, 1) := by decide +kernel
theorem dX7_settles_156 : decode cX7_settles 156 = .ok (.getfield 32, 3) := by decide +kernel
theorem dX7_settles_159 : decode cX7_settles 159 = .ok (.bipush 6, 2) := by decide +kernel
theorem dX7_settles_161 : decode cX7_settles 161 = .ok (.iload_n 1, 1) := by decide +kernel
theorem dX7_settles_162 : decode cX7_settles 162 = .ok (.iadd, 1) := by decide +kernel
theorem dX7_settles_163 : decode cX7_settles 163 = .ok (.iload_n 1, 1) := by decide +kernel
theorem dX7_settles_164 : decode cX7_settles 164 = .ok (.aload_n 0, 1) := by decide +kernel
theorem dX7_settles_165 : decode cX7_settles 165 = .ok (.getfield 13, 3) := by decide +kernel
theorem dX7_settles_168 : decode cX7_settles 168 = .ok (.iconst 1, 1) := by decide +kernel
theorem dX7_settles_169 : decode cX7_settles 169 = .ok (.iaload, 1) := by decide +kernel
theorem dX7_settles_170 : decode cX7_settles 170 = .ok (.if_icmp .ge 12, 3) := by decide +kernel
theorem dX7_settles_173 : decode cX7_settles 173 = .ok (.aload_n 0, 1) := by decide +kernel
theorem dX7_settles_174 : decode cX7_settles 174 = .ok (.getfield 25, 3) := by decide +kernel
theorem dX7_settles_177 : decode cX7_settles 177 = .ok (.iload_n 1, 1) := by decide +kernel
theorem dX7_settles_178 : decode cX7_settles 178 = .ok (.iaload, 1) := by decide +kernel
theorem dX7_settles_179 : decode cX7_settles 179 = .ok (.goto 4, 3) := by decide +kernel
theorem dX7_settles_182 : decode cX7_settles 182 = .ok (.iconst 0, 1) := by decide +kernel
theorem dX7_settles_183 : decode cX7_settles 183 = .ok (.iastore, 1) := by decide +kernel
theorem dX7_settles_184 : decode cX7_settles 184 = .ok (.aload_n 0, 1) := by decide +kernel
theorem dX7_settles_185 : decode cX7_settles 185 = .ok (.getfield 32, 3) := by decide +kernel
theorem dX7_settles_188 : decode cX7_settles 188 = .ok (.bipush 13, 2) := by decide +kernel
theorem dX7_settles_190 : decode cX7_settles 190 = .ok (.iload_n 1, 1) := by decide +kernel
theorem dX7_settles_191 : decode cX7_settles 191 = .ok (.iadd, 1) := by decide +kernel
theorem dX7_settles_192 : decode cX7_settles 192 = .ok (.iload_n 1, 1) := by decide +kernel
theorem dX7_settles_193 : decode cX7_settles 193 = .ok (.aload_n 0, 1) := by decide +kernel
theorem dX7_settles_194 : decode cX7_settles 194 = .ok (.getfield 13, 3) := by decide +kernel
theorem dX7_settles_197 : decode cX7_settles 197 = .ok (.iconst 1, 1) := by decide +kernel
theorem dX7_settles_198 : decode cX7_settles 198 = .ok (.iaload, 1) := by decide +kernel
theorem dX7_settles_199 : decode cX7_settles 199 = .ok (.if_icmp .ge 12, 3) := by decide +kernel
theorem dX7_settles_202 : decode cX7_settles 202 = .ok (.aload_n 0, 1) := by decide +kernel
theorem dX7_settles_203 : decode cX7_settles 203 = .ok (.getfield 22, 3) := by decide +kernel
theorem dX7_settles_206 : decode cX7_settles 206 = .ok (.iload_n 1, 1) := by decide +kernel
theorem dX7_settles_207 : decode cX7_settles 207 = .ok (.iaload, 1) := by decide +kernel
theorem dX7_settles_208 : decode cX7_settles 208 = .ok (.goto 4, 3) := by decide +kernel
theorem dX7_settles_211 : decode cX7_settles 211 = .ok (.iconst 0, 1) := by decide +kernel
theorem dX7_settles_212 : decode cX7_settles 212 = .ok (.iastore, 1) := by decide +kernel
theorem dX7_settles_213 : decode cX7_settles 213 = .ok (.iinc 1 1, 3) := by decide +kernel
theorem dX7_settles_216 : decode cX7_settles 216 = .ok (.goto (-82), 3) := by decide +kernel
theorem dX7_settles_219 : decode cX7_settles 219 = .ok (.aload_n 0, 1) := by decide +kernel
theorem dX7_settles_220 : decode cX7_settles 220 = .ok (.getfield 32, 3) := by decide +kernel
theorem dX7_settles_223 : decode cX7_settles 223 = .ok (.bipush 20, 2) := by decide +kernel
theorem dX7_settles_225 : decode cX7_settles 225 = .ok (.iconst 1, 1) := by decide +kernel
theorem dX7_settles_226 : decode cX7_settles 226 = .ok (.aload_n 0, 1) := by decide +kernel
theorem dX7_settles_227 : decode cX7_settles 227 = .ok (.getfield 13, 3) := by decide +kernel
theorem dX7_settles_230 : decode cX7_settles 230 = .ok (.iconst 0, 1) := by decide +kernel
theorem dX7_settles_231 : decode cX7_settles 231 = .ok (.iaload, 1) := by decide +kernel
theorem dX7_settles_232 : decode cX7_settles 232 = .ok (.ishl, 1) := by decide +kernel
theorem dX7_settles_233 : decode cX7_settles 233 = .ok (.iconst 1, 1) := by decide +kernel
theorem dX7_settles_234 : decode cX7_settles 234 = .ok (.isub, 1) := by decide +kernel
theorem dX7_settles_235 : decode cX7_settles 235 = .ok (.iastore, 1) := by decide +kernel
theorem dX7_settles_236 : decode cX7_settles 236 = .ok (.aload_n 0, 1) := by decide +kernel
theorem dX7_settles_237 : decode cX7_settles 237 = .ok (.iconst 0, 1) := by decide +kernel
theorem dX7_settles_238 : decode cX7_settles 238 = .ok (.putfield 70, 3) := by decide +kernel
theorem dX7_settles_241 : decode cX7_settles 241 = .ok (.aload_n 0, 1) := by decide +kernel
theorem dX7_settles_242 : decode cX7_settles 242 = .ok (.iconst 0, 1) := by decide +kernel
theorem dX7_settles_243 : decode cX7_settles 243 = .ok (.putfield 121, 3) := by decide +kernel
theorem dX7_settles_246 : decode cX7_settles 246 = .ok (.aload_n 0, 1) := by decide +kernel
theorem dX7_settles_247 : decode cX7_settles 247 = .ok (.iconst 0, 1) := by decide +kernel
theorem dX7_settles_248 : decode cX7_settles 248 = .ok (.putfield 124, 3) := by decide +kernel
theorem dX7_settles_251 : decode cX7_settles 251 = .ok (.aload_n 0, 1) := by decide +kernel
theorem dX7_settles_252 : decode cX7_settles 252 = .ok (.getfield 38, 3) := by decide +kernel
theorem dX7_settles_255 : decode cX7_settles 255 = .ok (.iconst 0, 1) := by decide +kernel
theorem dX7_settles_256 : decode cX7_settles 256 = .ok (.iconst 0, 1) := by decide +kernel
theorem dX7_settles_257 : decode cX7_settles 257 = .ok (.bastore, 1) := by decide +kernel
theorem dX7_settles_258 : decode cX7_settles 258 = .ok (.aload_n 0, 1) := by decide +kernel
theorem dX7_settles_259 : decode cX7_settles 259 = .ok (.getfield 38, 3) := by decide +kernel
theorem dX7_settles_262 : decode cX7_settles 262 = .ok (.iconst 1, 1) := by decide +kernel
theorem dX7_settles_263 : decode cX7_settles 263 = .ok (.iconst 0, 1) := by decide +kernel
theorem dX7_settles_264 : decode cX7_settles 264 = .ok (.bastore, 1) := by decide +kernel
theorem dX7_settles_265 : decode cX7_settles 265 = .ok (.return_, 1) := by decide +kernel
def bX7_settles_125 (R_79 : Int32 × St → Prop) (y1 : Int32) (z0 : Int32) (z1 : Int32) (σ : St) (Q : St → Prop) : Prop :=
  (vp_in z1 27 ∧ ∀ σ2 : St, σ2 = up σ 100 z1.toNatClampNeg z0 → (∀ x3 : Int32, x3 = y1 + 1 → R_79 (x3, σ2)))
set_option maxHeartbeats 4000000 in
set_option maxRecDepth 100000 in
theorem tX7_settles_125 {R_79 : Int32 × St → Prop} {Q : St → Prop} (M : MC p s m args meth c cX7_settles 2 none RX7 Y) (hN : yN Y = 108) (hR_79 : ∀ (y1 : Int32) (σ : St) (H : Heap) (locs : List Loc) (ls : Array Slot), WS Y (AD Y) s.heap σ H locs → lv_has ls 2 [(0, .ref (yA Y 92)), (1, .int y1)] → R_79 (y1, σ) → W p l e { frames := 0, cells := 0, slots := 0, locals := 0 } s m args below meth c H locs 0 0 (MQ below (QV Y Q) args s 0 0 (AD Y)) (F0 m 79 ls [])) (y1 : Int32) (z0 : Int32) (z1 : Int32) (σ : St) (H : Heap) (locs : List Loc) (ls : Array Slot) (hw : WS Y (AD Y) s.heap σ H locs) (hl : lv_has ls 2 [(0, .ref (yA Y 92)), (1, .int y1)]) (h : bX7_settles_125 R_79 y1 z0 z1 σ Q) : W p l e { frames := 0, cells := 0, slots := 0, locals := 0 } s m args below meth c H locs 0 0 (MQ below (QV Y Q) args s 0 0 (AD Y)) (F0 m 125 ls [.int z0, .int z1, .ref (yA Y 100)]) := by
  obtain ⟨hx, hb, hr, hml, hown, hlk, hT, hK, hB⟩ := id M
  unfold bX7_settles_125 at h
  have c1 := h.1
  refine q_ist M hw (ar_100 hN) c1 dX7_settles_125 (fun σ2 H locs es hw => ?_)
  have h := h.2 σ2 es
  obtain ⟨x3, ex3⟩ : ∃ y : Int32, y = y1 + 1 := ⟨_, rfl⟩
  have h := h x3 ex3
  refine lv_iinc (v := x3) (lv' := [(1, .int x3), (0, .ref (yA Y 92))]) hx hb dX7_settles_126 hl (k := 1) rfl (by rw [ex3]; rfl) (by decide) rfl (fun ls hl => ?_)
  refine lv_goto (tgt := 79) hx hb dX7_settles_129 (by decide) ?_
  exact hR_79 x3 σ2 _ _ _ hw (lv_sub hl [1, 0] rfl) h
def bX7_settles_212 (R_134 : Int32 × St → Prop) (y1 : Int32) (z0 : Int32) (z1 : Int32) (σ : St) (Q : St → Prop) : Prop :=
  (vp_in z1 27 ∧ ∀ σ2 : St, σ2 = up σ 100 z1.toNatClampNeg z0 → (∀ x3 : Int32, x3 = y1 + 1 → R_134 (x3, σ2)))
set_option maxHeartbeats 4000000 in
set_option maxRecDepth 100000 in
theorem tX7_settles_212 {R_134 : Int32 × St → Prop} {Q : St → Prop} (M : MC p s m args meth c cX7_settles 2 none RX7 Y) (hN : yN Y = 108) (hR_134 : ∀ (y1 : Int32) (σ : St) (H : Heap) (locs : List Loc) (ls : Array Slot), WS Y (AD Y) s.heap σ H locs → lv_has ls 2 [(0, .ref (yA Y 92)), (1, .int y1)] → R_134 (y1, σ) → W p l e { frames := 0, cells := 0, slots := 0, locals := 0 } s m args below meth c H locs 0 0 (MQ below (QV Y Q) args s 0 0 (AD Y)) (F0 m 134 ls [])) (y1 : Int32) (z0 : Int32) (z1 : Int32) (σ : St) (H : Heap) (locs : List Loc) (ls : Array Slot) (hw : WS Y (AD Y) s.heap σ H locs) (hl : lv_has ls 2 [(0, .ref (yA Y 92)), (1, .int y1)]) (h : bX7_settles_212 R_134 y1 z0 z1 σ Q) : W p l e { frames := 0, cells := 0, slots := 0, locals := 0 } s m args below meth c H locs 0 0 (MQ below (QV Y Q) args s 0 0 (AD Y)) (F0 m 212 ls [.int z0, .int z1, .ref (yA Y 100)]) := by
  obtain ⟨hx, hb, hr, hml, hown, hlk, hT, hK, hB⟩ := id M
  unfold bX7_settles_212 at h
  have c1 := h.1
  refine q_ist M hw (ar_100 hN) c1 dX7_settles_212 (fun σ2 H locs es hw => ?_)
  have h := h.2 σ2 es
  obtain ⟨x3, ex3⟩ : ∃ y : Int32, y = y1 + 1 := ⟨_, rfl⟩
  have h := h x3 ex3
  refine lv_iinc (v := x3) (lv' := [(1, .int x3), (0, .ref (yA Y 92))]) hx hb dX7_settles_213 hl (k := 1) rfl (by rw [ex3]; rfl) (by decide) rfl (fun ls hl => ?_)
  refine lv_goto (tgt := 134) hx hb dX7_settles_216 (by decide) ?_
  exact hR_134 x3 σ2 _ _ _ hw (lv_sub hl [1, 0] rfl) h
def bX7_settles_183 (R_134 : Int32 × St → Prop) (y1 : Int32) (z0 : Int32) (z1 : Int32) (σ : St) (Q : St → Prop) : Prop :=
  (vp_in z1 27 ∧ ∀ σ2 : St, σ2 = up σ 100 z1.toNatClampNeg z0 → (((σ2.1 94 1) ≤ y1 → bX7_settles_212 R_134 y1 0 (13 + y1) σ2 Q) ∧ (¬ (σ2.1 94 1) ≤ y1 → (vp_in y1 7 ∧ bX7_settles_212 R_134 y1 (σ2.1 97 y1.toNatClampNeg) (13 + y1) σ2 Q))))
set_option maxHeartbeats 4000000 in
set_option maxRecDepth 100000 in
theorem tX7_settles_183 {R_134 : Int32 × St → Prop} {Q : St → Prop} (M : MC p s m args meth c cX7_settles 2 none RX7 Y) (hN : yN Y = 108) (hR_134 : ∀ (y1 : Int32) (σ : St) (H : Heap) (locs : List Loc) (ls : Array Slot), WS Y (AD Y) s.heap σ H locs → lv_has ls 2 [(0, .ref (yA Y 92)), (1, .int y1)] → R_134 (y1, σ) → W p l e { frames := 0, cells := 0, slots := 0, locals := 0 } s m args below meth c H locs 0 0 (MQ below (QV Y Q) args s 0 0 (AD Y)) (F0 m 134 ls [])) (y1 : Int32) (z0 : Int32) (z1 : Int32) (σ : St) (H : Heap) (locs : List Loc) (ls : Array Slot) (hw : WS Y (AD Y) s.heap σ H locs) (hl : lv_has ls 2 [(0, .ref (yA Y 92)), (1, .int y1)]) (h : bX7_settles_183 R_134 y1 z0 z1 σ Q) : W p l e { frames := 0, cells := 0, slots := 0, locals := 0 } s m args below meth c H locs 0 0 (MQ below (QV Y Q) args s 0 0 (AD Y)) (F0 m 183 ls [.int z0, .int z1, .ref (yA Y 100)]) := by
  obtain ⟨hx, hb, hr, hml, hown, hlk, hT, hK, hB⟩ := id M
  unfold bX7_settles_183 at h
  have c1 := h.1
  refine q_ist M hw (ar_100 hN) c1 dX7_settles_183 (fun σ2 H locs es hw => ?_)
  have h := h.2 σ2 es
  refine lv_aload_n hx hb dX7_settles_184 rfl (lv_at hl 0 rfl) ?_
  refine q_get (v := .ref (yA Y 100)) M hw (ob_92 hN) rfl inq_7 16 (by decide) tw_651 rfl dX7_settles_185 ?_
  refine lv_bipush (v := 13) hx hb dX7_settles_188 (by decide) ?_
  refine lv_iload_n hx hb dX7_settles_190 rfl (lv_at hl 1 rfl) ?_
  refine lv_iadd hx hb dX7_settles_191 ?_
  refine lv_iload_n hx hb dX7_settles_192 rfl (lv_at hl 1 rfl) ?_
  refine lv_aload_n hx hb dX7_settles_193 rfl (lv_at hl 0 rfl) ?_
  refine q_get (v := .ref (yA Y 94)) M hw (ob_92 hN) rfl inq_7 9 (by decide) tw_644 rfl dX7_settles_194 ?_
  refine lv_iconst (v := 1) hx hb dX7_settles_197 (by decide) ?_
  refine q_ild' 1 M hw (ar_94 hN) (by unfold vp_in; decide) (by decide) dX7_settles_198 ?_
  refine lv_icmp_ge (tgt := 211) hx hb dX7_settles_199 (by decide) (fun c3 => ?_) (fun c3 => ?_)
  · have h := h.1 c3
    refine lv_iconst (v := 0) hx hb dX7_settles_211 (by decide) ?_
    exact tX7_settles_212 M hN hR_134 y1 0 (13 + y1) σ2 _ _ _ hw (lv_sub hl [0, 1] rfl) h
  · have h := h.2 c3
    refine lv_aload_n hx hb dX7_settles_202 rfl (lv_at hl 0 rfl) ?_
    refine q_get (v := .ref (yA Y 97)) M hw (ob_92 hN) rfl inq_7 13 (by decide) tw_648 rfl dX7_settles_203 ?_
    refine lv_iload_n hx hb dX7_settles_206 rfl (lv_at hl 1 rfl) ?_
    have c4 := h.1
    have h := h.2
    refine q_ild M hw (ar_97 hN) c4 dX7_settles_207 ?_
    refine lv_goto (tgt := 212) hx hb dX7_settles_208 (by decide) ?_
    exact tX7_settles_212 M hN hR_134 y1 (σ2.1 97 y1.toNatClampNeg) (13 + y1) σ2 _ _ _ hw (lv_sub hl [0, 1] rfl) h
def bX7_settles_134 (R_134 : Int32 × St → Prop) (y1 : Int32) (σ : St) (Q : St → Prop) : Prop :=
  ((7 ≤ y1 → (∀ σ3 : St, σ3 = up σ 100 20 ((1 <<< ((σ.1 94 0) &&& 31)) - 1) → (∀ σ4 : St, σ4 = up σ3 92 3 0 → (∀ σ5 : St, σ5 = up σ4 92 24 0 → (∀ σ6 : St, σ6 = up σ5 92 20 0 → (∀ σ8 : St, σ8 = up σ6 102 0 (vp_nar .boolean 0) → (∀ σ10 : St, σ10 = up σ8 102 1 (vp_nar .boolean 0) → Q σ10))))))) ∧ (¬ 7 ≤ y1 → (vp_in (7 + y1) 14 ∧ (vp_in y1 14 ∧ ∀ σ13 : St, σ13 = up σ 98 y1.toNatClampNeg (σ.1 98 (7 + y1).toNatClampNeg) → (((σ13.1 94 1) ≤ y1 → bX7_settles_183 R_134 y1 0 (6 + y1) σ13 Q) ∧ (¬ (σ13.1 94 1) ≤ y1 → (vp_in y1 14 ∧ bX7_settles_183 R_134 y1 (σ13.1 98 y1.toNatClampNeg) (6 + y1) σ13 Q)))))))
set_option maxHeartbeats 4000000 in
set_option maxRecDepth 100000 in
theorem tX7_settles_134 {R_134 : Int32 × St → Prop} {Q : St → Prop} (M : MC p s m args meth c cX7_settles 2 none RX7 Y) (hN : yN Y = 108) (hR_134 : ∀ (y1 : Int32) (σ : St) (H : Heap) (locs : List Loc) (ls : Array Slot), WS Y (AD Y) s.heap σ H locs → lv_has ls 2 [(0, .ref (yA Y 92)), (1, .int y1)] → R_134 (y1, σ) → W p l e { frames := 0, cells := 0, slots := 0, locals := 0 } s m args below meth c H locs 0 0 (MQ below (QV Y Q) args s 0 0 (AD Y)) (F0 m 134 ls [])) (y1 : Int32) (σ : St) (H : Heap) (locs : List Loc) (ls : Array Slot) (hw : WS Y (AD Y) s.heap σ H locs) (hl : lv_has ls 2 [(0, .ref (yA Y 92)), (1, .int y1)]) (h : bX7_settles_134 R_134 y1 σ Q) : W p l e { frames := 0, cells := 0, slots := 0, locals := 0 } s m args below meth c H locs 0 0 (MQ below (QV Y Q) args s 0 0 (AD Y)) (F0 m 134 ls []) := by
  obtain ⟨hx, hb, hr, hml, hown, hlk, hT, hK, hB⟩ := id M
  unfold bX7_settles_134 at h
  refine lv_iload_n hx hb dX7_settles_134 rfl (lv_at hl 1 rfl) ?_
  refine lv_bipush (v := 7) hx hb dX7_settles_135 (by decide) ?_
  refine lv_icmp_ge (tgt := 219) hx hb dX7_settles_137 (by decide) (fun c1 => ?_) (fun c1 => ?_)
  · have h := h.1 c1
    refine lv_aload_n hx hb dX7_settles_219 rfl (lv_at hl 0 rfl) ?_
    refine q_get (v := .ref (yA Y 100)) M hw (ob_92 hN) rfl inq_7 16 (by decide) tw_651 rfl dX7_settles_220 ?_
    refine lv_bipush (v := 20) hx hb dX7_settles_223 (by decide) ?_
    refine lv_iconst (v := 1) hx hb dX7_settles_225 (by decide) ?_
    refine lv_aload_n hx hb dX7_settles_226 rfl (lv_at hl 0 rfl) ?_
    refine q_get (v := .ref (yA Y 94)) M hw (ob_92 hN) rfl inq_7 9 (by decide) tw_644 rfl dX7_settles_227 ?_
    refine lv_iconst (v := 0) hx hb dX7_settles_230 (by decide) ?_
    refine q_ild' 0 M hw (ar_94 hN) (by unfold vp_in; decide) (by decide) dX7_settles_231 ?_
    refine lv_ishl hx hb dX7_settles_232 ?_
    refine lv_iconst (v := 1) hx hb dX7_settles_233 (by decide) ?_
    refine lv_isub hx hb dX7_settles_234 ?_
    refine q_ist' 20 M hw (ar_100 hN) (by unfold vp_in; decide) (by decide) dX7_settles_235 (fun σ3 H locs es hw => ?_)
    have h := h σ3 es
    refine lv_aload_n hx hb dX7_settles_236 rfl (lv_at hl 0 rfl) ?_
    refine lv_iconst (v := 0) hx hb dX7_settles_237 (by decide) ?_
    refine q_put (v := 0) M hw (ob_92 hN) rfl inq_7 tyX7 tyX7_ok nmX7 3 (by decide) tw_638 rfl rfl rfl (Nat.le_of_ble_eq_true rfl) (by simp [up, upd, f0]) dX7_settles_238 (fun σ4 H locs es hw => ?_)
    have h := h σ4 es
    refine lv_aload_n hx hb dX7_settles_241 rfl (lv_at hl 0 rfl) ?_
    refine lv_iconst (v := 0) hx hb dX7_settles_242 (by decide) ?_
    refine q_put (v := 0) M hw (ob_92 hN) rfl inq_7 tyX7 tyX7_ok nmX7 24 (by decide) tw_659 rfl rfl rfl (Nat.le_of_ble_eq_true rfl) (by simp [up, upd, f0]) dX7_settles_243 (fun σ5 H locs es hw => ?_)
    have h := h σ5 es
    refine lv_aload_n hx hb dX7_settles_246 rfl (lv_at hl 0 rfl) ?_
    refine lv_iconst (v := 0) hx hb dX7_settles_247 (by decide) ?_
    refine q_put (v := 0) M hw (ob_92 hN) rfl inq_7 tyX7 tyX7_ok nmX7 20 (by decide) tw_655 rfl rfl rfl (Nat.le_of_ble_eq_true rfl) (by simp [up, upd, f0]) dX7_settles_248 (fun σ6 H locs es hw => ?_)
    have h := h σ6 es
    refine lv_aload_n hx hb dX7_settles_251 rfl (lv_at hl 0 rfl) ?_
    refine q_get (v := .ref (yA Y 102)) M hw (ob_92 hN) rfl inq_7 18 (by decide) tw_653 rfl dX7_settles_252 ?_
    refine lv_iconst (v := 0) hx hb dX7_settles_255 (by decide) ?_
    refine lv_iconst (v := 0) hx hb dX7_settles_256 (by decide) ?_
    refine q_zst' 0 M hw (ar_102 hN) (by unfold vp_in; decide) (by decide) dX7_settles_257 (fun σ8 H locs es hw => ?_)
    have h := h σ8 es
    refine lv_aload_n hx hb dX7_settles_258 rfl (lv_at hl 0 rfl) ?_
    refine q_get (v := .ref (yA Y 102)) M hw (ob_92 hN) rfl inq_7 18 (by decide) tw_653 rfl dX7_settles_259 ?_
    refine lv_iconst (v := 1) hx hb dX7_settles_262 (by decide) ?_
    refine lv_iconst (v := 0) hx hb dX7_settles_263 (by decide) ?_
    refine q_zst' 1 M hw (ar_102 hN) (by unfold vp_in; decide) (by decide) dX7_settles_264 (fun σ10 H locs es hw => ?_)
    have h := h σ10 es
    exact q_vret M hw h dX7_settles_265
  · have h := h.2 c1
    refine lv_aload_n hx hb dX7_settles_140 rfl (lv_at hl 0 rfl) ?_
    refine q_get (v := .ref (yA Y 98)) M hw (ob_92 hN) rfl inq_7 14 (by decide) tw_649 rfl dX7_settles_141 ?_
    refine lv_iload_n hx hb dX7_settles_144 rfl (lv_at hl 1 rfl) ?_
    refine lv_aload_n hx hb dX7_settles_145 rfl (lv_at hl 0 rfl) ?_
    refine q_get (v := .ref (yA Y 98)) M hw (ob_92 hN) rfl inq_7 14 (by decide) tw_649 rfl dX7_settles_146 ?_
    refine lv_bipush (v := 7) hx hb dX7_settles_149 (by decide) ?_
    refine lv_iload_n hx hb dX7_settles_151 rfl (lv_at hl 1 rfl) ?_
    refine lv_iadd hx hb dX7_settles_152 ?_
    have c11 := h.1
    have h := h.2
    refine q_ild M hw (ar_98 hN) c11 dX7_settles_153 ?_
    have c12 := h.1
    refine q_ist M hw (ar_98 hN) c12 dX7_settles_154 (fun σ13 H locs es hw => ?_)
    have h := h.2 σ13 es
    refine lv_aload_n hx hb dX7_settles_155 rfl (lv_at hl 0 rfl) ?_
    refine q_get (v := .ref (yA Y 100)) M hw (ob_92 hN) rfl inq_7 16 (by decide) tw_651 rfl dX7_settles_156 ?_
    refine lv_bipush (v := 6) hx hb dX7_settles_159 (by decide) ?_
    refine lv_iload_n hx hb dX7_settles_161 rfl (lv_at hl 1 rfl) ?_
    refine lv_iadd hx hb dX7_settles_162 ?_
    refine lv_iload_n hx hb dX7_settles_163 rfl (lv_at hl 1 rfl) ?_
    refine lv_aload_n hx hb dX7_settles_164 rfl (lv_at hl 0 rfl) ?_
    refine q_get (v := .ref (yA Y 94)) M hw (ob_92 hN) rfl inq_7 9 (by decide) tw_644 rfl dX7_settles_165 ?_
    refine lv_iconst (v := 1) hx hb dX7_settles_168 (by decide) ?_
    refine q_ild' 1 M hw (ar_94 hN) (by unfold vp_in; decide) (by decide) dX7_settles_169 ?_
    refine lv_icmp_ge (tgt := 182) hx hb dX7_settles_170 (by decide) (fun c14 => ?_) (fun c14 => ?_)
    · have h := h.1 c14
      refine lv_iconst (v := 0) hx hb dX7_settles_182 (by decide) ?_
      exact tX7_settles_183 M hN hR_134 y1 0 (6 + y1) σ13 _ _ _ hw (lv_sub hl [0, 1] rfl) h
    · have h := h.2 c14
      refine lv_aload_n hx hb dX7_settles_173 rfl (lv_at hl 0 rfl) ?_
      refine q_get (v := .ref (yA Y 98)) M hw (ob_92 hN) rfl inq_7 14 (by decide) tw_649 rfl dX7_settles_174 ?_
      refine lv_iload_n hx hb dX7_settles_177 rfl (lv_at hl 1 rfl) ?_
      have c15 := h.1
      have h := h.2
      refine q_ild M hw (ar_98 hN) c15 dX7_settles_178 ?_
      refine lv_goto (tgt := 183) hx hb dX7_settles_179 (by decide) ?_
      exact tX7_settles_183 M hN hR_134 y1 (σ13.1 98 y1.toNatClampNeg) (6 + y1) σ13 _ _ _ hw (lv_sub hl [0, 1] rfl) h
def lX7_settles_134 (Q : St → Prop) : (Int32 × St → Prop) → Int32 × St → Prop := fun R a => bX7_settles_134 R a.1 a.2 Q
theorem tlX7_settles_134 {Q : St → Prop} (M : MC p s m args meth c cX7_settles 2 none RX7 Y) (hN : yN Y = 108) (n : Nat) : ∀ (y1 : Int32) (σ : St) (H : Heap) (locs : List Loc) (ls : Array Slot) (hw : WS Y (AD Y) s.heap σ H locs) (hl : lv_has ls 2 [(0, .ref (yA Y 92)), (1, .int y1)]) (h : Lp (lX7_settles_134 Q) n (y1, σ)), W p l e { frames := 0, cells := 0, slots := 0, locals := 0 } s m args below meth c H locs 0 0 (MQ below (QV Y Q) args s 0 0 (AD Y)) (F0 m 134 ls []) := by
  induction n with
  | zero => intro y1 σ H locs ls hw hl h; exact h.elim
  | succ n ih =>
    intro y1 σ H locs ls hw hl h
    exact tX7_settles_134 M hN ih y1 σ H locs ls hw hl h
def bX7_settles_79 (R_79 : Int32 × St → Prop) (y1 : Int32) (σ : St) (Q : St → Prop) : Prop :=
  ((5 ≤ y1 → ∃ n : Nat, Lp (lX7_settles_134 Q) n (0, σ)) ∧ (¬ 5 ≤ y1 → (vp_in (5 + y1) 10 ∧ (vp_in y1 10 ∧ ∀ σ4 : St, σ4 = up σ 96 y1.toNatClampNeg (σ.1 96 (5 + y1).toNatClampNeg) → (((σ4.1 94 0) ≤ y1 → bX7_settles_125 R_79 y1 0 (1 + y1) σ4 Q) ∧ (¬ (σ4.1 94 0) ≤ y1 → (vp_in y1 5 ∧ bX7_settles_125 R_79 y1 (σ4.1 95 y1.toNatClampNeg) (1 + y1) σ4 Q)))))))
set_option maxHeartbeats 4000000 in
set_option maxRecDepth 100000 in
theorem tX7_settles_79 {R_79 : Int32 × St → Prop} {Q : St → Prop} (M : MC p s m args meth c cX7_settles 2 none RX7 Y) (hN : yN Y = 108) (hR_79 : ∀ (y1 : Int32) (σ : St) (H : Heap) (locs : List Loc) (ls : Array Slot), WS Y (AD Y) s.heap σ H locs → lv_has ls 2 [(0, .ref (yA Y 92)), (1, .int y1)] → R_79 (y1, σ) → W p l e { frames := 0, cells := 0, slots := 0, locals := 0 } s m args below meth c H locs 0 0 (MQ below (QV Y Q) args s 0 0 (AD Y)) (F0 m 79 ls [])) (y1 : Int32) (σ : St) (H : Heap) (locs : List Loc) (ls : Array Slot) (hw : WS Y (AD Y) s.heap σ H locs) (hl : lv_has ls 2 [(0, .ref (yA Y 92)), (1, .int y1)]) (h : bX7_settles_79 R_79 y1 σ Q) : W p l e { frames := 0, cells := 0, slots := 0, locals := 0 } s m args below meth c H locs 0 0 (MQ below (QV Y Q) args s 0 0 (AD Y)) (F0 m 79 ls []) := by
  obtain ⟨hx, hb, hr, hml, hown, hlk, hT, hK, hB⟩ := id M
  unfold bX7_settles_79 at h
  refine lv_iload_n hx hb dX7_settles_79 rfl (lv_at hl 1 rfl) ?_
  refine lv_iconst (v := 5) hx hb dX7_settles_80 (by decide) ?_
  refine lv_icmp_ge (tgt := 132) hx hb dX7_settles_81 (by decide) (fun c1 => ?_) (fun c1 => ?_)
  · have h := h.1 c1
    refine lv_iconst (v := 0) hx hb dX7_settles_132 (by decide) ?_
    refine lv_istore_n (lv' := [(1, .int 0), (0, .ref (yA Y 92))]) hx hb dX7_settles_133 rfl hl (by decide) rfl (fun ls hl => ?_)
    obtain ⟨n, h⟩ := h
    exact tlX7_settles_134 M hN n 0 σ _ _ _ hw (lv_sub hl [1, 0] rfl) h
  · have h := h.2 c1
    refine lv_aload_n hx hb dX7_settles_84 rfl (lv_at hl 0 rfl) ?_
    refine q_get (v := .ref (yA Y 96)) M hw (ob_92 hN) rfl inq_7 12 (by decide) tw_647 rfl dX7_settles_85 ?_
    refine lv_iload_n hx hb dX7_settles_88 rfl (lv_at hl 1 rfl) ?_
    refine lv_aload_n hx hb dX7_settles_89 rfl (lv_at hl 0 rfl) ?_
    refine q_get (v := .ref (yA Y 96)) M hw (ob_92 hN) rfl inq_7 12 (by decide) tw_647 rfl dX7_settles_90 ?_
    refine lv_iconst (v := 5) hx hb dX7_settles_93 (by decide) ?_
    refine lv_iload_n hx hb dX7_settles_94 rfl (lv_at hl 1 rfl) ?_
    refine lv_iadd hx hb dX7_settles_95 ?_
    have c2 := h.1
    have h := h.2
    refine q_ild M hw (ar_96 hN) c2 dX7_settles_96 ?_
    have c3 := h.1
    refine q_ist M hw (ar_96 hN) c3 dX7_settles_97 (fun σ4 H locs es hw => ?_)
    have h := h.2 σ4 es
    refine lv_aload_n hx hb dX7_settles_98 rfl (lv_at hl 0 rfl) ?_
    refine q_get (v := .ref (yA Y 100)) M hw (ob_92 hN) rfl inq_7 16 (by decide) tw_651 rfl dX7_settles_99 ?_
    refine lv_iconst (v := 1) hx hb dX7_settles_102 (by decide) ?_
    refine lv_iload_n hx hb dX7_settles_103 rfl (lv_at hl 1 rfl) ?_
    refine lv_iadd hx hb dX7_settles_104 ?_
    refine lv_iload_n hx hb dX7_settles_105 rfl (lv_at hl 1 rfl) ?_
    refine lv_aload_n hx hb dX7_settles_106 rfl (lv_at hl 0 rfl) ?_
    refine q_get (v := .ref (yA Y 94)) M hw (ob_92 hN) rfl inq_7 9 (by decide) tw_644 rfl dX7_settles_107 ?_
    refine lv_iconst (v := 0) hx hb dX7_settles_110 (by decide) ?_
    refine q_ild' 0 M hw (ar_94 hN) (by unfold vp_in; decide) (by decide) dX7_settles_111 ?_
    refine lv_icmp_ge (tgt := 124) hx hb dX7_settles_112 (by decide) (fun c5 => ?_) (fun c5 => ?_)
    · have h := h.1 c5
      refine lv_iconst (v := 0) hx hb dX7_settles_124 (by decide) ?_
      exact tX7_settles_125 M hN hR_79 y1 0 (1 + y1) σ4 _ _ _ hw (lv_sub hl [0, 1] rfl) h
    · have h := h.2 c5
      refine lv_aload_n hx hb dX7_settles_115 rfl (lv_at hl 0 rfl) ?_
      refine q_get (v := .ref (yA Y 95)) M hw (ob_92 hN) rfl inq_7 11 (by decide) tw_646 rfl dX7_settles_116 ?_
      refine lv_iload_n hx hb dX7_settles_119 rfl (lv_at hl 1 rfl) ?_
      have c6 := h.1
      have h := h.2
      refine q_ild M hw (ar_95 hN) c6 dX7_settles_120 ?_
      refine lv_goto (tgt := 125) hx hb dX7_settles_121 (by decide) ?_
      exact tX7_settles_125 M hN hR_79 y1 (σ4.1 95 y1.toNatClampNeg) (1 + y1) σ4 _ _ _ hw (lv_sub hl [0, 1] rfl) h
def lX7_settles_79 (Q : St → Prop) : (Int32 × St → Prop) → Int32 × St → Prop := fun R a => bX7_settles_79 R a.1 a.2 Q
theorem tlX7_settles_79 {Q : St → Prop} (M : MC p s m args meth c cX7_settles 2 none RX7 Y) (hN : yN Y = 108) (n : Nat) : ∀ (y1 : Int32) (σ : St) (H : Heap) (locs : List Loc) (ls : Array Slot) (hw : WS Y (AD Y) s.heap σ H locs) (hl : lv_has ls 2 [(0, .ref (yA Y 92)), (1, .int y1)]) (h : Lp (lX7_settles_79 Q) n (y1, σ)), W p l e { frames := 0, cells := 0, slots := 0, locals := 0 } s m args below meth c H locs 0 0 (MQ below (QV Y Q) args s 0 0 (AD Y)) (F0 m 79 ls []) := by
  induction n with
  | zero => intro y1 σ H locs ls hw hl h; exact h.elim
  | succ n ih =>
    intro y1 σ H locs ls hw hl h
    exact tX7_settles_79 M hN ih y1 σ H locs ls hw hl h
def bX7_settles_50 (R_50 : Int32 × St → Prop) (y1 : Int32) (σ : St) (Q : St → Prop) : Prop :=
  ((100 ≤ y1 → ∃ n : Nat, Lp (lX7_settles_79 Q) n (0, σ)) ∧ (¬ 100 ≤ y1 → (vp_in (100 + y1) 200 ∧ (vp_in y1 200 ∧ ∀ σ4 : St, σ4 = up σ 99 y1.toNatClampNeg (vp_nar .boolean (σ.1 99 (100 + y1).toNatClampNeg)) → (∀ x5 : Int32, x5 = y1 + 1 → R_50 (x5, σ4))))))
set_option maxHeartbeats 4000000 in
set_option maxRecDepth 100000 in
theorem tX7_settles_50 {R_50 : Int32 × St → Prop} {Q : St → Prop} (M : MC p s m args meth c cX7_settles 2 none RX7 Y) (hN : yN Y = 108) (hR_50 : ∀ (y1 : Int32) (σ : St) (H : Heap) (locs : List Loc) (ls : Array Slot), WS Y (AD Y) s.heap σ H locs → lv_has ls 2 [(0, .ref (yA Y 92)), (1, .int y1)] → R_50 (y1, σ) → W p l e { frames := 0, cells := 0, slots := 0, locals := 0 } s m args below meth c H locs 0 0 (MQ below (QV Y Q) args s 0 0 (AD Y)) (F0 m 50 ls [])) (y1 : Int32) (σ : St) (H : Heap) (locs : List Loc) (ls : Array Slot) (hw : WS Y (AD Y) s.heap σ H locs) (hl : lv_has ls 2 [(0, .ref (yA Y 92)), (1, .int y1)]) (h : bX7_settles_50 R_50 y1 σ Q) : W p l e { frames := 0, cells := 0, slots := 0, locals := 0 } s m args below meth c H locs 0 0 (MQ below (QV Y Q) args s 0 0 (AD Y)) (F0 m 50 ls []) := by
  obtain ⟨hx, hb, hr, hml, hown, hlk, hT, hK, hB⟩ := id M
  unfold bX7_settles_50 at h
  refine lv_iload_n hx hb dX7_settles_50 rfl (lv_at hl 1 rfl) ?_
  refine lv_bipush (v := 100) hx hb dX7_settles_51 (by decide) ?_
  refine lv_icmp_ge (tgt := 77) hx hb dX7_settles_53 (by decide) (fun c1 => ?_) (fun c1 => ?_)
  · have h := h.1 c1
    refine lv_iconst (v := 0) hx hb dX7_settles_77 (by decide) ?_
    refine lv_istore_n (lv' := [(1, .int 0), (0, .ref (yA Y 92))]) hx hb dX7_settles_78 rfl hl (by decide) rfl (fun ls hl => ?_)
    obtain ⟨n, h⟩ := h
    exact tlX7_settles_79 M hN n 0 σ _ _ _ hw (lv_sub hl [1, 0] rfl) h
  · have h := h.2 c1
    refine lv_aload_n hx hb dX7_settles_56 rfl (lv_at hl 0 rfl) ?_
    refine q_get (v := .ref (yA Y 99)) M hw (ob_92 hN) rfl inq_7 15 (by decide) tw_650 rfl dX7_settles_57 ?_
    refine lv_iload_n hx hb dX7_settles_60 rfl (lv_at hl 1 rfl) ?_
    refine lv_aload_n hx hb dX7_settles_61 rfl (lv_at hl 0 rfl) ?_
    refine q_get (v := .ref (yA Y 99)) M hw (ob_92 hN) rfl inq_7 15 (by decide) tw_650 rfl dX7_settles_62 ?_
    refine lv_bipush (v := 100) hx hb dX7_settles_65 (by decide) ?_
    refine lv_iload_n hx hb dX7_settles_67 rfl (lv_at hl 1 rfl) ?_
    refine lv_iadd hx hb dX7_settles_68 ?_
    have c2 := h.1
    have h := h.2
    refine q_zld M hw (ar_99 hN) c2 dX7_settles_69 ?_
    have c3 := h.1
    refine q_zst M hw (ar_99 hN) c3 dX7_settles_70 (fun σ4 H locs es hw => ?_)
    have h := h.2 σ4 es
    obtain ⟨x5, ex5⟩ : ∃ y : Int32, y = y1 + 1 := ⟨_, rfl⟩
    have h := h x5 ex5
    refine lv_iinc (v := x5) (lv' := [(1, .int x5), (0, .ref (yA Y 92))]) hx hb dX7_settles_71 hl (k := 1) rfl (by rw [ex5]; rfl) (by decide) rfl (fun ls hl => ?_)
    refine lv_goto (tgt := 50) hx hb dX7_settles_74 (by decide) ?_
    exact hR_50 x5 σ4 _ _ _ hw (lv_sub hl [1, 0] rfl) h
def lX7_settles_50 (Q : St → Prop) : (Int32 × St → Prop) → Int32 × St → Prop := fun R a => bX7_settles_50 R a.1 a.2 Q
theorem tlX7_settles_50 {Q : St → Prop} (M : MC p s m args meth c cX7_settles 2 none RX7 Y) (hN : yN Y = 108) (n : Nat) : ∀ (y1 : Int32) (σ : St) (H : Heap) (locs : List Loc) (ls : Array Slot) (hw : WS Y (AD Y) s.heap σ H locs) (hl : lv_has ls 2 [(0, .ref (yA Y 92)), (1, .int y1)]) (h : Lp (lX7_settles_50 Q) n (y1, σ)), W p l e { frames := 0, cells := 0, slots := 0, locals := 0 } s m args below meth c H locs 0 0 (MQ below (QV Y Q) args s 0 0 (AD Y)) (F0 m 50 ls []) := by
  induction n with
  | zero => intro y1 σ H locs ls hw hl h; exact h.elim
  | succ n ih =>
    intro y1 σ H locs ls hw hl h
    exact tX7_settles_50 M hN ih y1 σ H locs ls hw hl h
def bX7_settles_29 (R_29 : Int32 × St → Prop) (y1 : Int32) (σ : St) (Q : St → Prop) : Prop :=
  ((27 ≤ y1 → ∃ n : Nat, Lp (lX7_settles_50 Q) n (0, σ)) ∧ (¬ 27 ≤ y1 → (vp_in y1 27 ∧ ∀ σ3 : St, σ3 = up σ 100 y1.toNatClampNeg 0 → (∀ x4 : Int32, x4 = y1 + 1 → R_29 (x4, σ3)))))
set_option maxHeartbeats 4000000 in
set_option maxRecDepth 100000 in
theorem tX7_settles_29 {R_29 : Int32 × St → Prop} {Q : St → Prop} (M : MC p s m args meth c cX7_settles 2 none RX7 Y) (hN : yN Y = 108) (hR_29 : ∀ (y1 : Int32) (σ : St) (H : Heap) (locs : List Loc) (ls : Array Slot), WS Y (AD Y) s.heap σ H locs → lv_has ls 2 [(0, .ref (yA Y 92)), (1, .int y1)] → R_29 (y1, σ) → W p l e { frames := 0, cells := 0, slots := 0, locals := 0 } s m args below meth c H locs 0 0 (MQ below (QV Y Q) args s 0 0 (AD Y)) (F0 m 29 ls [])) (y1 : Int32) (σ : St) (H : Heap) (locs : List Loc) (ls : Array Slot) (hw : WS Y (AD Y) s.heap σ H locs) (hl : lv_has ls 2 [(0, .ref (yA Y 92)), (1, .int y1)]) (h : bX7_settles_29 R_29 y1 σ Q) : W p l e { frames := 0, cells := 0, slots := 0, locals := 0 } s m args below meth c H locs 0 0 (MQ below (QV Y Q) args s 0 0 (AD Y)) (F0 m 29 ls []) := by
  obtain ⟨hx, hb, hr, hml, hown, hlk, hT, hK, hB⟩ := id M
  unfold bX7_settles_29 at h
  refine lv_iload_n hx hb dX7_settles_29 rfl (lv_at hl 1 rfl) ?_
  refine lv_bipush (v := 27) hx hb dX7_settles_30 (by decide) ?_
  refine lv_icmp_ge (tgt := 48) hx hb dX7_settles_32 (by decide) (fun c1 => ?_) (fun c1 => ?_)
  · have h := h.1 c1
    refine lv_iconst (v := 0) hx hb dX7_settles_48 (by decide) ?_
    refine lv_istore_n (lv' := [(1, .int 0), (0, .ref (yA Y 92))]) hx hb dX7_settles_49 rfl hl (by decide) rfl (fun ls hl => ?_)
    obtain ⟨n, h⟩ := h
    exact tlX7_settles_50 M hN n 0 σ _ _ _ hw (lv_sub hl [1, 0] rfl) h
  · have h := h.2 c1
    refine lv_aload_n hx hb dX7_settles_35 rfl (lv_at hl 0 rfl) ?_
    refine q_get (v := .ref (yA Y 100)) M hw (ob_92 hN) rfl inq_7 16 (by decide) tw_651 rfl dX7_settles_36 ?_
    refine lv_iload_n hx hb dX7_settles_39 rfl (lv_at hl 1 rfl) ?_
    refine lv_iconst (v := 0) hx hb dX7_settles_40 (by decide) ?_
    have c2 := h.1
    refine q_ist M hw (ar_100 hN) c2 dX7_settles_41 (fun σ3 H locs es hw => ?_)
    have h := h.2 σ3 es
    obtain ⟨x4, ex4⟩ : ∃ y : Int32, y = y1 + 1 := ⟨_, rfl⟩
    have h := h x4 ex4
    refine lv_iinc (v := x4) (lv' := [(1, .int x4), (0, .ref (yA Y 92))]) hx hb dX7_settles_42 hl (k := 1) rfl (by rw [ex4]; rfl) (by decide) rfl (fun ls hl => ?_)
    refine lv_goto (tgt := 29) hx hb dX7_settles_45 (by decide) ?_
    exact hR_29 x4 σ3 _ _ _ hw (lv_sub hl [1, 0] rfl) h
def lX7_settles_29 (Q : St → Prop) : (Int32 × St → Prop) → Int32 × St → Prop := fun R a => bX7_settles_29 R a.1 a.2 Q
theorem tlX7_settles_29 {Q : St → Prop} (M : MC p s m args meth c cX7_settles 2 none RX7 Y) (hN : yN Y = 108) (n : Nat) : ∀ (y1 : Int32) (σ : St) (H : Heap) (locs : List Loc) (ls : Array Slot) (hw : WS Y (AD Y) s.heap σ H locs) (hl : lv_has ls 2 [(0, .ref (yA Y 92)), (1, .int y1)]) (h : Lp (lX7_settles_29 Q) n (y1, σ)), W p l e { frames := 0, cells := 0, slots := 0, locals := 0 } s m args below meth c H locs 0 0 (MQ below (QV Y Q) args s 0 0 (AD Y)) (F0 m 29 ls []) := by
  induction n with
  | zero => intro y1 σ H locs ls hw hl h; exact h.elim
  | succ n ih =>
    intro y1 σ H locs ls hw hl h
    exact tX7_settles_29 M hN ih y1 σ H locs ls hw hl h
def bX7_settles_2 (R_2 : Int32 × St → Prop) (y1 : Int32) (σ : St) (Q : St → Prop) : Prop :=
  ((4 ≤ y1 → ∃ n : Nat, Lp (lX7_settles_29 Q) n (0, σ)) ∧ (¬ 4 ≤ y1 → (vp_in (4 + y1) 8 ∧ (vp_in y1 8 ∧ ∀ σ4 : St, σ4 = up σ 94 y1.toNatClampNeg (σ.1 94 (4 + y1).toNatClampNeg) → (∀ x5 : Int32, x5 = y1 + 1 → R_2 (x5, σ4))))))
set_option maxHeartbeats 4000000 in
set_option maxRecDepth 100000 in
theorem tX7_settles_2 {R_2 : Int32 × St → Prop} {Q : St → Prop} (M : MC p s m args meth c cX7_settles 2 none RX7 Y) (hN : yN Y = 108) (hR_2 : ∀ (y1 : Int32) (σ : St) (H : Heap) (locs : List Loc) (ls : Array Slot), WS Y (AD Y) s.heap σ H locs → lv_has ls 2 [(0, .ref (yA Y 92)), (1, .int y1)] → R_2 (y1, σ) → W p l e { frames := 0, cells := 0, slots := 0, locals := 0 } s m args below meth c H locs 0 0 (MQ below (QV Y Q) args s 0 0 (AD Y)) (F0 m 2 ls [])) (y1 : Int32) (σ : St) (H : Heap) (locs : List Loc) (ls : Array Slot) (hw : WS Y (AD Y) s.heap σ H locs) (hl : lv_has ls 2 [(0, .ref (yA Y 92)), (1, .int y1)]) (h : bX7_settles_2 R_2 y1 σ Q) : W p l e { frames := 0, cells := 0, slots := 0, locals := 0 } s m args below meth c H locs 0 0 (MQ below (QV Y Q) args s 0 0 (AD Y)) (F0 m 2 ls []) := by
  obtain ⟨hx, hb, hr, hml, hown, hlk, hT, hK, hB⟩ := id M
  unfold bX7_settles_2 at h
  refine lv_iload_n hx hb dX7_settles_2 rfl (lv_at hl 1 rfl) ?_
  refine lv_iconst (v := 4) hx hb dX7_settles_3 (by decide) ?_
  refine lv_icmp_ge (tgt := 27) hx hb dX7_settles_4 (by decide) (fun c1 => ?_) (fun c1 => ?_)
  · have h := h.1 c1
    refine lv_iconst (v := 0) hx hb dX7_settles_27 (by decide) ?_
    refine lv_istore_n (lv' := [(1, .int 0), (0, .ref (yA Y 92))]) hx hb dX7_settles_28 rfl hl (by decide) rfl (fun ls hl => ?_)
    obtain ⟨n, h⟩ := h
    exact tlX7_settles_29 M hN n 0 σ _ _ _ hw (lv_sub hl [1, 0] rfl) h
  · have h := h.2 c1
    refine lv_aload_n hx hb dX7_settles_7 rfl (lv_at hl 0 rfl) ?_
    refine q_get (v := .ref (yA Y 94)) M hw (ob_92 hN) rfl inq_7 9 (by decide) tw_644 rfl dX7_settles_8 ?_
    refine lv_iload_n hx hb dX7_settles_11 rfl (lv_at hl 1 rfl) ?_
    refine lv_aload_n hx hb dX7_settles_12 rfl (lv_at hl 0 rfl) ?_
    refine q_get (v := .ref (yA Y 94)) M hw (ob_92 hN) rfl inq_7 9 (by decide) tw_644 rfl dX7_settles_13 ?_
    refine lv_iconst (v := 4) hx hb dX7_settles_16 (by decide) ?_
    refine lv_iload_n hx hb dX7_settles_17 rfl (lv_at hl 1 rfl) ?_
    refine lv_iadd hx hb dX7_settles_18 ?_
    have c2 := h.1
    have h := h.2
    refine q_ild M hw (ar_94 hN) c2 dX7_settles_19 ?_
    have c3 := h.1
    refine q_ist M hw (ar_94 hN) c3 dX7_settles_20 (fun σ4 H locs es hw => ?_)
    have h := h.2 σ4 es
    obtain ⟨x5, ex5⟩ : ∃ y : Int32, y = y1 + 1 := ⟨_, rfl⟩
    have h := h x5 ex5
    refine lv_iinc (v := x5) (lv' := [(1, .int x5), (0, .ref (yA Y 92))]) hx hb dX7_settles_21 hl (k := 1) rfl (by rw [ex5]; rfl) (by decide) rfl (fun ls hl => ?_)
    refine lv_goto (tgt := 2) hx hb dX7_settles_24 (by decide) ?_
    exact hR_2 x5 σ4 _ _ _ hw (lv_sub hl [1, 0] rfl) h
def lX7_settles_2 (Q : St → Prop) : (Int32 × St → Prop) → Int32 × St → Prop := fun R a => bX7_settles_2 R a.1 a.2 Q
theorem tlX7_settles_2 {Q : St → Prop} (M : MC p s m args meth c cX7_settles 2 none RX7 Y) (hN : yN Y = 108) (n : Nat) : ∀ (y1 : Int32) (σ : St) (H : Heap) (locs : List Loc) (ls : Array Slot) (hw : WS Y (AD Y) s.heap σ H locs) (hl : lv_has ls 2 [(0, .ref (yA Y 92)), (1, .int y1)]) (h : Lp (lX7_settles_2 Q) n (y1, σ)), W p l e { frames := 0, cells := 0, slots := 0, locals := 0 } s m args below meth c H locs 0 0 (MQ below (QV Y Q) args s 0 0 (AD Y)) (F0 m 2 ls []) := by
  induction n with
  | zero => intro y1 σ H locs ls hw hl h; exact h.elim
  | succ n ih =>
    intro y1 σ H locs ls hw hl h
    exact tX7_settles_2 M hN ih y1 σ H locs ls hw hl h
def wX7_settles (σ : St) (Q : St → Prop) : Prop :=
  ∃ n : Nat, Lp (lX7_settles_2 Q) n (0, σ)
set_option maxHeartbeats 4000000 in
set_option maxRecDepth 100000 in
theorem tX7_settles_E {Q : St → Prop} (M : MC p s m args meth c cX7_settles 2 none RX7 Y) (hN : yN Y = 108)  (σ : St) (H : Heap) (locs : List Loc) (ls : Array Slot) (hw : WS Y (AD Y) s.heap σ H locs) (hl : lv_has ls 2 [(0, .ref (yA Y 92))]) (h : wX7_settles σ Q) : W p l e { frames := 0, cells := 0, slots := 0, locals := 0 } s m args below meth c H locs 0 0 (MQ below (QV Y Q) args s 0 0 (AD Y)) (F0 m 0 ls []) := by
  obtain ⟨hx, hb, hr, hml, hown, hlk, hT, hK, hB⟩ := id M
  unfold wX7_settles at h
  refine lv_iconst (v := 0) hx hb dX7_settles_0 (by decide) ?_
  refine lv_istore_n (lv' := [(1, .int 0), (0, .ref (yA Y 92))]) hx hb dX7_settles_1 rfl hl (by decide) rfl (fun ls hl => ?_)
  obtain ⟨n, h⟩ := h
  exact tlX7_settles_2 M hN n 0 σ _ _ _ hw (lv_sub hl [1, 0] rfl) h
set_option maxRecDepth 100000 in
theorem ctX7_settles (l : Launch) {Y : LY} (hB : YB Y) (hN : yN Y = 108) (σ : St) (Q : St → Prop) (h : wX7_settles σ Q) : CT l yX7_settles (Cond.code yX7_settles cX7_settles 2 none) { frames := 0, cells := 0, slots := 0, locals := 0 } Y [.ref (yA Y 92)] σ (QV Y Q) :=
  q_ent hB (by decide +kernel) (Nat.le_of_ble_eq_true rfl) (fun p e s m below meth c ls M hw hl => tX7_settles_E M hN σ _ _ ls hw hl h)
theorem mbX7_settles : MB RX7 yX7_settles cX7_settles 0 2 none := ⟨tw_633, tw_29, tw_56, tw_634, by decide +kernel⟩
end
section
variable {p : Program} {l : Launch} {e : Env} {s : State} {m : MethodId} {args : Array Value} {below : List Frame} {meth : Method} {c : Code} {Y : LY}
theorem dX7_parish_0 : decode cX7_parish 0 = .ok (.aload_n 0, 1) := by decide +kernel
theorem dX7_parish_1 : decode cX7_parish 1 = .ok (.iconst 0, 1) := by decide +kernel
theorem dX7_parish_2 : decode cX7_parish 2 = .ok (.putfield 62, 3) := by decide +kernel
theorem dX7_parish_5 : decode cX7_parish 5 = .ok (.aload_n 0, 1) := by decide +kernel
theorem dX7_parish_6 : decode cX7_parish 6 = .ok (.iconst (-1), 1) := by decide +kernel
theorem dX7_parish_7 : decode cX7_parish 7 = .ok (.putfield 93, 3) := by decide +kernel
theorem dX7_parish_10 : decode cX7_parish 10 = .ok (.aload_n 0, 1) := by decide +kernel
theorem dX7_parish_11 : decode cX7_parish 11 = .ok (.iconst 0, 1) := by decide +kernel
theorem dX7_parish_12 : decode cX7_parish 12 = .ok (.putfield 73, 3) := by decide +kernel
theorem dX7_parish_15 : decode cX7_parish 15 = .ok (.aload_n 0, 1) := by decide +kernel
theorem dX7_parish_16 : decode cX7_parish 16 = .ok (.invokevirtual 56, 3) := by decide +kernel
theorem dX7_parish_19 : decode cX7_parish 19 = .ok (.iconst 0, 1) := by decide +kernel
theorem dX7_parish_20 : decode cX7_parish 20 = .ok (.istore_n 1, 1) := by decide +kernel
theorem dX7_parish_21 : decode cX7_parish 21 = .ok (.aload_n 0, 1) := by decide +kernel
theorem dX7_parish_22 : decode cX7_parish 22 = .ok (.invokevirtual 100, 3) := by decide +kernel
theorem dX7_parish_25 : decode cX7_parish 25 = .ok (.aload_n 0, 1) := by decide +kernel
theorem dX7_parish_26 : decode cX7_parish 26 = .ok (.invokevirtual 96, 3) := by decide +kernel
theorem dX7_parish_29 : decode cX7_parish 29 = .ok (.ifCond .eq 71, 3) := by decide +kernel
theorem dX7_parish_32 : decode cX7_parish 32 = .ok (.aload_n 0, 1) := by decide +kernel
theorem dX7_parish_33 : decode cX7_parish 33 = .ok (.getfield 83, 3) := by decide +kernel
theorem dX7_parish_36 : decode cX7_parish 36 = .ok (.ifCond .eq 64, 3) := by decide +kernel
theorem dX7_parish_39 : decode cX7_parish 39 = .ok (.aload_n 0, 1) := by decide +kernel
theorem dX7_parish_40 : decode cX7_parish 40 = .ok (.aload_n 0, 1) := by decide +kernel
theorem dX7_parish_41 : decode cX7_parish 41 = .ok (.getfield 83, 3) := by decide +kernel
theorem dX7_parish_44 : decode cX7_parish 44 = .ok (.iconst 1, 1) := by decide +kernel
theorem dX7_parish_45 : decode cX7_parish 45 = .ok (.if_icmp .ne 14, 3) := by decide +kernel
theorem dX7_parish_48 : decode cX7_parish 48 = .ok (.aload_n 0, 1) := by decide +kernel
theorem dX7_parish_49 : decode cX7_parish 49 = .ok (.invokevirtual 114, 3) := by decide +kernel
theorem dX7_parish_52 : decode cX7_parish 52 = .ok (.ifCond .eq 7, 3) := by decide +kernel
theorem dX7_parish_55 : decode cX7_parish 55 = .ok (.iconst 1, 1) := by decide +kernel
theorem dX7_parish_56 : decode cX7_parish 56 = .ok (.goto 4, 3) := by decide +kernel
theorem dX7_parish_59 : decode cX7_parish 59 = .ok (.iconst 0, 1) := by decide +kernel
theorem dX7_parish_60 : decode cX7_parish 60 = .ok (.invokevirtual 103, 3) := by decide +kernel
theorem dX7_parish_63 : decode cX7_parish 63 = .ok (.istore_n 2, 1) := by decide +kernel
theorem dX7_parish_64 : decode cX7_parish 64 = .ok (.aload_n 0, 1) := by decide +kernel
theorem dX7_parish_65 : decode cX7_parish 65 = .ok (.invokevirtual 96, 3) := by decide +kernel
theorem dX7_parish_68 : decode cX7_parish 68 = .ok (.ifCond .eq 8, 3) := by decide +kernel
theorem dX7_parish_71 : decode cX7_parish 71 = .ok (.aload_n 0, 1) := by decide +kernel
theorem dX7_parish_72 : decode cX7_parish 72 = .ok (.iload_n 2, 1) := by decide +kernel
theorem dX7_parish_73 : decode cX7_parish 73 = .ok (.invokevirtual 117, 3) := by decide +kernel
theorem dX7_parish_76 : decode cX7_parish 76 = .ok (.aload_n 0, 1) := by decide +kernel
theorem dX7_parish_77 : decode cX7_parish 77 = .ok (.aload_n 0, 1) := by decide +kernel
theorem dX7_parish_78 : decode cX7_parish 78 = .ok (.getfield 83, 3) := by decide +kernel
theorem dX7_parish_81 : decode cX7_parish 81 = .ok (.iconst 3, 1) := by decide +kernel
theorem dX7_parish_82 : decode cX7_parish 82 = .ok (.if_icmp .ne 7, 3) := by decide +kernel
theorem dX7_parish_85 : decode cX7_parish 85 = .ok (.iconst 1, 1) := by decide +kernel
theorem dX7_parish_86 : decode cX7_parish 86 = .ok (.goto 4, 3) := by decide +kernel
theorem dX7_parish_89 : decode cX7_parish 89 = .ok (.iconst 0, 1) := by decide +kernel
theorem dX7_parish_90 : decode cX7_parish 90 = .ok (.invokevirtual 103, 3) := by decide +kernel
theorem dX7_parish_93 : decode cX7_parish 93 = .ok (.pop, 1) := by decide +kernel
theorem dX7_parish_94 : decode cX7_parish 94 = .ok (.iinc 1 1, 3) := by decide +kernel
theorem dX7_parish_97 : decode cX7_parish 97 = .ok (.goto (-72), 3) := by decide +kernel
theorem dX7_parish_100 : decode cX7_parish 100 = .ok (.aload_n 0, 1) := by decide +kernel
theorem dX7_parish_101 : decode cX7_parish 101 = .ok (.invokevirtual 96, 3) := by decide +kernel
theorem dX7_parish_104 : decode cX7_parish 104 = .ok (.ifCond .ne 11, 3) := by decide +kernel
theorem dX7_parish_107 : decode cX7_parish 107 = .ok (.bipush (-10), 2) := by decide +kernel
theorem dX7_parish_109 : decode cX7_parish 109 = .ok (.aload_n 0, 1) := by decide +kernel
theorem dX7_parish_110 : decode cX7_parish 110 = .ok (.getfield 93, 3) := by decide +kernel
theorem dX7_parish_113 : decode cX7_parish 113 = .ok (.isub, 1) := by decide +kernel
theorem dX7_parish_114 : decode cX7_parish 114 = .ok (.ireturn, 1) := by decide +kernel
theorem dX7_parish_115 : decode cX7_parish 115 = .ok (.aload_n 0, 1) := by decide +kernel
theorem dX7_parish_116 : decode cX7_parish 116 = .ok (.invokevirtual 59, 3) := by decide +kernel
theorem dX7_parish_119 : decode cX7_parish 119 = .ok (.iload_n 1, 1) := by decide +kernel
theorem dX7_parish_120 : decode cX7_parish 120 = .ok (.ireturn, 1) := by decide +kernel
def bX7_parish_90 (R_25 : Int32 × St → Prop) (y1 : Int32) (z0 : Int32) (σ : St) (Q : Int32 → St → Prop) : Prop :=
  wX7_takes z0 σ (fun r2 σ1 => (∀ x3 : Int32, x3 = y1 + 1 → R_25 (x3, σ1)))
set_option maxHeartbeats 4000000 in
set_option maxRecDepth 100000 in
theorem tX7_parish_90 {R_25 : Int32 × St → Prop} {Q : Int32 → St → Prop} (M : MC p s m args meth c cX7_parish 3 (some .int) RX7 Y) (hN : yN Y = 108) (hR_25 : ∀ (y1 : Int32) (σ : St) (H : Heap) (locs : List Loc) (ls : Array Slot), WS Y (AD Y) s.heap σ H locs → lv_has ls 3 [(0, .ref (yA Y 92)), (1, .int y1)] → R_25 (y1, σ) → W p l e { frames := 5, cells := 0, slots := 0, locals := 109 } s m args below meth c H locs 0 0 (MQ below (QI Y Q) args s 0 0 (AD Y)) (F0 m 25 ls [])) (y1 : Int32) (z0 : Int32) (σ : St) (H : Heap) (locs : List Loc) (ls : Array Slot) (hw : WS Y (AD Y) s.heap σ H locs) (hl : lv_has ls 3 [(0, .ref (yA Y 92)), (1, .int y1)]) (h : bX7_parish_90 R_25 y1 z0 σ Q) : W p l e { frames := 5, cells := 0, slots := 0, locals := 109 } s m args below meth c H locs 0 0 (MQ below (QI Y Q) args s 0 0 (AD Y)) (F0 m 90 ls [.int z0, .ref (yA Y 92)]) := by
  obtain ⟨hx, hb, hr, hml, hown, hlk, hT, hK, hB⟩ := id M
  unfold bX7_parish_90 at h
  refine q_goI hw (q_runV (rest := []) M hw (ctX7_takes l hB hN z0 σ _ h) mbX7_takes (ob_92 hN) rfl tw_748 rfl hl.1 rfl (Nat.le_of_ble_eq_true rfl) ⟨Nat.le_of_ble_eq_true rfl, Nat.le_of_ble_eq_true rfl⟩ ⟨Nat.le_refl _, Nat.le_refl _⟩ dX7_parish_90) (fun r2 σ1 H locs h hw => ?_)
  refine lv_pop hx hb dX7_parish_93 rfl ?_
  obtain ⟨x3, ex3⟩ : ∃ y : Int32, y = y1 + 1 := ⟨_, rfl⟩
  have h := h x3 ex3
  refine lv_iinc (v := x3) (lv' := [(1, .int x3), (0, .ref (yA Y 92))]) hx hb dX7_parish_94 hl (k := 1) rfl (by rw [ex3]; rfl) (by decide) rfl (fun ls hl => ?_)
  refine lv_goto (tgt := 25) hx hb dX7_parish_97 (by decide) ?_
  exact hR_25 x3 σ1 _ _ _ hw (lv_sub hl [1, 0] rfl) h
def bX7_parish_76 (R_25 : Int32 × St → Prop) (y1 : Int32) (σ : St) (Q : Int32 → St → Prop) : Prop :=
  (((σ.1 92 5) = 3 → bX7_parish_90 R_25 y1 1 σ Q) ∧ (¬ (σ.1 92 5) = 3 → bX7_parish_90 R_25 y1 0 σ Q))
set_option maxHeartbeats 4000000 in
set_option maxRecDepth 100000 in
theorem tX7_parish_76 {R_25 : Int32 × St → Prop} {Q : Int32 → St → Prop} (M : MC p s m args meth c cX7_parish 3 (some .int) RX7 Y) (hN : yN Y = 108) (hR_25 : ∀ (y1 : Int32) (σ : St) (H : Heap) (locs : List Loc) (ls : Array Slot), WS Y (AD Y) s.heap σ H locs → lv_has ls 3 [(0, .ref (yA Y 92)), (1, .int y1)] → R_25 (y1, σ) → W p l e { frames := 5, cells := 0, slots := 0, locals := 109 } s m args below meth c H locs 0 0 (MQ below (QI Y Q) args s 0 0 (AD Y)) (F0 m 25 ls [])) (y1 : Int32) (σ : St) (H : Heap) (locs : List Loc) (ls : Array Slot) (hw : WS Y (AD Y) s.heap σ H locs) (hl : lv_has ls 3 [(0, .ref (yA Y 92)), (1, .int y1)]) (h : bX7_parish_76 R_25 y1 σ Q) : W p l e { frames := 5, cells := 0, slots := 0, locals := 109 } s m args below meth c H locs 0 0 (MQ below (QI Y Q) args s 0 0 (AD Y)) (F0 m 76 ls []) := by
  obtain ⟨hx, hb, hr, hml, hown, hlk, hT, hK, hB⟩ := id M
  unfold bX7_parish_76 at h
  refine lv_aload_n hx hb dX7_parish_76 rfl (lv_at hl 0 rfl) ?_
  refine lv_aload_n hx hb dX7_parish_77 rfl (lv_at hl 0 rfl) ?_
  refine q_get (v := .int (σ.1 92 5)) M hw (ob_92 hN) rfl inq_7 5 (by decide) tw_640 rfl dX7_parish_78 ?_
  refine lv_iconst (v := 3) hx hb dX7_parish_81 (by decide) ?_
  refine lv_icmp_ne (tgt := 89) hx hb dX7_parish_82 (by decide) (fun c1 => ?_) (fun c1 => ?_)
  · have h := h.2 c1
    refine lv_iconst (v := 0) hx hb dX7_parish_89 (by decide) ?_
    exact tX7_parish_90 M hN hR_25 y1 0 σ _ _ _ hw (lv_sub hl [0, 1] rfl) h
  · have h := h.1 c1
    refine lv_iconst (v := 1) hx hb dX7_parish_85 (by decide) ?_
    refine lv_goto (tgt := 90) hx hb dX7_parish_86 (by decide) ?_
    exact tX7_parish_90 M hN hR_25 y1 1 σ _ _ _ hw (lv_sub hl [0, 1] rfl) h
def bX7_parish_60 (R_25 : Int32 × St → Prop) (y1 : Int32) (z0 : Int32) (σ : St) (Q : Int32 → St → Prop) : Prop :=
  wX7_takes z0 σ (fun r2 σ1 => wX7_isWell σ1 (fun r4 σ3 => ((r4 = 0 → bX7_parish_76 R_25 y1 σ3 Q) ∧ (¬ r4 = 0 → wX7_readsItem r2 σ3 (fun σ6 => bX7_parish_76 R_25 y1 σ6 Q)))))
set_option maxHeartbeats 4000000 in
set_option maxRecDepth 100000 in
theorem tX7_parish_60 {R_25 : Int32 × St → Prop} {Q : Int32 → St → Prop} (M : MC p s m args meth c cX7_parish 3 (some .int) RX7 Y) (hN : yN Y = 108) (hR_25 : ∀ (y1 : Int32) (σ : St) (H : Heap) (locs : List Loc) (ls : Array Slot), WS Y (AD Y) s.heap σ H locs → lv_has ls 3 [(0, .ref (yA Y 92)), (1, .int y1)] → R_25 (y1, σ) → W p l e { frames := 5, cells := 0, slots := 0, locals := 109 } s m args below meth c H locs 0 0 (MQ below (QI Y Q) args s 0 0 (AD Y)) (F0 m 25 ls [])) (y1 : Int32) (z0 : Int32) (σ : St) (H : Heap) (locs : List Loc) (ls : Array Slot) (hw : WS Y (AD Y) s.heap σ H locs) (hl : lv_has ls 3 [(0, .ref (yA Y 92)), (1, .int y1)]) (h : bX7_parish_60 R_25 y1 z0 σ Q) : W p l e { frames := 5, cells := 0, slots := 0, locals := 109 } s m args below meth c H locs 0 0 (MQ below (QI Y Q) args s 0 0 (AD Y)) (F0 m 60 ls [.int z0, .ref (yA Y 92)]) := by
  obtain ⟨hx, hb, hr, hml, hown, hlk, hT, hK, hB⟩ := id M
  unfold bX7_parish_60 at h
  refine q_goI hw (q_runV (rest := []) M hw (ctX7_takes l hB hN z0 σ _ h) mbX7_takes (ob_92 hN) rfl tw_748 rfl hl.1 rfl (Nat.le_of_ble_eq_true rfl) ⟨Nat.le_of_ble_eq_true rfl, Nat.le_of_ble_eq_true rfl⟩ ⟨Nat.le_refl _, Nat.le_refl _⟩ dX7_parish_60) (fun r2 σ1 H locs h hw => ?_)
  refine lv_istore_n (lv' := [(2, .int r2), (0, .ref (yA Y 92)), (1, .int y1)]) hx hb dX7_parish_63 rfl hl (by decide) rfl (fun ls hl => ?_)
  refine lv_aload_n hx hb dX7_parish_64 rfl (lv_at hl 1 rfl) ?_
  refine q_goI hw (q_runV (rest := []) M hw (ctX7_isWell l hB hN σ1 _ h) mbX7_isWell (ob_92 hN) rfl tw_740 rfl hl.1 rfl (Nat.le_of_ble_eq_true rfl) ⟨Nat.le_of_ble_eq_true rfl, Nat.le_of_ble_eq_true rfl⟩ ⟨Nat.le_refl _, Nat.le_refl _⟩ dX7_parish_65) (fun r4 σ3 H locs h hw => ?_)
  refine lv_if_eq (tgt := 76) hx hb dX7_parish_68 (by decide) (fun c5 => ?_) (fun c5 => ?_)
  · have h := h.1 c5
    exact tX7_parish_76 M hN hR_25 y1 σ3 _ _ _ hw (lv_sub hl [1, 2] rfl) h
  · have h := h.2 c5
    refine lv_aload_n hx hb dX7_parish_71 rfl (lv_at hl 1 rfl) ?_
    refine lv_iload_n hx hb dX7_parish_72 rfl (lv_at hl 0 rfl) ?_
    refine q_goV hw (q_runV (rest := []) M hw (ctX7_readsItem l hB hN r2 σ3 _ h) mbX7_readsItem (ob_92 hN) rfl tw_752 rfl hl.1 rfl (Nat.le_of_ble_eq_true rfl) ⟨Nat.le_of_ble_eq_true rfl, Nat.le_of_ble_eq_true rfl⟩ ⟨Nat.le_refl _, Nat.le_refl _⟩ dX7_parish_73) (fun σ6 H locs h hw => ?_)
    exact tX7_parish_76 M hN hR_25 y1 σ6 _ _ _ hw (lv_sub hl [1, 2] rfl) h
def bX7_parish_59 (R_25 : Int32 × St → Prop) (y1 : Int32) (σ : St) (Q : Int32 → St → Prop) : Prop :=
  bX7_parish_60 R_25 y1 0 σ Q
set_option maxHeartbeats 4000000 in
set_option maxRecDepth 100000 in
theorem tX7_parish_59 {R_25 : Int32 × St → Prop} {Q : Int32 → St → Prop} (M : MC p s m args meth c cX7_parish 3 (some .int) RX7 Y) (hN : yN Y = 108) (hR_25 : ∀ (y1 : Int32) (σ : St) (H : Heap) (locs : List Loc) (ls : Array Slot), WS Y (AD Y) s.heap σ H locs → lv_has ls 3 [(0, .ref (yA Y 92)), (1, .int y1)] → R_25 (y1, σ) → W p l e { frames := 5, cells := 0, slots := 0, locals := 109 } s m args below meth c H locs 0 0 (MQ below (QI Y Q) args s 0 0 (AD Y)) (F0 m 25 ls [])) (y1 : Int32) (σ : St) (H : Heap) (locs : List Loc) (ls : Array Slot) (hw : WS Y (AD Y) s.heap σ H locs) (hl : lv_has ls 3 [(0, .ref (yA Y 92)), (1, .int y1)]) (h : bX7_parish_59 R_25 y1 σ Q) : W p l e { frames := 5, cells := 0, slots := 0, locals := 109 } s m args below meth c H locs 0 0 (MQ below (QI Y Q) args s 0 0 (AD Y)) (F0 m 59 ls [.ref (yA Y 92)]) := by
  obtain ⟨hx, hb, hr, hml, hown, hlk, hT, hK, hB⟩ := id M
  unfold bX7_parish_59 at h
  refine lv_iconst (v := 0) hx hb dX7_parish_59 (by decide) ?_
  exact tX7_parish_60 M hN hR_25 y1 0 σ _ _ _ hw (lv_sub hl [0, 1] rfl) h
def bX7_parish_100 (y1 : Int32) (σ : St) (Q : Int32 → St → Prop) : Prop :=
  wX7_isWell σ (fun r2 σ1 => ((r2 = 0 → Q ((-10) - (σ1.1 92 8)) σ1) ∧ (¬ r2 = 0 → wX7_settles σ1 (fun σ4 => Q y1 σ4))))
set_option maxHeartbeats 4000000 in
set_option maxRecDepth 100000 in
theorem tX7_parish_100 {Q : Int32 → St → Prop} (M : MC p s m args meth c cX7_parish 3 (some .int) RX7 Y) (hN : yN Y = 108) (y1 : Int32) (σ : St) (H : Heap) (locs : List Loc) (ls : Array Slot) (hw : WS Y (AD Y) s.heap σ H locs) (hl : lv_has ls 3 [(0, .ref (yA Y 92)), (1, .int y1)]) (h : bX7_parish_100 y1 σ Q) : W p l e { frames := 5, cells := 0, slots := 0, locals := 109 } s m args below meth c H locs 0 0 (MQ below (QI Y Q) args s 0 0 (AD Y)) (F0 m 100 ls []) := by
  obtain ⟨hx, hb, hr, hml, hown, hlk, hT, hK, hB⟩ := id M
  unfold bX7_parish_100 at h
  refine lv_aload_n hx hb dX7_parish_100 rfl (lv_at hl 0 rfl) ?_
  refine q_goI hw (q_runV (rest := []) M hw (ctX7_isWell l hB hN σ _ h) mbX7_isWell (ob_92 hN) rfl tw_740 rfl hl.1 rfl (Nat.le_of_ble_eq_true rfl) ⟨Nat.le_of_ble_eq_true rfl, Nat.le_of_ble_eq_true rfl⟩ ⟨Nat.le_refl _, Nat.le_refl _⟩ dX7_parish_101) (fun r2 σ1 H locs h hw => ?_)
  refine lv_if_ne (tgt := 115) hx hb dX7_parish_104 (by decide) (fun c3 => ?_) (fun c3 => ?_)
  · have h := h.2 c3
    refine lv_aload_n hx hb dX7_parish_115 rfl (lv_at hl 0 rfl) ?_
    refine q_goV hw (q_runV (rest := []) M hw (ctX7_settles l hB hN σ1 _ h) mbX7_settles (ob_92 hN) rfl tw_631 rfl hl.1 rfl (Nat.le_of_ble_eq_true rfl) ⟨Nat.le_of_ble_eq_true rfl, Nat.le_of_ble_eq_true rfl⟩ ⟨Nat.le_refl _, Nat.le_refl _⟩ dX7_parish_116) (fun σ4 H locs h hw => ?_)
    refine lv_iload_n hx hb dX7_parish_119 rfl (lv_at hl 1 rfl) ?_
    exact q_iret M hw h dX7_parish_120
  · have h := h.1 c3
    refine lv_bipush (v := (-10)) hx hb dX7_parish_107 (by decide) ?_
    refine lv_aload_n hx hb dX7_parish_109 rfl (lv_at hl 0 rfl) ?_
    refine q_get (v := .int (σ1.1 92 8)) M hw (ob_92 hN) rfl inq_7 8 (by decide) tw_643 rfl dX7_parish_110 ?_
    refine lv_isub hx hb dX7_parish_113 ?_
    exact q_iret M hw h dX7_parish_114
def bX7_parish_25 (R_25 : Int32 × St → Prop) (y1 : Int32) (σ : St) (Q : Int32 → St → Prop) : Prop :=
  wX7_isWell σ (fun r2 σ1 => ((r2 = 0 → bX7_parish_100 y1 σ1 Q) ∧ (¬ r2 = 0 → (((σ1.1 92 5) = 0 → bX7_parish_100 y1 σ1 Q) ∧ (¬ (σ1.1 92 5) = 0 → (((σ1.1 92 5) = 1 → wX7_mayBegin σ1 (fun r7 σ6 => ((r7 = 0 → bX7_parish_59 R_25 y1 σ6 Q) ∧ (¬ r7 = 0 → bX7_parish_60 R_25 y1 1 σ6 Q)))) ∧ (¬ (σ1.1 92 5) = 1 → bX7_parish_59 R_25 y1 σ1 Q)))))))
set_option maxHeartbeats 4000000 in
set_option maxRecDepth 100000 in
theorem tX7_parish_25 {R_25 : Int32 × St → Prop} {Q : Int32 → St → Prop} (M : MC p s m args meth c cX7_parish 3 (some .int) RX7 Y) (hN : yN Y = 108) (hR_25 : ∀ (y1 : Int32) (σ : St) (H : Heap) (locs : List Loc) (ls : Array Slot), WS Y (AD Y) s.heap σ H locs → lv_has ls 3 [(0, .ref (yA Y 92)), (1, .int y1)] → R_25 (y1, σ) → W p l e { frames := 5, cells := 0, slots := 0, locals := 109 } s m args below meth c H locs 0 0 (MQ below (QI Y Q) args s 0 0 (AD Y)) (F0 m 25 ls [])) (y1 : Int32) (σ : St) (H : Heap) (locs : List Loc) (ls : Array Slot) (hw : WS Y (AD Y) s.heap σ H locs) (hl : lv_has ls 3 [(0, .ref (yA Y 92)), (1, .int y1)]) (h : bX7_parish_25 R_25 y1 σ Q) : W p l e { frames := 5, cells := 0, slots := 0, locals := 109 } s m args below meth c H locs 0 0 (MQ below (QI Y Q) args s 0 0 (AD Y)) (F0 m 25 ls []) := by
  obtain ⟨hx, hb, hr, hml, hown, hlk, hT, hK, hB⟩ := id M
  unfold bX7_parish_25 at h
  refine lv_aload_n hx hb dX7_parish_25 rfl (lv_at hl 0 rfl) ?_
  refine q_goI hw (q_runV (rest := []) M hw (ctX7_isWell l hB hN σ _ h) mbX7_isWell (ob_92 hN) rfl tw_740 rfl hl.1 rfl (Nat.le_of_ble_eq_true rfl) ⟨Nat.le_of_ble_eq_true rfl, Nat.le_of_ble_eq_true rfl⟩ ⟨Nat.le_refl _, Nat.le_refl _⟩ dX7_parish_26) (fun r2 σ1 H locs h hw => ?_)
  refine lv_if_eq (tgt := 100) hx hb dX7_parish_29 (by decide) (fun c3 => ?_) (fun c3 => ?_)
  · have h := h.1 c3
    exact tX7_parish_100 M hN y1 σ1 _ _ _ hw (lv_sub hl [0, 1] rfl) h
  · have h := h.2 c3
    refine lv_aload_n hx hb dX7_parish_32 rfl (lv_at hl 0 rfl) ?_
    refine q_get (v := .int (σ1.1 92 5)) M hw (ob_92 hN) rfl inq_7 5 (by decide) tw_640 rfl dX7_parish_33 ?_
    refine lv_if_eq (tgt := 100) hx hb dX7_parish_36 (by decide) (fun c4 => ?_) (fun c4 => ?_)
    · have h := h.1 c4
      exact tX7_parish_100 M hN y1 σ1 _ _ _ hw (lv_sub hl [0, 1] rfl) h
    · have h := h.2 c4
      refine lv_aload_n hx hb dX7_parish_39 rfl (lv_at hl 0 rfl) ?_
      refine lv_aload_n hx hb dX7_parish_40 rfl (lv_at hl 0 rfl) ?_
      refine q_get (v := .int (σ1.1 92 5)) M hw (ob_92 hN) rfl inq_7 5 (by decide) tw_640 rfl dX7_parish_41 ?_
      refine lv_iconst (v := 1) hx hb dX7_parish_44 (by decide) ?_
      refine lv_icmp_ne (tgt := 59) hx hb dX7_parish_45 (by decide) (fun c5 => ?_) (fun c5 => ?_)
      · have h := h.2 c5
        exact tX7_parish_59 M hN hR_25 y1 σ1 _ _ _ hw (lv_sub hl [0, 1] rfl) h
      · have h := h.1 c5
        refine lv_aload_n hx hb dX7_parish_48 rfl (lv_at hl 0 rfl) ?_
        refine q_goI hw (q_runV (rest := [.ref (yA Y 92)]) M hw (ctX7_mayBegin l hB hN σ1 _ h) mbX7_mayBegin (ob_92 hN) rfl tw_744 rfl hl.1 rfl (Nat.le_of_ble_eq_true rfl) ⟨Nat.le_of_ble_eq_true rfl, Nat.le_of_ble_eq_true rfl⟩ ⟨Nat.le_refl _, Nat.le_refl _⟩ dX7_parish_49) (fun r7 σ6 H locs h hw => ?_)
        refine lv_if_eq (tgt := 59) hx hb dX7_parish_52 (by decide) (fun c8 => ?_) (fun c8 => ?_)
        · have h := h.1 c8
          exact tX7_parish_59 M hN hR_25 y1 σ6 _ _ _ hw (lv_sub hl [0, 1] rfl) h
        · have h := h.2 c8
          refine lv_iconst (v := 1) hx hb dX7_parish_55 (by decide) ?_
          refine lv_goto (tgt := 60) hx hb dX7_parish_56 (by decide) ?_
          exact tX7_parish_60 M hN hR_25 y1 1 σ6 _ _ _ hw (lv_sub hl [0, 1] rfl) h
def lX7_parish_25 (Q : Int32 → St → Prop) : (Int32 × St → Prop) → Int32 × St → Prop := fun R a => bX7_parish_25 R a.1 a.2 Q
theorem tlX7_parish_25 {Q : Int32 → St → Prop} (M : MC p s m args meth c cX7_parish 3 (some .int) RX7 Y) (hN : yN Y = 108) (n : Nat) : ∀ (y1 : Int32) (σ : St) (H : Heap) (locs : List Loc) (ls : Array Slot) (hw : WS Y (AD Y) s.heap σ H locs) (hl : lv_has ls 3 [(0, .ref (yA Y 92)), (1, .int y1)]) (h : Lp (lX7_parish_25 Q) n (y1, σ)), W p l e { frames := 5, cells := 0, slots := 0, locals := 109 } s m args below meth c H locs 0 0 (MQ below (QI Y Q) args s 0 0 (AD Y)) (F0 m 25 ls []) := by
  induction n with
  | zero => intro y1 σ H locs ls hw hl h; exact h.elim
  | succ n ih =>
    intro y1 σ H locs ls hw hl h
    exact tX7_parish_25 M hN ih y1 σ H locs ls hw hl h
def wX7_parish (σ : St) (Q : Int32 → St → Prop) : Prop :=
  (∀ σ1 : St, σ1 = up σ 92 0 0 → (∀ σ2 : St, σ2 = up σ1 92 8 (-1) → (∀ σ3 : St, σ3 = up σ2 92 4 0 → wX7_begins σ3 (fun σ4 => wX7_advances σ4 (fun σ5 => ∃ n : Nat, Lp (lX7_parish_25 Q) n (0, σ5))))))
set_option maxHeartbeats 4000000 in
set_option maxRecDepth 100000 in
theorem tX7_parish_E {Q : Int32 → St → Prop} (M : MC p s m args meth c cX7_parish 3 (some .int) RX7 Y) (hN : yN Y = 108)  (σ : St) (H : Heap) (locs : List Loc) (ls : Array Slot) (hw : WS Y (AD Y) s.heap σ H locs) (hl : lv_has ls 3 [(0, .ref (yA Y 92))]) (h : wX7_parish σ Q) : W p l e { frames := 5, cells := 0, slots := 0, locals := 109 } s m args below meth c H locs 0 0 (MQ below (QI Y Q) args s 0 0 (AD Y)) (F0 m 0 ls []) := by
  obtain ⟨hx, hb, hr, hml, hown, hlk, hT, hK, hB⟩ := id M
  unfold wX7_parish at h
  refine lv_aload_n hx hb dX7_parish_0 rfl (lv_at hl 0 rfl) ?_
  refine lv_iconst (v := 0) hx hb dX7_parish_1 (by decide) ?_
  refine q_put (v := 0) M hw (ob_92 hN) rfl inq_7 tyX7 tyX7_ok nmX7 0 (by decide) tw_635 rfl rfl rfl (Nat.le_of_ble_eq_true rfl) (by simp [up, upd, f0]) dX7_parish_2 (fun σ1 H locs es hw => ?_)
  have h := h σ1 es
  refine lv_aload_n hx hb dX7_parish_5 rfl (lv_at hl 0 rfl) ?_
  refine lv_iconst (v := (-1)) hx hb dX7_parish_6 (by decide) ?_
  refine q_put (v := (-1)) M hw (ob_92 hN) rfl inq_7 tyX7 tyX7_ok nmX7 8 (by decide) tw_643 rfl rfl rfl (Nat.le_of_ble_eq_true rfl) (by simp [up, upd, f0]) dX7_parish_7 (fun σ2 H locs es hw => ?_)
  have h := h σ2 es
  refine lv_aload_n hx hb dX7_parish_10 rfl (lv_at hl 0 rfl) ?_
  refine lv_iconst (v := 0) hx hb dX7_parish_11 (by decide) ?_
  refine q_put (v := 0) M hw (ob_92 hN) rfl inq_7 tyX7 tyX7_ok nmX7 4 (by decide) tw_639 rfl rfl rfl (Nat.le_of_ble_eq_true rfl) (by simp [up, upd, f0]) dX7_parish_12 (fun σ3 H locs es hw => ?_)
  have h := h σ3 es
  refine lv_aload_n hx hb dX7_parish_15 rfl (lv_at hl 0 rfl) ?_
  refine q_goV hw (q_runV (rest := []) M hw (ctX7_begins l hB hN σ3 _ h) mbX7_begins (ob_92 hN) rfl tw_627 rfl hl.1 rfl (Nat.le_of_ble_eq_true rfl) ⟨Nat.le_of_ble_eq_true rfl, Nat.le_of_ble_eq_true rfl⟩ ⟨Nat.le_refl _, Nat.le_refl _⟩ dX7_parish_16) (fun σ4 H locs h hw => ?_)
  refine lv_iconst (v := 0) hx hb dX7_parish_19 (by decide) ?_
  refine lv_istore_n (lv' := [(1, .int 0), (0, .ref (yA Y 92))]) hx hb dX7_parish_20 rfl hl (by decide) rfl (fun ls hl => ?_)
  refine lv_aload_n hx hb dX7_parish_21 rfl (lv_at hl 1 rfl) ?_
  refine q_goV hw (q_runV (rest := []) M hw (ctX7_advances l hB hN σ4 _ h) mbX7_advances (ob_92 hN) rfl tw_729 rfl hl.1 rfl (Nat.le_of_ble_eq_true rfl) ⟨Nat.le_of_ble_eq_true rfl, Nat.le_of_ble_eq_true rfl⟩ ⟨Nat.le_refl _, Nat.le_refl _⟩ dX7_parish_22) (fun σ5 H locs h hw => ?_)
  obtain ⟨n, h⟩ := h
  exact tlX7_parish_25 M hN n 0 σ5 _ _ _ hw (lv_sub hl [1, 0] rfl) h
set_option maxRecDepth 100000 in
theorem ctX7_parish (l : Launch) {Y : LY} (hB : YB Y) (hN : yN Y = 108) (σ : St) (Q : Int32 → St → Prop) (h : wX7_parish σ Q) : CT l yX7_parish (Cond.code yX7_parish cX7_parish 3 (some .int)) { frames := 5, cells := 0, slots := 0, locals := 109 } Y [.ref (yA Y 92)] σ (QI Y Q) :=
  q_ent hB (by decide +kernel) (Nat.le_of_ble_eq_true rfl) (fun p e s m below meth c ls M hw hl => tX7_parish_E M hN σ _ _ ls hw hl h)
theorem mbX7_parish : MB RX7 yX7_parish cX7_parish 0 3 (some .int) := ⟨tw_726, tw_727, tw_56, tw_728, by decide +kernel⟩
end
section
variable {p : Program} {l : Launch} {e : Env} {s : State} {m : MethodId} {args : Array Value} {below : List Frame} {meth : Method} {c : Code} {Y : LY}
theorem dX7_isFarmer_0 : decode cX7_isFarmer 0 = .ok (.iload_n 1, 1) := by decide +kernel
theorem dX7_isFarmer_1 : decode cX7_isFarmer 1 = .ok (.iconst 0, 1) := by decide +kernel
theorem dX7_isFarmer_2 : decode cX7_isFarmer 2 = .ok (.aload_n 0, 1) := by decide +kernel
theorem dX7_isFarmer_3 : decode cX7_isFarmer 3 = .ok (.getfield 13, 3) := by decide +kernel
theorem dX7_isFarmer_6 : decode cX7_isFarmer 6 = .ok (.iconst 0, 1) := by decide +kernel
theorem dX7_isFarmer_7 : decode cX7_isFarmer 7 = .ok (.iaload, 1) := by decide +kernel
theorem dX7_isFarmer_8 : decode cX7_isFarmer 8 = .ok (.iconst 1, 1) := by decide +kernel
theorem dX7_isFarmer_9 : decode cX7_isFarmer 9 = .ok (.isub, 1) := by decide +kernel
theorem dX7_isFarmer_10 : decode cX7_isFarmer 10 = .ok (.invokestatic 66, 3) := by decide +kernel
theorem dX7_isFarmer_13 : decode cX7_isFarmer 13 = .ok (.ireturn, 1) := by decide +kernel
def wX7_isFarmer (a0 : Int32) (σ : St) (Q : Int32 → St → Prop) : Prop :=
  wX7_in a0 0 ((σ.1 94 0) - 1) σ (fun r2 σ1 => ((r2 = 0 ∨ r2 = 1) ∧ Q r2 σ1))
set_option maxHeartbeats 4000000 in
set_option maxRecDepth 100000 in
theorem tX7_isFarmer_E {Q : Int32 → St → Prop} (M : MC p s m args meth c cX7_isFarmer 2 (some .boolean) RX7 Y) (hN : yN Y = 108) (a0 : Int32) (σ : St) (H : Heap) (locs : List Loc) (ls : Array Slot) (hw : WS Y (AD Y) s.heap σ H locs) (hl : lv_has ls 2 [(0, .ref (yA Y 92)), (1, .int a0)]) (h : wX7_isFarmer a0 σ Q) : W p l e { frames := 1, cells := 0, slots := 0, locals := 22 } s m args below meth c H locs 0 0 (MQ below (QI Y Q) args s 0 0 (AD Y)) (F0 m 0 ls []) := by
  obtain ⟨hx, hb, hr, hml, hown, hlk, hT, hK, hB⟩ := id M
  unfold wX7_isFarmer at h
  refine lv_iload_n hx hb dX7_isFarmer_0 rfl (lv_at hl 1 rfl) ?_
  refine lv_iconst (v := 0) hx hb dX7_isFarmer_1 (by decide) ?_
  refine lv_aload_n hx hb dX7_isFarmer_2 rfl (lv_at hl 0 rfl) ?_
  refine q_get (v := .ref (yA Y 94)) M hw (ob_92 hN) rfl inq_7 9 (by decide) tw_644 rfl dX7_isFarmer_3 ?_
  refine lv_iconst (v := 0) hx hb dX7_isFarmer_6 (by decide) ?_
  refine q_ild' 0 M hw (ar_94 hN) (by unfold vp_in; decide) (by decide) dX7_isFarmer_7 ?_
  refine lv_iconst (v := 1) hx hb dX7_isFarmer_8 (by decide) ?_
  refine lv_isub hx hb dX7_isFarmer_9 ?_
  refine q_goI hw (q_runS (rest := []) M hw (ctX7_in l hB a0 0 ((σ.1 94 0) - 1) σ _ h) mbX7_in tw_718 rfl hl.1 rfl (Nat.le_of_ble_eq_true rfl) ⟨Nat.le_of_ble_eq_true rfl, Nat.le_of_ble_eq_true rfl⟩ ⟨Nat.le_refl _, Nat.le_refl _⟩ dX7_isFarmer_10) (fun r2 σ1 H locs h hw => ?_)
  exact q_zret M hw (nar01 h.1) h.2 dX7_isFarmer_13
set_option maxRecDepth 100000 in
theorem ctX7_isFarmer (l : Launch) {Y : LY} (hB : YB Y) (hN : yN Y = 108) (a0 : Int32) (σ : St) (Q : Int32 → St → Prop) (h : wX7_isFarmer a0 σ Q) : CT l yX7_isFarmer (Cond.code yX7_isFarmer cX7_isFarmer 2 (some .boolean)) { frames := 1, cells := 0, slots := 0, locals := 22 } Y [.ref (yA Y 92), .int a0] σ (QI Y Q) :=
  q_ent hB (by decide +kernel) (Nat.le_of_ble_eq_true rfl) (fun p e s m below meth c ls M hw hl => tX7_isFarmer_E M hN a0 σ _ _ ls hw hl h)
theorem mbX7_isFarmer : MB RX7 yX7_isFarmer cX7_isFarmer 1 2 (some .boolean) := ⟨tw_766, tw_37, tw_56, tw_767, by decide +kernel⟩
end
section
variable {p : Program} {l : Launch} {e : Env} {s : State} {m : MethodId} {args : Array Value} {below : List Frame} {meth : Method} {c : Code} {Y : LY}
theorem dX7_isStrip_0 : decode cX7_isStrip 0 = .ok (.iload_n 1, 1) := by decide +kernel
theorem dX7_isStrip_1 : decode cX7_isStrip 1 = .ok (.iconst 0, 1) := by decide +kernel
theorem dX7_isStrip_2 : decode cX7_isStrip 2 = .ok (.aload_n 0, 1) := by decide +kernel
theorem dX7_isStrip_3 : decode cX7_isStrip 3 = .ok (.getfield 13, 3) := by decide +kernel
theorem dX7_isStrip_6 : decode cX7_isStrip 6 = .ok (.iconst 1, 1) := by decide +kernel
theorem dX7_isStrip_7 : decode cX7_isStrip 7 = .ok (.iaload, 1) := by decide +kernel
theorem dX7_isStrip_8 : decode cX7_isStrip 8 = .ok (.iconst 1, 1) := by decide +kernel
theorem dX7_isStrip_9 : decode cX7_isStrip 9 = .ok (.isub, 1) := by decide +kernel
theorem dX7_isStrip_10 : decode cX7_isStrip 10 = .ok (.invokestatic 66, 3) := by decide +kernel
theorem dX7_isStrip_13 : decode cX7_isStrip 13 = .ok (.ireturn, 1) := by decide +kernel
def wX7_isStrip (a0 : Int32) (σ : St) (Q : Int32 → St → Prop) : Prop :=
  wX7_in a0 0 ((σ.1 94 1) - 1) σ (fun r2 σ1 => ((r2 = 0 ∨ r2 = 1) ∧ Q r2 σ1))
set_option maxHeartbeats 4000000 in
set_option maxRecDepth 100000 in
theorem tX7_isStrip_E {Q : Int32 → St → Prop} (M : MC p s m args meth c cX7_isStrip 2 (some .boolean) RX7 Y) (hN : yN Y = 108) (a0 : Int32) (σ : St) (H : Heap) (locs : List Loc) (ls : Array Slot) (hw : WS Y (AD Y) s.heap σ H locs) (hl : lv_has ls 2 [(0, .ref (yA Y 92)), (1, .int a0)]) (h : wX7_isStrip a0 σ Q) : W p l e { frames := 1, cells := 0, slots := 0, locals := 22 } s m args below meth c H locs 0 0 (MQ below (QI Y Q) args s 0 0 (AD Y)) (F0 m 0 ls []) := by
  obtain ⟨hx, hb, hr, hml, hown, hlk, hT, hK, hB⟩ := id M
  unfold wX7_isStrip at h
  refine lv_iload_n hx hb dX7_isStrip_0 rfl (lv_at hl 1 rfl) ?_
  refine lv_iconst (v := 0) hx hb dX7_isStrip_1 (by decide) ?_
  refine lv_aload_n hx hb dX7_isStrip_2 rfl (lv_at hl 0 rfl) ?_
  refine q_get (v := .ref (yA Y 94)) M hw (ob_92 hN) rfl inq_7 9 (by decide) tw_644 rfl dX7_isStrip_3 ?_
  refine lv_iconst (v := 1) hx hb dX7_isStrip_6 (by decide) ?_
  refine q_ild' 1 M hw (ar_94 hN) (by unfold vp_in; decide) (by decide) dX7_isStrip_7 ?_
  refine lv_iconst (v := 1) hx hb dX7_isStrip_8 (by decide) ?_
  refine lv_isub hx hb dX7_isStrip_9 ?_
  refine q_goI hw (q_runS (rest := []) M hw (ctX7_in l hB a0 0 ((σ.1 94 1) - 1) σ _ h) mbX7_in tw_718 rfl hl.1 rfl (Nat.le_of_ble_eq_true rfl) ⟨Nat.le_of_ble_eq_true rfl, Nat.le_of_ble_eq_true rfl⟩ ⟨Nat.le_refl _, Nat.le_refl _⟩ dX7_isStrip_10) (fun r2 σ1 H locs h hw => ?_)
  exact q_zret M hw (nar01 h.1) h.2 dX7_isStrip_13
set_option maxRecDepth 100000 in
theorem ctX7_isStrip (l : Launch) {Y : LY} (hB : YB Y) (hN : yN Y = 108) (a0 : Int32) (σ : St) (Q : Int32 → St → Prop) (h : wX7_isStrip a0 σ Q) : CT l yX7_isStrip (Cond.code yX7_isStrip cX7_isStrip 2 (some .boolean)) { frames := 1, cells := 0, slots := 0, locals := 22 } Y [.ref (yA Y 92), .int a0] σ (QI Y Q) :=
  q_ent hB (by decide +kernel) (Nat.le_of_ble_eq_true rfl) (fun p e s m below meth c ls M hw hl => tX7_isStrip_E M hN a0 σ _ _ ls hw hl h)
theorem mbX7_isStrip : MB RX7 yX7_isStrip cX7_isStrip 1 2 (some .boolean) := ⟨tw_774, tw_38, tw_56, tw_775, by decide +kernel⟩
end
section
variable {p : Program} {l : Launch} {e : Env} {s : State} {m : MethodId} {args : Array Value} {below : List Frame} {meth : Method} {c : Code} {Y : LY}
theorem dX7_lives_0 : decode cX7_lives 0 = .ok (.aload_n 0, 1) := by decide +kernel
theorem dX7_lives_1 : decode cX7_lives 1 = .ok (.getfield 32, 3) := by decide +kernel
theorem dX7_lives_4 : decode cX7_lives 4 = .ok (.bipush 20, 2) := by decide +kernel
theorem dX7_lives_6 : decode cX7_lives 6 = .ok (.iaload, 1) := by decide +kernel
theorem dX7_lives_7 : decode cX7_lives 7 = .ok (.iload_n 1, 1) := by decide +kernel
theorem dX7_lives_8 : decode cX7_lives 8 = .ok (.ishr, 1) := by decide +kernel
theorem dX7_lives_9 : decode cX7_lives 9 = .ok (.iconst 1, 1) := by decide +kernel
theorem dX7_lives_10 : decode cX7_lives 10 = .ok (.iand, 1) := by decide +kernel
theorem dX7_lives_11 : decode cX7_lives 11 = .ok (.iconst 1, 1) := by decide +kernel
theorem dX7_lives_12 : decode cX7_lives 12 = .ok (.if_icmp .ne 7, 3) := by decide +kernel
theorem dX7_lives_15 : decode cX7_lives 15 = .ok (.iconst 1, 1) := by decide +kernel
theorem dX7_lives_16 : decode cX7_lives 16 = .ok (.goto 4, 3) := by decide +kernel
theorem dX7_lives_19 : decode cX7_lives 19 = .ok (.iconst 0, 1) := by decide +kernel
theorem dX7_lives_20 : decode cX7_lives 20 = .ok (.ireturn, 1) := by decide +kernel
def wX7_lives (a0 : Int32) (σ : St) (Q : Int32 → St → Prop) : Prop :=
  (((((σ.1 100 20) >>> (a0 &&& 31)) &&& 1) = 1 → Q 1 σ) ∧ (¬ (((σ.1 100 20) >>> (a0 &&& 31)) &&& 1) = 1 → Q 0 σ))
set_option maxHeartbeats 4000000 in
set_option maxRecDepth 100000 in
theorem tX7_lives_E {Q : Int32 → St → Prop} (M : MC p s m args meth c cX7_lives 2 (some .boolean) RX7 Y) (hN : yN Y = 108) (a0 : Int32) (σ : St) (H : Heap) (locs : List Loc) (ls : Array Slot) (hw : WS Y (AD Y) s.heap σ H locs) (hl : lv_has ls 2 [(0, .ref (yA Y 92)), (1, .int a0)]) (h : wX7_lives a0 σ Q) : W p l e { frames := 0, cells := 0, slots := 0, locals := 0 } s m args below meth c H locs 0 0 (MQ below (QI Y Q) args s 0 0 (AD Y)) (F0 m 0 ls []) := by
  obtain ⟨hx, hb, hr, hml, hown, hlk, hT, hK, hB⟩ := id M
  unfold wX7_lives at h
  refine lv_aload_n hx hb dX7_lives_0 rfl (lv_at hl 0 rfl) ?_
  refine q_get (v := .ref (yA Y 100)) M hw (ob_92 hN) rfl inq_7 16 (by decide) tw_651 rfl dX7_lives_1 ?_
  refine lv_bipush (v := 20) hx hb dX7_lives_4 (by decide) ?_
  refine q_ild' 20 M hw (ar_100 hN) (by unfold vp_in; decide) (by decide) dX7_lives_6 ?_
  refine lv_iload_n hx hb dX7_lives_7 rfl (lv_at hl 1 rfl) ?_
  refine lv_ishr hx hb dX7_lives_8 ?_
  refine lv_iconst (v := 1) hx hb dX7_lives_9 (by decide) ?_
  refine lv_iand hx hb dX7_lives_10 ?_
  refine lv_iconst (v := 1) hx hb dX7_lives_11 (by decide) ?_
  refine lv_icmp_ne (tgt := 19) hx hb dX7_lives_12 (by decide) (fun c1 => ?_) (fun c1 => ?_)
  · have h := h.2 c1
    refine lv_iconst (v := 0) hx hb dX7_lives_19 (by decide) ?_
    exact q_zret M hw (by decide) h dX7_lives_20
  · have h := h.1 c1
    refine lv_iconst (v := 1) hx hb dX7_lives_15 (by decide) ?_
    refine lv_goto (tgt := 20) hx hb dX7_lives_16 (by decide) ?_
    exact q_zret M hw (by decide) h dX7_lives_20
set_option maxRecDepth 100000 in
theorem ctX7_lives (l : Launch) {Y : LY} (hB : YB Y) (hN : yN Y = 108) (a0 : Int32) (σ : St) (Q : Int32 → St → Prop) (h : wX7_lives a0 σ Q) : CT l yX7_lives (Cond.code yX7_lives cX7_lives 2 (some .boolean)) { frames := 0, cells := 0, slots := 0, locals := 0 } Y [.ref (yA Y 92), .int a0] σ (QI Y Q) :=
  q_ent hB (by decide +kernel) (Nat.le_of_ble_eq_true rfl) (fun p e s m below meth c ls M hw hl => tX7_lives_E M hN a0 σ _ _ ls hw hl h)
theorem mbX7_lives : MB RX7 yX7_lives cX7_lives 1 2 (some .boolean) := ⟨tw_794, tw_40, tw_56, tw_795, by decide +kernel⟩
end
section
variable {p : Program} {l : Launch} {e : Env} {s : State} {m : MethodId} {args : Array Value} {below : List Frame} {meth : Method} {c : Code} {Y : LY}
theorem dX7_moon_0 : decode cX7_moon 0 = .ok (.iload_n 1, 1) := by decide +kernel
theorem dX7_moon_1 : decode cX7_moon 1 = .ok (.aload_n 0, 1) := by decide +kernel
theorem dX7_moon_2 : decode cX7_moon 2 = .ok (.getfield 13, 3) := by decide +kernel
theorem dX7_moon_5 : decode cX7_moon 5 = .ok (.iconst 2, 1) := by decide +kernel
theorem dX7_moon_6 : decode cX7_moon 6 = .ok (.iaload, 1) := by decide +kernel
theorem dX7_moon_7 : decode cX7_moon 7 = .ok (.iadd, 1) := by decide +kernel
theorem dX7_moon_8 : decode cX7_moon 8 = .ok (.bipush 16, 2) := by decide +kernel
theorem dX7_moon_10 : decode cX7_moon 10 = .ok (.irem, 1) := by decide +kernel
theorem dX7_moon_11 : decode cX7_moon 11 = .ok (.istore_n 2, 1) := by decide +kernel
theorem dX7_moon_12 : decode cX7_moon 12 = .ok (.iload_n 2, 1) := by decide +kernel
theorem dX7_moon_13 : decode cX7_moon 13 = .ok (.bipush 8, 2) := by decide +kernel
theorem dX7_moon_15 : decode cX7_moon 15 = .ok (.if_icmp .gt 9, 3) := by decide +kernel
theorem dX7_moon_18 : decode cX7_moon 18 = .ok (.iload_n 2, 1) := by decide +kernel
theorem dX7_moon_19 : decode cX7_moon 19 = .ok (.iconst 2, 1) := by decide +kernel
theorem dX7_moon_20 : decode cX7_moon 20 = .ok (.idiv, 1) := by decide +kernel
theorem dX7_moon_21 : decode cX7_moon 21 = .ok (.goto 9, 3) := by decide +kernel
theorem dX7_moon_24 : decode cX7_moon 24 = .ok (.bipush 16, 2) := by decide +kernel
theorem dX7_moon_26 : decode cX7_moon 26 = .ok (.iload_n 2, 1) := by decide +kernel
theorem dX7_moon_27 : decode cX7_moon 27 = .ok (.isub, 1) := by decide +kernel
theorem dX7_moon_28 : decode cX7_moon 28 = .ok (.iconst 2, 1) := by decide +kernel
theorem dX7_moon_29 : decode cX7_moon 29 = .ok (.idiv, 1) := by decide +kernel
theorem dX7_moon_30 : decode cX7_moon 30 = .ok (.ireturn, 1) := by decide +kernel
def wX7_moon (a0 : Int32) (σ : St) (Q : Int32 → St → Prop) : Prop :=
  (∀ x1 : Int32, x1 = ((a0 + (σ.1 94 2)) - (a0 + (σ.1 94 2)) / 16 * 16) → ((8 < x1 → Q ((16 - x1) / 2) σ) ∧ (¬ 8 < x1 → Q (x1 / 2) σ)))
set_option maxHeartbeats 4000000 in
set_option maxRecDepth 100000 in
theorem tX7_moon_E {Q : Int32 → St → Prop} (M : MC p s m args meth c cX7_moon 3 (some .int) RX7 Y) (hN : yN Y = 108) (a0 : Int32) (σ : St) (H : Heap) (locs : List Loc) (ls : Array Slot) (hw : WS Y (AD Y) s.heap σ H locs) (hl : lv_has ls 3 [(0, .ref (yA Y 92)), (1, .int a0)]) (h : wX7_moon a0 σ Q) : W p l e { frames := 0, cells := 0, slots := 0, locals := 0 } s m args below meth c H locs 0 0 (MQ below (QI Y Q) args s 0 0 (AD Y)) (F0 m 0 ls []) := by
  obtain ⟨hx, hb, hr, hml, hown, hlk, hT, hK, hB⟩ := id M
  unfold wX7_moon at h
  refine lv_iload_n hx hb dX7_moon_0 rfl (lv_at hl 1 rfl) ?_
  refine lv_aload_n hx hb dX7_moon_1 rfl (lv_at hl 0 rfl) ?_
  refine q_get (v := .ref (yA Y 94)) M hw (ob_92 hN) rfl inq_7 9 (by decide) tw_644 rfl dX7_moon_2 ?_
  refine lv_iconst (v := 2) hx hb dX7_moon_5 (by decide) ?_
  refine q_ild' 2 M hw (ar_94 hN) (by unfold vp_in; decide) (by decide) dX7_moon_6 ?_
  refine lv_iadd hx hb dX7_moon_7 ?_
  refine lv_bipush (v := 16) hx hb dX7_moon_8 (by decide) ?_
  refine lv_irem hx hb dX7_moon_10 (by decide) ?_
  refine lv_topi (fun x1 ex1 => ?_)
  have h := h x1 ex1
  refine lv_istore_n (lv' := [(2, .int x1), (0, .ref (yA Y 92)), (1, .int a0)]) hx hb dX7_moon_11 rfl hl (by decide) rfl (fun ls hl => ?_)
  refine lv_iload_n hx hb dX7_moon_12 rfl (lv_at hl 0 rfl) ?_
  refine lv_bipush (v := 8) hx hb dX7_moon_13 (by decide) ?_
  refine lv_icmp_gt (tgt := 24) hx hb dX7_moon_15 (by decide) (fun c2 => ?_) (fun c2 => ?_)
  · have h := h.1 c2
    refine lv_bipush (v := 16) hx hb dX7_moon_24 (by decide) ?_
    refine lv_iload_n hx hb dX7_moon_26 rfl (lv_at hl 0 rfl) ?_
    refine lv_isub hx hb dX7_moon_27 ?_
    refine lv_iconst (v := 2) hx hb dX7_moon_28 (by decide) ?_
    refine lv_idiv hx hb dX7_moon_29 (by decide) ?_
    exact q_iret M hw h dX7_moon_30
  · have h := h.2 c2
    refine lv_iload_n hx hb dX7_moon_18 rfl (lv_at hl 0 rfl) ?_
    refine lv_iconst (v := 2) hx hb dX7_moon_19 (by decide) ?_
    refine lv_idiv hx hb dX7_moon_20 (by decide) ?_
    refine lv_goto (tgt := 30) hx hb dX7_moon_21 (by decide) ?_
    exact q_iret M hw h dX7_moon_30
set_option maxRecDepth 100000 in
theorem ctX7_moon (l : Launch) {Y : LY} (hB : YB Y) (hN : yN Y = 108) (a0 : Int32) (σ : St) (Q : Int32 → St → Prop) (h : wX7_moon a0 σ Q) : CT l yX7_moon (Cond.code yX7_moon cX7_moon 3 (some .int)) { frames := 0, cells := 0, slots := 0, locals := 0 } Y [.ref (yA Y 92), .int a0] σ (QI Y Q) :=
  q_ent hB (by decide +kernel) (Nat.le_of_ble_eq_true rfl) (fun p e s m below meth c ls M hw hl => tX7_moon_E M hN a0 σ _ _ ls hw hl h)
theorem mbX7_moon : MB RX7 yX7_moon cX7_moon 1 3 (some .int) := ⟨tw_782, tw_39, tw_56, tw_783, by decide +kernel⟩
end
section
variable {p : Program} {l : Launch} {e : Env} {s : State} {m : MethodId} {args : Array Value} {below : List Frame} {meth : Method} {c : Code} {Y : LY}
theorem dX7_farmer_0 : decode cX7_farmer 0 = .ok (.aload_n 0, 1) := by decide +kernel
theorem dX7_farmer_1 : decode cX7_farmer 1 = .ok (.iconst 0, 1) := by decide +kernel
theorem dX7_farmer_2 : decode cX7_farmer 2 = .ok (.putfield 62, 3) := by decide +kernel
theorem dX7_farmer_5 : decode cX7_farmer 5 = .ok (.aload_n 0, 1) := by decide +kernel
theorem dX7_farmer_6 : decode cX7_farmer 6 = .ok (.iload_n 1, 1) := by decide +kernel
theorem dX7_farmer_7 : decode cX7_farmer 7 = .ok (.invokevirtual 127, 3) := by decide +kernel
theorem dX7_farmer_10 : decode cX7_farmer 10 = .ok (.ifCond .eq 12, 3) := by decide +kernel
theorem dX7_farmer_13 : decode cX7_farmer 13 = .ok (.iload_n 2, 1) := by decide +kernel
theorem dX7_farmer_14 : decode cX7_farmer 14 = .ok (.iconst 0, 1) := by decide +kernel
theorem dX7_farmer_15 : decode cX7_farmer 15 = .ok (.iconst 4, 1) := by decide +kernel
theorem dX7_farmer_16 : decode cX7_farmer 16 = .ok (.invokestatic 66, 3) := by decide +kernel
theorem dX7_farmer_19 : decode cX7_farmer 19 = .ok (.ifCond .ne 5, 3) := by decide +kernel
theorem dX7_farmer_22 : decode cX7_farmer 22 = .ok (.iconst (-1), 1) := by decide +kernel
theorem dX7_farmer_23 : decode cX7_farmer 23 = .ok (.ireturn, 1) := by decide +kernel
theorem dX7_farmer_24 : decode cX7_farmer 24 = .ok (.iload_n 2, 1) := by decide +kernel
theorem dX7_farmer_25 : decode cX7_farmer 25 = .ok (.iconst 3, 1) := by decide +kernel
theorem dX7_farmer_26 : decode cX7_farmer 26 = .ok (.if_icmp .ge 44, 3) := by decide +kernel
theorem dX7_farmer_29 : decode cX7_farmer 29 = .ok (.iload_n 2, 1) := by decide +kernel
theorem dX7_farmer_30 : decode cX7_farmer 30 = .ok (.ifCond .ne 14, 3) := by decide +kernel
theorem dX7_farmer_33 : decode cX7_farmer 33 = .ok (.aload_n 0, 1) := by decide +kernel
theorem dX7_farmer_34 : decode cX7_farmer 34 = .ok (.getfield 32, 3) := by decide +kernel
theorem dX7_farmer_37 : decode cX7_farmer 37 = .ok (.iconst 1, 1) := by decide +kernel
theorem dX7_farmer_38 : decode cX7_farmer 38 = .ok (.iload_n 1, 1) := by decide +kernel
theorem dX7_farmer_39 : decode cX7_farmer 39 = .ok (.iadd, 1) := by decide +kernel
theorem dX7_farmer_40 : decode cX7_farmer 40 = .ok (.iaload, 1) := by decide +kernel
theorem dX7_farmer_41 : decode cX7_farmer 41 = .ok (.goto 28, 3) := by decide +kernel
theorem dX7_farmer_44 : decode cX7_farmer 44 = .ok (.iload_n 2, 1) := by decide +kernel
theorem dX7_farmer_45 : decode cX7_farmer 45 = .ok (.iconst 1, 1) := by decide +kernel
theorem dX7_farmer_46 : decode cX7_farmer 46 = .ok (.if_icmp .ne 12, 3) := by decide +kernel
theorem dX7_farmer_49 : decode cX7_farmer 49 = .ok (.aload_n 0, 1) := by decide +kernel
theorem dX7_farmer_50 : decode cX7_farmer 50 = .ok (.getfield 19, 3) := by decide +kernel
theorem dX7_farmer_53 : decode cX7_farmer 53 = .ok (.iload_n 1, 1) := by decide +kernel
theorem dX7_farmer_54 : decode cX7_farmer 54 = .ok (.iaload, 1) := by decide +kernel
theorem dX7_farmer_55 : decode cX7_farmer 55 = .ok (.goto 14, 3) := by decide +kernel
theorem dX7_farmer_58 : decode cX7_farmer 58 = .ok (.aload_n 0, 1) := by decide +kernel
theorem dX7_farmer_59 : decode cX7_farmer 59 = .ok (.getfield 32, 3) := by decide +kernel
theorem dX7_farmer_62 : decode cX7_farmer 62 = .ok (.bipush 20, 2) := by decide +kernel
theorem dX7_farmer_64 : decode cX7_farmer 64 = .ok (.iaload, 1) := by decide +kernel
theorem dX7_farmer_65 : decode cX7_farmer 65 = .ok (.iload_n 1, 1) := by decide +kernel
theorem dX7_farmer_66 : decode cX7_farmer 66 = .ok (.ishr, 1) := by decide +kernel
theorem dX7_farmer_67 : decode cX7_farmer 67 = .ok (.iconst 1, 1) := by decide +kernel
theorem dX7_farmer_68 : decode cX7_farmer 68 = .ok (.iand, 1) := by decide +kernel
theorem dX7_farmer_69 : decode cX7_farmer 69 = .ok (.ireturn, 1) := by decide +kernel
theorem dX7_farmer_70 : decode cX7_farmer 70 = .ok (.iload_n 2, 1) := by decide +kernel
theorem dX7_farmer_71 : decode cX7_farmer 71 = .ok (.iconst 4, 1) := by decide +kernel
theorem dX7_farmer_72 : decode cX7_farmer 72 = .ok (.if_icmp .ne 17, 3) := by decide +kernel
theorem dX7_farmer_75 : decode cX7_farmer 75 = .ok (.aload_n 0, 1) := by decide +kernel
theorem dX7_farmer_76 : decode cX7_farmer 76 = .ok (.getfield 32, 3) := by decide +kernel
theorem dX7_farmer_79 : decode cX7_farmer 79 = .ok (.bipush 26, 2) := by decide +kernel
theorem dX7_farmer_81 : decode cX7_farmer 81 = .ok (.iaload, 1) := by decide +kernel
theorem dX7_farmer_82 : decode cX7_farmer 82 = .ok (.iload_n 1, 1) := by decide +kernel
theorem dX7_farmer_83 : decode cX7_farmer 83 = .ok (.ishr, 1) := by decide +kernel
theorem dX7_farmer_84 : decode cX7_farmer 84 = .ok (.iconst 1, 1) := by decide +kernel
theorem dX7_farmer_85 : decode cX7_farmer 85 = .ok (.iand, 1) := by decide +kernel
theorem dX7_farmer_86 : decode cX7_farmer 86 = .ok (.goto 31, 3) := by decide +kernel
theorem dX7_farmer_89 : decode cX7_farmer 89 = .ok (.aload_n 0, 1) := by decide +kernel
theorem dX7_farmer_90 : decode cX7_farmer 90 = .ok (.getfield 32, 3) := by decide +kernel
theorem dX7_farmer_93 : decode cX7_farmer 93 = .ok (.bipush 21, 2) := by decide +kernel
theorem dX7_farmer_95 : decode cX7_farmer 95 = .ok (.iload_n 1, 1) := by decide +kernel
theorem dX7_farmer_96 : decode cX7_farmer 96 = .ok (.iadd, 1) := by decide +kernel
theorem dX7_farmer_97 : decode cX7_farmer 97 = .ok (.iaload, 1) := by decide +kernel
theorem dX7_farmer_98 : decode cX7_farmer 98 = .ok (.ifCond .ne 8, 3) := by decide +kernel
theorem dX7_farmer_101 : decode cX7_farmer 101 = .ok (.bipush (-9), 2) := by decide +kernel
theorem dX7_farmer_103 : decode cX7_farmer 103 = .ok (.goto 14, 3) := by decide +kernel
theorem dX7_farmer_106 : decode cX7_farmer 106 = .ok (.aload_n 0, 1) := by decide +kernel
theorem dX7_farmer_107 : decode cX7_farmer 107 = .ok (.getfield 32, 3) := by decide +kernel
theorem dX7_farmer_110 : decode cX7_farmer 110 = .ok (.bipush 21, 2) := by decide +kernel
theorem dX7_farmer_112 : decode cX7_farmer 112 = .ok (.iload_n 1, 1) := by decide +kernel
theorem dX7_farmer_113 : decode cX7_farmer 113 = .ok (.iadd, 1) := by decide +kernel
theorem dX7_farmer_114 : decode cX7_farmer 114 = .ok (.iaload, 1) := by decide +kernel
theorem dX7_farmer_115 : decode cX7_farmer 115 = .ok (.iconst 1, 1) := by decide +kernel
theorem dX7_farmer_116 : decode cX7_farmer 116 = .ok (.isub, 1) := by decide +kernel
theorem dX7_farmer_117 : decode cX7_farmer 117 = .ok (.ireturn, 1) := by decide +kernel
def wX7_farmer (a0 : Int32) (a1 : Int32) (σ : St) (Q : Int32 → St → Prop) : Prop :=
  (∀ σ1 : St, σ1 = up σ 92 0 0 → wX7_isFarmer a0 σ1 (fun r3 σ2 => ((r3 = 0 → Q (-1) σ2) ∧ (¬ r3 = 0 → wX7_in a1 0 4 σ2 (fun r6 σ5 => ((r6 = 0 → Q (-1) σ5) ∧ (¬ r6 = 0 → ((3 ≤ a1 → ((a1 = 4 → Q (((σ5.1 100 26) >>> (a0 &&& 31)) &&& 1) σ5) ∧ (¬ a1 = 4 → (vp_in (21 + a0) 27 ∧ (((σ5.1 100 (21 + a0).toNatClampNeg) = 0 → Q (-9) σ5) ∧ (¬ (σ5.1 100 (21 + a0).toNatClampNeg) = 0 → (vp_in (21 + a0) 27 ∧ Q ((σ5.1 100 (21 + a0).toNatClampNeg) - 1) σ5))))))) ∧ (¬ 3 ≤ a1 → ((a1 = 0 → (vp_in (1 + a0) 27 ∧ Q (σ5.1 100 (1 + a0).toNatClampNeg) σ5)) ∧ (¬ a1 = 0 → ((a1 = 1 → (vp_in a0 10 ∧ Q (σ5.1 96 a0.toNatClampNeg) σ5)) ∧ (¬ a1 = 1 → Q (((σ5.1 100 20) >>> (a0 &&& 31)) &&& 1) σ5)))))))))))))
set_option maxHeartbeats 4000000 in
set_option maxRecDepth 100000 in
theorem tX7_farmer_E {Q : Int32 → St → Prop} (M : MC p s m args meth c cX7_farmer 3 (some .int) RX7 Y) (hN : yN Y = 108) (a0 : Int32) (a1 : Int32) (σ : St) (H : Heap) (locs : List Loc) (ls : Array Slot) (hw : WS Y (AD Y) s.heap σ H locs) (hl : lv_has ls 3 [(0, .ref (yA Y 92)), (1, .int a0), (2, .int a1)]) (h : wX7_farmer a0 a1 σ Q) : W p l e { frames := 2, cells := 0, slots := 0, locals := 43 } s m args below meth c H locs 0 0 (MQ below (QI Y Q) args s 0 0 (AD Y)) (F0 m 0 ls []) := by
  obtain ⟨hx, hb, hr, hml, hown, hlk, hT, hK, hB⟩ := id M
  unfold wX7_farmer at h
  refine lv_aload_n hx hb dX7_farmer_0 rfl (lv_at hl 0 rfl) ?_
  refine lv_iconst (v := 0) hx hb dX7_farmer_1 (by decide) ?_
  refine q_put (v := 0) M hw (ob_92 hN) rfl inq_7 tyX7 tyX7_ok nmX7 0 (by decide) tw_635 rfl rfl rfl (Nat.le_of_ble_eq_true rfl) (by simp [up, upd, f0]) dX7_farmer_2 (fun σ1 H locs es hw => ?_)
  have h := h σ1 es
  refine lv_aload_n hx hb dX7_farmer_5 rfl (lv_at hl 0 rfl) ?_
  refine lv_iload_n hx hb dX7_farmer_6 rfl (lv_at hl 1 rfl) ?_
  refine q_goI hw (q_runV (rest := []) M hw (ctX7_isFarmer l hB hN a0 σ1 _ h) mbX7_isFarmer (ob_92 hN) rfl tw_764 rfl hl.1 rfl (Nat.le_of_ble_eq_true rfl) ⟨Nat.le_of_ble_eq_true rfl, Nat.le_of_ble_eq_true rfl⟩ ⟨Nat.le_refl _, Nat.le_refl _⟩ dX7_farmer_7) (fun r3 σ2 H locs h hw => ?_)
  refine lv_if_eq (tgt := 22) hx hb dX7_farmer_10 (by decide) (fun c4 => ?_) (fun c4 => ?_)
  · have h := h.1 c4
    refine lv_iconst (v := (-1)) hx hb dX7_farmer_22 (by decide) ?_
    exact q_iret M hw h dX7_farmer_23
  · have h := h.2 c4
    refine lv_iload_n hx hb dX7_farmer_13 rfl (lv_at hl 2 rfl) ?_
    refine lv_iconst (v := 0) hx hb dX7_farmer_14 (by decide) ?_
    refine lv_iconst (v := 4) hx hb dX7_farmer_15 (by decide) ?_
    refine q_goI hw (q_runS (rest := []) M hw (ctX7_in l hB a1 0 4 σ2 _ h) mbX7_in tw_718 rfl hl.1 rfl (Nat.le_of_ble_eq_true rfl) ⟨Nat.le_of_ble_eq_true rfl, Nat.le_of_ble_eq_true rfl⟩ ⟨Nat.le_refl _, Nat.le_refl _⟩ dX7_farmer_16) (fun r6 σ5 H locs h hw => ?_)
    refine lv_if_ne (tgt := 24) hx hb dX7_farmer_19 (by decide) (fun c7 => ?_) (fun c7 => ?_)
    · have h := h.2 c7
      refine lv_iload_n hx hb dX7_farmer_24 rfl (lv_at hl 2 rfl) ?_
      refine lv_iconst (v := 3) hx hb dX7_farmer_25 (by decide) ?_
      refine lv_icmp_ge (tgt := 70) hx hb dX7_farmer_26 (by decide) (fun c8 => ?_) (fun c8 => ?_)
      · have h := h.1 c8
        refine lv_iload_n hx hb dX7_farmer_70 rfl (lv_at hl 2 rfl) ?_
        refine lv_iconst (v := 4) hx hb dX7_farmer_71 (by decide) ?_
        refine lv_icmp_ne (tgt := 89) hx hb dX7_farmer_72 (by decide) (fun c9 => ?_) (fun c9 => ?_)
        · have h := h.2 c9
          refine lv_aload_n hx hb dX7_farmer_89 rfl (lv_at hl 0 rfl) ?_
          refine q_get (v := .ref (yA Y 100)) M hw (ob_92 hN) rfl inq_7 16 (by decide) tw_651 rfl dX7_farmer_90 ?_
          refine lv_bipush (v := 21) hx hb dX7_farmer_93 (by decide) ?_
          refine lv_iload_n hx hb dX7_farmer_95 rfl (lv_at hl 1 rfl) ?_
          refine lv_iadd hx hb dX7_farmer_96 ?_
          have c10 := h.1
          have h := h.2
          refine q_ild M hw (ar_100 hN) c10 dX7_farmer_97 ?_
          refine lv_if_ne (tgt := 106) hx hb dX7_farmer_98 (by decide) (fun c11 => ?_) (fun c11 => ?_)
          · have h := h.2 c11
            refine lv_aload_n hx hb dX7_farmer_106 rfl (lv_at hl 0 rfl) ?_
            refine q_get (v := .ref (yA Y 100)) M hw (ob_92 hN) rfl inq_7 16 (by decide) tw_651 rfl dX7_farmer_107 ?_
            refine lv_bipush (v := 21) hx hb dX7_farmer_110 (by decide) ?_
            refine lv_iload_n hx hb dX7_farmer_112 rfl (lv_at hl 1 rfl) ?_
            refine lv_iadd hx hb dX7_farmer_113 ?_
            have c12 := h.1
            have h := h.2
            refine q_ild M hw (ar_100 hN) c12 dX7_farmer_114 ?_
            refine lv_iconst (v := 1) hx hb dX7_farmer_115 (by decide) ?_
            refine lv_isub hx hb dX7_farmer_116 ?_
            exact q_iret M hw h dX7_farmer_117
          · have h := h.1 c11
            refine lv_bipush (v := (-9)) hx hb dX7_farmer_101 (by decide) ?_
            refine lv_goto (tgt := 117) hx hb dX7_farmer_103 (by decide) ?_
            exact q_iret M hw h dX7_farmer_117
        · have h := h.1 c9
          refine lv_aload_n hx hb dX7_farmer_75 rfl (lv_at hl 0 rfl) ?_
          refine q_get (v := .ref (yA Y 100)) M hw (ob_92 hN) rfl inq_7 16 (by decide) tw_651 rfl dX7_farmer_76 ?_
          refine lv_bipush (v := 26) hx hb dX7_farmer_79 (by decide) ?_
          refine q_ild' 26 M hw (ar_100 hN) (by unfold vp_in; decide) (by decide) dX7_farmer_81 ?_
          refine lv_iload_n hx hb dX7_farmer_82 rfl (lv_at hl 1 rfl) ?_
          refine lv_ishr hx hb dX7_farmer_83 ?_
          refine lv_iconst (v := 1) hx hb dX7_farmer_84 (by decide) ?_
          refine lv_iand hx hb dX7_farmer_85 ?_
          refine lv_goto (tgt := 117) hx hb dX7_farmer_86 (by decide) ?_
          exact q_iret M hw h dX7_farmer_117
      · have h := h.2 c8
        refine lv_iload_n hx hb dX7_farmer_29 rfl (lv_at hl 2 rfl) ?_
        refine lv_if_ne (tgt := 44) hx hb dX7_farmer_30 (by decide) (fun c13 => ?_) (fun c13 => ?_)
        · have h := h.2 c13
          refine lv_iload_n hx hb dX7_farmer_44 rfl (lv_at hl 2 rfl) ?_
          refine lv_iconst (v := 1) hx hb dX7_farmer_45 (by decide) ?_
          refine lv_icmp_ne (tgt := 58) hx hb dX7_farmer_46 (by decide) (fun c14 => ?_) (fun c14 => ?_)
          · have h := h.2 c14
            refine lv_aload_n hx hb dX7_farmer_58 rfl (lv_at hl 0 rfl) ?_
            refine q_get (v := .ref (yA Y 100)) M hw (ob_92 hN) rfl inq_7 16 (by decide) tw_651 rfl dX7_farmer_59 ?_
            refine lv_bipush (v := 20) hx hb dX7_farmer_62 (by decide) ?_
            refine q_ild' 20 M hw (ar_100 hN) (by unfold vp_in; decide) (by decide) dX7_farmer_64 ?_
            refine lv_iload_n hx hb dX7_farmer_65 rfl (lv_at hl 1 rfl) ?_
            refine lv_ishr hx hb dX7_farmer_66 ?_
            refine lv_iconst (v := 1) hx hb dX7_farmer_67 (by decide) ?_
            refine lv_iand hx hb dX7_farmer_68 ?_
            exact q_iret M hw h dX7_farmer_69
          · have h := h.1 c14
            refine lv_aload_n hx hb dX7_farmer_49 rfl (lv_at hl 0 rfl) ?_
            refine q_get (v := .ref (yA Y 96)) M hw (ob_92 hN) rfl inq_7 12 (by decide) tw_647 rfl dX7_farmer_50 ?_
            refine lv_iload_n hx hb dX7_farmer_53 rfl (lv_at hl 1 rfl) ?_
            have c15 := h.1
            have h := h.2
            refine q_ild M hw (ar_96 hN) c15 dX7_farmer_54 ?_
            refine lv_goto (tgt := 69) hx hb dX7_farmer_55 (by decide) ?_
            exact q_iret M hw h dX7_farmer_69
        · have h := h.1 c13
          refine lv_aload_n hx hb dX7_farmer_33 rfl (lv_at hl 0 rfl) ?_
          refine q_get (v := .ref (yA Y 100)) M hw (ob_92 hN) rfl inq_7 16 (by decide) tw_651 rfl dX7_farmer_34 ?_
          refine lv_iconst (v := 1) hx hb dX7_farmer_37 (by decide) ?_
          refine lv_iload_n hx hb dX7_farmer_38 rfl (lv_at hl 1 rfl) ?_
          refine lv_iadd hx hb dX7_farmer_39 ?_
          have c16 := h.1
          have h := h.2
          refine q_ild M hw (ar_100 hN) c16 dX7_farmer_40 ?_
          refine lv_goto (tgt := 69) hx hb dX7_farmer_41 (by decide) ?_
          exact q_iret M hw h dX7_farmer_69
    · have h := h.1 c7
      refine lv_iconst (v := (-1)) hx hb dX7_farmer_22 (by decide) ?_
      exact q_iret M hw h dX7_farmer_23
set_option maxRecDepth 100000 in
theorem ctX7_farmer (l : Launch) {Y : LY} (hB : YB Y) (hN : yN Y = 108) (a0 : Int32) (a1 : Int32) (σ : St) (Q : Int32 → St → Prop) (h : wX7_farmer a0 a1 σ Q) : CT l yX7_farmer (Cond.code yX7_farmer cX7_farmer 3 (some .int)) { frames := 2, cells := 0, slots := 0, locals := 43 } Y [.ref (yA Y 92), .int a0, .int a1] σ (QI Y Q) :=
  q_ent hB (by decide +kernel) (Nat.le_of_ble_eq_true rfl) (fun p e s m below meth c ls M hw hl => tX7_farmer_E M hN a0 a1 σ _ _ ls hw hl h)
theorem mbX7_farmer : MB RX7 yX7_farmer cX7_farmer 2 3 (some .int) := ⟨tw_761, tw_762, tw_56, tw_763, by decide +kernel⟩
end
section
variable {p : Program} {l : Launch} {e : Env} {s : State} {m : MethodId} {args : Array Value} {below : List Frame} {meth : Method} {c : Code} {Y : LY}
theorem dX7_strip_0 : decode cX7_strip 0 = .ok (.aload_n 0, 1) := by decide +kernel
theorem dX7_strip_1 : decode cX7_strip 1 = .ok (.iconst 0, 1) := by decide +kernel
theorem dX7_strip_2 : decode cX7_strip 2 = .ok (.putfield 62, 3) := by decide +kernel
theorem dX7_strip_5 : decode cX7_strip 5 = .ok (.aload_n 0, 1) := by decide +kernel
theorem dX7_strip_6 : decode cX7_strip 6 = .ok (.iload_n 1, 1) := by decide +kernel
theorem dX7_strip_7 : decode cX7_strip 7 = .ok (.invokevirtual 130, 3) := by decide +kernel
theorem dX7_strip_10 : decode cX7_strip 10 = .ok (.ifCond .eq 12, 3) := by decide +kernel
theorem dX7_strip_13 : decode cX7_strip 13 = .ok (.iload_n 2, 1) := by decide +kernel
theorem dX7_strip_14 : decode cX7_strip 14 = .ok (.iconst 0, 1) := by decide +kernel
theorem dX7_strip_15 : decode cX7_strip 15 = .ok (.iconst 2, 1) := by decide +kernel
theorem dX7_strip_16 : decode cX7_strip 16 = .ok (.invokestatic 66, 3) := by decide +kernel
theorem dX7_strip_19 : decode cX7_strip 19 = .ok (.ifCond .ne 5, 3) := by decide +kernel
theorem dX7_strip_22 : decode cX7_strip 22 = .ok (.iconst (-1), 1) := by decide +kernel
theorem dX7_strip_23 : decode cX7_strip 23 = .ok (.ireturn, 1) := by decide +kernel
theorem dX7_strip_24 : decode cX7_strip 24 = .ok (.iload_n 2, 1) := by decide +kernel
theorem dX7_strip_25 : decode cX7_strip 25 = .ok (.ifCond .ne 15, 3) := by decide +kernel
theorem dX7_strip_28 : decode cX7_strip 28 = .ok (.aload_n 0, 1) := by decide +kernel
theorem dX7_strip_29 : decode cX7_strip 29 = .ok (.getfield 32, 3) := by decide +kernel
theorem dX7_strip_32 : decode cX7_strip 32 = .ok (.bipush 13, 2) := by decide +kernel
theorem dX7_strip_34 : decode cX7_strip 34 = .ok (.iload_n 1, 1) := by decide +kernel
theorem dX7_strip_35 : decode cX7_strip 35 = .ok (.iadd, 1) := by decide +kernel
theorem dX7_strip_36 : decode cX7_strip 36 = .ok (.iaload, 1) := by decide +kernel
theorem dX7_strip_37 : decode cX7_strip 37 = .ok (.goto 26, 3) := by decide +kernel
theorem dX7_strip_40 : decode cX7_strip 40 = .ok (.iload_n 2, 1) := by decide +kernel
theorem dX7_strip_41 : decode cX7_strip 41 = .ok (.iconst 1, 1) := by decide +kernel
theorem dX7_strip_42 : decode cX7_strip 42 = .ok (.if_icmp .ne 15, 3) := by decide +kernel
theorem dX7_strip_45 : decode cX7_strip 45 = .ok (.aload_n 0, 1) := by decide +kernel
theorem dX7_strip_46 : decode cX7_strip 46 = .ok (.getfield 32, 3) := by decide +kernel
theorem dX7_strip_49 : decode cX7_strip 49 = .ok (.bipush 6, 2) := by decide +kernel
theorem dX7_strip_51 : decode cX7_strip 51 = .ok (.iload_n 1, 1) := by decide +kernel
theorem dX7_strip_52 : decode cX7_strip 52 = .ok (.iadd, 1) := by decide +kernel
theorem dX7_strip_53 : decode cX7_strip 53 = .ok (.iaload, 1) := by decide +kernel
theorem dX7_strip_54 : decode cX7_strip 54 = .ok (.goto 9, 3) := by decide +kernel
theorem dX7_strip_57 : decode cX7_strip 57 = .ok (.aload_n 0, 1) := by decide +kernel
theorem dX7_strip_58 : decode cX7_strip 58 = .ok (.getfield 25, 3) := by decide +kernel
theorem dX7_strip_61 : decode cX7_strip 61 = .ok (.iload_n 1, 1) := by decide +kernel
theorem dX7_strip_62 : decode cX7_strip 62 = .ok (.iaload, 1) := by decide +kernel
theorem dX7_strip_63 : decode cX7_strip 63 = .ok (.ireturn, 1) := by decide +kernel
def wX7_strip (a0 : Int32) (a1 : Int32) (σ : St) (Q : Int32 → St → Prop) : Prop :=
  (∀ σ1 : St, σ1 = up σ 92 0 0 → wX7_isStrip a0 σ1 (fun r3 σ2 => ((r3 = 0 → Q (-1) σ2) ∧ (¬ r3 = 0 → wX7_in a1 0 2 σ2 (fun r6 σ5 => ((r6 = 0 → Q (-1) σ5) ∧ (¬ r6 = 0 → ((a1 = 0 → (vp_in (13 + a0) 27 ∧ Q (σ5.1 100 (13 + a0).toNatClampNeg) σ5)) ∧ (¬ a1 = 0 → ((a1 = 1 → (vp_in (6 + a0) 27 ∧ Q (σ5.1 100 (6 + a0).toNatClampNeg) σ5)) ∧ (¬ a1 = 1 → (vp_in a0 14 ∧ Q (σ5.1 98 a0.toNatClampNeg) σ5))))))))))))
set_option maxHeartbeats 4000000 in
set_option maxRecDepth 100000 in
theorem tX7_strip_E {Q : Int32 → St → Prop} (M : MC p s m args meth c cX7_strip 3 (some .int) RX7 Y) (hN : yN Y = 108) (a0 : Int32) (a1 : Int32) (σ : St) (H : Heap) (locs : List Loc) (ls : Array Slot) (hw : WS Y (AD Y) s.heap σ H locs) (hl : lv_has ls 3 [(0, .ref (yA Y 92)), (1, .int a0), (2, .int a1)]) (h : wX7_strip a0 a1 σ Q) : W p l e { frames := 2, cells := 0, slots := 0, locals := 43 } s m args below meth c H locs 0 0 (MQ below (QI Y Q) args s 0 0 (AD Y)) (F0 m 0 ls []) := by
  obtain ⟨hx, hb, hr, hml, hown, hlk, hT, hK, hB⟩ := id M
  unfold wX7_strip at h
  refine lv_aload_n hx hb dX7_strip_0 rfl (lv_at hl 0 rfl) ?_
  refine lv_iconst (v := 0) hx hb dX7_strip_1 (by decide) ?_
  refine q_put (v := 0) M hw (ob_92 hN) rfl inq_7 tyX7 tyX7_ok nmX7 0 (by decide) tw_635 rfl rfl rfl (Nat.le_of_ble_eq_true rfl) (by simp [up, upd, f0]) dX7_strip_2 (fun σ1 H locs es hw => ?_)
  have h := h σ1 es
  refine lv_aload_n hx hb dX7_strip_5 rfl (lv_at hl 0 rfl) ?_
  refine lv_iload_n hx hb dX7_strip_6 rfl (lv_at hl 1 rfl) ?_
  refine q_goI hw (q_runV (rest := []) M hw (ctX7_isStrip l hB hN a0 σ1 _ h) mbX7_isStrip (ob_92 hN) rfl tw_772 rfl hl.1 rfl (Nat.le_of_ble_eq_true rfl) ⟨Nat.le_of_ble_eq_true rfl, Nat.le_of_ble_eq_true rfl⟩ ⟨Nat.le_refl _, Nat.le_refl _⟩ dX7_strip_7) (fun r3 σ2 H locs h hw => ?_)
  refine lv_if_eq (tgt := 22) hx hb dX7_strip_10 (by decide) (fun c4 => ?_) (fun c4 => ?_)
  · have h := h.1 c4
    refine lv_iconst (v := (-1)) hx hb dX7_strip_22 (by decide) ?_
    exact q_iret M hw h dX7_strip_23
  · have h := h.2 c4
    refine lv_iload_n hx hb dX7_strip_13 rfl (lv_at hl 2 rfl) ?_
    refine lv_iconst (v := 0) hx hb dX7_strip_14 (by decide) ?_
    refine lv_iconst (v := 2) hx hb dX7_strip_15 (by decide) ?_
    refine q_goI hw (q_runS (rest := []) M hw (ctX7_in l hB a1 0 2 σ2 _ h) mbX7_in tw_718 rfl hl.1 rfl (Nat.le_of_ble_eq_true rfl) ⟨Nat.le_of_ble_eq_true rfl, Nat.le_of_ble_eq_true rfl⟩ ⟨Nat.le_refl _, Nat.le_refl _⟩ dX7_strip_16) (fun r6 σ5 H locs h hw => ?_)
    refine lv_if_ne (tgt := 24) hx hb dX7_strip_19 (by decide) (fun c7 => ?_) (fun c7 => ?_)
    · have h := h.2 c7
      refine lv_iload_n hx hb dX7_strip_24 rfl (lv_at hl 2 rfl) ?_
      refine lv_if_ne (tgt := 40) hx hb dX7_strip_25 (by decide) (fun c8 => ?_) (fun c8 => ?_)
      · have h := h.2 c8
        refine lv_iload_n hx hb dX7_strip_40 rfl (lv_at hl 2 rfl) ?_
        refine lv_iconst (v := 1) hx hb dX7_strip_41 (by decide) ?_
        refine lv_icmp_ne (tgt := 57) hx hb dX7_strip_42 (by decide) (fun c9 => ?_) (fun c9 => ?_)
        · have h := h.2 c9
          refine lv_aload_n hx hb dX7_strip_57 rfl (lv_at hl 0 rfl) ?_
          refine q_get (v := .ref (yA Y 98)) M hw (ob_92 hN) rfl inq_7 14 (by decide) tw_649 rfl dX7_strip_58 ?_
          refine lv_iload_n hx hb dX7_strip_61 rfl (lv_at hl 1 rfl) ?_
          have c10 := h.1
          have h := h.2
          refine q_ild M hw (ar_98 hN) c10 dX7_strip_62 ?_
          exact q_iret M hw h dX7_strip_63
        · have h := h.1 c9
          refine lv_aload_n hx hb dX7_strip_45 rfl (lv_at hl 0 rfl) ?_
          refine q_get (v := .ref (yA Y 100)) M hw (ob_92 hN) rfl inq_7 16 (by decide) tw_651 rfl dX7_strip_46 ?_
          refine lv_bipush (v := 6) hx hb dX7_strip_49 (by decide) ?_
          refine lv_iload_n hx hb dX7_strip_51 rfl (lv_at hl 1 rfl) ?_
          refine lv_iadd hx hb dX7_strip_52 ?_
          have c11 := h.1
          have h := h.2
          refine q_ild M hw (ar_100 hN) c11 dX7_strip_53 ?_
          refine lv_goto (tgt := 63) hx hb dX7_strip_54 (by decide) ?_
          exact q_iret M hw h dX7_strip_63
      · have h := h.1 c8
        refine lv_aload_n hx hb dX7_strip_28 rfl (lv_at hl 0 rfl) ?_
        refine q_get (v := .ref (yA Y 100)) M hw (ob_92 hN) rfl inq_7 16 (by decide) tw_651 rfl dX7_strip_29 ?_
        refine lv_bipush (v := 13) hx hb dX7_strip_32 (by decide) ?_
        refine lv_iload_n hx hb dX7_strip_34 rfl (lv_at hl 1 rfl) ?_
        refine lv_iadd hx hb dX7_strip_35 ?_
        have c12 := h.1
        have h := h.2
        refine q_ild M hw (ar_100 hN) c12 dX7_strip_36 ?_
        refine lv_goto (tgt := 63) hx hb dX7_strip_37 (by decide) ?_
        exact q_iret M hw h dX7_strip_63
    · have h := h.1 c7
      refine lv_iconst (v := (-1)) hx hb dX7_strip_22 (by decide) ?_
      exact q_iret M hw h dX7_strip_23
set_option maxRecDepth 100000 in
theorem ctX7_strip (l : Launch) {Y : LY} (hB : YB Y) (hN : yN Y = 108) (a0 : Int32) (a1 : Int32) (σ : St) (Q : Int32 → St → Prop) (h : wX7_strip a0 a1 σ Q) : CT l yX7_strip (Cond.code yX7_strip cX7_strip 3 (some .int)) { frames := 2, cells := 0, slots := 0, locals := 43 } Y [.ref (yA Y 92), .int a0, .int a1] σ (QI Y Q) :=
  q_ent hB (by decide +kernel) (Nat.le_of_ble_eq_true rfl) (fun p e s m below meth c ls M hw hl => tX7_strip_E M hN a0 a1 σ _ _ ls hw hl h)
theorem mbX7_strip : MB RX7 yX7_strip cX7_strip 2 3 (some .int) := ⟨tw_769, tw_770, tw_56, tw_771, by decide +kernel⟩
end
section
variable {p : Program} {l : Launch} {e : Env} {s : State} {m : MethodId} {args : Array Value} {below : List Frame} {meth : Method} {c : Code} {Y : LY}
theorem dX7_night_0 : decode cX7_night 0 = .ok (.aload_n 0, 1) := by decide +kernel
theorem dX7_night_1 : decode cX7_night 1 = .ok (.iconst 0, 1) := by decide +kernel
theorem dX7_night_2 : decode cX7_night 2 = .ok (.putfield 62, 3) := by decide +kernel
theorem dX7_night_5 : decode cX7_night 5 = .ok (.iload_n 1, 1) := by decide +kernel
theorem dX7_night_6 : decode cX7_night 6 = .ok (.iconst 0, 1) := by decide +kernel
theorem dX7_night_7 : decode cX7_night 7 = .ok (.bipush 99, 2) := by decide +kernel
theorem dX7_night_9 : decode cX7_night 9 = .ok (.invokestatic 66, 3) := by decide +kernel
theorem dX7_night_12 : decode cX7_night 12 = .ok (.ifCond .eq 12, 3) := by decide +kernel
theorem dX7_night_15 : decode cX7_night 15 = .ok (.iload_n 2, 1) := by decide +kernel
theorem dX7_night_16 : decode cX7_night 16 = .ok (.iconst 0, 1) := by decide +kernel
theorem dX7_night_17 : decode cX7_night 17 = .ok (.iconst 1, 1) := by decide +kernel
theorem dX7_night_18 : decode cX7_night 18 = .ok (.invokestatic 66, 3) := by decide +kernel
theorem dX7_night_21 : decode cX7_night 21 = .ok (.ifCond .ne 5, 3) := by decide +kernel
theorem dX7_night_24 : decode cX7_night 24 = .ok (.iconst (-1), 1) := by decide +kernel
theorem dX7_night_25 : decode cX7_night 25 = .ok (.ireturn, 1) := by decide +kernel
theorem dX7_night_26 : decode cX7_night 26 = .ok (.iload_n 2, 1) := by decide +kernel
theorem dX7_night_27 : decode cX7_night 27 = .ok (.ifCond .ne 11, 3) := by decide +kernel
theorem dX7_night_30 : decode cX7_night 30 = .ok (.aload_n 0, 1) := by decide +kernel
theorem dX7_night_31 : decode cX7_night 31 = .ok (.iload_n 1, 1) := by decide +kernel
theorem dX7_night_32 : decode cX7_night 32 = .ok (.invokevirtual 133, 3) := by decide +kernel
theorem dX7_night_35 : decode cX7_night 35 = .ok (.goto 17, 3) := by decide +kernel
theorem dX7_night_38 : decode cX7_night 38 = .ok (.aload_n 0, 1) := by decide +kernel
theorem dX7_night_39 : decode cX7_night 39 = .ok (.getfield 28, 3) := by decide +kernel
theorem dX7_night_42 : decode cX7_night 42 = .ok (.iload_n 1, 1) := by decide +kernel
theorem dX7_night_43 : decode cX7_night 43 = .ok (.baload, 1) := by decide +kernel
theorem dX7_night_44 : decode cX7_night 44 = .ok (.ifCond .eq 7, 3) := by decide +kernel
theorem dX7_night_47 : decode cX7_night 47 = .ok (.iconst 1, 1) := by decide +kernel
theorem dX7_night_48 : decode cX7_night 48 = .ok (.goto 4, 3) := by decide +kernel
theorem dX7_night_51 : decode cX7_night 51 = .ok (.iconst 0, 1) := by decide +kernel
theorem dX7_night_52 : decode cX7_night 52 = .ok (.ireturn, 1) := by decide +kernel
def wX7_night (a0 : Int32) (a1 : Int32) (σ : St) (Q : Int32 → St → Prop) : Prop :=
  (∀ σ1 : St, σ1 = up σ 92 0 0 → wX7_in a0 0 99 σ1 (fun r3 σ2 => ((r3 = 0 → Q (-1) σ2) ∧ (¬ r3 = 0 → wX7_in a1 0 1 σ2 (fun r6 σ5 => ((r6 = 0 → Q (-1) σ5) ∧ (¬ r6 = 0 → ((a1 = 0 → wX7_moon a0 σ5 (fun r12 σ11 => Q r12 σ11)) ∧ (¬ a1 = 0 → (vp_in a0 200 ∧ (((σ5.1 99 a0.toNatClampNeg) = 0 → Q 0 σ5) ∧ (¬ (σ5.1 99 a0.toNatClampNeg) = 0 → Q 1 σ5))))))))))))
set_option maxHeartbeats 4000000 in
set_option maxRecDepth 100000 in
theorem tX7_night_E {Q : Int32 → St → Prop} (M : MC p s m args meth c cX7_night 3 (some .int) RX7 Y) (hN : yN Y = 108) (a0 : Int32) (a1 : Int32) (σ : St) (H : Heap) (locs : List Loc) (ls : Array Slot) (hw : WS Y (AD Y) s.heap σ H locs) (hl : lv_has ls 3 [(0, .ref (yA Y 92)), (1, .int a0), (2, .int a1)]) (h : wX7_night a0 a1 σ Q) : W p l e { frames := 1, cells := 0, slots := 0, locals := 22 } s m args below meth c H locs 0 0 (MQ below (QI Y Q) args s 0 0 (AD Y)) (F0 m 0 ls []) := by
  obtain ⟨hx, hb, hr, hml, hown, hlk, hT, hK, hB⟩ := id M
  unfold wX7_night at h
  refine lv_aload_n hx hb dX7_night_0 rfl (lv_at hl 0 rfl) ?_
  refine lv_iconst (v := 0) hx hb dX7_night_1 (by decide) ?_
  refine q_put (v := 0) M hw (ob_92 hN) rfl inq_7 tyX7 tyX7_ok nmX7 0 (by decide) tw_635 rfl rfl rfl (Nat.le_of_ble_eq_true rfl) (by simp [up, upd, f0]) dX7_night_2 (fun σ1 H locs es hw => ?_)
  have h := h σ1 es
  refine lv_iload_n hx hb dX7_night_5 rfl (lv_at hl 1 rfl) ?_
  refine lv_iconst (v := 0) hx hb dX7_night_6 (by decide) ?_
  refine lv_bipush (v := 99) hx hb dX7_night_7 (by decide) ?_
  refine q_goI hw (q_runS (rest := []) M hw (ctX7_in l hB a0 0 99 σ1 _ h) mbX7_in tw_718 rfl hl.1 rfl (Nat.le_of_ble_eq_true rfl) ⟨Nat.le_of_ble_eq_true rfl, Nat.le_of_ble_eq_true rfl⟩ ⟨Nat.le_refl _, Nat.le_refl _⟩ dX7_night_9) (fun r3 σ2 H locs h hw => ?_)
  refine lv_if_eq (tgt := 24) hx hb dX7_night_12 (by decide) (fun c4 => ?_) (fun c4 => ?_)
  · have h := h.1 c4
    refine lv_iconst (v := (-1)) hx hb dX7_night_24 (by decide) ?_
    exact q_iret M hw h dX7_night_25
  · have h := h.2 c4
    refine lv_iload_n hx hb dX7_night_15 rfl (lv_at hl 2 rfl) ?_
    refine lv_iconst (v := 0) hx hb dX7_night_16 (by decide) ?_
    refine lv_iconst (v := 1) hx hb dX7_night_17 (by decide) ?_
    refine q_goI hw (q_runS (rest := []) M hw (ctX7_in l hB a1 0 1 σ2 _ h) mbX7_in tw_718 rfl hl.1 rfl (Nat.le_of_ble_eq_true rfl) ⟨Nat.le_of_ble_eq_true rfl, Nat.le_of_ble_eq_true rfl⟩ ⟨Nat.le_refl _, Nat.le_refl _⟩ dX7_night_18) (fun r6 σ5 H locs h hw => ?_)
    refine lv_if_ne (tgt := 26) hx hb dX7_night_21 (by decide) (fun c7 => ?_) (fun c7 => ?_)
    · have h := h.2 c7
      refine lv_iload_n hx hb dX7_night_26 rfl (lv_at hl 2 rfl) ?_
      refine lv_if_ne (tgt := 38) hx hb dX7_night_27 (by decide) (fun c8 => ?_) (fun c8 => ?_)
      · have h := h.2 c8
        refine lv_aload_n hx hb dX7_night_38 rfl (lv_at hl 0 rfl) ?_
        refine q_get (v := .ref (yA Y 99)) M hw (ob_92 hN) rfl inq_7 15 (by decide) tw_650 rfl dX7_night_39 ?_
        refine lv_iload_n hx hb dX7_night_42 rfl (lv_at hl 1 rfl) ?_
        have c9 := h.1
        have h := h.2
        refine q_zld M hw (ar_99 hN) c9 dX7_night_43 ?_
        refine lv_if_eq (tgt := 51) hx hb dX7_night_44 (by decide) (fun c10 => ?_) (fun c10 => ?_)
        · have h := h.1 c10
          refine lv_iconst (v := 0) hx hb dX7_night_51 (by decide) ?_
          exact q_iret M hw h dX7_night_52
        · have h := h.2 c10
          refine lv_iconst (v := 1) hx hb dX7_night_47 (by decide) ?_
          refine lv_goto (tgt := 52) hx hb dX7_night_48 (by decide) ?_
          exact q_iret M hw h dX7_night_52
      · have h := h.1 c8
        refine lv_aload_n hx hb dX7_night_30 rfl (lv_at hl 0 rfl) ?_
        refine lv_iload_n hx hb dX7_night_31 rfl (lv_at hl 1 rfl) ?_
        refine q_goI hw (q_runV (rest := []) M hw (ctX7_moon l hB hN a0 σ5 _ h) mbX7_moon (ob_92 hN) rfl tw_780 rfl hl.1 rfl (Nat.le_of_ble_eq_true rfl) ⟨Nat.le_of_ble_eq_true rfl, Nat.le_of_ble_eq_true rfl⟩ ⟨Nat.le_refl _, Nat.le_refl _⟩ dX7_night_32) (fun r12 σ11 H locs h hw => ?_)
        refine lv_goto (tgt := 52) hx hb dX7_night_35 (by decide) ?_
        exact q_iret M hw h dX7_night_52
    · have h := h.1 c7
      refine lv_iconst (v := (-1)) hx hb dX7_night_24 (by decide) ?_
      exact q_iret M hw h dX7_night_25
set_option maxRecDepth 100000 in
theorem ctX7_night (l : Launch) {Y : LY} (hB : YB Y) (hN : yN Y = 108) (a0 : Int32) (a1 : Int32) (σ : St) (Q : Int32 → St → Prop) (h : wX7_night a0 a1 σ Q) : CT l yX7_night (Cond.code yX7_night cX7_night 3 (some .int)) { frames := 1, cells := 0, slots := 0, locals := 22 } Y [.ref (yA Y 92), .int a0, .int a1] σ (QI Y Q) :=
  q_ent hB (by decide +kernel) (Nat.le_of_ble_eq_true rfl) (fun p e s m below meth c ls M hw hl => tX7_night_E M hN a0 a1 σ _ _ ls hw hl h)
theorem mbX7_night : MB RX7 yX7_night cX7_night 2 3 (some .int) := ⟨tw_777, tw_778, tw_56, tw_779, by decide +kernel⟩
end
section
variable {p : Program} {l : Launch} {e : Env} {s : State} {m : MethodId} {args : Array Value} {below : List Frame} {meth : Method} {c : Code} {Y : LY}
theorem dX7_now_0 : decode cX7_now 0 = .ok (.aload_n 0, 1) := by decide +kernel
theorem dX7_now_1 : decode cX7_now 1 = .ok (.iconst 0, 1) := by decide +kernel
theorem dX7_now_2 : decode cX7_now 2 = .ok (.putfield 62, 3) := by decide +kernel
theorem dX7_now_5 : decode cX7_now 5 = .ok (.iload_n 1, 1) := by decide +kernel
theorem dX7_now_6 : decode cX7_now 6 = .ok (.iconst 0, 1) := by decide +kernel
theorem dX7_now_7 : decode cX7_now 7 = .ok (.iconst 5, 1) := by decide +kernel
theorem dX7_now_8 : decode cX7_now 8 = .ok (.invokestatic 66, 3) := by decide +kernel
theorem dX7_now_11 : decode cX7_now 11 = .ok (.ifCond .ne 5, 3) := by decide +kernel
theorem dX7_now_14 : decode cX7_now 14 = .ok (.iconst (-1), 1) := by decide +kernel
theorem dX7_now_15 : decode cX7_now 15 = .ok (.ireturn, 1) := by decide +kernel
theorem dX7_now_16 : decode cX7_now 16 = .ok (.iconst 0, 1) := by decide +kernel
theorem dX7_now_17 : decode cX7_now 17 = .ok (.istore_n 2, 1) := by decide +kernel
theorem dX7_now_18 : decode cX7_now 18 = .ok (.iconst 0, 1) := by decide +kernel
theorem dX7_now_19 : decode cX7_now 19 = .ok (.istore_n 3, 1) := by decide +kernel
theorem dX7_now_20 : decode cX7_now 20 = .ok (.iconst 0, 1) := by decide +kernel
theorem dX7_now_21 : decode cX7_now 21 = .ok (.istore 4, 2) := by decide +kernel
theorem dX7_now_23 : decode cX7_now 23 = .ok (.iconst 0, 1) := by decide +kernel
theorem dX7_now_24 : decode cX7_now 24 = .ok (.istore 5, 2) := by decide +kernel
theorem dX7_now_26 : decode cX7_now 26 = .ok (.iload 5, 2) := by decide +kernel
theorem dX7_now_28 : decode cX7_now 28 = .ok (.aload_n 0, 1) := by decide +kernel
theorem dX7_now_29 : decode cX7_now 29 = .ok (.getfield 13, 3) := by decide +kernel
theorem dX7_now_32 : decode cX7_now 32 = .ok (.iconst 1, 1) := by decide +kernel
theorem dX7_now_33 : decode cX7_now 33 = .ok (.iaload, 1) := by decide +kernel
theorem dX7_now_34 : decode cX7_now 34 = .ok (.if_icmp .ge 33, 3) := by decide +kernel
theorem dX7_now_37 : decode cX7_now 37 = .ok (.iload_n 2, 1) := by decide +kernel
theorem dX7_now_38 : decode cX7_now 38 = .ok (.aload_n 0, 1) := by decide +kernel
theorem dX7_now_39 : decode cX7_now 39 = .ok (.getfield 32, 3) := by decide +kernel
theorem dX7_now_42 : decode cX7_now 42 = .ok (.bipush 6, 2) := by decide +kernel
theorem dX7_now_44 : decode cX7_now 44 = .ok (.iload 5, 2) := by decide +kernel
theorem dX7_now_46 : decode cX7_now 46 = .ok (.iadd, 1) := by decide +kernel
theorem dX7_now_47 : decode cX7_now 47 = .ok (.iaload, 1) := by decide +kernel
theorem dX7_now_48 : decode cX7_now 48 = .ok (.ifCond .ne 10, 3) := by decide +kernel
theorem dX7_now_51 : decode cX7_now 51 = .ok (.iconst 1, 1) := by decide +kernel
theorem dX7_now_52 : decode cX7_now 52 = .ok (.iload 5, 2) := by decide +kernel
theorem dX7_now_54 : decode cX7_now 54 = .ok (.ishl, 1) := by decide +kernel
theorem dX7_now_55 : decode cX7_now 55 = .ok (.goto 4, 3) := by decide +kernel
theorem dX7_now_58 : decode cX7_now 58 = .ok (.iconst 0, 1) := by decide +kernel
theorem dX7_now_59 : decode cX7_now 59 = .ok (.ior, 1) := by decide +kernel
theorem dX7_now_60 : decode cX7_now 60 = .ok (.istore_n 2, 1) := by decide +kernel
theorem dX7_now_61 : decode cX7_now 61 = .ok (.iinc 5 1, 3) := by decide +kernel
theorem dX7_now_64 : decode cX7_now 64 = .ok (.goto (-38), 3) := by decide +kernel
theorem dX7_now_67 : decode cX7_now 67 = .ok (.iconst 0, 1) := by decide +kernel
theorem dX7_now_68 : decode cX7_now 68 = .ok (.istore 5, 2) := by decide +kernel
theorem dX7_now_70 : decode cX7_now 70 = .ok (.iload 5, 2) := by decide +kernel
theorem dX7_now_72 : decode cX7_now 72 = .ok (.aload_n 0, 1) := by decide +kernel
theorem dX7_now_73 : decode cX7_now 73 = .ok (.getfield 13, 3) := by decide +kernel
theorem dX7_now_76 : decode cX7_now 76 = .ok (.iconst 0, 1) := by decide +kernel
theorem dX7_now_77 : decode cX7_now 77 = .ok (.iaload, 1) := by decide +kernel
theorem dX7_now_78 : decode cX7_now 78 = .ok (.if_icmp .ge 21, 3) := by decide +kernel
theorem dX7_now_81 : decode cX7_now 81 = .ok (.iload_n 3, 1) := by decide +kernel
theorem dX7_now_82 : decode cX7_now 82 = .ok (.aload_n 0, 1) := by decide +kernel
theorem dX7_now_83 : decode cX7_now 83 = .ok (.getfield 32, 3) := by decide +kernel
theorem dX7_now_86 : decode cX7_now 86 = .ok (.iconst 1, 1) := by decide +kernel
theorem dX7_now_87 : decode cX7_now 87 = .ok (.iload 5, 2) := by decide +kernel
theorem dX7_now_89 : decode cX7_now 89 = .ok (.iadd, 1) := by decide +kernel
theorem dX7_now_90 : decode cX7_now 90 = .ok (.iaload, 1) := by decide +kernel
theorem dX7_now_91 : decode cX7_now 91 = .ok (.iadd, 1) := by decide +kernel
theorem dX7_now_92 : decode cX7_now 92 = .ok (.istore_n 3, 1) := by decide +kernel
theorem dX7_now_93 : decode cX7_now 93 = .ok (.iinc 5 1, 3) := by decide +kernel
theorem dX7_now_96 : decode cX7_now 96 = .ok (.goto (-26), 3) := by decide +kernel
theorem dX7_now_99 : decode cX7_now 99 = .ok (.aload_n 0, 1) := by decide +kernel
theorem dX7_now_100 : decode cX7_now 100 = .ok (.getfield 32, 3) := by decide +kernel
theorem dX7_now_103 : decode cX7_now 103 = .ok (.iconst 0, 1) := by decide +kernel
theorem dX7_now_104 : decode cX7_now 104 = .ok (.iaload, 1) := by decide +kernel
theorem dX7_now_105 : decode cX7_now 105 = .ok (.istore 5, 2) := by decide +kernel
theorem dX7_now_107 : decode cX7_now 107 = .ok (.iload 5, 2) := by decide +kernel
theorem dX7_now_109 : decode cX7_now 109 = .ok (.aload_n 0, 1) := by decide +kernel
theorem dX7_now_110 : decode cX7_now 110 = .ok (.getfield 13, 3) := by decide +kernel
theorem dX7_now_113 : decode cX7_now 113 = .ok (.iconst 3, 1) := by decide +kernel
theorem dX7_now_114 : decode cX7_now 114 = .ok (.iaload, 1) := by decide +kernel
theorem dX7_now_115 : decode cX7_now 115 = .ok (.if_icmp .ge 39, 3) := by decide +kernel
theorem dX7_now_118 : decode cX7_now 118 = .ok (.iload 4, 2) := by decide +kernel
theorem dX7_now_120 : decode cX7_now 120 = .ok (.aload_n 0, 1) := by decide +kernel
theorem dX7_now_121 : decode cX7_now 121 = .ok (.iload 5, 2) := by decide +kernel
theorem dX7_now_123 : decode cX7_now 123 = .ok (.invokevirtual 133, 3) := by decide +kernel
theorem dX7_now_126 : decode cX7_now 126 = .ok (.iconst 4, 1) := by decide +kernel
theorem dX7_now_127 : decode cX7_now 127 = .ok (.if_icmp .ne 17, 3) := by decide +kernel
theorem dX7_now_130 : decode cX7_now 130 = .ok (.aload_n 0, 1) := by decide +kernel
theorem dX7_now_131 : decode cX7_now 131 = .ok (.getfield 28, 3) := by decide +kernel
theorem dX7_now_134 : decode cX7_now 134 = .ok (.iload 5, 2) := by decide +kernel
theorem dX7_now_136 : decode cX7_now 136 = .ok (.baload, 1) := by decide +kernel
theorem dX7_now_137 : decode cX7_now 137 = .ok (.ifCond .ne 7, 3) := by decide +kernel
theorem dX7_now_140 : decode cX7_now 140 = .ok (.iconst 1, 1) := by decide +kernel
theorem dX7_now_141 : decode cX7_now 141 = .ok (.goto 4, 3) := by decide +kernel
theorem dX7_now_144 : decode cX7_now 144 = .ok (.iconst 0, 1) := by decide +kernel
theorem dX7_now_145 : decode cX7_now 145 = .ok (.iadd, 1) := by decide +kernel
theorem dX7_now_146 : decode cX7_now 146 = .ok (.istore 4, 2) := by decide +kernel
theorem dX7_now_148 : decode cX7_now 148 = .ok (.iinc 5 1, 3) := by decide +kernel
theorem dX7_now_151 : decode cX7_now 151 = .ok (.goto (-44), 3) := by decide +kernel
theorem dX7_now_154 : decode cX7_now 154 = .ok (.iload_n 1, 1) := by decide +kernel
theorem dX7_now_155 : decode cX7_now 155 = .ok (.ifCond .ne 12, 3) := by decide +kernel
theorem dX7_now_158 : decode cX7_now 158 = .ok (.aload_n 0, 1) := by decide +kernel
theorem dX7_now_159 : decode cX7_now 159 = .ok (.getfield 32, 3) := by decide +kernel
theorem dX7_now_162 : decode cX7_now 162 = .ok (.iconst 0, 1) := by decide +kernel
theorem dX7_now_163 : decode cX7_now 163 = .ok (.iaload, 1) := by decide +kernel
theorem dX7_now_164 : decode cX7_now 164 = .ok (.goto 50, 3) := by decide +kernel
theorem dX7_now_167 : decode cX7_now 167 = .ok (.iload_n 1, 1) := by decide +kernel
theorem dX7_now_168 : decode cX7_now 168 = .ok (.iconst 1, 1) := by decide +kernel
theorem dX7_now_169 : decode cX7_now 169 = .ok (.if_icmp .ne 7, 3) := by decide +kernel
theorem dX7_now_172 : decode cX7_now 172 = .ok (.iload_n 2, 1) := by decide +kernel
theorem dX7_now_173 : decode cX7_now 173 = .ok (.goto 41, 3) := by decide +kernel
theorem dX7_now_176 : decode cX7_now 176 = .ok (.iload_n 1, 1) := by decide +kernel
theorem dX7_now_177 : decode cX7_now 177 = .ok (.iconst 2, 1) := by decide +kernel
theorem dX7_now_178 : decode cX7_now 178 = .ok (.if_icmp .ne 13, 3) := by decide +kernel
theorem dX7_now_181 : decode cX7_now 181 = .ok (.aload_n 0, 1) := by decide +kernel
theorem dX7_now_182 : decode cX7_now 182 = .ok (.getfield 32, 3) := by decide +kernel
theorem dX7_now_185 : decode cX7_now 185 = .ok (.bipush 20, 2) := by decide +kernel
theorem dX7_now_187 : decode cX7_now 187 = .ok (.iaload, 1) := by decide +kernel
theorem dX7_now_188 : decode cX7_now 188 = .ok (.goto 26, 3) := by decide +kernel
theorem dX7_now_191 : decode cX7_now 191 = .ok (.iload_n 1, 1) := by decide +kernel
theorem dX7_now_192 : decode cX7_now 192 = .ok (.iconst 3, 1) := by decide +kernel
theorem dX7_now_193 : decode cX7_now 193 = .ok (.if_icmp .ne 7, 3) := by decide +kernel
theorem dX7_now_196 : decode cX7_now 196 = .ok (.iload_n 3, 1) := by decide +kernel
theorem dX7_now_197 : decode cX7_now 197 = .ok (.goto 17, 3) := by decide +kernel
theorem dX7_now_200 : decode cX7_now 200 = .ok (.iload_n 1, 1) := by decide +kernel
theorem dX7_now_201 : decode cX7_now 201 = .ok (.iconst 4, 1) := by decide +kernel
theorem dX7_now_202 : decode cX7_now 202 = .ok (.if_icmp .ne 8, 3) := by decide +kernel
theorem dX7_now_205 : decode cX7_now 205 = .ok (.iload 4, 2) := by decide +kernel
theorem dX7_now_207 : decode cX7_now 207 = .ok (.goto 7, 3) := by decide +kernel
theorem dX7_now_210 : decode cX7_now 210 = .ok (.aload_n 0, 1) := by decide +kernel
theorem dX7_now_211 : decode cX7_now 211 = .ok (.getfield 124, 3) := by decide +kernel
theorem dX7_now_214 : decode cX7_now 214 = .ok (.ireturn, 1) := by decide +kernel
def bX7_now_59 (R_26 : Int32 × Int32 × Int32 × Int32 × Int32 × St → Prop) (y1 : Int32) (y3 : Int32) (y4 : Int32) (y5 : Int32) (z0 : Int32) (z1 : Int32) (σ : St) (Q : Int32 → St → Prop) : Prop :=
  (∀ x1 : Int32, x1 = (z1 ||| z0) → (∀ x2 : Int32, x2 = y5 + 1 → R_26 (y1, x1, y3, y4, x2, σ)))
set_option maxHeartbeats 4000000 in
set_option maxRecDepth 100000 in
theorem tX7_now_59 {R_26 : Int32 × Int32 × Int32 × Int32 × Int32 × St → Prop} {Q : Int32 → St → Prop} (M : MC p s m args meth c cX7_now 6 (some .int) RX7 Y) (hN : yN Y = 108) (hR_26 : ∀ (y1 y2 y3 y4 y5 : Int32) (σ : St) (H : Heap) (locs : List Loc) (ls : Array Slot), WS Y (AD Y) s.heap σ H locs → lv_has ls 6 [(0, .ref (yA Y 92)), (1, .int y1), (2, .int y2), (3, .int y3), (4, .int y4), (5, .int y5)] → R_26 (y1, y2, y3, y4, y5, σ) → W p l e { frames := 1, cells := 0, slots := 0, locals := 22 } s m args below meth c H locs 0 0 (MQ below (QI Y Q) args s 0 0 (AD Y)) (F0 m 26 ls [])) (y1 : Int32) (y3 : Int32) (y4 : Int32) (y5 : Int32) (z0 : Int32) (z1 : Int32) (σ : St) (H : Heap) (locs : List Loc) (ls : Array Slot) (hw : WS Y (AD Y) s.heap σ H locs) (hl : lv_has ls 6 [(0, .ref (yA Y 92)), (1, .int y1), (3, .int y3), (4, .int y4), (5, .int y5)]) (h : bX7_now_59 R_26 y1 y3 y4 y5 z0 z1 σ Q) : W p l e { frames := 1, cells := 0, slots := 0, locals := 22 } s m args below meth c H locs 0 0 (MQ below (QI Y Q) args s 0 0 (AD Y)) (F0 m 59 ls [.int z0, .int z1]) := by
  obtain ⟨hx, hb, hr, hml, hown, hlk, hT, hK, hB⟩ := id M
  unfold bX7_now_59 at h
  refine lv_ior hx hb dX7_now_59 ?_
  refine lv_topi (fun x1 ex1 => ?_)
  have h := h x1 ex1
  refine lv_istore_n (lv' := [(2, .int x1), (0, .ref (yA Y 92)), (1, .int y1), (3, .int y3), (4, .int y4), (5, .int y5)]) hx hb dX7_now_60 rfl hl (by decide) rfl (fun ls hl => ?_)
  obtain ⟨x2, ex2⟩ : ∃ y : Int32, y = y5 + 1 := ⟨_, rfl⟩
  have h := h x2 ex2
  refine lv_iinc (v := x2) (lv' := [(5, .int x2), (2, .int x1), (0, .ref (yA Y 92)), (1, .int y1), (3, .int y3), (4, .int y4)]) hx hb dX7_now_61 hl (k := 5) rfl (by rw [ex2]; rfl) (by decide) rfl (fun ls hl => ?_)
  refine lv_goto (tgt := 26) hx hb dX7_now_64 (by decide) ?_
  exact hR_26 y1 x1 y3 y4 x2 σ _ _ _ hw (lv_sub hl [2, 3, 1, 4, 5, 0] rfl) h
def bX7_now_145 (R_107 : Int32 × Int32 × Int32 × Int32 × Int32 × St → Prop) (y1 : Int32) (y2 : Int32) (y3 : Int32) (y5 : Int32) (z0 : Int32) (z1 : Int32) (σ : St) (Q : Int32 → St → Prop) : Prop :=
  (∀ x1 : Int32, x1 = (z1 + z0) → (∀ x2 : Int32, x2 = y5 + 1 → R_107 (y1, y2, y3, x1, x2, σ)))
set_option maxHeartbeats 4000000 in
set_option maxRecDepth 100000 in
theorem tX7_now_145 {R_107 : Int32 × Int32 × Int32 × Int32 × Int32 × St → Prop} {Q : Int32 → St → Prop} (M : MC p s m args meth c cX7_now 6 (some .int) RX7 Y) (hN : yN Y = 108) (hR_107 : ∀ (y1 y2 y3 y4 y5 : Int32) (σ : St) (H : Heap) (locs : List Loc) (ls : Array Slot), WS Y (AD Y) s.heap σ H locs → lv_has ls 6 [(0, .ref (yA Y 92)), (1, .int y1), (2, .int y2), (3, .int y3), (4, .int y4), (5, .int y5)] → R_107 (y1, y2, y3, y4, y5, σ) → W p l e { frames := 1, cells := 0, slots := 0, locals := 22 } s m args below meth c H locs 0 0 (MQ below (QI Y Q) args s 0 0 (AD Y)) (F0 m 107 ls [])) (y1 : Int32) (y2 : Int32) (y3 : Int32) (y5 : Int32) (z0 : Int32) (z1 : Int32) (σ : St) (H : Heap) (locs : List Loc) (ls : Array Slot) (hw : WS Y (AD Y) s.heap σ H locs) (hl : lv_has ls 6 [(0, .ref (yA Y 92)), (1, .int y1), (2, .int y2), (3, .int y3), (5, .int y5)]) (h : bX7_now_145 R_107 y1 y2 y3 y5 z0 z1 σ Q) : W p l e { frames := 1, cells := 0, slots := 0, locals := 22 } s m args below meth c H locs 0 0 (MQ below (QI Y Q) args s 0 0 (AD Y)) (F0 m 145 ls [.int z0, .int z1]) := by
  obtain ⟨hx, hb, hr, hml, hown, hlk, hT, hK, hB⟩ := id M
  unfold bX7_now_145 at h
  refine lv_iadd hx hb dX7_now_145 ?_
  refine lv_topi (fun x1 ex1 => ?_)
  have h := h x1 ex1
  refine lv_istore (lv' := [(4, .int x1), (0, .ref (yA Y 92)), (1, .int y1), (2, .int y2), (3, .int y3), (5, .int y5)]) hx hb dX7_now_146 hl (by decide) rfl (fun ls hl => ?_)
  obtain ⟨x2, ex2⟩ : ∃ y : Int32, y = y5 + 1 := ⟨_, rfl⟩
  have h := h x2 ex2
  refine lv_iinc (v := x2) (lv' := [(5, .int x2), (4, .int x1), (0, .ref (yA Y 92)), (1, .int y1), (2, .int y2), (3, .int y3)]) hx hb dX7_now_148 hl (k := 5) rfl (by rw [ex2]; rfl) (by decide) rfl (fun ls hl => ?_)
  refine lv_goto (tgt := 107) hx hb dX7_now_151 (by decide) ?_
  exact hR_107 y1 y2 y3 x1 x2 σ _ _ _ hw (lv_sub hl [2, 3, 4, 5, 1, 0] rfl) h
def bX7_now_144 (R_107 : Int32 × Int32 × Int32 × Int32 × Int32 × St → Prop) (y1 : Int32) (y2 : Int32) (y3 : Int32) (y5 : Int32) (z0 : Int32) (σ : St) (Q : Int32 → St → Prop) : Prop :=
  bX7_now_145 R_107 y1 y2 y3 y5 0 z0 σ Q
set_option maxHeartbeats 4000000 in
set_option maxRecDepth 100000 in
theorem tX7_now_144 {R_107 : Int32 × Int32 × Int32 × Int32 × Int32 × St → Prop} {Q : Int32 → St → Prop} (M : MC p s m args meth c cX7_now 6 (some .int) RX7 Y) (hN : yN Y = 108) (hR_107 : ∀ (y1 y2 y3 y4 y5 : Int32) (σ : St) (H : Heap) (locs : List Loc) (ls : Array Slot), WS Y (AD Y) s.heap σ H locs → lv_has ls 6 [(0, .ref (yA Y 92)), (1, .int y1), (2, .int y2), (3, .int y3), (4, .int y4), (5, .int y5)] → R_107 (y1, y2, y3, y4, y5, σ) → W p l e { frames := 1, cells := 0, slots := 0, locals := 22 } s m args below meth c H locs 0 0 (MQ below (QI Y Q) args s 0 0 (AD Y)) (F0 m 107 ls [])) (y1 : Int32) (y2 : Int32) (y3 : Int32) (y5 : Int32) (z0 : Int32) (σ : St) (H : Heap) (locs : List Loc) (ls : Array Slot) (hw : WS Y (AD Y) s.heap σ H locs) (hl : lv_has ls 6 [(0, .ref (yA Y 92)), (1, .int y1), (2, .int y2), (3, .int y3), (5, .int y5)]) (h : bX7_now_144 R_107 y1 y2 y3 y5 z0 σ Q) : W p l e { frames := 1, cells := 0, slots := 0, locals := 22 } s m args below meth c H locs 0 0 (MQ below (QI Y Q) args s 0 0 (AD Y)) (F0 m 144 ls [.int z0]) := by
  obtain ⟨hx, hb, hr, hml, hown, hlk, hT, hK, hB⟩ := id M
  unfold bX7_now_144 at h
  refine lv_iconst (v := 0) hx hb dX7_now_144 (by decide) ?_
  exact tX7_now_145 M hN hR_107 y1 y2 y3 y5 0 z0 σ _ _ _ hw (lv_sub hl [0, 1, 2, 3, 4] rfl) h
def bX7_now_107 (R_107 : Int32 × Int32 × Int32 × Int32 × Int32 × St → Prop) (y1 : Int32) (y2 : Int32) (y3 : Int32) (y4 : Int32) (y5 : Int32) (σ : St) (Q : Int32 → St → Prop) : Prop :=
  (((σ.1 94 3) ≤ y5 → ((y1 = 0 → Q (σ.1 100 0) σ) ∧ (¬ y1 = 0 → ((y1 = 1 → Q y2 σ) ∧ (¬ y1 = 1 → ((y1 = 2 → Q (σ.1 100 20) σ) ∧ (¬ y1 = 2 → ((y1 = 3 → Q y3 σ) ∧ (¬ y1 = 3 → ((y1 = 4 → Q y4 σ) ∧ (¬ y1 = 4 → Q (σ.1 92 20) σ))))))))))) ∧ (¬ (σ.1 94 3) ≤ y5 → wX7_moon y5 σ (fun r8 σ7 => ((r8 = 4 → (vp_in y5 200 ∧ (((σ7.1 99 y5.toNatClampNeg) = 0 → bX7_now_145 R_107 y1 y2 y3 y5 1 y4 σ7 Q) ∧ (¬ (σ7.1 99 y5.toNatClampNeg) = 0 → bX7_now_144 R_107 y1 y2 y3 y5 y4 σ7 Q)))) ∧ (¬ r8 = 4 → bX7_now_144 R_107 y1 y2 y3 y5 y4 σ7 Q)))))
set_option maxHeartbeats 4000000 in
set_option maxRecDepth 100000 in
theorem tX7_now_107 {R_107 : Int32 × Int32 × Int32 × Int32 × Int32 × St → Prop} {Q : Int32 → St → Prop} (M : MC p s m args meth c cX7_now 6 (some .int) RX7 Y) (hN : yN Y = 108) (hR_107 : ∀ (y1 y2 y3 y4 y5 : Int32) (σ : St) (H : Heap) (locs : List Loc) (ls : Array Slot), WS Y (AD Y) s.heap σ H locs → lv_has ls 6 [(0, .ref (yA Y 92)), (1, .int y1), (2, .int y2), (3, .int y3), (4, .int y4), (5, .int y5)] → R_107 (y1, y2, y3, y4, y5, σ) → W p l e { frames := 1, cells := 0, slots := 0, locals := 22 } s m args below meth c H locs 0 0 (MQ below (QI Y Q) args s 0 0 (AD Y)) (F0 m 107 ls [])) (y1 : Int32) (y2 : Int32) (y3 : Int32) (y4 : Int32) (y5 : Int32) (σ : St) (H : Heap) (locs : List Loc) (ls : Array Slot) (hw : WS Y (AD Y) s.heap σ H locs) (hl : lv_has ls 6 [(0, .ref (yA Y 92)), (1, .int y1), (2, .int y2), (3, .int y3), (4, .int y4), (5, .int y5)]) (h : bX7_now_107 R_107 y1 y2 y3 y4 y5 σ Q) : W p l e { frames := 1, cells := 0, slots := 0, locals := 22 } s m args below meth c H locs 0 0 (MQ below (QI Y Q) args s 0 0 (AD Y)) (F0 m 107 ls []) := by
  obtain ⟨hx, hb, hr, hml, hown, hlk, hT, hK, hB⟩ := id M
  unfold bX7_now_107 at h
  refine lv_iload hx hb dX7_now_107 (lv_at hl 5 rfl) ?_
  refine lv_aload_n hx hb dX7_now_109 rfl (lv_at hl 0 rfl) ?_
  refine q_get (v := .ref (yA Y 94)) M hw (ob_92 hN) rfl inq_7 9 (by decide) tw_644 rfl dX7_now_110 ?_
  refine lv_iconst (v := 3) hx hb dX7_now_113 (by decide) ?_
  refine q_ild' 3 M hw (ar_94 hN) (by unfold vp_in; decide) (by decide) dX7_now_114 ?_
  refine lv_icmp_ge (tgt := 154) hx hb dX7_now_115 (by decide) (fun c1 => ?_) (fun c1 => ?_)
  · have h := h.1 c1
    refine lv_iload_n hx hb dX7_now_154 rfl (lv_at hl 1 rfl) ?_
    refine lv_if_ne (tgt := 167) hx hb dX7_now_155 (by decide) (fun c2 => ?_) (fun c2 => ?_)
    · have h := h.2 c2
      refine lv_iload_n hx hb dX7_now_167 rfl (lv_at hl 1 rfl) ?_
      refine lv_iconst (v := 1) hx hb dX7_now_168 (by decide) ?_
      refine lv_icmp_ne (tgt := 176) hx hb dX7_now_169 (by decide) (fun c3 => ?_) (fun c3 => ?_)
      · have h := h.2 c3
        refine lv_iload_n hx hb dX7_now_176 rfl (lv_at hl 1 rfl) ?_
        refine lv_iconst (v := 2) hx hb dX7_now_177 (by decide) ?_
        refine lv_icmp_ne (tgt := 191) hx hb dX7_now_178 (by decide) (fun c4 => ?_) (fun c4 => ?_)
        · have h := h.2 c4
          refine lv_iload_n hx hb dX7_now_191 rfl (lv_at hl 1 rfl) ?_
          refine lv_iconst (v := 3) hx hb dX7_now_192 (by decide) ?_
          refine lv_icmp_ne (tgt := 200) hx hb dX7_now_193 (by decide) (fun c5 => ?_) (fun c5 => ?_)
          · have h := h.2 c5
            refine lv_iload_n hx hb dX7_now_200 rfl (lv_at hl 1 rfl) ?_
            refine lv_iconst (v := 4) hx hb dX7_now_201 (by decide) ?_
            refine lv_icmp_ne (tgt := 210) hx hb dX7_now_202 (by decide) (fun c6 => ?_) (fun c6 => ?_)
            · have h := h.2 c6
              refine lv_aload_n hx hb dX7_now_210 rfl (lv_at hl 0 rfl) ?_
              refine q_get (v := .int (σ.1 92 20)) M hw (ob_92 hN) rfl inq_7 20 (by decide) tw_655 rfl dX7_now_211 ?_
              exact q_iret M hw h dX7_now_214
            · have h := h.1 c6
              refine lv_iload hx hb dX7_now_205 (lv_at hl 4 rfl) ?_
              refine lv_goto (tgt := 214) hx hb dX7_now_207 (by decide) ?_
              exact q_iret M hw h dX7_now_214
          · have h := h.1 c5
            refine lv_iload_n hx hb dX7_now_196 rfl (lv_at hl 3 rfl) ?_
            refine lv_goto (tgt := 214) hx hb dX7_now_197 (by decide) ?_
            exact q_iret M hw h dX7_now_214
        · have h := h.1 c4
          refine lv_aload_n hx hb dX7_now_181 rfl (lv_at hl 0 rfl) ?_
          refine q_get (v := .ref (yA Y 100)) M hw (ob_92 hN) rfl inq_7 16 (by decide) tw_651 rfl dX7_now_182 ?_
          refine lv_bipush (v := 20) hx hb dX7_now_185 (by decide) ?_
          refine q_ild' 20 M hw (ar_100 hN) (by unfold vp_in; decide) (by decide) dX7_now_187 ?_
          refine lv_goto (tgt := 214) hx hb dX7_now_188 (by decide) ?_
          exact q_iret M hw h dX7_now_214
      · have h := h.1 c3
        refine lv_iload_n hx hb dX7_now_172 rfl (lv_at hl 2 rfl) ?_
        refine lv_goto (tgt := 214) hx hb dX7_now_173 (by decide) ?_
        exact q_iret M hw h dX7_now_214
    · have h := h.1 c2
      refine lv_aload_n hx hb dX7_now_158 rfl (lv_at hl 0 rfl) ?_
      refine q_get (v := .ref (yA Y 100)) M hw (ob_92 hN) rfl inq_7 16 (by decide) tw_651 rfl dX7_now_159 ?_
      refine lv_iconst (v := 0) hx hb dX7_now_162 (by decide) ?_
      refine q_ild' 0 M hw (ar_100 hN) (by unfold vp_in; decide) (by decide) dX7_now_163 ?_
      refine lv_goto (tgt := 214) hx hb dX7_now_164 (by decide) ?_
      exact q_iret M hw h dX7_now_214
  · have h := h.2 c1
    refine lv_iload hx hb dX7_now_118 (lv_at hl 4 rfl) ?_
    refine lv_aload_n hx hb dX7_now_120 rfl (lv_at hl 0 rfl) ?_
    refine lv_iload hx hb dX7_now_121 (lv_at hl 5 rfl) ?_
    refine q_goI hw (q_runV (rest := [.int y4]) M hw (ctX7_moon l hB hN y5 σ _ h) mbX7_moon (ob_92 hN) rfl tw_780 rfl hl.1 rfl (Nat.le_of_ble_eq_true rfl) ⟨Nat.le_of_ble_eq_true rfl, Nat.le_of_ble_eq_true rfl⟩ ⟨Nat.le_refl _, Nat.le_refl _⟩ dX7_now_123) (fun r8 σ7 H locs h hw => ?_)
    refine lv_iconst (v := 4) hx hb dX7_now_126 (by decide) ?_
    refine lv_icmp_ne (tgt := 144) hx hb dX7_now_127 (by decide) (fun c9 => ?_) (fun c9 => ?_)
    · have h := h.2 c9
      exact tX7_now_144 M hN hR_107 y1 y2 y3 y5 y4 σ7 _ _ _ hw (lv_sub hl [0, 1, 2, 3, 5] rfl) h
    · have h := h.1 c9
      refine lv_aload_n hx hb dX7_now_130 rfl (lv_at hl 0 rfl) ?_
      refine q_get (v := .ref (yA Y 99)) M hw (ob_92 hN) rfl inq_7 15 (by decide) tw_650 rfl dX7_now_131 ?_
      refine lv_iload hx hb dX7_now_134 (lv_at hl 5 rfl) ?_
      have c10 := h.1
      have h := h.2
      refine q_zld M hw (ar_99 hN) c10 dX7_now_136 ?_
      refine lv_if_ne (tgt := 144) hx hb dX7_now_137 (by decide) (fun c11 => ?_) (fun c11 => ?_)
      · have h := h.2 c11
        exact tX7_now_144 M hN hR_107 y1 y2 y3 y5 y4 σ7 _ _ _ hw (lv_sub hl [0, 1, 2, 3, 5] rfl) h
      · have h := h.1 c11
        refine lv_iconst (v := 1) hx hb dX7_now_140 (by decide) ?_
        refine lv_goto (tgt := 145) hx hb dX7_now_141 (by decide) ?_
        exact tX7_now_145 M hN hR_107 y1 y2 y3 y5 1 y4 σ7 _ _ _ hw (lv_sub hl [0, 1, 2, 3, 5] rfl) h
def lX7_now_107 (Q : Int32 → St → Prop) : (Int32 × Int32 × Int32 × Int32 × Int32 × St → Prop) → Int32 × Int32 × Int32 × Int32 × Int32 × St → Prop := fun R a => bX7_now_107 R a.1 a.2.1 a.2.2.1 a.2.2.2.1 a.2.2.2.2.1 a.2.2.2.2.2 Q
theorem tlX7_now_107 {Q : Int32 → St → Prop} (M : MC p s m args meth c cX7_now 6 (some .int) RX7 Y) (hN : yN Y = 108) (n : Nat) : ∀ (y1 : Int32) (y2 : Int32) (y3 : Int32) (y4 : Int32) (y5 : Int32) (σ : St) (H : Heap) (locs : List Loc) (ls : Array Slot) (hw : WS Y (AD Y) s.heap σ H locs) (hl : lv_has ls 6 [(0, .ref (yA Y 92)), (1, .int y1), (2, .int y2), (3, .int y3), (4, .int y4), (5, .int y5)]) (h : Lp (lX7_now_107 Q) n (y1, y2, y3, y4, y5, σ)), W p l e { frames := 1, cells := 0, slots := 0, locals := 22 } s m args below meth c H locs 0 0 (MQ below (QI Y Q) args s 0 0 (AD Y)) (F0 m 107 ls []) := by
  induction n with
  | zero => intro y1 y2 y3 y4 y5 σ H locs ls hw hl h; exact h.elim
  | succ n ih =>
    intro y1 y2 y3 y4 y5 σ H locs ls hw hl h
    exact tX7_now_107 M hN ih y1 y2 y3 y4 y5 σ H locs ls hw hl h
def bX7_now_70 (R_70 : Int32 × Int32 × Int32 × Int32 × Int32 × St → Prop) (y1 : Int32) (y2 : Int32) (y3 : Int32) (y4 : Int32) (y5 : Int32) (σ : St) (Q : Int32 → St → Prop) : Prop :=
  (((σ.1 94 0) ≤ y5 → (∀ x2 : Int32, x2 = (σ.1 100 0) → ∃ n : Nat, Lp (lX7_now_107 Q) n (y1, y2, y3, y4, x2, σ))) ∧ (¬ (σ.1 94 0) ≤ y5 → (vp_in (1 + y5) 27 ∧ (∀ x4 : Int32, x4 = (y3 + (σ.1 100 (1 + y5).toNatClampNeg)) → (∀ x5 : Int32, x5 = y5 + 1 → R_70 (y1, y2, x4, y4, x5, σ))))))
set_option maxHeartbeats 4000000 in
set_option maxRecDepth 100000 in
theorem tX7_now_70 {R_70 : Int32 × Int32 × Int32 × Int32 × Int32 × St → Prop} {Q : Int32 → St → Prop} (M : MC p s m args meth c cX7_now 6 (some .int) RX7 Y) (hN : yN Y = 108) (hR_70 : ∀ (y1 y2 y3 y4 y5 : Int32) (σ : St) (H : Heap) (locs : List Loc) (ls : Array Slot), WS Y (AD Y) s.heap σ H locs → lv_has ls 6 [(0, .ref (yA Y 92)), (1, .int y1), (2, .int y2), (3, .int y3), (4, .int y4), (5, .int y5)] → R_70 (y1, y2, y3, y4, y5, σ) → W p l e { frames := 1, cells := 0, slots := 0, locals := 22 } s m args below meth c H locs 0 0 (MQ below (QI Y Q) args s 0 0 (AD Y)) (F0 m 70 ls [])) (y1 : Int32) (y2 : Int32) (y3 : Int32) (y4 : Int32) (y5 : Int32) (σ : St) (H : Heap) (locs : List Loc) (ls : Array Slot) (hw : WS Y (AD Y) s.heap σ H locs) (hl : lv_has ls 6 [(0, .ref (yA Y 92)), (1, .int y1), (2, .int y2), (3, .int y3), (4, .int y4), (5, .int y5)]) (h : bX7_now_70 R_70 y1 y2 y3 y4 y5 σ Q) : W p l e { frames := 1, cells := 0, slots := 0, locals := 22 } s m args below meth c H locs 0 0 (MQ below (QI Y Q) args s 0 0 (AD Y)) (F0 m 70 ls []) := by
  obtain ⟨hx, hb, hr, hml, hown, hlk, hT, hK, hB⟩ := id M
  unfold bX7_now_70 at h
  refine lv_iload hx hb dX7_now_70 (lv_at hl 5 rfl) ?_
  refine lv_aload_n hx hb dX7_now_72 rfl (lv_at hl 0 rfl) ?_
  refine q_get (v := .ref (yA Y 94)) M hw (ob_92 hN) rfl inq_7 9 (by decide) tw_644 rfl dX7_now_73 ?_
  refine lv_iconst (v := 0) hx hb dX7_now_76 (by decide) ?_
  refine q_ild' 0 M hw (ar_94 hN) (by unfold vp_in; decide) (by decide) dX7_now_77 ?_
  refine lv_icmp_ge (tgt := 99) hx hb dX7_now_78 (by decide) (fun c1 => ?_) (fun c1 => ?_)
  · have h := h.1 c1
    refine lv_aload_n hx hb dX7_now_99 rfl (lv_at hl 0 rfl) ?_
    refine q_get (v := .ref (yA Y 100)) M hw (ob_92 hN) rfl inq_7 16 (by decide) tw_651 rfl dX7_now_100 ?_
    refine lv_iconst (v := 0) hx hb dX7_now_103 (by decide) ?_
    refine q_ild' 0 M hw (ar_100 hN) (by unfold vp_in; decide) (by decide) dX7_now_104 ?_
    refine lv_topi (fun x2 ex2 => ?_)
    have h := h x2 ex2
    refine lv_istore (lv' := [(5, .int x2), (0, .ref (yA Y 92)), (1, .int y1), (2, .int y2), (3, .int y3), (4, .int y4)]) hx hb dX7_now_105 hl (by decide) rfl (fun ls hl => ?_)
    obtain ⟨n, h⟩ := h
    exact tlX7_now_107 M hN n y1 y2 y3 y4 x2 σ _ _ _ hw (lv_sub hl [1, 2, 3, 4, 5, 0] rfl) h
  · have h := h.2 c1
    refine lv_iload_n hx hb dX7_now_81 rfl (lv_at hl 3 rfl) ?_
    refine lv_aload_n hx hb dX7_now_82 rfl (lv_at hl 0 rfl) ?_
    refine q_get (v := .ref (yA Y 100)) M hw (ob_92 hN) rfl inq_7 16 (by decide) tw_651 rfl dX7_now_83 ?_
    refine lv_iconst (v := 1) hx hb dX7_now_86 (by decide) ?_
    refine lv_iload hx hb dX7_now_87 (lv_at hl 5 rfl) ?_
    refine lv_iadd hx hb dX7_now_89 ?_
    have c3 := h.1
    have h := h.2
    refine q_ild M hw (ar_100 hN) c3 dX7_now_90 ?_
    refine lv_iadd hx hb dX7_now_91 ?_
    refine lv_topi (fun x4 ex4 => ?_)
    have h := h x4 ex4
    refine lv_istore_n (lv' := [(3, .int x4), (0, .ref (yA Y 92)), (1, .int y1), (2, .int y2), (4, .int y4), (5, .int y5)]) hx hb dX7_now_92 rfl hl (by decide) rfl (fun ls hl => ?_)
    obtain ⟨x5, ex5⟩ : ∃ y : Int32, y = y5 + 1 := ⟨_, rfl⟩
    have h := h x5 ex5
    refine lv_iinc (v := x5) (lv' := [(5, .int x5), (3, .int x4), (0, .ref (yA Y 92)), (1, .int y1), (2, .int y2), (4, .int y4)]) hx hb dX7_now_93 hl (k := 5) rfl (by rw [ex5]; rfl) (by decide) rfl (fun ls hl => ?_)
    refine lv_goto (tgt := 70) hx hb dX7_now_96 (by decide) ?_
    exact hR_70 y1 y2 x4 y4 x5 σ _ _ _ hw (lv_sub hl [2, 3, 4, 1, 5, 0] rfl) h
def lX7_now_70 (Q : Int32 → St → Prop) : (Int32 × Int32 × Int32 × Int32 × Int32 × St → Prop) → Int32 × Int32 × Int32 × Int32 × Int32 × St → Prop := fun R a => bX7_now_70 R a.1 a.2.1 a.2.2.1 a.2.2.2.1 a.2.2.2.2.1 a.2.2.2.2.2 Q
theorem tlX7_now_70 {Q : Int32 → St → Prop} (M : MC p s m args meth c cX7_now 6 (some .int) RX7 Y) (hN : yN Y = 108) (n : Nat) : ∀ (y1 : Int32) (y2 : Int32) (y3 : Int32) (y4 : Int32) (y5 : Int32) (σ : St) (H : Heap) (locs : List Loc) (ls : Array Slot) (hw : WS Y (AD Y) s.heap σ H locs) (hl : lv_has ls 6 [(0, .ref (yA Y 92)), (1, .int y1), (2, .int y2), (3, .int y3), (4, .int y4), (5, .int y5)]) (h : Lp (lX7_now_70 Q) n (y1, y2, y3, y4, y5, σ)), W p l e { frames := 1, cells := 0, slots := 0, locals := 22 } s m args below meth c H locs 0 0 (MQ below (QI Y Q) args s 0 0 (AD Y)) (F0 m 70 ls []) := by
  induction n with
  | zero => intro y1 y2 y3 y4 y5 σ H locs ls hw hl h; exact h.elim
  | succ n ih =>
    intro y1 y2 y3 y4 y5 σ H locs ls hw hl h
    exact tX7_now_70 M hN ih y1 y2 y3 y4 y5 σ H locs ls hw hl h
def bX7_now_26 (R_26 : Int32 × Int32 × Int32 × Int32 × Int32 × St → Prop) (y1 : Int32) (y2 : Int32) (y3 : Int32) (y4 : Int32) (y5 : Int32) (σ : St) (Q : Int32 → St → Prop) : Prop :=
  (((σ.1 94 1) ≤ y5 → ∃ n : Nat, Lp (lX7_now_70 Q) n (y1, y2, y3, y4, 0, σ)) ∧ (¬ (σ.1 94 1) ≤ y5 → (vp_in (6 + y5) 27 ∧ (((σ.1 100 (6 + y5).toNatClampNeg) = 0 → bX7_now_59 R_26 y1 y3 y4 y5 (1 <<< (y5 &&& 31)) y2 σ Q) ∧ (¬ (σ.1 100 (6 + y5).toNatClampNeg) = 0 → bX7_now_59 R_26 y1 y3 y4 y5 0 y2 σ Q)))))
set_option maxHeartbeats 4000000 in
set_option maxRecDepth 100000 in
theorem tX7_now_26 {R_26 : Int32 × Int32 × Int32 × Int32 × Int32 × St → Prop} {Q : Int32 → St → Prop} (M : MC p s m args meth c cX7_now 6 (some .int) RX7 Y) (hN : yN Y = 108) (hR_26 : ∀ (y1 y2 y3 y4 y5 : Int32) (σ : St) (H : Heap) (locs : List Loc) (ls : Array Slot), WS Y (AD Y) s.heap σ H locs → lv_has ls 6 [(0, .ref (yA Y 92)), (1, .int y1), (2, .int y2), (3, .int y3), (4, .int y4), (5, .int y5)] → R_26 (y1, y2, y3, y4, y5, σ) → W p l e { frames := 1, cells := 0, slots := 0, locals := 22 } s m args below meth c H locs 0 0 (MQ below (QI Y Q) args s 0 0 (AD Y)) (F0 m 26 ls [])) (y1 : Int32) (y2 : Int32) (y3 : Int32) (y4 : Int32) (y5 : Int32) (σ : St) (H : Heap) (locs : List Loc) (ls : Array Slot) (hw : WS Y (AD Y) s.heap σ H locs) (hl : lv_has ls 6 [(0, .ref (yA Y 92)), (1, .int y1), (2, .int y2), (3, .int y3), (4, .int y4), (5, .int y5)]) (h : bX7_now_26 R_26 y1 y2 y3 y4 y5 σ Q) : W p l e { frames := 1, cells := 0, slots := 0, locals := 22 } s m args below meth c H locs 0 0 (MQ below (QI Y Q) args s 0 0 (AD Y)) (F0 m 26 ls []) := by
  obtain ⟨hx, hb, hr, hml, hown, hlk, hT, hK, hB⟩ := id M
  unfold bX7_now_26 at h
  refine lv_iload hx hb dX7_now_26 (lv_at hl 5 rfl) ?_
  refine lv_aload_n hx hb dX7_now_28 rfl (lv_at hl 0 rfl) ?_
  refine q_get (v := .ref (yA Y 94)) M hw (ob_92 hN) rfl inq_7 9 (by decide) tw_644 rfl dX7_now_29 ?_
  refine lv_iconst (v := 1) hx hb dX7_now_32 (by decide) ?_
  refine q_ild' 1 M hw (ar_94 hN) (by unfold vp_in; decide) (by decide) dX7_now_33 ?_
  refine lv_icmp_ge (tgt := 67) hx hb dX7_now_34 (by decide) (fun c1 => ?_) (fun c1 => ?_)
  · have h := h.1 c1
    refine lv_iconst (v := 0) hx hb dX7_now_67 (by decide) ?_
    refine lv_istore (lv' := [(5, .int 0), (0, .ref (yA Y 92)), (1, .int y1), (2, .int y2), (3, .int y3), (4, .int y4)]) hx hb dX7_now_68 hl (by decide) rfl (fun ls hl => ?_)
    obtain ⟨n, h⟩ := h
    exact tlX7_now_70 M hN n y1 y2 y3 y4 0 σ _ _ _ hw (lv_sub hl [1, 2, 3, 4, 5, 0] rfl) h
  · have h := h.2 c1
    refine lv_iload_n hx hb dX7_now_37 rfl (lv_at hl 2 rfl) ?_
    refine lv_aload_n hx hb dX7_now_38 rfl (lv_at hl 0 rfl) ?_
    refine q_get (v := .ref (yA Y 100)) M hw (ob_92 hN) rfl inq_7 16 (by decide) tw_651 rfl dX7_now_39 ?_
    refine lv_bipush (v := 6) hx hb dX7_now_42 (by decide) ?_
    refine lv_iload hx hb dX7_now_44 (lv_at hl 5 rfl) ?_
    refine lv_iadd hx hb dX7_now_46 ?_
    have c2 := h.1
    have h := h.2
    refine q_ild M hw (ar_100 hN) c2 dX7_now_47 ?_
    refine lv_if_ne (tgt := 58) hx hb dX7_now_48 (by decide) (fun c3 => ?_) (fun c3 => ?_)
    · have h := h.2 c3
      refine lv_iconst (v := 0) hx hb dX7_now_58 (by decide) ?_
      exact tX7_now_59 M hN hR_26 y1 y3 y4 y5 0 y2 σ _ _ _ hw (lv_sub hl [0, 1, 3, 4, 5] rfl) h
    · have h := h.1 c3
      refine lv_iconst (v := 1) hx hb dX7_now_51 (by decide) ?_
      refine lv_iload hx hb dX7_now_52 (lv_at hl 5 rfl) ?_
      refine lv_ishl hx hb dX7_now_54 ?_
      refine lv_goto (tgt := 59) hx hb dX7_now_55 (by decide) ?_
      exact tX7_now_59 M hN hR_26 y1 y3 y4 y5 (1 <<< (y5 &&& 31)) y2 σ _ _ _ hw (lv_sub hl [0, 1, 3, 4, 5] rfl) h
def lX7_now_26 (Q : Int32 → St → Prop) : (Int32 × Int32 × Int32 × Int32 × Int32 × St → Prop) → Int32 × Int32 × Int32 × Int32 × Int32 × St → Prop := fun R a => bX7_now_26 R a.1 a.2.1 a.2.2.1 a.2.2.2.1 a.2.2.2.2.1 a.2.2.2.2.2 Q
theorem tlX7_now_26 {Q : Int32 → St → Prop} (M : MC p s m args meth c cX7_now 6 (some .int) RX7 Y) (hN : yN Y = 108) (n : Nat) : ∀ (y1 : Int32) (y2 : Int32) (y3 : Int32) (y4 : Int32) (y5 : Int32) (σ : St) (H : Heap) (locs : List Loc) (ls : Array Slot) (hw : WS Y (AD Y) s.heap σ H locs) (hl : lv_has ls 6 [(0, .ref (yA Y 92)), (1, .int y1), (2, .int y2), (3, .int y3), (4, .int y4), (5, .int y5)]) (h : Lp (lX7_now_26 Q) n (y1, y2, y3, y4, y5, σ)), W p l e { frames := 1, cells := 0, slots := 0, locals := 22 } s m args below meth c H locs 0 0 (MQ below (QI Y Q) args s 0 0 (AD Y)) (F0 m 26 ls []) := by
  induction n with
  | zero => intro y1 y2 y3 y4 y5 σ H locs ls hw hl h; exact h.elim
  | succ n ih =>
    intro y1 y2 y3 y4 y5 σ H locs ls hw hl h
    exact tX7_now_26 M hN ih y1 y2 y3 y4 y5 σ H locs ls hw hl h
def wX7_now (a0 : Int32) (σ : St) (Q : Int32 → St → Prop) : Prop :=
  (∀ σ1 : St, σ1 = up σ 92 0 0 → wX7_in a0 0 5 σ1 (fun r3 σ2 => ((r3 = 0 → Q (-1) σ2) ∧ (¬ r3 = 0 → ∃ n : Nat, Lp (lX7_now_26 Q) n (a0, 0, 0, 0, 0, σ2)))))
set_option maxHeartbeats 4000000 in
set_option maxRecDepth 100000 in
theorem tX7_now_E {Q : Int32 → St → Prop} (M : MC p s m args meth c cX7_now 6 (some .int) RX7 Y) (hN : yN Y = 108) (a0 : Int32) (σ : St) (H : Heap) (locs : List Loc) (ls : Array Slot) (hw : WS Y (AD Y) s.heap σ H locs) (hl : lv_has ls 6 [(0, .ref (yA Y 92)), (1, .int a0)]) (h : wX7_now a0 σ Q) : W p l e { frames := 1, cells := 0, slots := 0, locals := 22 } s m args below meth c H locs 0 0 (MQ below (QI Y Q) args s 0 0 (AD Y)) (F0 m 0 ls []) := by
  obtain ⟨hx, hb, hr, hml, hown, hlk, hT, hK, hB⟩ := id M
  unfold wX7_now at h
  refine lv_aload_n hx hb dX7_now_0 rfl (lv_at hl 0 rfl) ?_
  refine lv_iconst (v := 0) hx hb dX7_now_1 (by decide) ?_
  refine q_put (v := 0) M hw (ob_92 hN) rfl inq_7 tyX7 tyX7_ok nmX7 0 (by decide) tw_635 rfl rfl rfl (Nat.le_of_ble_eq_true rfl) (by simp [up, upd, f0]) dX7_now_2 (fun σ1 H locs es hw => ?_)
  have h := h σ1 es
  refine lv_iload_n hx hb dX7_now_5 rfl (lv_at hl 1 rfl) ?_
  refine lv_iconst (v := 0) hx hb dX7_now_6 (by decide) ?_
  refine lv_iconst (v := 5) hx hb dX7_now_7 (by decide) ?_
  refine q_goI hw (q_runS (rest := []) M hw (ctX7_in l hB a0 0 5 σ1 _ h) mbX7_in tw_718 rfl hl.1 rfl (Nat.le_of_ble_eq_true rfl) ⟨Nat.le_of_ble_eq_true rfl, Nat.le_of_ble_eq_true rfl⟩ ⟨Nat.le_refl _, Nat.le_refl _⟩ dX7_now_8) (fun r3 σ2 H locs h hw => ?_)
  refine lv_if_ne (tgt := 16) hx hb dX7_now_11 (by decide) (fun c4 => ?_) (fun c4 => ?_)
  · have h := h.2 c4
    refine lv_iconst (v := 0) hx hb dX7_now_16 (by decide) ?_
    refine lv_istore_n (lv' := [(2, .int 0), (0, .ref (yA Y 92)), (1, .int a0)]) hx hb dX7_now_17 rfl hl (by decide) rfl (fun ls hl => ?_)
    refine lv_iconst (v := 0) hx hb dX7_now_18 (by decide) ?_
    refine lv_istore_n (lv' := [(3, .int 0), (2, .int 0), (0, .ref (yA Y 92)), (1, .int a0)]) hx hb dX7_now_19 rfl hl (by decide) rfl (fun ls hl => ?_)
    refine lv_iconst (v := 0) hx hb dX7_now_20 (by decide) ?_
    refine lv_istore (lv' := [(4, .int 0), (3, .int 0), (2, .int 0), (0, .ref (yA Y 92)), (1, .int a0)]) hx hb dX7_now_21 hl (by decide) rfl (fun ls hl => ?_)
    refine lv_iconst (v := 0) hx hb dX7_now_23 (by decide) ?_
    refine lv_istore (lv' := [(5, .int 0), (4, .int 0), (3, .int 0), (2, .int 0), (0, .ref (yA Y 92)), (1, .int a0)]) hx hb dX7_now_24 hl (by decide) rfl (fun ls hl => ?_)
    obtain ⟨n, h⟩ := h
    exact tlX7_now_26 M hN n a0 0 0 0 0 σ2 _ _ _ hw (lv_sub hl [4, 5, 3, 2, 1, 0] rfl) h
  · have h := h.1 c4
    refine lv_iconst (v := (-1)) hx hb dX7_now_14 (by decide) ?_
    exact q_iret M hw h dX7_now_15
set_option maxRecDepth 100000 in
theorem ctX7_now (l : Launch) {Y : LY} (hB : YB Y) (hN : yN Y = 108) (a0 : Int32) (σ : St) (Q : Int32 → St → Prop) (h : wX7_now a0 σ Q) : CT l yX7_now (Cond.code yX7_now cX7_now 6 (some .int)) { frames := 1, cells := 0, slots := 0, locals := 22 } Y [.ref (yA Y 92), .int a0] σ (QI Y Q) :=
  q_ent hB (by decide +kernel) (Nat.le_of_ble_eq_true rfl) (fun p e s m below meth c ls M hw hl => tX7_now_E M hN a0 σ _ _ ls hw hl h)
theorem mbX7_now : MB RX7 yX7_now cX7_now 1 6 (some .int) := ⟨tw_785, tw_786, tw_56, tw_787, by decide +kernel⟩
end
section
variable {p : Program} {l : Launch} {e : Env} {s : State} {m : MethodId} {args : Array Value} {below : List Frame} {meth : Method} {c : Code} {Y : LY}
theorem dX7_notes_0 : decode cX7_notes 0 = .ok (.aload_n 0, 1) := by decide +kernel
theorem dX7_notes_1 : decode cX7_notes 1 = .ok (.getfield 124, 3) := by decide +kernel
theorem dX7_notes_4 : decode cX7_notes 4 = .ok (.bipush 10, 2) := by decide +kernel
theorem dX7_notes_6 : decode cX7_notes 6 = .ok (.if_icmp .ne 39, 3) := by decide +kernel
theorem dX7_notes_9 : decode cX7_notes 9 = .ok (.iconst 0, 1) := by decide +kernel
theorem dX7_notes_10 : decode cX7_notes 10 = .ok (.istore_n 1, 1) := by decide +kernel
theorem dX7_notes_11 : decode cX7_notes 11 = .ok (.iload_n 1, 1) := by decide +kernel
theorem dX7_notes_12 : decode cX7_notes 12 = .ok (.sipush 243, 3) := by decide +kernel
theorem dX7_notes_15 : decode cX7_notes 15 = .ok (.if_icmp .ge 24, 3) := by decide +kernel
theorem dX7_notes_18 : decode cX7_notes 18 = .ok (.aload_n 0, 1) := by decide +kernel
theorem dX7_notes_19 : decode cX7_notes 19 = .ok (.getfield 41, 3) := by decide +kernel
theorem dX7_notes_22 : decode cX7_notes 22 = .ok (.iload_n 1, 1) := by decide +kernel
theorem dX7_notes_23 : decode cX7_notes 23 = .ok (.aload_n 0, 1) := by decide +kernel
theorem dX7_notes_24 : decode cX7_notes 24 = .ok (.getfield 41, 3) := by decide +kernel
theorem dX7_notes_27 : decode cX7_notes 27 = .ok (.iload_n 1, 1) := by decide +kernel
theorem dX7_notes_28 : decode cX7_notes 28 = .ok (.bipush 27, 2) := by decide +kernel
theorem dX7_notes_30 : decode cX7_notes 30 = .ok (.iadd, 1) := by decide +kernel
theorem dX7_notes_31 : decode cX7_notes 31 = .ok (.iaload, 1) := by decide +kernel
theorem dX7_notes_32 : decode cX7_notes 32 = .ok (.iastore, 1) := by decide +kernel
theorem dX7_notes_33 : decode cX7_notes 33 = .ok (.iinc 1 1, 3) := by decide +kernel
theorem dX7_notes_36 : decode cX7_notes 36 = .ok (.goto (-25), 3) := by decide +kernel
theorem dX7_notes_39 : decode cX7_notes 39 = .ok (.aload_n 0, 1) := by decide +kernel
theorem dX7_notes_40 : decode cX7_notes 40 = .ok (.bipush 9, 2) := by decide +kernel
theorem dX7_notes_42 : decode cX7_notes 42 = .ok (.putfield 124, 3) := by decide +kernel
theorem dX7_notes_45 : decode cX7_notes 45 = .ok (.iconst 0, 1) := by decide +kernel
theorem dX7_notes_46 : decode cX7_notes 46 = .ok (.istore_n 1, 1) := by decide +kernel
theorem dX7_notes_47 : decode cX7_notes 47 = .ok (.iload_n 1, 1) := by decide +kernel
theorem dX7_notes_48 : decode cX7_notes 48 = .ok (.bipush 27, 2) := by decide +kernel
theorem dX7_notes_50 : decode cX7_notes 50 = .ok (.if_icmp .ge 29, 3) := by decide +kernel
theorem dX7_notes_53 : decode cX7_notes 53 = .ok (.aload_n 0, 1) := by decide +kernel
theorem dX7_notes_54 : decode cX7_notes 54 = .ok (.getfield 41, 3) := by decide +kernel
theorem dX7_notes_57 : decode cX7_notes 57 = .ok (.bipush 27, 2) := by decide +kernel
theorem dX7_notes_59 : decode cX7_notes 59 = .ok (.aload_n 0, 1) := by decide +kernel
theorem dX7_notes_60 : decode cX7_notes 60 = .ok (.getfield 124, 3) := by decide +kernel
theorem dX7_notes_63 : decode cX7_notes 63 = .ok (.imul, 1) := by decide +kernel
theorem dX7_notes_64 : decode cX7_notes 64 = .ok (.iload_n 1, 1) := by decide +kernel
theorem dX7_notes_65 : decode cX7_notes 65 = .ok (.iadd, 1) := by decide +kernel
theorem dX7_notes_66 : decode cX7_notes 66 = .ok (.aload_n 0, 1) := by decide +kernel
theorem dX7_notes_67 : decode cX7_notes 67 = .ok (.getfield 32, 3) := by decide +kernel
theorem dX7_notes_70 : decode cX7_notes 70 = .ok (.iload_n 1, 1) := by decide +kernel
theorem dX7_notes_71 : decode cX7_notes 71 = .ok (.iaload, 1) := by decide +kernel
theorem dX7_notes_72 : decode cX7_notes 72 = .ok (.iastore, 1) := by decide +kernel
theorem dX7_notes_73 : decode cX7_notes 73 = .ok (.iinc 1 1, 3) := by decide +kernel
theorem dX7_notes_76 : decode cX7_notes 76 = .ok (.goto (-29), 3) := by decide +kernel
theorem dX7_notes_79 : decode cX7_notes 79 = .ok (.aload_n 0, 1) := by decide +kernel
theorem dX7_notes_80 : decode cX7_notes 80 = .ok (.dup, 1) := by decide +kernel
theorem dX7_notes_81 : decode cX7_notes 81 = .ok (.getfield 124, 3) := by decide +kernel
theorem dX7_notes_84 : decode cX7_notes 84 = .ok (.iconst 1, 1) := by decide +kernel
theorem dX7_notes_85 : decode cX7_notes 85 = .ok (.iadd, 1) := by decide +kernel
theorem dX7_notes_86 : decode cX7_notes 86 = .ok (.putfield 124, 3) := by decide +kernel
theorem dX7_notes_89 : decode cX7_notes 89 = .ok (.return_, 1) := by decide +kernel
def bX7_notes_47 (R_47 : Int32 × St → Prop) (y1 : Int32) (σ : St) (Q : St → Prop) : Prop :=
  ((27 ≤ y1 → (∀ σ2 : St, σ2 = up σ 92 20 ((σ.1 92 20) + 1) → Q σ2)) ∧ (¬ 27 ≤ y1 → (vp_in y1 27 ∧ (vp_in ((27 * (σ.1 92 20)) + y1) 270 ∧ ∀ σ5 : St, σ5 = up σ 103 ((27 * (σ.1 92 20)) + y1).toNatClampNeg (σ.1 100 y1.toNatClampNeg) → (∀ x6 : Int32, x6 = y1 + 1 → R_47 (x6, σ5))))))
set_option maxHeartbeats 4000000 in
set_option maxRecDepth 100000 in
theorem tX7_notes_47 {R_47 : Int32 × St → Prop} {Q : St → Prop} (M : MC p s m args meth c cX7_notes 2 none RX7 Y) (hN : yN Y = 108) (hR_47 : ∀ (y1 : Int32) (σ : St) (H : Heap) (locs : List Loc) (ls : Array Slot), WS Y (AD Y) s.heap σ H locs → lv_has ls 2 [(0, .ref (yA Y 92)), (1, .int y1)] → R_47 (y1, σ) → W p l e { frames := 0, cells := 0, slots := 0, locals := 0 } s m args below meth c H locs 0 0 (MQ below (QV Y Q) args s 0 0 (AD Y)) (F0 m 47 ls [])) (y1 : Int32) (σ : St) (H : Heap) (locs : List Loc) (ls : Array Slot) (hw : WS Y (AD Y) s.heap σ H locs) (hl : lv_has ls 2 [(0, .ref (yA Y 92)), (1, .int y1)]) (h : bX7_notes_47 R_47 y1 σ Q) : W p l e { frames := 0, cells := 0, slots := 0, locals := 0 } s m args below meth c H locs 0 0 (MQ below (QV Y Q) args s 0 0 (AD Y)) (F0 m 47 ls []) := by
  obtain ⟨hx, hb, hr, hml, hown, hlk, hT, hK, hB⟩ := id M
  unfold bX7_notes_47 at h
  refine lv_iload_n hx hb dX7_notes_47 rfl (lv_at hl 1 rfl) ?_
  refine lv_bipush (v := 27) hx hb dX7_notes_48 (by decide) ?_
  refine lv_icmp_ge (tgt := 79) hx hb dX7_notes_50 (by decide) (fun c1 => ?_) (fun c1 => ?_)
  · have h := h.1 c1
    refine lv_aload_n hx hb dX7_notes_79 rfl (lv_at hl 0 rfl) ?_
    refine lv_dup hx hb dX7_notes_80 rfl ?_
    refine q_get (v := .int (σ.1 92 20)) M hw (ob_92 hN) rfl inq_7 20 (by decide) tw_655 rfl dX7_notes_81 ?_
    refine lv_iconst (v := 1) hx hb dX7_notes_84 (by decide) ?_
    refine lv_iadd hx hb dX7_notes_85 ?_
    refine q_put (v := ((σ.1 92 20) + 1)) M hw (ob_92 hN) rfl inq_7 tyX7 tyX7_ok nmX7 20 (by decide) tw_655 rfl rfl rfl (Nat.le_of_ble_eq_true rfl) (by simp [up, upd, f0]) dX7_notes_86 (fun σ2 H locs es hw => ?_)
    have h := h σ2 es
    exact q_vret M hw h dX7_notes_89
  · have h := h.2 c1
    refine lv_aload_n hx hb dX7_notes_53 rfl (lv_at hl 0 rfl) ?_
    refine q_get (v := .ref (yA Y 103)) M hw (ob_92 hN) rfl inq_7 19 (by decide) tw_654 rfl dX7_notes_54 ?_
    refine lv_bipush (v := 27) hx hb dX7_notes_57 (by decide) ?_
    refine lv_aload_n hx hb dX7_notes_59 rfl (lv_at hl 0 rfl) ?_
    refine q_get (v := .int (σ.1 92 20)) M hw (ob_92 hN) rfl inq_7 20 (by decide) tw_655 rfl dX7_notes_60 ?_
    refine lv_imul hx hb dX7_notes_63 ?_
    refine lv_iload_n hx hb dX7_notes_64 rfl (lv_at hl 1 rfl) ?_
    refine lv_iadd hx hb dX7_notes_65 ?_
    refine lv_aload_n hx hb dX7_notes_66 rfl (lv_at hl 0 rfl) ?_
    refine q_get (v := .ref (yA Y 100)) M hw (ob_92 hN) rfl inq_7 16 (by decide) tw_651 rfl dX7_notes_67 ?_
    refine lv_iload_n hx hb dX7_notes_70 rfl (lv_at hl 1 rfl) ?_
    have c3 := h.1
    have h := h.2
    refine q_ild M hw (ar_100 hN) c3 dX7_notes_71 ?_
    have c4 := h.1
    refine q_ist M hw (ar_103 hN) c4 dX7_notes_72 (fun σ5 H locs es hw => ?_)
    have h := h.2 σ5 es
    obtain ⟨x6, ex6⟩ : ∃ y : Int32, y = y1 + 1 := ⟨_, rfl⟩
    have h := h x6 ex6
    refine lv_iinc (v := x6) (lv' := [(1, .int x6), (0, .ref (yA Y 92))]) hx hb dX7_notes_73 hl (k := 1) rfl (by rw [ex6]; rfl) (by decide) rfl (fun ls hl => ?_)
    refine lv_goto (tgt := 47) hx hb dX7_notes_76 (by decide) ?_
    exact hR_47 x6 σ5 _ _ _ hw (lv_sub hl [1, 0] rfl) h
def lX7_notes_47 (Q : St → Prop) : (Int32 × St → Prop) → Int32 × St → Prop := fun R a => bX7_notes_47 R a.1 a.2 Q
theorem tlX7_notes_47 {Q : St → Prop} (M : MC p s m args meth c cX7_notes 2 none RX7 Y) (hN : yN Y = 108) (n : Nat) : ∀ (y1 : Int32) (σ : St) (H : Heap) (locs : List Loc) (ls : Array Slot) (hw : WS Y (AD Y) s.heap σ H locs) (hl : lv_has ls 2 [(0, .ref (yA Y 92)), (1, .int y1)]) (h : Lp (lX7_notes_47 Q) n (y1, σ)), W p l e { frames := 0, cells := 0, slots := 0, locals := 0 } s m args below meth c H locs 0 0 (MQ below (QV Y Q) args s 0 0 (AD Y)) (F0 m 47 ls []) := by
  induction n with
  | zero => intro y1 σ H locs ls hw hl h; exact h.elim
  | succ n ih =>
    intro y1 σ H locs ls hw hl h
    exact tX7_notes_47 M hN ih y1 σ H locs ls hw hl h
def bX7_notes_45 (σ : St) (Q : St → Prop) : Prop :=
  ∃ n : Nat, Lp (lX7_notes_47 Q) n (0, σ)
set_option maxHeartbeats 4000000 in
set_option maxRecDepth 100000 in
theorem tX7_notes_45 {Q : St → Prop} (M : MC p s m args meth c cX7_notes 2 none RX7 Y) (hN : yN Y = 108)  (σ : St) (H : Heap) (locs : List Loc) (ls : Array Slot) (hw : WS Y (AD Y) s.heap σ H locs) (hl : lv_has ls 2 [(0, .ref (yA Y 92))]) (h : bX7_notes_45 σ Q) : W p l e { frames := 0, cells := 0, slots := 0, locals := 0 } s m args below meth c H locs 0 0 (MQ below (QV Y Q) args s 0 0 (AD Y)) (F0 m 45 ls []) := by
  obtain ⟨hx, hb, hr, hml, hown, hlk, hT, hK, hB⟩ := id M
  unfold bX7_notes_45 at h
  refine lv_iconst (v := 0) hx hb dX7_notes_45 (by decide) ?_
  refine lv_istore_n (lv' := [(1, .int 0), (0, .ref (yA Y 92))]) hx hb dX7_notes_46 rfl hl (by decide) rfl (fun ls hl => ?_)
  obtain ⟨n, h⟩ := h
  exact tlX7_notes_47 M hN n 0 σ _ _ _ hw (lv_sub hl [1, 0] rfl) h
def bX7_notes_11 (R_11 : Int32 × St → Prop) (y1 : Int32) (σ : St) (Q : St → Prop) : Prop :=
  ((243 ≤ y1 → (∀ σ2 : St, σ2 = up σ 92 20 9 → bX7_notes_45 σ2 Q)) ∧ (¬ 243 ≤ y1 → (vp_in (y1 + 27) 270 ∧ (vp_in y1 270 ∧ ∀ σ5 : St, σ5 = up σ 103 y1.toNatClampNeg (σ.1 103 (y1 + 27).toNatClampNeg) → (∀ x6 : Int32, x6 = y1 + 1 → R_11 (x6, σ5))))))
set_option maxHeartbeats 4000000 in
set_option maxRecDepth 100000 in
theorem tX7_notes_11 {R_11 : Int32 × St → Prop} {Q : St → Prop} (M : MC p s m args meth c cX7_notes 2 none RX7 Y) (hN : yN Y = 108) (hR_11 : ∀ (y1 : Int32) (σ : St) (H : Heap) (locs : List Loc) (ls : Array Slot), WS Y (AD Y) s.heap σ H locs → lv_has ls 2 [(0, .ref (yA Y 92)), (1, .int y1)] → R_11 (y1, σ) → W p l e { frames := 0, cells := 0, slots := 0, locals := 0 } s m args below meth c H locs 0 0 (MQ below (QV Y Q) args s 0 0 (AD Y)) (F0 m 11 ls [])) (y1 : Int32) (σ : St) (H : Heap) (locs : List Loc) (ls : Array Slot) (hw : WS Y (AD Y) s.heap σ H locs) (hl : lv_has ls 2 [(0, .ref (yA Y 92)), (1, .int y1)]) (h : bX7_notes_11 R_11 y1 σ Q) : W p l e { frames := 0, cells := 0, slots := 0, locals := 0 } s m args below meth c H locs 0 0 (MQ below (QV Y Q) args s 0 0 (AD Y)) (F0 m 11 ls []) := by
  obtain ⟨hx, hb, hr, hml, hown, hlk, hT, hK, hB⟩ := id M
  unfold bX7_notes_11 at h
  refine lv_iload_n hx hb dX7_notes_11 rfl (lv_at hl 1 rfl) ?_
  refine lv_sipush (v := 243) hx hb dX7_notes_12 (by decide) ?_
  refine lv_icmp_ge (tgt := 39) hx hb dX7_notes_15 (by decide) (fun c1 => ?_) (fun c1 => ?_)
  · have h := h.1 c1
    refine lv_aload_n hx hb dX7_notes_39 rfl (lv_at hl 0 rfl) ?_
    refine lv_bipush (v := 9) hx hb dX7_notes_40 (by decide) ?_
    refine q_put (v := 9) M hw (ob_92 hN) rfl inq_7 tyX7 tyX7_ok nmX7 20 (by decide) tw_655 rfl rfl rfl (Nat.le_of_ble_eq_true rfl) (by simp [up, upd, f0]) dX7_notes_42 (fun σ2 H locs es hw => ?_)
    have h := h σ2 es
    exact tX7_notes_45 M hN σ2 _ _ _ hw (lv_sub hl [0] rfl) h
  · have h := h.2 c1
    refine lv_aload_n hx hb dX7_notes_18 rfl (lv_at hl 0 rfl) ?_
    refine q_get (v := .ref (yA Y 103)) M hw (ob_92 hN) rfl inq_7 19 (by decide) tw_654 rfl dX7_notes_19 ?_
    refine lv_iload_n hx hb dX7_notes_22 rfl (lv_at hl 1 rfl) ?_
    refine lv_aload_n hx hb dX7_notes_23 rfl (lv_at hl 0 rfl) ?_
    refine q_get (v := .ref (yA Y 103)) M hw (ob_92 hN) rfl inq_7 19 (by decide) tw_654 rfl dX7_notes_24 ?_
    refine lv_iload_n hx hb dX7_notes_27 rfl (lv_at hl 1 rfl) ?_
    refine lv_bipush (v := 27) hx hb dX7_notes_28 (by decide) ?_
    refine lv_iadd hx hb dX7_notes_30 ?_
    have c3 := h.1
    have h := h.2
    refine q_ild M hw (ar_103 hN) c3 dX7_notes_31 ?_
    have c4 := h.1
    refine q_ist M hw (ar_103 hN) c4 dX7_notes_32 (fun σ5 H locs es hw => ?_)
    have h := h.2 σ5 es
    obtain ⟨x6, ex6⟩ : ∃ y : Int32, y = y1 + 1 := ⟨_, rfl⟩
    have h := h x6 ex6
    refine lv_iinc (v := x6) (lv' := [(1, .int x6), (0, .ref (yA Y 92))]) hx hb dX7_notes_33 hl (k := 1) rfl (by rw [ex6]; rfl) (by decide) rfl (fun ls hl => ?_)
    refine lv_goto (tgt := 11) hx hb dX7_notes_36 (by decide) ?_
    exact hR_11 x6 σ5 _ _ _ hw (lv_sub hl [1, 0] rfl) h
def lX7_notes_11 (Q : St → Prop) : (Int32 × St → Prop) → Int32 × St → Prop := fun R a => bX7_notes_11 R a.1 a.2 Q
theorem tlX7_notes_11 {Q : St → Prop} (M : MC p s m args meth c cX7_notes 2 none RX7 Y) (hN : yN Y = 108) (n : Nat) : ∀ (y1 : Int32) (σ : St) (H : Heap) (locs : List Loc) (ls : Array Slot) (hw : WS Y (AD Y) s.heap σ H locs) (hl : lv_has ls 2 [(0, .ref (yA Y 92)), (1, .int y1)]) (h : Lp (lX7_notes_11 Q) n (y1, σ)), W p l e { frames := 0, cells := 0, slots := 0, locals := 0 } s m args below meth c H locs 0 0 (MQ below (QV Y Q) args s 0 0 (AD Y)) (F0 m 11 ls []) := by
  induction n with
  | zero => intro y1 σ H locs ls hw hl h; exact h.elim
  | succ n ih =>
    intro y1 σ H locs ls hw hl h
    exact tX7_notes_11 M hN ih y1 σ H locs ls hw hl h
def wX7_notes (σ : St) (Q : St → Prop) : Prop :=
  (((σ.1 92 20) = 10 → ∃ n : Nat, Lp (lX7_notes_11 Q) n (0, σ)) ∧ (¬ (σ.1 92 20) = 10 → bX7_notes_45 σ Q))
set_option maxHeartbeats 4000000 in
set_option maxRecDepth 100000 in
theorem tX7_notes_E {Q : St → Prop} (M : MC p s m args meth c cX7_notes 2 none RX7 Y) (hN : yN Y = 108)  (σ : St) (H : Heap) (locs : List Loc) (ls : Array Slot) (hw : WS Y (AD Y) s.heap σ H locs) (hl : lv_has ls 2 [(0, .ref (yA Y 92))]) (h : wX7_notes σ Q) : W p l e { frames := 0, cells := 0, slots := 0, locals := 0 } s m args below meth c H locs 0 0 (MQ below (QV Y Q) args s 0 0 (AD Y)) (F0 m 0 ls []) := by
  obtain ⟨hx, hb, hr, hml, hown, hlk, hT, hK, hB⟩ := id M
  unfold wX7_notes at h
  refine lv_aload_n hx hb dX7_notes_0 rfl (lv_at hl 0 rfl) ?_
  refine q_get (v := .int (σ.1 92 20)) M hw (ob_92 hN) rfl inq_7 20 (by decide) tw_655 rfl dX7_notes_1 ?_
  refine lv_bipush (v := 10) hx hb dX7_notes_4 (by decide) ?_
  refine lv_icmp_ne (tgt := 45) hx hb dX7_notes_6 (by decide) (fun c1 => ?_) (fun c1 => ?_)
  · have h := h.2 c1
    exact tX7_notes_45 M hN σ _ _ _ hw (lv_sub hl [0] rfl) h
  · have h := h.1 c1
    refine lv_iconst (v := 0) hx hb dX7_notes_9 (by decide) ?_
    refine lv_istore_n (lv' := [(1, .int 0), (0, .ref (yA Y 92))]) hx hb dX7_notes_10 rfl hl (by decide) rfl (fun ls hl => ?_)
    obtain ⟨n, h⟩ := h
    exact tlX7_notes_11 M hN n 0 σ _ _ _ hw (lv_sub hl [1, 0] rfl) h
set_option maxRecDepth 100000 in
theorem ctX7_notes (l : Launch) {Y : LY} (hB : YB Y) (hN : yN Y = 108) (σ : St) (Q : St → Prop) (h : wX7_notes σ Q) : CT l yX7_notes (Cond.code yX7_notes cX7_notes 2 none) { frames := 0, cells := 0, slots := 0, locals := 0 } Y [.ref (yA Y 92)] σ (QV Y Q) :=
  q_ent hB (by decide +kernel) (Nat.le_of_ble_eq_true rfl) (fun p e s m below meth c ls M hw hl => tX7_notes_E M hN σ _ _ ls hw hl h)
theorem mbX7_notes : MB RX7 yX7_notes cX7_notes 0 2 none := ⟨tw_798, tw_41, tw_56, tw_799, by decide +kernel⟩
end
section
variable {p : Program} {l : Launch} {e : Env} {s : State} {m : MethodId} {args : Array Value} {below : List Frame} {meth : Method} {c : Code} {Y : LY}
theorem dX7_ploughs_0 : decode cX7_ploughs 0 = .ok (.aload_n 0, 1) := by decide +kernel
theorem dX7_ploughs_1 : decode cX7_ploughs 1 = .ok (.iconst 0, 1) := by decide +kernel
theorem dX7_ploughs_2 : decode cX7_ploughs 2 = .ok (.putfield 62, 3) := by decide +kernel
theorem dX7_ploughs_5 : decode cX7_ploughs 5 = .ok (.aload_n 0, 1) := by decide +kernel
theorem dX7_ploughs_6 : decode cX7_ploughs 6 = .ok (.iload_n 1, 1) := by decide +kernel
theorem dX7_ploughs_7 : decode cX7_ploughs 7 = .ok (.invokevirtual 127, 3) := by decide +kernel
theorem dX7_ploughs_10 : decode cX7_ploughs 10 = .ok (.ifCond .eq 11, 3) := by decide +kernel
theorem dX7_ploughs_13 : decode cX7_ploughs 13 = .ok (.aload_n 0, 1) := by decide +kernel
theorem dX7_ploughs_14 : decode cX7_ploughs 14 = .ok (.iload_n 2, 1) := by decide +kernel
theorem dX7_ploughs_15 : decode cX7_ploughs 15 = .ok (.invokevirtual 130, 3) := by decide +kernel
theorem dX7_ploughs_18 : decode cX7_ploughs 18 = .ok (.ifCond .ne 5, 3) := by decide +kernel
theorem dX7_ploughs_21 : decode cX7_ploughs 21 = .ok (.iconst (-1), 1) := by decide +kernel
theorem dX7_ploughs_22 : decode cX7_ploughs 22 = .ok (.ireturn, 1) := by decide +kernel
theorem dX7_ploughs_23 : decode cX7_ploughs 23 = .ok (.aload_n 0, 1) := by decide +kernel
theorem dX7_ploughs_24 : decode cX7_ploughs 24 = .ok (.aload_n 0, 1) := by decide +kernel
theorem dX7_ploughs_25 : decode cX7_ploughs 25 = .ok (.getfield 32, 3) := by decide +kernel
theorem dX7_ploughs_28 : decode cX7_ploughs 28 = .ok (.iconst 0, 1) := by decide +kernel
theorem dX7_ploughs_29 : decode cX7_ploughs 29 = .ok (.iaload, 1) := by decide +kernel
theorem dX7_ploughs_30 : decode cX7_ploughs 30 = .ok (.invokevirtual 133, 3) := by decide +kernel
theorem dX7_ploughs_33 : decode cX7_ploughs 33 = .ok (.istore_n 3, 1) := by decide +kernel
theorem dX7_ploughs_34 : decode cX7_ploughs 34 = .ok (.aload_n 0, 1) := by decide +kernel
theorem dX7_ploughs_35 : decode cX7_ploughs 35 = .ok (.getfield 32, 3) := by decide +kernel
theorem dX7_ploughs_38 : decode cX7_ploughs 38 = .ok (.bipush 13, 2) := by decide +kernel
theorem dX7_ploughs_40 : decode cX7_ploughs 40 = .ok (.iload_n 2, 1) := by decide +kernel
theorem dX7_ploughs_41 : decode cX7_ploughs 41 = .ok (.iadd, 1) := by decide +kernel
theorem dX7_ploughs_42 : decode cX7_ploughs 42 = .ok (.iaload, 1) := by decide +kernel
theorem dX7_ploughs_43 : decode cX7_ploughs 43 = .ok (.iload_n 1, 1) := by decide +kernel
theorem dX7_ploughs_44 : decode cX7_ploughs 44 = .ok (.if_icmp .eq 26, 3) := by decide +kernel
theorem dX7_ploughs_47 : decode cX7_ploughs 47 = .ok (.aload_n 0, 1) := by decide +kernel
theorem dX7_ploughs_48 : decode cX7_ploughs 48 = .ok (.getfield 32, 3) := by decide +kernel
theorem dX7_ploughs_51 : decode cX7_ploughs 51 = .ok (.bipush 21, 2) := by decide +kernel
theorem dX7_ploughs_53 : decode cX7_ploughs 53 = .ok (.iload_n 1, 1) := by decide +kernel
theorem dX7_ploughs_54 : decode cX7_ploughs 54 = .ok (.iadd, 1) := by decide +kernel
theorem dX7_ploughs_55 : decode cX7_ploughs 55 = .ok (.iaload, 1) := by decide +kernel
theorem dX7_ploughs_56 : decode cX7_ploughs 56 = .ok (.aload_n 0, 1) := by decide +kernel
theorem dX7_ploughs_57 : decode cX7_ploughs 57 = .ok (.getfield 32, 3) := by decide +kernel
theorem dX7_ploughs_60 : decode cX7_ploughs 60 = .ok (.bipush 13, 2) := by decide +kernel
theorem dX7_ploughs_62 : decode cX7_ploughs 62 = .ok (.iload_n 2, 1) := by decide +kernel
theorem dX7_ploughs_63 : decode cX7_ploughs 63 = .ok (.iadd, 1) := by decide +kernel
theorem dX7_ploughs_64 : decode cX7_ploughs 64 = .ok (.iaload, 1) := by decide +kernel
theorem dX7_ploughs_65 : decode cX7_ploughs 65 = .ok (.iconst 1, 1) := by decide +kernel
theorem dX7_ploughs_66 : decode cX7_ploughs 66 = .ok (.iadd, 1) := by decide +kernel
theorem dX7_ploughs_67 : decode cX7_ploughs 67 = .ok (.if_icmp .ne 7, 3) := by decide +kernel
theorem dX7_ploughs_70 : decode cX7_ploughs 70 = .ok (.iconst 1, 1) := by decide +kernel
theorem dX7_ploughs_71 : decode cX7_ploughs 71 = .ok (.goto 4, 3) := by decide +kernel
theorem dX7_ploughs_74 : decode cX7_ploughs 74 = .ok (.iconst 0, 1) := by decide +kernel
theorem dX7_ploughs_75 : decode cX7_ploughs 75 = .ok (.istore 4, 2) := by decide +kernel
theorem dX7_ploughs_77 : decode cX7_ploughs 77 = .ok (.aload_n 0, 1) := by decide +kernel
theorem dX7_ploughs_78 : decode cX7_ploughs 78 = .ok (.getfield 32, 3) := by decide +kernel
theorem dX7_ploughs_81 : decode cX7_ploughs 81 = .ok (.bipush 6, 2) := by decide +kernel
theorem dX7_ploughs_83 : decode cX7_ploughs 83 = .ok (.iload_n 2, 1) := by decide +kernel
theorem dX7_ploughs_84 : decode cX7_ploughs 84 = .ok (.iadd, 1) := by decide +kernel
theorem dX7_ploughs_85 : decode cX7_ploughs 85 = .ok (.iaload, 1) := by decide +kernel
theorem dX7_ploughs_86 : decode cX7_ploughs 86 = .ok (.ifCond .eq 47, 3) := by decide +kernel
theorem dX7_ploughs_89 : decode cX7_ploughs 89 = .ok (.aload_n 0, 1) := by decide +kernel
theorem dX7_ploughs_90 : decode cX7_ploughs 90 = .ok (.iload_n 1, 1) := by decide +kernel
theorem dX7_ploughs_91 : decode cX7_ploughs 91 = .ok (.invokevirtual 136, 3) := by decide +kernel
theorem dX7_ploughs_94 : decode cX7_ploughs 94 = .ok (.ifCond .eq 39, 3) := by decide +kernel
theorem dX7_ploughs_97 : decode cX7_ploughs 97 = .ok (.iload 4, 2) := by decide +kernel
theorem dX7_ploughs_99 : decode cX7_ploughs 99 = .ok (.ifCond .eq 34, 3) := by decide +kernel
theorem dX7_ploughs_102 : decode cX7_ploughs 102 = .ok (.aload_n 0, 1) := by decide +kernel
theorem dX7_ploughs_103 : decode cX7_ploughs 103 = .ok (.getfield 32, 3) := by decide +kernel
theorem dX7_ploughs_106 : decode cX7_ploughs 106 = .ok (.bipush 26, 2) := by decide +kernel
theorem dX7_ploughs_108 : decode cX7_ploughs 108 = .ok (.iaload, 1) := by decide +kernel
theorem dX7_ploughs_109 : decode cX7_ploughs 109 = .ok (.iload_n 1, 1) := by decide +kernel
theorem dX7_ploughs_110 : decode cX7_ploughs 110 = .ok (.ishr, 1) := by decide +kernel
theorem dX7_ploughs_111 : decode cX7_ploughs 111 = .ok (.iconst 1, 1) := by decide +kernel
theorem dX7_ploughs_112 : decode cX7_ploughs 112 = .ok (.iand, 1) := by decide +kernel
theorem dX7_ploughs_113 : decode cX7_ploughs 113 = .ok (.iconst 1, 1) := by decide +kernel
theorem dX7_ploughs_114 : decode cX7_ploughs 114 = .ok (.if_icmp .eq 19, 3) := by decide +kernel
theorem dX7_ploughs_117 : decode cX7_ploughs 117 = .ok (.iload_n 3, 1) := by decide +kernel
theorem dX7_ploughs_118 : decode cX7_ploughs 118 = .ok (.ifCond .eq 15, 3) := by decide +kernel
theorem dX7_ploughs_121 : decode cX7_ploughs 121 = .ok (.aload_n 0, 1) := by decide +kernel
theorem dX7_ploughs_122 : decode cX7_ploughs 122 = .ok (.getfield 32, 3) := by decide +kernel
theorem dX7_ploughs_125 : decode cX7_ploughs 125 = .ok (.iconst 1, 1) := by decide +kernel
theorem dX7_ploughs_126 : decode cX7_ploughs 126 = .ok (.iload_n 1, 1) := by decide +kernel
theorem dX7_ploughs_127 : decode cX7_ploughs 127 = .ok (.iadd, 1) := by decide +kernel
theorem dX7_ploughs_128 : decode cX7_ploughs 128 = .ok (.iaload, 1) := by decide +kernel
theorem dX7_ploughs_129 : decode cX7_ploughs 129 = .ok (.iload_n 3, 1) := by decide +kernel
theorem dX7_ploughs_130 : decode cX7_ploughs 130 = .ok (.if_icmp .ge 6, 3) := by decide +kernel
theorem dX7_ploughs_133 : decode cX7_ploughs 133 = .ok (.bipush (-2), 2) := by decide +kernel
theorem dX7_ploughs_135 : decode cX7_ploughs 135 = .ok (.ireturn, 1) := by decide +kernel
theorem dX7_ploughs_136 : decode cX7_ploughs 136 = .ok (.aload_n 0, 1) := by decide +kernel
theorem dX7_ploughs_137 : decode cX7_ploughs 137 = .ok (.invokevirtual 139, 3) := by decide +kernel
theorem dX7_ploughs_140 : decode cX7_ploughs 140 = .ok (.aload_n 0, 1) := by decide +kernel
theorem dX7_ploughs_141 : decode cX7_ploughs 141 = .ok (.getfield 32, 3) := by decide +kernel
theorem dX7_ploughs_144 : decode cX7_ploughs 144 = .ok (.iconst 1, 1) := by decide +kernel
theorem dX7_ploughs_145 : decode cX7_ploughs 145 = .ok (.iload_n 1, 1) := by decide +kernel
theorem dX7_ploughs_146 : decode cX7_ploughs 146 = .ok (.iadd, 1) := by decide +kernel
theorem dX7_ploughs_147 : decode cX7_ploughs 147 = .ok (.dup2, 1) := by decide +kernel
theorem dX7_ploughs_148 : decode cX7_ploughs 148 = .ok (.iaload, 1) := by decide +kernel
theorem dX7_ploughs_149 : decode cX7_ploughs 149 = .ok (.iload_n 3, 1) := by decide +kernel
theorem dX7_ploughs_150 : decode cX7_ploughs 150 = .ok (.isub, 1) := by decide +kernel
theorem dX7_ploughs_151 : decode cX7_ploughs 151 = .ok (.iastore, 1) := by decide +kernel
theorem dX7_ploughs_152 : decode cX7_ploughs 152 = .ok (.aload_n 0, 1) := by decide +kernel
theorem dX7_ploughs_153 : decode cX7_ploughs 153 = .ok (.getfield 32, 3) := by decide +kernel
theorem dX7_ploughs_156 : decode cX7_ploughs 156 = .ok (.bipush 26, 2) := by decide +kernel
theorem dX7_ploughs_158 : decode cX7_ploughs 158 = .ok (.dup2, 1) := by decide +kernel
theorem dX7_ploughs_159 : decode cX7_ploughs 159 = .ok (.iaload, 1) := by decide +kernel
theorem dX7_ploughs_160 : decode cX7_ploughs 160 = .ok (.iconst 1, 1) := by decide +kernel
theorem dX7_ploughs_161 : decode cX7_ploughs 161 = .ok (.iload_n 1, 1) := by decide +kernel
theorem dX7_ploughs_162 : decode cX7_ploughs 162 = .ok (.ishl, 1) := by decide +kernel
theorem dX7_ploughs_163 : decode cX7_ploughs 163 = .ok (.ior, 1) := by decide +kernel
theorem dX7_ploughs_164 : decode cX7_ploughs 164 = .ok (.iastore, 1) := by decide +kernel
theorem dX7_ploughs_165 : decode cX7_ploughs 165 = .ok (.aload_n 0, 1) := by decide +kernel
theorem dX7_ploughs_166 : decode cX7_ploughs 166 = .ok (.getfield 28, 3) := by decide +kernel
theorem dX7_ploughs_169 : decode cX7_ploughs 169 = .ok (.aload_n 0, 1) := by decide +kernel
theorem dX7_ploughs_170 : decode cX7_ploughs 170 = .ok (.getfield 32, 3) := by decide +kernel
theorem dX7_ploughs_173 : decode cX7_ploughs 173 = .ok (.iconst 0, 1) := by decide +kernel
theorem dX7_ploughs_174 : decode cX7_ploughs 174 = .ok (.iaload, 1) := by decide +kernel
theorem dX7_ploughs_175 : decode cX7_ploughs 175 = .ok (.baload, 1) := by decide +kernel
theorem dX7_ploughs_176 : decode cX7_ploughs 176 = .ok (.ifCond .eq 7, 3) := by decide +kernel
theorem dX7_ploughs_179 : decode cX7_ploughs 179 = .ok (.iconst 0, 1) := by decide +kernel
theorem dX7_ploughs_180 : decode cX7_ploughs 180 = .ok (.goto 11, 3) := by decide +kernel
theorem dX7_ploughs_183 : decode cX7_ploughs 183 = .ok (.iload_n 3, 1) := by decide +kernel
theorem dX7_ploughs_184 : decode cX7_ploughs 184 = .ok (.aload_n 0, 1) := by decide +kernel
theorem dX7_ploughs_185 : decode cX7_ploughs 185 = .ok (.getfield 19, 3) := by decide +kernel
theorem dX7_ploughs_188 : decode cX7_ploughs 188 = .ok (.iload_n 1, 1) := by decide +kernel
theorem dX7_ploughs_189 : decode cX7_ploughs 189 = .ok (.iaload, 1) := by decide +kernel
theorem dX7_ploughs_190 : decode cX7_ploughs 190 = .ok (.imul, 1) := by decide +kernel
theorem dX7_ploughs_191 : decode cX7_ploughs 191 = .ok (.istore 5, 2) := by decide +kernel
theorem dX7_ploughs_193 : decode cX7_ploughs 193 = .ok (.aload_n 0, 1) := by decide +kernel
theorem dX7_ploughs_194 : decode cX7_ploughs 194 = .ok (.getfield 32, 3) := by decide +kernel
theorem dX7_ploughs_197 : decode cX7_ploughs 197 = .ok (.bipush 6, 2) := by decide +kernel
theorem dX7_ploughs_199 : decode cX7_ploughs 199 = .ok (.iload_n 2, 1) := by decide +kernel
theorem dX7_ploughs_200 : decode cX7_ploughs 200 = .ok (.iadd, 1) := by decide +kernel
theorem dX7_ploughs_201 : decode cX7_ploughs 201 = .ok (.dup2, 1) := by decide +kernel
theorem dX7_ploughs_202 : decode cX7_ploughs 202 = .ok (.iaload, 1) := by decide +kernel
theorem dX7_ploughs_203 : decode cX7_ploughs 203 = .ok (.iload 5, 2) := by decide +kernel
theorem dX7_ploughs_205 : decode cX7_ploughs 205 = .ok (.aload_n 0, 1) := by decide +kernel
theorem dX7_ploughs_206 : decode cX7_ploughs 206 = .ok (.getfield 32, 3) := by decide +kernel
theorem dX7_ploughs_209 : decode cX7_ploughs 209 = .ok (.bipush 6, 2) := by decide +kernel
theorem dX7_ploughs_211 : decode cX7_ploughs 211 = .ok (.iload_n 2, 1) := by decide +kernel
theorem dX7_ploughs_212 : decode cX7_ploughs 212 = .ok (.iadd, 1) := by decide +kernel
theorem dX7_ploughs_213 : decode cX7_ploughs 213 = .ok (.iaload, 1) := by decide +kernel
theorem dX7_ploughs_214 : decode cX7_ploughs 214 = .ok (.if_icmp .le 15, 3) := by decide +kernel
theorem dX7_ploughs_217 : decode cX7_ploughs 217 = .ok (.aload_n 0, 1) := by decide +kernel
theorem dX7_ploughs_218 : decode cX7_ploughs 218 = .ok (.getfield 32, 3) := by decide +kernel
theorem dX7_ploughs_221 : decode cX7_ploughs 221 = .ok (.bipush 6, 2) := by decide +kernel
theorem dX7_ploughs_223 : decode cX7_ploughs 223 = .ok (.iload_n 2, 1) := by decide +kernel
theorem dX7_ploughs_224 : decode cX7_ploughs 224 = .ok (.iadd, 1) := by decide +kernel
theorem dX7_ploughs_225 : decode cX7_ploughs 225 = .ok (.iaload, 1) := by decide +kernel
theorem dX7_ploughs_226 : decode cX7_ploughs 226 = .ok (.goto 5, 3) := by decide +kernel
theorem dX7_ploughs_229 : decode cX7_ploughs 229 = .ok (.iload 5, 2) := by decide +kernel
theorem dX7_ploughs_231 : decode cX7_ploughs 231 = .ok (.isub, 1) := by decide +kernel
theorem dX7_ploughs_232 : decode cX7_ploughs 232 = .ok (.iastore, 1) := by decide +kernel
theorem dX7_ploughs_233 : decode cX7_ploughs 233 = .ok (.aload_n 0, 1) := by decide +kernel
theorem dX7_ploughs_234 : decode cX7_ploughs 234 = .ok (.getfield 32, 3) := by decide +kernel
theorem dX7_ploughs_237 : decode cX7_ploughs 237 = .ok (.bipush 6, 2) := by decide +kernel
theorem dX7_ploughs_239 : decode cX7_ploughs 239 = .ok (.iload_n 2, 1) := by decide +kernel
theorem dX7_ploughs_240 : decode cX7_ploughs 240 = .ok (.iadd, 1) := by decide +kernel
theorem dX7_ploughs_241 : decode cX7_ploughs 241 = .ok (.iaload, 1) := by decide +kernel
theorem dX7_ploughs_242 : decode cX7_ploughs 242 = .ok (.ireturn, 1) := by decide +kernel
def bX7_ploughs_231 (y2 : Int32) (z0 : Int32) (z1 : Int32) (z2 : Int32) (σ : St) (Q : Int32 → St → Prop) : Prop :=
  (vp_in z2 27 ∧ ∀ σ2 : St, σ2 = up σ 100 z2.toNatClampNeg (z1 - z0) → (vp_in (6 + y2) 27 ∧ Q (σ2.1 100 (6 + y2).toNatClampNeg) σ2))
set_option maxHeartbeats 4000000 in
set_option maxRecDepth 100000 in
theorem tX7_ploughs_231 {Q : Int32 → St → Prop} (M : MC p s m args meth c cX7_ploughs 6 (some .int) RX7 Y) (hN : yN Y = 108) (y2 : Int32) (z0 : Int32) (z1 : Int32) (z2 : Int32) (σ : St) (H : Heap) (locs : List Loc) (ls : Array Slot) (hw : WS Y (AD Y) s.heap σ H locs) (hl : lv_has ls 6 [(0, .ref (yA Y 92)), (2, .int y2)]) (h : bX7_ploughs_231 y2 z0 z1 z2 σ Q) : W p l e { frames := 2, cells := 0, slots := 0, locals := 43 } s m args below meth c H locs 0 0 (MQ below (QI Y Q) args s 0 0 (AD Y)) (F0 m 231 ls [.int z0, .int z1, .int z2, .ref (yA Y 100)]) := by
  obtain ⟨hx, hb, hr, hml, hown, hlk, hT, hK, hB⟩ := id M
  unfold bX7_ploughs_231 at h
  refine lv_isub hx hb dX7_ploughs_231 ?_
  have c1 := h.1
  refine q_ist M hw (ar_100 hN) c1 dX7_ploughs_232 (fun σ2 H locs es hw => ?_)
  have h := h.2 σ2 es
  refine lv_aload_n hx hb dX7_ploughs_233 rfl (lv_at hl 0 rfl) ?_
  refine q_get (v := .ref (yA Y 100)) M hw (ob_92 hN) rfl inq_7 16 (by decide) tw_651 rfl dX7_ploughs_234 ?_
  refine lv_bipush (v := 6) hx hb dX7_ploughs_237 (by decide) ?_
  refine lv_iload_n hx hb dX7_ploughs_239 rfl (lv_at hl 1 rfl) ?_
  refine lv_iadd hx hb dX7_ploughs_240 ?_
  have c3 := h.1
  have h := h.2
  refine q_ild M hw (ar_100 hN) c3 dX7_ploughs_241 ?_
  exact q_iret M hw h dX7_ploughs_242
def bX7_ploughs_191 (y2 : Int32) (z0 : Int32) (σ : St) (Q : Int32 → St → Prop) : Prop :=
  (vp_in (6 + y2) 27 ∧ (vp_in (6 + y2) 27 ∧ ((z0 ≤ (σ.1 100 (6 + y2).toNatClampNeg) → bX7_ploughs_231 y2 z0 (σ.1 100 (6 + y2).toNatClampNeg) (6 + y2) σ Q) ∧ (¬ z0 ≤ (σ.1 100 (6 + y2).toNatClampNeg) → (vp_in (6 + y2) 27 ∧ bX7_ploughs_231 y2 (σ.1 100 (6 + y2).toNatClampNeg) (σ.1 100 (6 + y2).toNatClampNeg) (6 + y2) σ Q)))))
set_option maxHeartbeats 4000000 in
set_option maxRecDepth 100000 in
theorem tX7_ploughs_191 {Q : Int32 → St → Prop} (M : MC p s m args meth c cX7_ploughs 6 (some .int) RX7 Y) (hN : yN Y = 108) (y2 : Int32) (z0 : Int32) (σ : St) (H : Heap) (locs : List Loc) (ls : Array Slot) (hw : WS Y (AD Y) s.heap σ H locs) (hl : lv_has ls 6 [(0, .ref (yA Y 92)), (2, .int y2)]) (h : bX7_ploughs_191 y2 z0 σ Q) : W p l e { frames := 2, cells := 0, slots := 0, locals := 43 } s m args below meth c H locs 0 0 (MQ below (QI Y Q) args s 0 0 (AD Y)) (F0 m 191 ls [.int z0]) := by
  obtain ⟨hx, hb, hr, hml, hown, hlk, hT, hK, hB⟩ := id M
  unfold bX7_ploughs_191 at h
  refine lv_istore (lv' := [(5, .int z0), (0, .ref (yA Y 92)), (2, .int y2)]) hx hb dX7_ploughs_191 hl (by decide) rfl (fun ls hl => ?_)
  refine lv_aload_n hx hb dX7_ploughs_193 rfl (lv_at hl 1 rfl) ?_
  refine q_get (v := .ref (yA Y 100)) M hw (ob_92 hN) rfl inq_7 16 (by decide) tw_651 rfl dX7_ploughs_194 ?_
  refine lv_bipush (v := 6) hx hb dX7_ploughs_197 (by decide) ?_
  refine lv_iload_n hx hb dX7_ploughs_199 rfl (lv_at hl 2 rfl) ?_
  refine lv_iadd hx hb dX7_ploughs_200 ?_
  refine lv_dup2_11 hx hb dX7_ploughs_201 rfl rfl ?_
  have c1 := h.1
  have h := h.2
  refine q_ild M hw (ar_100 hN) c1 dX7_ploughs_202 ?_
  refine lv_iload hx hb dX7_ploughs_203 (lv_at hl 0 rfl) ?_
  refine lv_aload_n hx hb dX7_ploughs_205 rfl (lv_at hl 1 rfl) ?_
  refine q_get (v := .ref (yA Y 100)) M hw (ob_92 hN) rfl inq_7 16 (by decide) tw_651 rfl dX7_ploughs_206 ?_
  refine lv_bipush (v := 6) hx hb dX7_ploughs_209 (by decide) ?_
  refine lv_iload_n hx hb dX7_ploughs_211 rfl (lv_at hl 2 rfl) ?_
  refine lv_iadd hx hb dX7_ploughs_212 ?_
  have c2 := h.1
  have h := h.2
  refine q_ild M hw (ar_100 hN) c2 dX7_ploughs_213 ?_
  refine lv_icmp_le (tgt := 229) hx hb dX7_ploughs_214 (by decide) (fun c3 => ?_) (fun c3 => ?_)
  · have h := h.1 c3
    refine lv_iload hx hb dX7_ploughs_229 (lv_at hl 0 rfl) ?_
    exact tX7_ploughs_231 M hN y2 z0 (σ.1 100 (6 + y2).toNatClampNeg) (6 + y2) σ _ _ _ hw (lv_sub hl [1, 2] rfl) h
  · have h := h.2 c3
    refine lv_aload_n hx hb dX7_ploughs_217 rfl (lv_at hl 1 rfl) ?_
    refine q_get (v := .ref (yA Y 100)) M hw (ob_92 hN) rfl inq_7 16 (by decide) tw_651 rfl dX7_ploughs_218 ?_
    refine lv_bipush (v := 6) hx hb dX7_ploughs_221 (by decide) ?_
    refine lv_iload_n hx hb dX7_ploughs_223 rfl (lv_at hl 2 rfl) ?_
    refine lv_iadd hx hb dX7_ploughs_224 ?_
    have c4 := h.1
    have h := h.2
    refine q_ild M hw (ar_100 hN) c4 dX7_ploughs_225 ?_
    refine lv_goto (tgt := 231) hx hb dX7_ploughs_226 (by decide) ?_
    exact tX7_ploughs_231 M hN y2 (σ.1 100 (6 + y2).toNatClampNeg) (σ.1 100 (6 + y2).toNatClampNeg) (6 + y2) σ _ _ _ hw (lv_sub hl [1, 2] rfl) h
def bX7_ploughs_75 (y1 : Int32) (y2 : Int32) (y3 : Int32) (z0 : Int32) (σ : St) (Q : Int32 → St → Prop) : Prop :=
  (vp_in (6 + y2) 27 ∧ (((σ.1 100 (6 + y2).toNatClampNeg) = 0 → Q (-2) σ) ∧ (¬ (σ.1 100 (6 + y2).toNatClampNeg) = 0 → wX7_lives y1 σ (fun r4 σ3 => ((r4 = 0 → Q (-2) σ3) ∧ (¬ r4 = 0 → ((z0 = 0 → Q (-2) σ3) ∧ (¬ z0 = 0 → (((((σ3.1 100 26) >>> (y1 &&& 31)) &&& 1) = 1 → Q (-2) σ3) ∧ (¬ (((σ3.1 100 26) >>> (y1 &&& 31)) &&& 1) = 1 → ((y3 = 0 → Q (-2) σ3) ∧ (¬ y3 = 0 → (vp_in (1 + y1) 27 ∧ ((y3 ≤ (σ3.1 100 (1 + y1).toNatClampNeg) → wX7_notes σ3 (fun σ11 => (vp_in (1 + y1) 27 ∧ (vp_in (1 + y1) 27 ∧ ∀ σ14 : St, σ14 = up σ11 100 (1 + y1).toNatClampNeg ((σ11.1 100 (1 + y1).toNatClampNeg) - y3) → (∀ σ16 : St, σ16 = up σ14 100 26 ((σ14.1 100 26) ||| (1 <<< (y1 &&& 31))) → (vp_in (σ16.1 100 0) 200 ∧ (((σ16.1 99 (σ16.1 100 0).toNatClampNeg) = 0 → (vp_in y1 10 ∧ bX7_ploughs_191 y2 (y3 * (σ16.1 96 y1.toNatClampNeg)) σ16 Q)) ∧ (¬ (σ16.1 99 (σ16.1 100 0).toNatClampNeg) = 0 → bX7_ploughs_191 y2 0 σ16 Q)))))))) ∧ (¬ y3 ≤ (σ3.1 100 (1 + y1).toNatClampNeg) → Q (-2) σ3)))))))))))))))
set_option maxHeartbeats 4000000 in
set_option maxRecDepth 100000 in
theorem tX7_ploughs_75 {Q : Int32 → St → Prop} (M : MC p s m args meth c cX7_ploughs 6 (some .int) RX7 Y) (hN : yN Y = 108) (y1 : Int32) (y2 : Int32) (y3 : Int32) (z0 : Int32) (σ : St) (H : Heap) (locs : List Loc) (ls : Array Slot) (hw : WS Y (AD Y) s.heap σ H locs) (hl : lv_has ls 6 [(0, .ref (yA Y 92)), (1, .int y1), (2, .int y2), (3, .int y3)]) (h : bX7_ploughs_75 y1 y2 y3 z0 σ Q) : W p l e { frames := 2, cells := 0, slots := 0, locals := 43 } s m args below meth c H locs 0 0 (MQ below (QI Y Q) args s 0 0 (AD Y)) (F0 m 75 ls [.int z0]) := by
  obtain ⟨hx, hb, hr, hml, hown, hlk, hT, hK, hB⟩ := id M
  unfold bX7_ploughs_75 at h
  refine lv_istore (lv' := [(4, .int z0), (0, .ref (yA Y 92)), (1, .int y1), (2, .int y2), (3, .int y3)]) hx hb dX7_ploughs_75 hl (by decide) rfl (fun ls hl => ?_)
  refine lv_aload_n hx hb dX7_ploughs_77 rfl (lv_at hl 1 rfl) ?_
  refine q_get (v := .ref (yA Y 100)) M hw (ob_92 hN) rfl inq_7 16 (by decide) tw_651 rfl dX7_ploughs_78 ?_
  refine lv_bipush (v := 6) hx hb dX7_ploughs_81 (by decide) ?_
  refine lv_iload_n hx hb dX7_ploughs_83 rfl (lv_at hl 3 rfl) ?_
  refine lv_iadd hx hb dX7_ploughs_84 ?_
  have c1 := h.1
  have h := h.2
  refine q_ild M hw (ar_100 hN) c1 dX7_ploughs_85 ?_
  refine lv_if_eq (tgt := 133) hx hb dX7_ploughs_86 (by decide) (fun c2 => ?_) (fun c2 => ?_)
  · have h := h.1 c2
    refine lv_bipush (v := (-2)) hx hb dX7_ploughs_133 (by decide) ?_
    exact q_iret M hw h dX7_ploughs_135
  · have h := h.2 c2
    refine lv_aload_n hx hb dX7_ploughs_89 rfl (lv_at hl 1 rfl) ?_
    refine lv_iload_n hx hb dX7_ploughs_90 rfl (lv_at hl 2 rfl) ?_
    refine q_goI hw (q_runV (rest := []) M hw (ctX7_lives l hB hN y1 σ _ h) mbX7_lives (ob_92 hN) rfl tw_792 rfl hl.1 rfl (Nat.le_of_ble_eq_true rfl) ⟨Nat.le_of_ble_eq_true rfl, Nat.le_of_ble_eq_true rfl⟩ ⟨Nat.le_refl _, Nat.le_refl _⟩ dX7_ploughs_91) (fun r4 σ3 H locs h hw => ?_)
    refine lv_if_eq (tgt := 133) hx hb dX7_ploughs_94 (by decide) (fun c5 => ?_) (fun c5 => ?_)
    · have h := h.1 c5
      refine lv_bipush (v := (-2)) hx hb dX7_ploughs_133 (by decide) ?_
      exact q_iret M hw h dX7_ploughs_135
    · have h := h.2 c5
      refine lv_iload hx hb dX7_ploughs_97 (lv_at hl 0 rfl) ?_
      refine lv_if_eq (tgt := 133) hx hb dX7_ploughs_99 (by decide) (fun c6 => ?_) (fun c6 => ?_)
      · have h := h.1 c6
        refine lv_bipush (v := (-2)) hx hb dX7_ploughs_133 (by decide) ?_
        exact q_iret M hw h dX7_ploughs_135
      · have h := h.2 c6
        refine lv_aload_n hx hb dX7_ploughs_102 rfl (lv_at hl 1 rfl) ?_
        refine q_get (v := .ref (yA Y 100)) M hw (ob_92 hN) rfl inq_7 16 (by decide) tw_651 rfl dX7_ploughs_103 ?_
        refine lv_bipush (v := 26) hx hb dX7_ploughs_106 (by decide) ?_
        refine q_ild' 26 M hw (ar_100 hN) (by unfold vp_in; decide) (by decide) dX7_ploughs_108 ?_
        refine lv_iload_n hx hb dX7_ploughs_109 rfl (lv_at hl 2 rfl) ?_
        refine lv_ishr hx hb dX7_ploughs_110 ?_
        refine lv_iconst (v := 1) hx hb dX7_ploughs_111 (by decide) ?_
        refine lv_iand hx hb dX7_ploughs_112 ?_
        refine lv_iconst (v := 1) hx hb dX7_ploughs_113 (by decide) ?_
        refine lv_icmp_eq (tgt := 133) hx hb dX7_ploughs_114 (by decide) (fun c7 => ?_) (fun c7 => ?_)
        · have h := h.1 c7
          refine lv_bipush (v := (-2)) hx hb dX7_ploughs_133 (by decide) ?_
          exact q_iret M hw h dX7_ploughs_135
        · have h := h.2 c7
          refine lv_iload_n hx hb dX7_ploughs_117 rfl (lv_at hl 4 rfl) ?_
          refine lv_if_eq (tgt := 133) hx hb dX7_ploughs_118 (by decide) (fun c8 => ?_) (fun c8 => ?_)
          · have h := h.1 c8
            refine lv_bipush (v := (-2)) hx hb dX7_ploughs_133 (by decide) ?_
            exact q_iret M hw h dX7_ploughs_135
          · have h := h.2 c8
            refine lv_aload_n hx hb dX7_ploughs_121 rfl (lv_at hl 1 rfl) ?_
            refine q_get (v := .ref (yA Y 100)) M hw (ob_92 hN) rfl inq_7 16 (by decide) tw_651 rfl dX7_ploughs_122 ?_
            refine lv_iconst (v := 1) hx hb dX7_ploughs_125 (by decide) ?_
            refine lv_iload_n hx hb dX7_ploughs_126 rfl (lv_at hl 2 rfl) ?_
            refine lv_iadd hx hb dX7_ploughs_127 ?_
            have c9 := h.1
            have h := h.2
            refine q_ild M hw (ar_100 hN) c9 dX7_ploughs_128 ?_
            refine lv_iload_n hx hb dX7_ploughs_129 rfl (lv_at hl 4 rfl) ?_
            refine lv_icmp_ge (tgt := 136) hx hb dX7_ploughs_130 (by decide) (fun c10 => ?_) (fun c10 => ?_)
            · have h := h.1 c10
              refine lv_aload_n hx hb dX7_ploughs_136 rfl (lv_at hl 1 rfl) ?_
              refine q_goV hw (q_runV (rest := []) M hw (ctX7_notes l hB hN σ3 _ h) mbX7_notes (ob_92 hN) rfl tw_796 rfl hl.1 rfl (Nat.le_of_ble_eq_true rfl) ⟨Nat.le_of_ble_eq_true rfl, Nat.le_of_ble_eq_true rfl⟩ ⟨Nat.le_refl _, Nat.le_refl _⟩ dX7_ploughs_137) (fun σ11 H locs h hw => ?_)
              refine lv_aload_n hx hb dX7_ploughs_140 rfl (lv_at hl 1 rfl) ?_
              refine q_get (v := .ref (yA Y 100)) M hw (ob_92 hN) rfl inq_7 16 (by decide) tw_651 rfl dX7_ploughs_141 ?_
              refine lv_iconst (v := 1) hx hb dX7_ploughs_144 (by decide) ?_
              refine lv_iload_n hx hb dX7_ploughs_145 rfl (lv_at hl 2 rfl) ?_
              refine lv_iadd hx hb dX7_ploughs_146 ?_
              refine lv_dup2_11 hx hb dX7_ploughs_147 rfl rfl ?_
              have c12 := h.1
              have h := h.2
              refine q_ild M hw (ar_100 hN) c12 dX7_ploughs_148 ?_
              refine lv_iload_n hx hb dX7_ploughs_149 rfl (lv_at hl 4 rfl) ?_
              refine lv_isub hx hb dX7_ploughs_150 ?_
              have c13 := h.1
              refine q_ist M hw (ar_100 hN) c13 dX7_ploughs_151 (fun σ14 H locs es hw => ?_)
              have h := h.2 σ14 es
              refine lv_aload_n hx hb dX7_ploughs_152 rfl (lv_at hl 1 rfl) ?_
              refine q_get (v := .ref (yA Y 100)) M hw (ob_92 hN) rfl inq_7 16 (by decide) tw_651 rfl dX7_ploughs_153 ?_
              refine lv_bipush (v := 26) hx hb dX7_ploughs_156 (by decide) ?_
              refine lv_dup2_11 hx hb dX7_ploughs_158 rfl rfl ?_
              refine q_ild' 26 M hw (ar_100 hN) (by unfold vp_in; decide) (by decide) dX7_ploughs_159 ?_
              refine lv_iconst (v := 1) hx hb dX7_ploughs_160 (by decide) ?_
              refine lv_iload_n hx hb dX7_ploughs_161 rfl (lv_at hl 2 rfl) ?_
              refine lv_ishl hx hb dX7_ploughs_162 ?_
              refine lv_ior hx hb dX7_ploughs_163 ?_
              refine q_ist' 26 M hw (ar_100 hN) (by unfold vp_in; decide) (by decide) dX7_ploughs_164 (fun σ16 H locs es hw => ?_)
              have h := h σ16 es
              refine lv_aload_n hx hb dX7_ploughs_165 rfl (lv_at hl 1 rfl) ?_
              refine q_get (v := .ref (yA Y 99)) M hw (ob_92 hN) rfl inq_7 15 (by decide) tw_650 rfl dX7_ploughs_166 ?_
              refine lv_aload_n hx hb dX7_ploughs_169 rfl (lv_at hl 1 rfl) ?_
              refine q_get (v := .ref (yA Y 100)) M hw (ob_92 hN) rfl inq_7 16 (by decide) tw_651 rfl dX7_ploughs_170 ?_
              refine lv_iconst (v := 0) hx hb dX7_ploughs_173 (by decide) ?_
              refine q_ild' 0 M hw (ar_100 hN) (by unfold vp_in; decide) (by decide) dX7_ploughs_174 ?_
              have c17 := h.1
              have h := h.2
              refine q_zld M hw (ar_99 hN) c17 dX7_ploughs_175 ?_
              refine lv_if_eq (tgt := 183) hx hb dX7_ploughs_176 (by decide) (fun c18 => ?_) (fun c18 => ?_)
              · have h := h.1 c18
                refine lv_iload_n hx hb dX7_ploughs_183 rfl (lv_at hl 4 rfl) ?_
                refine lv_aload_n hx hb dX7_ploughs_184 rfl (lv_at hl 1 rfl) ?_
                refine q_get (v := .ref (yA Y 96)) M hw (ob_92 hN) rfl inq_7 12 (by decide) tw_647 rfl dX7_ploughs_185 ?_
                refine lv_iload_n hx hb dX7_ploughs_188 rfl (lv_at hl 2 rfl) ?_
                have c19 := h.1
                have h := h.2
                refine q_ild M hw (ar_96 hN) c19 dX7_ploughs_189 ?_
                refine lv_imul hx hb dX7_ploughs_190 ?_
                exact tX7_ploughs_191 M hN y2 (y3 * (σ16.1 96 y1.toNatClampNeg)) σ16 _ _ _ hw (lv_sub hl [1, 3] rfl) h
              · have h := h.2 c18
                refine lv_iconst (v := 0) hx hb dX7_ploughs_179 (by decide) ?_
                refine lv_goto (tgt := 191) hx hb dX7_ploughs_180 (by decide) ?_
                exact tX7_ploughs_191 M hN y2 0 σ16 _ _ _ hw (lv_sub hl [1, 3] rfl) h
            · have h := h.2 c10
              refine lv_bipush (v := (-2)) hx hb dX7_ploughs_133 (by decide) ?_
              exact q_iret M hw h dX7_ploughs_135
def bX7_ploughs_70 (y1 : Int32) (y2 : Int32) (y3 : Int32) (σ : St) (Q : Int32 → St → Prop) : Prop :=
  bX7_ploughs_75 y1 y2 y3 1 σ Q
set_option maxHeartbeats 4000000 in
set_option maxRecDepth 100000 in
theorem tX7_ploughs_70 {Q : Int32 → St → Prop} (M : MC p s m args meth c cX7_ploughs 6 (some .int) RX7 Y) (hN : yN Y = 108) (y1 : Int32) (y2 : Int32) (y3 : Int32) (σ : St) (H : Heap) (locs : List Loc) (ls : Array Slot) (hw : WS Y (AD Y) s.heap σ H locs) (hl : lv_has ls 6 [(0, .ref (yA Y 92)), (1, .int y1), (2, .int y2), (3, .int y3)]) (h : bX7_ploughs_70 y1 y2 y3 σ Q) : W p l e { frames := 2, cells := 0, slots := 0, locals := 43 } s m args below meth c H locs 0 0 (MQ below (QI Y Q) args s 0 0 (AD Y)) (F0 m 70 ls []) := by
  obtain ⟨hx, hb, hr, hml, hown, hlk, hT, hK, hB⟩ := id M
  unfold bX7_ploughs_70 at h
  refine lv_iconst (v := 1) hx hb dX7_ploughs_70 (by decide) ?_
  refine lv_goto (tgt := 75) hx hb dX7_ploughs_71 (by decide) ?_
  exact tX7_ploughs_75 M hN y1 y2 y3 1 σ _ _ _ hw (lv_sub hl [0, 1, 2, 3] rfl) h
def wX7_ploughs (a0 : Int32) (a1 : Int32) (σ : St) (Q : Int32 → St → Prop) : Prop :=
  (∀ σ1 : St, σ1 = up σ 92 0 0 → wX7_isFarmer a0 σ1 (fun r3 σ2 => ((r3 = 0 → Q (-1) σ2) ∧ (¬ r3 = 0 → wX7_isStrip a1 σ2 (fun r6 σ5 => ((r6 = 0 → Q (-1) σ5) ∧ (¬ r6 = 0 → wX7_moon (σ5.1 100 0) σ5 (fun r9 σ8 => (vp_in (13 + a1) 27 ∧ (((σ8.1 100 (13 + a1).toNatClampNeg) = a0 → bX7_ploughs_70 a0 a1 r9 σ8 Q) ∧ (¬ (σ8.1 100 (13 + a1).toNatClampNeg) = a0 → (vp_in (21 + a0) 27 ∧ (vp_in (13 + a1) 27 ∧ (((σ8.1 100 (21 + a0).toNatClampNeg) = ((σ8.1 100 (13 + a1).toNatClampNeg) + 1) → bX7_ploughs_70 a0 a1 r9 σ8 Q) ∧ (¬ (σ8.1 100 (21 + a0).toNatClampNeg) = ((σ8.1 100 (13 + a1).toNatClampNeg) + 1) → bX7_ploughs_75 a0 a1 r9 0 σ8 Q)))))))))))))))
set_option maxHeartbeats 4000000 in
set_option maxRecDepth 100000 in
theorem tX7_ploughs_E {Q : Int32 → St → Prop} (M : MC p s m args meth c cX7_ploughs 6 (some .int) RX7 Y) (hN : yN Y = 108) (a0 : Int32) (a1 : Int32) (σ : St) (H : Heap) (locs : List Loc) (ls : Array Slot) (hw : WS Y (AD Y) s.heap σ H locs) (hl : lv_has ls 6 [(0, .ref (yA Y 92)), (1, .int a0), (2, .int a1)]) (h : wX7_ploughs a0 a1 σ Q) : W p l e { frames := 2, cells := 0, slots := 0, locals := 43 } s m args below meth c H locs 0 0 (MQ below (QI Y Q) args s 0 0 (AD Y)) (F0 m 0 ls []) := by
  obtain ⟨hx, hb, hr, hml, hown, hlk, hT, hK, hB⟩ := id M
  unfold wX7_ploughs at h
  refine lv_aload_n hx hb dX7_ploughs_0 rfl (lv_at hl 0 rfl) ?_
  refine lv_iconst (v := 0) hx hb dX7_ploughs_1 (by decide) ?_
  refine q_put (v := 0) M hw (ob_92 hN) rfl inq_7 tyX7 tyX7_ok nmX7 0 (by decide) tw_635 rfl rfl rfl (Nat.le_of_ble_eq_true rfl) (by simp [up, upd, f0]) dX7_ploughs_2 (fun σ1 H locs es hw => ?_)
  have h := h σ1 es
  refine lv_aload_n hx hb dX7_ploughs_5 rfl (lv_at hl 0 rfl) ?_
  refine lv_iload_n hx hb dX7_ploughs_6 rfl (lv_at hl 1 rfl) ?_
  refine q_goI hw (q_runV (rest := []) M hw (ctX7_isFarmer l hB hN a0 σ1 _ h) mbX7_isFarmer (ob_92 hN) rfl tw_764 rfl hl.1 rfl (Nat.le_of_ble_eq_true rfl) ⟨Nat.le_of_ble_eq_true rfl, Nat.le_of_ble_eq_true rfl⟩ ⟨Nat.le_refl _, Nat.le_refl _⟩ dX7_ploughs_7) (fun r3 σ2 H locs h hw => ?_)
  refine lv_if_eq (tgt := 21) hx hb dX7_ploughs_10 (by decide) (fun c4 => ?_) (fun c4 => ?_)
  · have h := h.1 c4
    refine lv_iconst (v := (-1)) hx hb dX7_ploughs_21 (by decide) ?_
    exact q_iret M hw h dX7_ploughs_22
  · have h := h.2 c4
    refine lv_aload_n hx hb dX7_ploughs_13 rfl (lv_at hl 0 rfl) ?_
    refine lv_iload_n hx hb dX7_ploughs_14 rfl (lv_at hl 2 rfl) ?_
    refine q_goI hw (q_runV (rest := []) M hw (ctX7_isStrip l hB hN a1 σ2 _ h) mbX7_isStrip (ob_92 hN) rfl tw_772 rfl hl.1 rfl (Nat.le_of_ble_eq_true rfl) ⟨Nat.le_of_ble_eq_true rfl, Nat.le_of_ble_eq_true rfl⟩ ⟨Nat.le_refl _, Nat.le_refl _⟩ dX7_ploughs_15) (fun r6 σ5 H locs h hw => ?_)
    refine lv_if_ne (tgt := 23) hx hb dX7_ploughs_18 (by decide) (fun c7 => ?_) (fun c7 => ?_)
    · have h := h.2 c7
      refine lv_aload_n hx hb dX7_ploughs_23 rfl (lv_at hl 0 rfl) ?_
      refine lv_aload_n hx hb dX7_ploughs_24 rfl (lv_at hl 0 rfl) ?_
      refine q_get (v := .ref (yA Y 100)) M hw (ob_92 hN) rfl inq_7 16 (by decide) tw_651 rfl dX7_ploughs_25 ?_
      refine lv_iconst (v := 0) hx hb dX7_ploughs_28 (by decide) ?_
      refine q_ild' 0 M hw (ar_100 hN) (by unfold vp_in; decide) (by decide) dX7_ploughs_29 ?_
      refine q_goI hw (q_runV (rest := []) M hw (ctX7_moon l hB hN (σ5.1 100 0) σ5 _ h) mbX7_moon (ob_92 hN) rfl tw_780 rfl hl.1 rfl (Nat.le_of_ble_eq_true rfl) ⟨Nat.le_of_ble_eq_true rfl, Nat.le_of_ble_eq_true rfl⟩ ⟨Nat.le_refl _, Nat.le_refl _⟩ dX7_ploughs_30) (fun r9 σ8 H locs h hw => ?_)
      refine lv_istore_n (lv' := [(3, .int r9), (0, .ref (yA Y 92)), (1, .int a0), (2, .int a1)]) hx hb dX7_ploughs_33 rfl hl (by decide) rfl (fun ls hl => ?_)
      refine lv_aload_n hx hb dX7_ploughs_34 rfl (lv_at hl 1 rfl) ?_
      refine q_get (v := .ref (yA Y 100)) M hw (ob_92 hN) rfl inq_7 16 (by decide) tw_651 rfl dX7_ploughs_35 ?_
      refine lv_bipush (v := 13) hx hb dX7_ploughs_38 (by decide) ?_
      refine lv_iload_n hx hb dX7_ploughs_40 rfl (lv_at hl 3 rfl) ?_
      refine lv_iadd hx hb dX7_ploughs_41 ?_
      have c10 := h.1
      have h := h.2
      refine q_ild M hw (ar_100 hN) c10 dX7_ploughs_42 ?_
      refine lv_iload_n hx hb dX7_ploughs_43 rfl (lv_at hl 2 rfl) ?_
      refine lv_icmp_eq (tgt := 70) hx hb dX7_ploughs_44 (by decide) (fun c11 => ?_) (fun c11 => ?_)
      · have h := h.1 c11
        exact tX7_ploughs_70 M hN a0 a1 r9 σ8 _ _ _ hw (lv_sub hl [1, 2, 3, 0] rfl) h
      · have h := h.2 c11
        refine lv_aload_n hx hb dX7_ploughs_47 rfl (lv_at hl 1 rfl) ?_
        refine q_get (v := .ref (yA Y 100)) M hw (ob_92 hN) rfl inq_7 16 (by decide) tw_651 rfl dX7_ploughs_48 ?_
        refine lv_bipush (v := 21) hx hb dX7_ploughs_51 (by decide) ?_
        refine lv_iload_n hx hb dX7_ploughs_53 rfl (lv_at hl 2 rfl) ?_
        refine lv_iadd hx hb dX7_ploughs_54 ?_
        have c12 := h.1
        have h := h.2
        refine q_ild M hw (ar_100 hN) c12 dX7_ploughs_55 ?_
        refine lv_aload_n hx hb dX7_ploughs_56 rfl (lv_at hl 1 rfl) ?_
        refine q_get (v := .ref (yA Y 100)) M hw (ob_92 hN) rfl inq_7 16 (by decide) tw_651 rfl dX7_ploughs_57 ?_
        refine lv_bipush (v := 13) hx hb dX7_ploughs_60 (by decide) ?_
        refine lv_iload_n hx hb dX7_ploughs_62 rfl (lv_at hl 3 rfl) ?_
        refine lv_iadd hx hb dX7_ploughs_63 ?_
        have c13 := h.1
        have h := h.2
        refine q_ild M hw (ar_100 hN) c13 dX7_ploughs_64 ?_
        refine lv_iconst (v := 1) hx hb dX7_ploughs_65 (by decide) ?_
        refine lv_iadd hx hb dX7_ploughs_66 ?_
        refine lv_icmp_ne (tgt := 74) hx hb dX7_ploughs_67 (by decide) (fun c14 => ?_) (fun c14 => ?_)
        · have h := h.2 c14
          refine lv_iconst (v := 0) hx hb dX7_ploughs_74 (by decide) ?_
          exact tX7_ploughs_75 M hN a0 a1 r9 0 σ8 _ _ _ hw (lv_sub hl [1, 2, 3, 0] rfl) h
        · have h := h.1 c14
          exact tX7_ploughs_70 M hN a0 a1 r9 σ8 _ _ _ hw (lv_sub hl [1, 2, 3, 0] rfl) h
    · have h := h.1 c7
      refine lv_iconst (v := (-1)) hx hb dX7_ploughs_21 (by decide) ?_
      exact q_iret M hw h dX7_ploughs_22
set_option maxRecDepth 100000 in
theorem ctX7_ploughs (l : Launch) {Y : LY} (hB : YB Y) (hN : yN Y = 108) (a0 : Int32) (a1 : Int32) (σ : St) (Q : Int32 → St → Prop) (h : wX7_ploughs a0 a1 σ Q) : CT l yX7_ploughs (Cond.code yX7_ploughs cX7_ploughs 6 (some .int)) { frames := 2, cells := 0, slots := 0, locals := 43 } Y [.ref (yA Y 92), .int a0, .int a1] σ (QI Y Q) :=
  q_ent hB (by decide +kernel) (Nat.le_of_ble_eq_true rfl) (fun p e s m below meth c ls M hw hl => tX7_ploughs_E M hN a0 a1 σ _ _ ls hw hl h)
theorem mbX7_ploughs : MB RX7 yX7_ploughs cX7_ploughs 2 6 (some .int) := ⟨tw_789, tw_790, tw_56, tw_791, by decide +kernel⟩
end
section
variable {p : Program} {l : Launch} {e : Env} {s : State} {m : MethodId} {args : Array Value} {below : List Frame} {meth : Method} {c : Code} {Y : LY}
theorem dX7_passes_0 : decode cX7_passes 0 = .ok (.aload_n 0, 1) := by decide +kernel
theorem dX7_passes_1 : decode cX7_passes 1 = .ok (.iconst 0, 1) := by decide +kernel
theorem dX7_passes_2 : decode cX7_passes 2 = .ok (.putfield 62, 3) := by decide +kernel
theorem dX7_passes_5 : decode cX7_passes 5 = .ok (.aload_n 0, 1) := by decide +kernel
theorem dX7_passes_6 : decode cX7_passes 6 = .ok (.getfield 32, 3) := by decide +kernel
theorem dX7_passes_9 : decode cX7_passes 9 = .ok (.iconst 0, 1) := by decide +kernel
theorem dX7_passes_10 : decode cX7_passes 10 = .ok (.iaload, 1) := by decide +kernel
theorem dX7_passes_11 : decode cX7_passes 11 = .ok (.bipush 99, 2) := by decide +kernel
theorem dX7_passes_13 : decode cX7_passes 13 = .ok (.if_icmp .ne 6, 3) := by decide +kernel
theorem dX7_passes_16 : decode cX7_passes 16 = .ok (.bipush (-2), 2) := by decide +kernel
theorem dX7_passes_18 : decode cX7_passes 18 = .ok (.ireturn, 1) := by decide +kernel
theorem dX7_passes_19 : decode cX7_passes 19 = .ok (.aload_n 0, 1) := by decide +kernel
theorem dX7_passes_20 : decode cX7_passes 20 = .ok (.invokevirtual 139, 3) := by decide +kernel
theorem dX7_passes_23 : decode cX7_passes 23 = .ok (.aload_n 0, 1) := by decide +kernel
theorem dX7_passes_24 : decode cX7_passes 24 = .ok (.getfield 32, 3) := by decide +kernel
theorem dX7_passes_27 : decode cX7_passes 27 = .ok (.iconst 0, 1) := by decide +kernel
theorem dX7_passes_28 : decode cX7_passes 28 = .ok (.dup2, 1) := by decide +kernel
theorem dX7_passes_29 : decode cX7_passes 29 = .ok (.iaload, 1) := by decide +kernel
theorem dX7_passes_30 : decode cX7_passes 30 = .ok (.iconst 1, 1) := by decide +kernel
theorem dX7_passes_31 : decode cX7_passes 31 = .ok (.iadd, 1) := by decide +kernel
theorem dX7_passes_32 : decode cX7_passes 32 = .ok (.iastore, 1) := by decide +kernel
theorem dX7_passes_33 : decode cX7_passes 33 = .ok (.aload_n 0, 1) := by decide +kernel
theorem dX7_passes_34 : decode cX7_passes 34 = .ok (.getfield 32, 3) := by decide +kernel
theorem dX7_passes_37 : decode cX7_passes 37 = .ok (.bipush 26, 2) := by decide +kernel
theorem dX7_passes_39 : decode cX7_passes 39 = .ok (.iconst 0, 1) := by decide +kernel
theorem dX7_passes_40 : decode cX7_passes 40 = .ok (.iastore, 1) := by decide +kernel
theorem dX7_passes_41 : decode cX7_passes 41 = .ok (.aload_n 0, 1) := by decide +kernel
theorem dX7_passes_42 : decode cX7_passes 42 = .ok (.getfield 32, 3) := by decide +kernel
theorem dX7_passes_45 : decode cX7_passes 45 = .ok (.iconst 0, 1) := by decide +kernel
theorem dX7_passes_46 : decode cX7_passes 46 = .ok (.iaload, 1) := by decide +kernel
theorem dX7_passes_47 : decode cX7_passes 47 = .ok (.ireturn, 1) := by decide +kernel
def wX7_passes (σ : St) (Q : Int32 → St → Prop) : Prop :=
  (∀ σ1 : St, σ1 = up σ 92 0 0 → (((σ1.1 100 0) = 99 → Q (-2) σ1) ∧ (¬ (σ1.1 100 0) = 99 → wX7_notes σ1 (fun σ3 => (∀ σ5 : St, σ5 = up σ3 100 0 ((σ3.1 100 0) + 1) → (∀ σ7 : St, σ7 = up σ5 100 26 0 → Q (σ7.1 100 0) σ7))))))
set_option maxHeartbeats 4000000 in
set_option maxRecDepth 100000 in
theorem tX7_passes_E {Q : Int32 → St → Prop} (M : MC p s m args meth c cX7_passes 1 (some .int) RX7 Y) (hN : yN Y = 108)  (σ : St) (H : Heap) (locs : List Loc) (ls : Array Slot) (hw : WS Y (AD Y) s.heap σ H locs) (hl : lv_has ls 1 [(0, .ref (yA Y 92))]) (h : wX7_passes σ Q) : W p l e { frames := 1, cells := 0, slots := 0, locals := 21 } s m args below meth c H locs 0 0 (MQ below (QI Y Q) args s 0 0 (AD Y)) (F0 m 0 ls []) := by
  obtain ⟨hx, hb, hr, hml, hown, hlk, hT, hK, hB⟩ := id M
  unfold wX7_passes at h
  refine lv_aload_n hx hb dX7_passes_0 rfl (lv_at hl 0 rfl) ?_
  refine lv_iconst (v := 0) hx hb dX7_passes_1 (by decide) ?_
  refine q_put (v := 0) M hw (ob_92 hN) rfl inq_7 tyX7 tyX7_ok nmX7 0 (by decide) tw_635 rfl rfl rfl (Nat.le_of_ble_eq_true rfl) (by simp [up, upd, f0]) dX7_passes_2 (fun σ1 H locs es hw => ?_)
  have h := h σ1 es
  refine lv_aload_n hx hb dX7_passes_5 rfl (lv_at hl 0 rfl) ?_
  refine q_get (v := .ref (yA Y 100)) M hw (ob_92 hN) rfl inq_7 16 (by decide) tw_651 rfl dX7_passes_6 ?_
  refine lv_iconst (v := 0) hx hb dX7_passes_9 (by decide) ?_
  refine q_ild' 0 M hw (ar_100 hN) (by unfold vp_in; decide) (by decide) dX7_passes_10 ?_
  refine lv_bipush (v := 99) hx hb dX7_passes_11 (by decide) ?_
  refine lv_icmp_ne (tgt := 19) hx hb dX7_passes_13 (by decide) (fun c2 => ?_) (fun c2 => ?_)
  · have h := h.2 c2
    refine lv_aload_n hx hb dX7_passes_19 rfl (lv_at hl 0 rfl) ?_
    refine q_goV hw (q_runV (rest := []) M hw (ctX7_notes l hB hN σ1 _ h) mbX7_notes (ob_92 hN) rfl tw_796 rfl hl.1 rfl (Nat.le_of_ble_eq_true rfl) ⟨Nat.le_of_ble_eq_true rfl, Nat.le_of_ble_eq_true rfl⟩ ⟨Nat.le_refl _, Nat.le_refl _⟩ dX7_passes_20) (fun σ3 H locs h hw => ?_)
    refine lv_aload_n hx hb dX7_passes_23 rfl (lv_at hl 0 rfl) ?_
    refine q_get (v := .ref (yA Y 100)) M hw (ob_92 hN) rfl inq_7 16 (by decide) tw_651 rfl dX7_passes_24 ?_
    refine lv_iconst (v := 0) hx hb dX7_passes_27 (by decide) ?_
    refine lv_dup2_11 hx hb dX7_passes_28 rfl rfl ?_
    refine q_ild' 0 M hw (ar_100 hN) (by unfold vp_in; decide) (by decide) dX7_passes_29 ?_
    refine lv_iconst (v := 1) hx hb dX7_passes_30 (by decide) ?_
    refine lv_iadd hx hb dX7_passes_31 ?_
    refine q_ist' 0 M hw (ar_100 hN) (by unfold vp_in; decide) (by decide) dX7_passes_32 (fun σ5 H locs es hw => ?_)
    have h := h σ5 es
    refine lv_aload_n hx hb dX7_passes_33 rfl (lv_at hl 0 rfl) ?_
    refine q_get (v := .ref (yA Y 100)) M hw (ob_92 hN) rfl inq_7 16 (by decide) tw_651 rfl dX7_passes_34 ?_
    refine lv_bipush (v := 26) hx hb dX7_passes_37 (by decide) ?_
    refine lv_iconst (v := 0) hx hb dX7_passes_39 (by decide) ?_
    refine q_ist' 26 M hw (ar_100 hN) (by unfold vp_in; decide) (by decide) dX7_passes_40 (fun σ7 H locs es hw => ?_)
    have h := h σ7 es
    refine lv_aload_n hx hb dX7_passes_41 rfl (lv_at hl 0 rfl) ?_
    refine q_get (v := .ref (yA Y 100)) M hw (ob_92 hN) rfl inq_7 16 (by decide) tw_651 rfl dX7_passes_42 ?_
    refine lv_iconst (v := 0) hx hb dX7_passes_45 (by decide) ?_
    refine q_ild' 0 M hw (ar_100 hN) (by unfold vp_in; decide) (by decide) dX7_passes_46 ?_
    exact q_iret M hw h dX7_passes_47
  · have h := h.1 c2
    refine lv_bipush (v := (-2)) hx hb dX7_passes_16 (by decide) ?_
    exact q_iret M hw h dX7_passes_18
set_option maxRecDepth 100000 in
theorem ctX7_passes (l : Launch) {Y : LY} (hB : YB Y) (hN : yN Y = 108) (σ : St) (Q : Int32 → St → Prop) (h : wX7_passes σ Q) : CT l yX7_passes (Cond.code yX7_passes cX7_passes 1 (some .int)) { frames := 1, cells := 0, slots := 0, locals := 21 } Y [.ref (yA Y 92)] σ (QI Y Q) :=
  q_ent hB (by decide +kernel) (Nat.le_of_ble_eq_true rfl) (fun p e s m below meth c ls M hw hl => tX7_passes_E M hN σ _ _ ls hw hl h)
theorem mbX7_passes : MB RX7 yX7_passes cX7_passes 0 1 (some .int) := ⟨tw_801, tw_802, tw_56, tw_803, by decide +kernel⟩
end
