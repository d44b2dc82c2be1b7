section
variable {p : Program} {l : Launch} {e : Env} {s : State} {m : MethodId} {args : Array Value} {below : List Frame} {meth : Method} {c : Code} {Y : LY}
theorem dX0_nightsWith_0 : decode cX0_nightsWith 0 = .ok (.aload_n 0, 1) := by decide +kernel
theorem dX0_nightsWith_1 : decode cX0_nightsWith 1 = .ok (.getfield 15, 3) := by decide +kernel
theorem dX0_nightsWith_4 : decode cX0_nightsWith 4 = .ok (.iload_n 1, 1) := by decide +kernel
theorem dX0_nightsWith_5 : decode cX0_nightsWith 5 = .ok (.iaload, 1) := by decide +kernel
theorem dX0_nightsWith_6 : decode cX0_nightsWith 6 = .ok (.ifCond .eq 13, 3) := by decide +kernel
theorem dX0_nightsWith_9 : decode cX0_nightsWith 9 = .ok (.aload_n 0, 1) := by decide +kernel
theorem dX0_nightsWith_10 : decode cX0_nightsWith 10 = .ok (.getfield 15, 3) := by decide +kernel
theorem dX0_nightsWith_13 : decode cX0_nightsWith 13 = .ok (.iload_n 1, 1) := by decide +kernel
theorem dX0_nightsWith_14 : decode cX0_nightsWith 14 = .ok (.iaload, 1) := by decide +kernel
theorem dX0_nightsWith_15 : decode cX0_nightsWith 15 = .ok (.iload_n 2, 1) := by decide +kernel
theorem dX0_nightsWith_16 : decode cX0_nightsWith 16 = .ok (.if_icmp .le 7, 3) := by decide +kernel
theorem dX0_nightsWith_19 : decode cX0_nightsWith 19 = .ok (.sipush 1000, 3) := by decide +kernel
theorem dX0_nightsWith_22 : decode cX0_nightsWith 22 = .ok (.ireturn, 1) := by decide +kernel
theorem dX0_nightsWith_23 : decode cX0_nightsWith 23 = .ok (.aload_n 0, 1) := by decide +kernel
theorem dX0_nightsWith_24 : decode cX0_nightsWith 24 = .ok (.getfield 11, 3) := by decide +kernel
theorem dX0_nightsWith_27 : decode cX0_nightsWith 27 = .ok (.iload_n 1, 1) := by decide +kernel
theorem dX0_nightsWith_28 : decode cX0_nightsWith 28 = .ok (.iconst 1, 1) := by decide +kernel
theorem dX0_nightsWith_29 : decode cX0_nightsWith 29 = .ok (.iadd, 1) := by decide +kernel
theorem dX0_nightsWith_30 : decode cX0_nightsWith 30 = .ok (.bipush 64, 2) := by decide +kernel
theorem dX0_nightsWith_32 : decode cX0_nightsWith 32 = .ok (.imul, 1) := by decide +kernel
theorem dX0_nightsWith_33 : decode cX0_nightsWith 33 = .ok (.iload_n 2, 1) := by decide +kernel
theorem dX0_nightsWith_34 : decode cX0_nightsWith 34 = .ok (.iadd, 1) := by decide +kernel
theorem dX0_nightsWith_35 : decode cX0_nightsWith 35 = .ok (.aload_n 0, 1) := by decide +kernel
theorem dX0_nightsWith_36 : decode cX0_nightsWith 36 = .ok (.getfield 15, 3) := by decide +kernel
theorem dX0_nightsWith_39 : decode cX0_nightsWith 39 = .ok (.iload_n 1, 1) := by decide +kernel
theorem dX0_nightsWith_40 : decode cX0_nightsWith 40 = .ok (.iaload, 1) := by decide +kernel
theorem dX0_nightsWith_41 : decode cX0_nightsWith 41 = .ok (.isub, 1) := by decide +kernel
theorem dX0_nightsWith_42 : decode cX0_nightsWith 42 = .ok (.iaload, 1) := by decide +kernel
theorem dX0_nightsWith_43 : decode cX0_nightsWith 43 = .ok (.iconst 1, 1) := by decide +kernel
theorem dX0_nightsWith_44 : decode cX0_nightsWith 44 = .ok (.iadd, 1) := by decide +kernel
theorem dX0_nightsWith_45 : decode cX0_nightsWith 45 = .ok (.ireturn, 1) := by decide +kernel
def wX0_nightsWith (a0 : Int32) (a1 : Int32) (σ : St) (Q : Int32 → St → Prop) : Prop :=
  (vp_in a0 60 ∧ (((σ.1 17 a0.toNatClampNeg) = 0 → Q 1000 σ) ∧ (¬ (σ.1 17 a0.toNatClampNeg) = 0 → (vp_in a0 60 ∧ (((σ.1 17 a0.toNatClampNeg) ≤ a1 → (vp_in a0 60 ∧ (vp_in ((((a0 + 1) * 64) + a1) - (σ.1 17 a0.toNatClampNeg)) 3904 ∧ Q ((σ.1 16 ((((a0 + 1) * 64) + a1) - (σ.1 17 a0.toNatClampNeg)).toNatClampNeg) + 1) σ))) ∧ (¬ (σ.1 17 a0.toNatClampNeg) ≤ a1 → Q 1000 σ))))))
set_option maxHeartbeats 4000000 in
set_option maxRecDepth 100000 in
theorem tX0_nightsWith_E {Q : Int32 → St → Prop} (M : MC p s m args meth c cX0_nightsWith 3 (some .int) RX0 Y) (hN : yN Y = 108) (a0 : Int32) (a1 : Int32) (σ : St) (H : Heap) (locs : List Loc) (ls : Array Slot) (hw : WS Y (AD Y) s.heap σ H locs) (hl : lv_has ls 3 [(0, .ref (yA Y 15)), (1, .int a0), (2, .int a1)]) (h : wX0_nightsWith a0 a1 σ Q) : W p l e { frames := 0, cells := 0, slots := 0, locals := 0 } s m args below meth c H locs 0 0 (MQ below (QI Y Q) args s 0 0 (AD Y)) (F0 m 0 ls []) := by
  obtain ⟨hx, hb, hr, hml, hown, hlk, hT, hK, hB⟩ := id M
  unfold wX0_nightsWith at h
  refine lv_aload_n hx hb dX0_nightsWith_0 rfl (lv_at hl 0 rfl) ?_
  refine q_get (v := .ref (yA Y 17)) M hw (ob_15 hN) rfl inq_0 1 (by decide) tw_166 rfl dX0_nightsWith_1 ?_
  refine lv_iload_n hx hb dX0_nightsWith_4 rfl (lv_at hl 1 rfl) ?_
  have c1 := h.1
  have h := h.2
  refine q_ild M hw (ar_17 hN) c1 dX0_nightsWith_5 ?_
  refine lv_if_eq (tgt := 19) hx hb dX0_nightsWith_6 (by decide) (fun c2 => ?_) (fun c2 => ?_)
  · have h := h.1 c2
    refine lv_sipush (v := 1000) hx hb dX0_nightsWith_19 (by decide) ?_
    exact q_iret M hw h dX0_nightsWith_22
  · have h := h.2 c2
    refine lv_aload_n hx hb dX0_nightsWith_9 rfl (lv_at hl 0 rfl) ?_
    refine q_get (v := .ref (yA Y 17)) M hw (ob_15 hN) rfl inq_0 1 (by decide) tw_166 rfl dX0_nightsWith_10 ?_
    refine lv_iload_n hx hb dX0_nightsWith_13 rfl (lv_at hl 1 rfl) ?_
    have c3 := h.1
    have h := h.2
    refine q_ild M hw (ar_17 hN) c3 dX0_nightsWith_14 ?_
    refine lv_iload_n hx hb dX0_nightsWith_15 rfl (lv_at hl 2 rfl) ?_
    refine lv_icmp_le (tgt := 23) hx hb dX0_nightsWith_16 (by decide) (fun c4 => ?_) (fun c4 => ?_)
    · have h := h.1 c4
      refine lv_aload_n hx hb dX0_nightsWith_23 rfl (lv_at hl 0 rfl) ?_
      refine q_get (v := .ref (yA Y 16)) M hw (ob_15 hN) rfl inq_0 0 (by decide) tw_165 rfl dX0_nightsWith_24 ?_
      refine lv_iload_n hx hb dX0_nightsWith_27 rfl (lv_at hl 1 rfl) ?_
      refine lv_iconst (v := 1) hx hb dX0_nightsWith_28 (by decide) ?_
      refine lv_iadd hx hb dX0_nightsWith_29 ?_
      refine lv_bipush (v := 64) hx hb dX0_nightsWith_30 (by decide) ?_
      refine lv_imul hx hb dX0_nightsWith_32 ?_
      refine lv_iload_n hx hb dX0_nightsWith_33 rfl (lv_at hl 2 rfl) ?_
      refine lv_iadd hx hb dX0_nightsWith_34 ?_
      refine lv_aload_n hx hb dX0_nightsWith_35 rfl (lv_at hl 0 rfl) ?_
      refine q_get (v := .ref (yA Y 17)) M hw (ob_15 hN) rfl inq_0 1 (by decide) tw_166 rfl dX0_nightsWith_36 ?_
      refine lv_iload_n hx hb dX0_nightsWith_39 rfl (lv_at hl 1 rfl) ?_
      have c5 := h.1
      have h := h.2
      refine q_ild M hw (ar_17 hN) c5 dX0_nightsWith_40 ?_
      refine lv_isub hx hb dX0_nightsWith_41 ?_
      have c6 := h.1
      have h := h.2
      refine q_ild M hw (ar_16 hN) c6 dX0_nightsWith_42 ?_
      refine lv_iconst (v := 1) hx hb dX0_nightsWith_43 (by decide) ?_
      refine lv_iadd hx hb dX0_nightsWith_44 ?_
      exact q_iret M hw h dX0_nightsWith_45
    · have h := h.2 c4
      refine lv_sipush (v := 1000) hx hb dX0_nightsWith_19 (by decide) ?_
      exact q_iret M hw h dX0_nightsWith_22
set_option maxRecDepth 100000 in
theorem ctX0_nightsWith (l : Launch) {Y : LY} (hB : YB Y) (hN : yN Y = 108) (a0 : Int32) (a1 : Int32) (σ : St) (Q : Int32 → St → Prop) (h : wX0_nightsWith a0 a1 σ Q) : CT l yX0_nightsWith (Cond.code yX0_nightsWith cX0_nightsWith 3 (some .int)) { frames := 0, cells := 0, slots := 0, locals := 0 } Y [.ref (yA Y 15), .int a0, .int a1] σ (QI Y Q) :=
  q_ent hB (by decide +kernel) (Nat.le_of_ble_eq_true rfl) (fun p e s m below meth c ls M hw hl => tX0_nightsWith_E M hN a0 a1 σ _ _ ls hw hl h)
theorem mbX0_nightsWith : MB RX0 yX0_nightsWith cX0_nightsWith 2 3 (some .int) := ⟨tw_506, tw_19, tw_52, tw_507, by decide +kernel⟩
end
section
variable {p : Program} {l : Launch} {e : Env} {s : State} {m : MethodId} {args : Array Value} {below : List Frame} {meth : Method} {c : Code} {Y : LY}
theorem dX3_moon_0 : decode cX3_moon 0 = .ok (.iload_n 1, 1) := by decide +kernel
theorem dX3_moon_1 : decode cX3_moon 1 = .ok (.aload_n 0, 1) := by decide +kernel
theorem dX3_moon_2 : decode cX3_moon 2 = .ok (.getfield 38, 3) := by decide +kernel
theorem dX3_moon_5 : decode cX3_moon 5 = .ok (.iadd, 1) := by decide +kernel
theorem dX3_moon_6 : decode cX3_moon 6 = .ok (.bipush 16, 2) := by decide +kernel
theorem dX3_moon_8 : decode cX3_moon 8 = .ok (.irem, 1) := by decide +kernel
theorem dX3_moon_9 : decode cX3_moon 9 = .ok (.istore_n 2, 1) := by decide +kernel
theorem dX3_moon_10 : decode cX3_moon 10 = .ok (.iload_n 2, 1) := by decide +kernel
theorem dX3_moon_11 : decode cX3_moon 11 = .ok (.bipush 8, 2) := by decide +kernel
theorem dX3_moon_13 : decode cX3_moon 13 = .ok (.if_icmp .gt 9, 3) := by decide +kernel
theorem dX3_moon_16 : decode cX3_moon 16 = .ok (.iload_n 2, 1) := by decide +kernel
theorem dX3_moon_17 : decode cX3_moon 17 = .ok (.iconst 2, 1) := by decide +kernel
theorem dX3_moon_18 : decode cX3_moon 18 = .ok (.idiv, 1) := by decide +kernel
theorem dX3_moon_19 : decode cX3_moon 19 = .ok (.goto 9, 3) := by decide +kernel
theorem dX3_moon_22 : decode cX3_moon 22 = .ok (.bipush 16, 2) := by decide +kernel
theorem dX3_moon_24 : decode cX3_moon 24 = .ok (.iload_n 2, 1) := by decide +kernel
theorem dX3_moon_25 : decode cX3_moon 25 = .ok (.isub, 1) := by decide +kernel
theorem dX3_moon_26 : decode cX3_moon 26 = .ok (.iconst 2, 1) := by decide +kernel
theorem dX3_moon_27 : decode cX3_moon 27 = .ok (.idiv, 1) := by decide +kernel
theorem dX3_moon_28 : decode cX3_moon 28 = .ok (.ireturn, 1) := by decide +kernel
def wX3_moon (pq : Nat) (a0 : Int32) (σ : St) (Q : Int32 → St → Prop) : Prop :=
  (∀ x1 : Int32, x1 = ((a0 + (σ.1 pq 7)) - (a0 + (σ.1 pq 7)) / 16 * 16) → ((8 < x1 → Q ((16 - x1) / 2) σ) ∧ (¬ 8 < x1 → Q (x1 / 2) σ)))
set_option maxHeartbeats 4000000 in
set_option maxRecDepth 100000 in
theorem tX3_moon_E {pq : Nat} {Q : Int32 → St → Prop} (M : MC p s m args meth c cX3_moon 3 (some .int) RX3 Y) (hh_pq : PH Y pq) (a0 : Int32) (σ : St) (H : Heap) (locs : List Loc) (ls : Array Slot) (hw : WS Y (AD Y) s.heap σ H locs) (hl : lv_has ls 3 [(0, .ref (yA Y pq)), (1, .int a0)]) (h : wX3_moon pq a0 σ Q) : W p l e { frames := 0, cells := 0, slots := 0, locals := 0 } s m args below meth c H locs 0 0 (MQ below (QI Y Q) args s 0 0 (AD Y)) (F0 m 0 ls []) := by
  obtain ⟨hx, hb, hr, hml, hown, hlk, hT, hK, hB⟩ := id M
  unfold wX3_moon at h
  refine lv_iload_n hx hb dX3_moon_0 rfl (lv_at hl 1 rfl) ?_
  refine lv_aload_n hx hb dX3_moon_1 rfl (lv_at hl 0 rfl) ?_
  refine q_get (v := .int (σ.1 pq 7)) M hw (ph_ob hh_pq) rfl inq_3 7 (by decide) tw_123 rfl dX3_moon_2 ?_
  refine lv_iadd hx hb dX3_moon_5 ?_
  refine lv_bipush (v := 16) hx hb dX3_moon_6 (by decide) ?_
  refine lv_irem hx hb dX3_moon_8 (by decide) ?_
  refine lv_topi (fun x1 ex1 => ?_)
  have h := h x1 ex1
  refine lv_istore_n (lv' := [(2, .int x1), (0, .ref (yA Y pq)), (1, .int a0)]) hx hb dX3_moon_9 rfl hl (by decide) rfl (fun ls hl => ?_)
  refine lv_iload_n hx hb dX3_moon_10 rfl (lv_at hl 0 rfl) ?_
  refine lv_bipush (v := 8) hx hb dX3_moon_11 (by decide) ?_
  refine lv_icmp_gt (tgt := 22) hx hb dX3_moon_13 (by decide) (fun c2 => ?_) (fun c2 => ?_)
  · have h := h.1 c2
    refine lv_bipush (v := 16) hx hb dX3_moon_22 (by decide) ?_
    refine lv_iload_n hx hb dX3_moon_24 rfl (lv_at hl 0 rfl) ?_
    refine lv_isub hx hb dX3_moon_25 ?_
    refine lv_iconst (v := 2) hx hb dX3_moon_26 (by decide) ?_
    refine lv_idiv hx hb dX3_moon_27 (by decide) ?_
    exact q_iret M hw h dX3_moon_28
  · have h := h.2 c2
    refine lv_iload_n hx hb dX3_moon_16 rfl (lv_at hl 0 rfl) ?_
    refine lv_iconst (v := 2) hx hb dX3_moon_17 (by decide) ?_
    refine lv_idiv hx hb dX3_moon_18 (by decide) ?_
    refine lv_goto (tgt := 28) hx hb dX3_moon_19 (by decide) ?_
    exact q_iret M hw h dX3_moon_28
set_option maxRecDepth 100000 in
theorem ctX3_moon (l : Launch) {Y : LY} {pq : Nat} (hB : YB Y) (hh_pq : PH Y pq) (a0 : Int32) (σ : St) (Q : Int32 → St → Prop) (h : wX3_moon pq a0 σ Q) : CT l yX3_moon (Cond.code yX3_moon cX3_moon 3 (some .int)) { frames := 0, cells := 0, slots := 0, locals := 0 } Y [.ref (yA Y pq), .int a0] σ (QI Y Q) :=
  q_ent hB (by decide +kernel) (Nat.le_of_ble_eq_true rfl) (fun p e s m below meth c ls M hw hl => tX3_moon_E M hh_pq a0 σ _ _ ls hw hl h)
theorem mbX3_moon : MB RX3 yX3_moon cX3_moon 1 3 (some .int) := ⟨tw_395, tw_396, tw_51, tw_397, by decide +kernel⟩
end
section
variable {p : Program} {l : Launch} {e : Env} {s : State} {m : MethodId} {args : Array Value} {below : List Frame} {meth : Method} {c : Code} {Y : LY}
theorem dX0_draw_0 : decode cX0_draw 0 = .ok (.aload_n 0, 1) := by decide +kernel
theorem dX0_draw_1 : decode cX0_draw 1 = .ok (.iconst 1, 1) := by decide +kernel
theorem dX0_draw_2 : decode cX0_draw 2 = .ok (.putfield 18, 3) := by decide +kernel
theorem dX0_draw_5 : decode cX0_draw 5 = .ok (.aload_n 0, 1) := by decide +kernel
theorem dX0_draw_6 : decode cX0_draw 6 = .ok (.aload_n 1, 1) := by decide +kernel
theorem dX0_draw_7 : decode cX0_draw 7 = .ok (.getfield 22, 3) := by decide +kernel
theorem dX0_draw_10 : decode cX0_draw 10 = .ok (.putfield 28, 3) := by decide +kernel
theorem dX0_draw_13 : decode cX0_draw 13 = .ok (.aload_n 0, 1) := by decide +kernel
theorem dX0_draw_14 : decode cX0_draw 14 = .ok (.getfield 28, 3) := by decide +kernel
theorem dX0_draw_17 : decode cX0_draw 17 = .ok (.bipush 64, 2) := by decide +kernel
theorem dX0_draw_19 : decode cX0_draw 19 = .ok (.imul, 1) := by decide +kernel
theorem dX0_draw_20 : decode cX0_draw 20 = .ok (.istore_n 2, 1) := by decide +kernel
theorem dX0_draw_21 : decode cX0_draw 21 = .ok (.iconst 0, 1) := by decide +kernel
theorem dX0_draw_22 : decode cX0_draw 22 = .ok (.istore_n 3, 1) := by decide +kernel
theorem dX0_draw_23 : decode cX0_draw 23 = .ok (.iload_n 3, 1) := by decide +kernel
theorem dX0_draw_24 : decode cX0_draw 24 = .ok (.bipush 64, 2) := by decide +kernel
theorem dX0_draw_26 : decode cX0_draw 26 = .ok (.if_icmp .ge 28, 3) := by decide +kernel
theorem dX0_draw_29 : decode cX0_draw 29 = .ok (.aload_n 0, 1) := by decide +kernel
theorem dX0_draw_30 : decode cX0_draw 30 = .ok (.getfield 11, 3) := by decide +kernel
theorem dX0_draw_33 : decode cX0_draw 33 = .ok (.iload_n 2, 1) := by decide +kernel
theorem dX0_draw_34 : decode cX0_draw 34 = .ok (.iload_n 3, 1) := by decide +kernel
theorem dX0_draw_35 : decode cX0_draw 35 = .ok (.iadd, 1) := by decide +kernel
theorem dX0_draw_36 : decode cX0_draw 36 = .ok (.iload_n 3, 1) := by decide +kernel
theorem dX0_draw_37 : decode cX0_draw 37 = .ok (.ifCond .ne 7, 3) := by decide +kernel
theorem dX0_draw_40 : decode cX0_draw 40 = .ok (.iconst 0, 1) := by decide +kernel
theorem dX0_draw_41 : decode cX0_draw 41 = .ok (.goto 6, 3) := by decide +kernel
theorem dX0_draw_44 : decode cX0_draw 44 = .ok (.sipush 1000, 3) := by decide +kernel
theorem dX0_draw_47 : decode cX0_draw 47 = .ok (.iastore, 1) := by decide +kernel
theorem dX0_draw_48 : decode cX0_draw 48 = .ok (.iinc 3 1, 3) := by decide +kernel
theorem dX0_draw_51 : decode cX0_draw 51 = .ok (.goto (-28), 3) := by decide +kernel
theorem dX0_draw_54 : decode cX0_draw 54 = .ok (.aload_n 0, 1) := by decide +kernel
theorem dX0_draw_55 : decode cX0_draw 55 = .ok (.getfield 28, 3) := by decide +kernel
theorem dX0_draw_58 : decode cX0_draw 58 = .ok (.iconst 1, 1) := by decide +kernel
theorem dX0_draw_59 : decode cX0_draw 59 = .ok (.isub, 1) := by decide +kernel
theorem dX0_draw_60 : decode cX0_draw 60 = .ok (.istore_n 3, 1) := by decide +kernel
theorem dX0_draw_61 : decode cX0_draw 61 = .ok (.iload_n 3, 1) := by decide +kernel
theorem dX0_draw_62 : decode cX0_draw 62 = .ok (.ifCond .lt 92, 3) := by decide +kernel
theorem dX0_draw_65 : decode cX0_draw 65 = .ok (.aload_n 0, 1) := by decide +kernel
theorem dX0_draw_66 : decode cX0_draw 66 = .ok (.getfield 15, 3) := by decide +kernel
theorem dX0_draw_69 : decode cX0_draw 69 = .ok (.iload_n 3, 1) := by decide +kernel
theorem dX0_draw_70 : decode cX0_draw 70 = .ok (.aload_n 1, 1) := by decide +kernel
theorem dX0_draw_71 : decode cX0_draw 71 = .ok (.getfield 29, 3) := by decide +kernel
theorem dX0_draw_74 : decode cX0_draw 74 = .ok (.iload_n 3, 1) := by decide +kernel
theorem dX0_draw_75 : decode cX0_draw 75 = .ok (.baload, 1) := by decide +kernel
theorem dX0_draw_76 : decode cX0_draw 76 = .ok (.ifCond .eq 7, 3) := by decide +kernel
theorem dX0_draw_79 : decode cX0_draw 79 = .ok (.iconst 0, 1) := by decide +kernel
theorem dX0_draw_80 : decode cX0_draw 80 = .ok (.goto 8, 3) := by decide +kernel
theorem dX0_draw_83 : decode cX0_draw 83 = .ok (.aload_n 1, 1) := by decide +kernel
theorem dX0_draw_84 : decode cX0_draw 84 = .ok (.iload_n 3, 1) := by decide +kernel
theorem dX0_draw_85 : decode cX0_draw 85 = .ok (.invokevirtual 33, 3) := by decide +kernel
theorem dX0_draw_88 : decode cX0_draw 88 = .ok (.iastore, 1) := by decide +kernel
theorem dX0_draw_89 : decode cX0_draw 89 = .ok (.iload_n 3, 1) := by decide +kernel
theorem dX0_draw_90 : decode cX0_draw 90 = .ok (.bipush 64, 2) := by decide +kernel
theorem dX0_draw_92 : decode cX0_draw 92 = .ok (.imul, 1) := by decide +kernel
theorem dX0_draw_93 : decode cX0_draw 93 = .ok (.istore 4, 2) := by decide +kernel
theorem dX0_draw_95 : decode cX0_draw 95 = .ok (.iconst 0, 1) := by decide +kernel
theorem dX0_draw_96 : decode cX0_draw 96 = .ok (.istore 5, 2) := by decide +kernel
theorem dX0_draw_98 : decode cX0_draw 98 = .ok (.iload 5, 2) := by decide +kernel
theorem dX0_draw_100 : decode cX0_draw 100 = .ok (.bipush 64, 2) := by decide +kernel
theorem dX0_draw_102 : decode cX0_draw 102 = .ok (.if_icmp .ge 46, 3) := by decide +kernel
theorem dX0_draw_105 : decode cX0_draw 105 = .ok (.aload_n 0, 1) := by decide +kernel
theorem dX0_draw_106 : decode cX0_draw 106 = .ok (.getfield 11, 3) := by decide +kernel
theorem dX0_draw_109 : decode cX0_draw 109 = .ok (.iload 4, 2) := by decide +kernel
theorem dX0_draw_111 : decode cX0_draw 111 = .ok (.bipush 64, 2) := by decide +kernel
theorem dX0_draw_113 : decode cX0_draw 113 = .ok (.iadd, 1) := by decide +kernel
theorem dX0_draw_114 : decode cX0_draw 114 = .ok (.iload 5, 2) := by decide +kernel
theorem dX0_draw_116 : decode cX0_draw 116 = .ok (.iadd, 1) := by decide +kernel
theorem dX0_draw_117 : decode cX0_draw 117 = .ok (.iaload, 1) := by decide +kernel
theorem dX0_draw_118 : decode cX0_draw 118 = .ok (.istore 6, 2) := by decide +kernel
theorem dX0_draw_120 : decode cX0_draw 120 = .ok (.aload_n 0, 1) := by decide +kernel
theorem dX0_draw_121 : decode cX0_draw 121 = .ok (.getfield 11, 3) := by decide +kernel
theorem dX0_draw_124 : decode cX0_draw 124 = .ok (.iload 4, 2) := by decide +kernel
theorem dX0_draw_126 : decode cX0_draw 126 = .ok (.iload 5, 2) := by decide +kernel
theorem dX0_draw_128 : decode cX0_draw 128 = .ok (.iadd, 1) := by decide +kernel
theorem dX0_draw_129 : decode cX0_draw 129 = .ok (.iload 6, 2) := by decide +kernel
theorem dX0_draw_131 : decode cX0_draw 131 = .ok (.aload_n 0, 1) := by decide +kernel
theorem dX0_draw_132 : decode cX0_draw 132 = .ok (.iload_n 3, 1) := by decide +kernel
theorem dX0_draw_133 : decode cX0_draw 133 = .ok (.iload 5, 2) := by decide +kernel
theorem dX0_draw_135 : decode cX0_draw 135 = .ok (.invokevirtual 37, 3) := by decide +kernel
theorem dX0_draw_138 : decode cX0_draw 138 = .ok (.invokestatic 41, 3) := by decide +kernel
theorem dX0_draw_141 : decode cX0_draw 141 = .ok (.iastore, 1) := by decide +kernel
theorem dX0_draw_142 : decode cX0_draw 142 = .ok (.iinc 5 1, 3) := by decide +kernel
theorem dX0_draw_145 : decode cX0_draw 145 = .ok (.goto (-47), 3) := by decide +kernel
theorem dX0_draw_148 : decode cX0_draw 148 = .ok (.iinc 3 (-1), 3) := by decide +kernel
theorem dX0_draw_151 : decode cX0_draw 151 = .ok (.goto (-90), 3) := by decide +kernel
theorem dX0_draw_154 : decode cX0_draw 154 = .ok (.return_, 1) := by decide +kernel
def bX0_draw_47 (R_23 : Int32 × Int32 × St → Prop) (y2 : Int32) (y3 : Int32) (z0 : Int32) (z1 : Int32) (σ : St) (Q : St → Prop) : Prop :=
  (vp_in z1 3904 ∧ ∀ σ2 : St, σ2 = up σ 16 z1.toNatClampNeg z0 → (∀ x3 : Int32, x3 = y3 + 1 → R_23 (y2, x3, σ2)))
set_option maxHeartbeats 4000000 in
set_option maxRecDepth 100000 in
theorem tX0_draw_47 {R_23 : Int32 × Int32 × St → Prop} {Q : St → Prop} (M : MC p s m args meth c cX0_draw 7 none RX0 Y) (hN : yN Y = 108) (hR_23 : ∀ (y2 y3 : Int32) (σ : St) (H : Heap) (locs : List Loc) (ls : Array Slot), WS Y (AD Y) s.heap σ H locs → lv_has ls 7 [(0, .ref (yA Y 15)), (1, .ref (yA Y 3)), (2, .int y2), (3, .int y3)] → R_23 (y2, y3, σ) → W p l e { frames := 1, cells := 0, slots := 0, locals := 22 } s m args below meth c H locs 0 0 (MQ below (QV Y Q) args s 0 0 (AD Y)) (F0 m 23 ls [])) (y2 : Int32) (y3 : Int32) (z0 : Int32) (z1 : Int32) (σ : St) (H : Heap) (locs : List Loc) (ls : Array Slot) (hw : WS Y (AD Y) s.heap σ H locs) (hl : lv_has ls 7 [(0, .ref (yA Y 15)), (1, .ref (yA Y 3)), (2, .int y2), (3, .int y3)]) (h : bX0_draw_47 R_23 y2 y3 z0 z1 σ Q) : W p l e { frames := 1, cells := 0, slots := 0, locals := 22 } s m args below meth c H locs 0 0 (MQ below (QV Y Q) args s 0 0 (AD Y)) (F0 m 47 ls [.int z0, .int z1, .ref (yA Y 16)]) := by
  obtain ⟨hx, hb, hr, hml, hown, hlk, hT, hK, hB⟩ := id M
  unfold bX0_draw_47 at h
  have c1 := h.1
  refine q_ist M hw (ar_16 hN) c1 dX0_draw_47 (fun σ2 H locs es hw => ?_)
  have h := h.2 σ2 es
  obtain ⟨x3, ex3⟩ : ∃ y : Int32, y = y3 + 1 := ⟨_, rfl⟩
  have h := h x3 ex3
  refine lv_iinc (v := x3) (lv' := [(3, .int x3), (0, .ref (yA Y 15)), (1, .ref (yA Y 3)), (2, .int y2)]) hx hb dX0_draw_48 hl (k := 3) rfl (by rw [ex3]; rfl) (by decide) rfl (fun ls hl => ?_)
  refine lv_goto (tgt := 23) hx hb dX0_draw_51 (by decide) ?_
  exact hR_23 y2 x3 σ2 _ _ _ hw (lv_sub hl [1, 2, 3, 0] rfl) h
def bX0_draw_98 (R_61 : Int32 × St → Prop) (R_98 : Int32 × Int32 × Int32 × St → Prop) (y3 : Int32) (y4 : Int32) (y5 : Int32) (σ : St) (Q : St → Prop) : Prop :=
  ((64 ≤ y5 → (∀ x2 : Int32, x2 = y3 + (-1) → R_61 (x2, σ))) ∧ (¬ 64 ≤ y5 → (vp_in ((y4 + 64) + y5) 3904 ∧ (∀ x4 : Int32, x4 = (σ.1 16 ((y4 + 64) + y5).toNatClampNeg) → wX0_nightsWith y3 y5 σ (fun r6 σ5 => (∀ x7 : Int32, x7 = (if r6 < x4 then r6 else x4) → (vp_in (y4 + y5) 3904 ∧ ∀ σ9 : St, σ9 = up σ5 16 (y4 + y5).toNatClampNeg x7 → (∀ x10 : Int32, x10 = y5 + 1 → R_98 (y3, y4, x10, σ9)))))))))
set_option maxHeartbeats 4000000 in
set_option maxRecDepth 100000 in
theorem tX0_draw_98 {R_61 : Int32 × St → Prop} {R_98 : Int32 × Int32 × Int32 × St → Prop} {Q : St → Prop} (M : MC p s m args meth c cX0_draw 7 none RX0 Y) (hN : yN Y = 108) (hR_61 : ∀ (y3 : Int32) (σ : St) (H : Heap) (locs : List Loc) (ls : Array Slot), WS Y (AD Y) s.heap σ H locs → lv_has ls 7 [(0, .ref (yA Y 15)), (1, .ref (yA Y 3)), (3, .int y3)] → R_61 (y3, σ) → W p l e { frames := 1, cells := 0, slots := 0, locals := 22 } s m args below meth c H locs 0 0 (MQ below (QV Y Q) args s 0 0 (AD Y)) (F0 m 61 ls [])) (hR_98 : ∀ (y3 y4 y5 : Int32) (σ : St) (H : Heap) (locs : List Loc) (ls : Array Slot), WS Y (AD Y) s.heap σ H locs → lv_has ls 7 [(0, .ref (yA Y 15)), (1, .ref (yA Y 3)), (3, .int y3), (4, .int y4), (5, .int y5)] → R_98 (y3, y4, y5, σ) → W p l e { frames := 1, cells := 0, slots := 0, locals := 22 } s m args below meth c H locs 0 0 (MQ below (QV Y Q) args s 0 0 (AD Y)) (F0 m 98 ls [])) (y3 : Int32) (y4 : Int32) (y5 : Int32) (σ : St) (H : Heap) (locs : List Loc) (ls : Array Slot) (hw : WS Y (AD Y) s.heap σ H locs) (hl : lv_has ls 7 [(0, .ref (yA Y 15)), (1, .ref (yA Y 3)), (3, .int y3), (4, .int y4), (5, .int y5)]) (h : bX0_draw_98 R_61 R_98 y3 y4 y5 σ Q) : W p l e { frames := 1, cells := 0, slots := 0, locals := 22 } s m args below meth c H locs 0 0 (MQ below (QV Y Q) args s 0 0 (AD Y)) (F0 m 98 ls []) := by
  obtain ⟨hx, hb, hr, hml, hown, hlk, hT, hK, hB⟩ := id M
  unfold bX0_draw_98 at h
  refine lv_iload hx hb dX0_draw_98 (lv_at hl 4 rfl) ?_
  refine lv_bipush (v := 64) hx hb dX0_draw_100 (by decide) ?_
  refine lv_icmp_ge (tgt := 148) hx hb dX0_draw_102 (by decide) (fun c1 => ?_) (fun c1 => ?_)
  · have h := h.1 c1
    obtain ⟨x2, ex2⟩ : ∃ y : Int32, y = y3 + (-1) := ⟨_, rfl⟩
    have h := h x2 ex2
    refine lv_iinc (v := x2) (lv' := [(3, .int x2), (0, .ref (yA Y 15)), (1, .ref (yA Y 3)), (4, .int y4), (5, .int y5)]) hx hb dX0_draw_148 hl (k := 2) rfl (by rw [ex2]; rfl) (by decide) rfl (fun ls hl => ?_)
    refine lv_goto (tgt := 61) hx hb dX0_draw_151 (by decide) ?_
    exact hR_61 x2 σ _ _ _ hw (lv_sub hl [1, 2, 0] rfl) h
  · have h := h.2 c1
    refine lv_aload_n hx hb dX0_draw_105 rfl (lv_at hl 0 rfl) ?_
    refine q_get (v := .ref (yA Y 16)) M hw (ob_15 hN) rfl inq_0 0 (by decide) tw_165 rfl dX0_draw_106 ?_
    refine lv_iload hx hb dX0_draw_109 (lv_at hl 3 rfl) ?_
    refine lv_bipush (v := 64) hx hb dX0_draw_111 (by decide) ?_
    refine lv_iadd hx hb dX0_draw_113 ?_
    refine lv_iload hx hb dX0_draw_114 (lv_at hl 4 rfl) ?_
    refine lv_iadd hx hb dX0_draw_116 ?_
    have c3 := h.1
    have h := h.2
    refine q_ild M hw (ar_16 hN) c3 dX0_draw_117 ?_
    refine lv_topi (fun x4 ex4 => ?_)
    have h := h x4 ex4
    refine lv_istore (lv' := [(6, .int x4), (0, .ref (yA Y 15)), (1, .ref (yA Y 3)), (3, .int y3), (4, .int y4), (5, .int y5)]) hx hb dX0_draw_118 hl (by decide) rfl (fun ls hl => ?_)
    refine lv_aload_n hx hb dX0_draw_120 rfl (lv_at hl 1 rfl) ?_
    refine q_get (v := .ref (yA Y 16)) M hw (ob_15 hN) rfl inq_0 0 (by decide) tw_165 rfl dX0_draw_121 ?_
    refine lv_iload hx hb dX0_draw_124 (lv_at hl 4 rfl) ?_
    refine lv_iload hx hb dX0_draw_126 (lv_at hl 5 rfl) ?_
    refine lv_iadd hx hb dX0_draw_128 ?_
    refine lv_iload hx hb dX0_draw_129 (lv_at hl 0 rfl) ?_
    refine lv_aload_n hx hb dX0_draw_131 rfl (lv_at hl 1 rfl) ?_
    refine lv_iload_n hx hb dX0_draw_132 rfl (lv_at hl 3 rfl) ?_
    refine lv_iload hx hb dX0_draw_133 (lv_at hl 5 rfl) ?_
    refine q_goI hw (q_runV (rest := [.int x4, .int (y4 + y5), .ref (yA Y 16)]) M hw (ctX0_nightsWith l hB hN y3 y5 σ _ h) mbX0_nightsWith (ob_15 hN) rfl tw_504 rfl hl.1 rfl (Nat.le_of_ble_eq_true rfl) ⟨Nat.le_of_ble_eq_true rfl, Nat.le_of_ble_eq_true rfl⟩ ⟨Nat.le_refl _, Nat.le_refl _⟩ dX0_draw_135) (fun r6 σ5 H locs h hw => ?_)
    refine va_mmin hx hb (by rw [hl.1]; exact hml) hown (hT _ tw_508) (hT _ tw_433) (hT _ tw_57) (hT _ tw_434) (Nat.le_of_ble_eq_true rfl) (Nat.le_of_ble_eq_true rfl) (Nat.le_refl _) (Nat.le_refl _) dX0_draw_138 ?_
    refine lv_topi (fun x7 ex7 => ?_)
    have h := h x7 ex7
    have c8 := h.1
    refine q_ist M hw (ar_16 hN) c8 dX0_draw_141 (fun σ9 H locs es hw => ?_)
    have h := h.2 σ9 es
    obtain ⟨x10, ex10⟩ : ∃ y : Int32, y = y5 + 1 := ⟨_, rfl⟩
    have h := h x10 ex10
    refine lv_iinc (v := x10) (lv' := [(5, .int x10), (6, .int x4), (0, .ref (yA Y 15)), (1, .ref (yA Y 3)), (3, .int y3), (4, .int y4)]) hx hb dX0_draw_142 hl (k := 5) rfl (by rw [ex10]; rfl) (by decide) rfl (fun ls hl => ?_)
    refine lv_goto (tgt := 98) hx hb dX0_draw_145 (by decide) ?_
    exact hR_98 y3 y4 x10 σ9 _ _ _ hw (lv_sub hl [2, 3, 4, 5, 0] rfl) h
def lX0_draw_98 (R_61 : Int32 × St → Prop) (Q : St → Prop) : (Int32 × Int32 × Int32 × St → Prop) → Int32 × Int32 × Int32 × St → Prop := fun R a => bX0_draw_98 R_61 R a.1 a.2.1 a.2.2.1 a.2.2.2 Q
theorem tlX0_draw_98 {R_61 : Int32 × St → Prop} {Q : St → Prop} (M : MC p s m args meth c cX0_draw 7 none RX0 Y) (hN : yN Y = 108) (hR_61 : ∀ (y3 : Int32) (σ : St) (H : Heap) (locs : List Loc) (ls : Array Slot), WS Y (AD Y) s.heap σ H locs → lv_has ls 7 [(0, .ref (yA Y 15)), (1, .ref (yA Y 3)), (3, .int y3)] → R_61 (y3, σ) → W p l e { frames := 1, cells := 0, slots := 0, locals := 22 } s m args below meth c H locs 0 0 (MQ below (QV Y Q) args s 0 0 (AD Y)) (F0 m 61 ls [])) (n : Nat) : ∀ (y3 : Int32) (y4 : Int32) (y5 : Int32) (σ : St) (H : Heap) (locs : List Loc) (ls : Array Slot) (hw : WS Y (AD Y) s.heap σ H locs) (hl : lv_has ls 7 [(0, .ref (yA Y 15)), (1, .ref (yA Y 3)), (3, .int y3), (4, .int y4), (5, .int y5)]) (h : Lp (lX0_draw_98 R_61 Q) n (y3, y4, y5, σ)), W p l e { frames := 1, cells := 0, slots := 0, locals := 22 } s m args below meth c H locs 0 0 (MQ below (QV Y Q) args s 0 0 (AD Y)) (F0 m 98 ls []) := by
  induction n with
  | zero => intro y3 y4 y5 σ H locs ls hw hl h; exact h.elim
  | succ n ih =>
    intro y3 y4 y5 σ H locs ls hw hl h
    exact tX0_draw_98 M hN hR_61 ih y3 y4 y5 σ H locs ls hw hl h
def bX0_draw_88 (R_61 : Int32 × St → Prop) (y3 : Int32) (z0 : Int32) (z1 : Int32) (σ : St) (Q : St → Prop) : Prop :=
  (vp_in z1 60 ∧ ∀ σ2 : St, σ2 = up σ 17 z1.toNatClampNeg z0 → (∀ x3 : Int32, x3 = (y3 * 64) → ∃ n : Nat, Lp (lX0_draw_98 R_61 Q) n (y3, x3, 0, σ2)))
set_option maxHeartbeats 4000000 in
set_option maxRecDepth 100000 in
theorem tX0_draw_88 {R_61 : Int32 × St → Prop} {Q : St → Prop} (M : MC p s m args meth c cX0_draw 7 none RX0 Y) (hN : yN Y = 108) (hR_61 : ∀ (y3 : Int32) (σ : St) (H : Heap) (locs : List Loc) (ls : Array Slot), WS Y (AD Y) s.heap σ H locs → lv_has ls 7 [(0, .ref (yA Y 15)), (1, .ref (yA Y 3)), (3, .int y3)] → R_61 (y3, σ) → W p l e { frames := 1, cells := 0, slots := 0, locals := 22 } s m args below meth c H locs 0 0 (MQ below (QV Y Q) args s 0 0 (AD Y)) (F0 m 61 ls [])) (y3 : Int32) (z0 : Int32) (z1 : Int32) (σ : St) (H : Heap) (locs : List Loc) (ls : Array Slot) (hw : WS Y (AD Y) s.heap σ H locs) (hl : lv_has ls 7 [(0, .ref (yA Y 15)), (1, .ref (yA Y 3)), (3, .int y3)]) (h : bX0_draw_88 R_61 y3 z0 z1 σ Q) : W p l e { frames := 1, cells := 0, slots := 0, locals := 22 } s m args below meth c H locs 0 0 (MQ below (QV Y Q) args s 0 0 (AD Y)) (F0 m 88 ls [.int z0, .int z1, .ref (yA Y 17)]) := by
  obtain ⟨hx, hb, hr, hml, hown, hlk, hT, hK, hB⟩ := id M
  unfold bX0_draw_88 at h
  have c1 := h.1
  refine q_ist M hw (ar_17 hN) c1 dX0_draw_88 (fun σ2 H locs es hw => ?_)
  have h := h.2 σ2 es
  refine lv_iload_n hx hb dX0_draw_89 rfl (lv_at hl 2 rfl) ?_
  refine lv_bipush (v := 64) hx hb dX0_draw_90 (by decide) ?_
  refine lv_imul hx hb dX0_draw_92 ?_
  refine lv_topi (fun x3 ex3 => ?_)
  have h := h x3 ex3
  refine lv_istore (lv' := [(4, .int x3), (0, .ref (yA Y 15)), (1, .ref (yA Y 3)), (3, .int y3)]) hx hb dX0_draw_93 hl (by decide) rfl (fun ls hl => ?_)
  refine lv_iconst (v := 0) hx hb dX0_draw_95 (by decide) ?_
  refine lv_istore (lv' := [(5, .int 0), (4, .int x3), (0, .ref (yA Y 15)), (1, .ref (yA Y 3)), (3, .int y3)]) hx hb dX0_draw_96 hl (by decide) rfl (fun ls hl => ?_)
  obtain ⟨n, h⟩ := h
  exact tlX0_draw_98 M hN hR_61 n y3 x3 0 σ2 _ _ _ hw (lv_sub hl [2, 3, 4, 1, 0] rfl) h
def bX0_draw_61 (R_61 : Int32 × St → Prop) (y3 : Int32) (σ : St) (Q : St → Prop) : Prop :=
  ((y3 < 0 → Q σ) ∧ (¬ y3 < 0 → (vp_in y3 100 ∧ (((σ.1 8 y3.toNatClampNeg) = 0 → wX3_moon 3 y3 σ (fun r5 σ4 => bX0_draw_88 R_61 y3 r5 y3 σ4 Q)) ∧ (¬ (σ.1 8 y3.toNatClampNeg) = 0 → bX0_draw_88 R_61 y3 0 y3 σ Q)))))
set_option maxHeartbeats 4000000 in
set_option maxRecDepth 100000 in
theorem tX0_draw_61 {R_61 : Int32 × St → Prop} {Q : St → Prop} (M : MC p s m args meth c cX0_draw 7 none RX0 Y) (hN : yN Y = 108) (hR_61 : ∀ (y3 : Int32) (σ : St) (H : Heap) (locs : List Loc) (ls : Array Slot), WS Y (AD Y) s.heap σ H locs → lv_has ls 7 [(0, .ref (yA Y 15)), (1, .ref (yA Y 3)), (3, .int y3)] → R_61 (y3, σ) → W p l e { frames := 1, cells := 0, slots := 0, locals := 22 } s m args below meth c H locs 0 0 (MQ below (QV Y Q) args s 0 0 (AD Y)) (F0 m 61 ls [])) (y3 : Int32) (σ : St) (H : Heap) (locs : List Loc) (ls : Array Slot) (hw : WS Y (AD Y) s.heap σ H locs) (hl : lv_has ls 7 [(0, .ref (yA Y 15)), (1, .ref (yA Y 3)), (3, .int y3)]) (h : bX0_draw_61 R_61 y3 σ Q) : W p l e { frames := 1, cells := 0, slots := 0, locals := 22 } s m args below meth c H locs 0 0 (MQ below (QV Y Q) args s 0 0 (AD Y)) (F0 m 61 ls []) := by
  obtain ⟨hx, hb, hr, hml, hown, hlk, hT, hK, hB⟩ := id M
  unfold bX0_draw_61 at h
  refine lv_iload_n hx hb dX0_draw_61 rfl (lv_at hl 2 rfl) ?_
  refine lv_if_lt (tgt := 154) hx hb dX0_draw_62 (by decide) (fun c1 => ?_) (fun c1 => ?_)
  · have h := h.1 c1
    exact q_vret M hw h dX0_draw_154
  · have h := h.2 c1
    refine lv_aload_n hx hb dX0_draw_65 rfl (lv_at hl 0 rfl) ?_
    refine q_get (v := .ref (yA Y 17)) M hw (ob_15 hN) rfl inq_0 1 (by decide) tw_166 rfl dX0_draw_66 ?_
    refine lv_iload_n hx hb dX0_draw_69 rfl (lv_at hl 2 rfl) ?_
    refine lv_aload_n hx hb dX0_draw_70 rfl (lv_at hl 1 rfl) ?_
    refine q_get (v := .ref (yA Y 8)) M hw (ph_ob (ph_3 hN)) rfl inq_3 4 (by decide) tw_113 rfl dX0_draw_71 ?_
    refine lv_iload_n hx hb dX0_draw_74 rfl (lv_at hl 2 rfl) ?_
    have c2 := h.1
    have h := h.2
    refine q_zld M hw (ar_8 hN) c2 dX0_draw_75 ?_
    refine lv_if_eq (tgt := 83) hx hb dX0_draw_76 (by decide) (fun c3 => ?_) (fun c3 => ?_)
    · have h := h.1 c3
      refine lv_aload_n hx hb dX0_draw_83 rfl (lv_at hl 1 rfl) ?_
      refine lv_iload_n hx hb dX0_draw_84 rfl (lv_at hl 2 rfl) ?_
      refine q_goI hw (q_runV (rest := [.int y3, .ref (yA Y 17)]) M hw (ctX3_moon l hB (ph_3 hN) y3 σ _ h) mbX3_moon (ph_ob (ph_3 hN)) rfl tw_503 rfl hl.1 rfl (Nat.le_of_ble_eq_true rfl) ⟨Nat.le_of_ble_eq_true rfl, Nat.le_of_ble_eq_true rfl⟩ ⟨Nat.le_refl _, Nat.le_refl _⟩ dX0_draw_85) (fun r5 σ4 H locs h hw => ?_)
      exact tX0_draw_88 M hN hR_61 y3 r5 y3 σ4 _ _ _ hw (lv_sub hl [0, 1, 2] rfl) h
    · have h := h.2 c3
      refine lv_iconst (v := 0) hx hb dX0_draw_79 (by decide) ?_
      refine lv_goto (tgt := 88) hx hb dX0_draw_80 (by decide) ?_
      exact tX0_draw_88 M hN hR_61 y3 0 y3 σ _ _ _ hw (lv_sub hl [0, 1, 2] rfl) h
def lX0_draw_61 (Q : St → Prop) : (Int32 × St → Prop) → Int32 × St → Prop := fun R a => bX0_draw_61 R a.1 a.2 Q
theorem tlX0_draw_61 {Q : St → Prop} (M : MC p s m args meth c cX0_draw 7 none RX0 Y) (hN : yN Y = 108) (n : Nat) : ∀ (y3 : Int32) (σ : St) (H : Heap) (locs : List Loc) (ls : Array Slot) (hw : WS Y (AD Y) s.heap σ H locs) (hl : lv_has ls 7 [(0, .ref (yA Y 15)), (1, .ref (yA Y 3)), (3, .int y3)]) (h : Lp (lX0_draw_61 Q) n (y3, σ)), W p l e { frames := 1, cells := 0, slots := 0, locals := 22 } s m args below meth c H locs 0 0 (MQ below (QV Y Q) args s 0 0 (AD Y)) (F0 m 61 ls []) := by
  induction n with
  | zero => intro y3 σ H locs ls hw hl h; exact h.elim
  | succ n ih =>
    intro y3 σ H locs ls hw hl h
    exact tX0_draw_61 M hN ih y3 σ H locs ls hw hl h
def bX0_draw_23 (R_23 : Int32 × Int32 × St → Prop) (y2 : Int32) (y3 : Int32) (σ : St) (Q : St → Prop) : Prop :=
  ((64 ≤ y3 → (∀ x2 : Int32, x2 = ((σ.1 15 2) - 1) → ∃ n : Nat, Lp (lX0_draw_61 Q) n (x2, σ))) ∧ (¬ 64 ≤ y3 → ((y3 = 0 → bX0_draw_47 R_23 y2 y3 0 (y2 + y3) σ Q) ∧ (¬ y3 = 0 → bX0_draw_47 R_23 y2 y3 1000 (y2 + y3) σ Q))))
set_option maxHeartbeats 4000000 in
set_option maxRecDepth 100000 in
theorem tX0_draw_23 {R_23 : Int32 × Int32 × St → Prop} {Q : St → Prop} (M : MC p s m args meth c cX0_draw 7 none RX0 Y) (hN : yN Y = 108) (hR_23 : ∀ (y2 y3 : Int32) (σ : St) (H : Heap) (locs : List Loc) (ls : Array Slot), WS Y (AD Y) s.heap σ H locs → lv_has ls 7 [(0, .ref (yA Y 15)), (1, .ref (yA Y 3)), (2, .int y2), (3, .int y3)] → R_23 (y2, y3, σ) → W p l e { frames := 1, cells := 0, slots := 0, locals := 22 } s m args below meth c H locs 0 0 (MQ below (QV Y Q) args s 0 0 (AD Y)) (F0 m 23 ls [])) (y2 : Int32) (y3 : Int32) (σ : St) (H : Heap) (locs : List Loc) (ls : Array Slot) (hw : WS Y (AD Y) s.heap σ H locs) (hl : lv_has ls 7 [(0, .ref (yA Y 15)), (1, .ref (yA Y 3)), (2, .int y2), (3, .int y3)]) (h : bX0_draw_23 R_23 y2 y3 σ Q) : W p l e { frames := 1, cells := 0, slots := 0, locals := 22 } s m args below meth c H locs 0 0 (MQ below (QV Y Q) args s 0 0 (AD Y)) (F0 m 23 ls []) := by
  obtain ⟨hx, hb, hr, hml, hown, hlk, hT, hK, hB⟩ := id M
  unfold bX0_draw_23 at h
  refine lv_iload_n hx hb dX0_draw_23 rfl (lv_at hl 3 rfl) ?_
  refine lv_bipush (v := 64) hx hb dX0_draw_24 (by decide) ?_
  refine lv_icmp_ge (tgt := 54) hx hb dX0_draw_26 (by decide) (fun c1 => ?_) (fun c1 => ?_)
  · have h := h.1 c1
    refine lv_aload_n hx hb dX0_draw_54 rfl (lv_at hl 0 rfl) ?_
    refine q_get (v := .int (σ.1 15 2)) M hw (ob_15 hN) rfl inq_0 2 (by decide) tw_167 rfl dX0_draw_55 ?_
    refine lv_iconst (v := 1) hx hb dX0_draw_58 (by decide) ?_
    refine lv_isub hx hb dX0_draw_59 ?_
    refine lv_topi (fun x2 ex2 => ?_)
    have h := h x2 ex2
    refine lv_istore_n (lv' := [(3, .int x2), (0, .ref (yA Y 15)), (1, .ref (yA Y 3)), (2, .int y2)]) hx hb dX0_draw_60 rfl hl (by decide) rfl (fun ls hl => ?_)
    obtain ⟨n, h⟩ := h
    exact tlX0_draw_61 M hN n x2 σ _ _ _ hw (lv_sub hl [1, 2, 0] rfl) h
  · have h := h.2 c1
    refine lv_aload_n hx hb dX0_draw_29 rfl (lv_at hl 0 rfl) ?_
    refine q_get (v := .ref (yA Y 16)) M hw (ob_15 hN) rfl inq_0 0 (by decide) tw_165 rfl dX0_draw_30 ?_
    refine lv_iload_n hx hb dX0_draw_33 rfl (lv_at hl 2 rfl) ?_
    refine lv_iload_n hx hb dX0_draw_34 rfl (lv_at hl 3 rfl) ?_
    refine lv_iadd hx hb dX0_draw_35 ?_
    refine lv_iload_n hx hb dX0_draw_36 rfl (lv_at hl 3 rfl) ?_
    refine lv_if_ne (tgt := 44) hx hb dX0_draw_37 (by decide) (fun c3 => ?_) (fun c3 => ?_)
    · have h := h.2 c3
      refine lv_sipush (v := 1000) hx hb dX0_draw_44 (by decide) ?_
      exact tX0_draw_47 M hN hR_23 y2 y3 1000 (y2 + y3) σ _ _ _ hw (lv_sub hl [0, 1, 2, 3] rfl) h
    · have h := h.1 c3
      refine lv_iconst (v := 0) hx hb dX0_draw_40 (by decide) ?_
      refine lv_goto (tgt := 47) hx hb dX0_draw_41 (by decide) ?_
      exact tX0_draw_47 M hN hR_23 y2 y3 0 (y2 + y3) σ _ _ _ hw (lv_sub hl [0, 1, 2, 3] rfl) h
def lX0_draw_23 (Q : St → Prop) : (Int32 × Int32 × St → Prop) → Int32 × Int32 × St → Prop := fun R a => bX0_draw_23 R a.1 a.2.1 a.2.2 Q
theorem tlX0_draw_23 {Q : St → Prop} (M : MC p s m args meth c cX0_draw 7 none RX0 Y) (hN : yN Y = 108) (n : Nat) : ∀ (y2 : Int32) (y3 : Int32) (σ : St) (H : Heap) (locs : List Loc) (ls : Array Slot) (hw : WS Y (AD Y) s.heap σ H locs) (hl : lv_has ls 7 [(0, .ref (yA Y 15)), (1, .ref (yA Y 3)), (2, .int y2), (3, .int y3)]) (h : Lp (lX0_draw_23 Q) n (y2, y3, σ)), W p l e { frames := 1, cells := 0, slots := 0, locals := 22 } s m args below meth c H locs 0 0 (MQ below (QV Y Q) args s 0 0 (AD Y)) (F0 m 23 ls []) := by
  induction n with
  | zero => intro y2 y3 σ H locs ls hw hl h; exact h.elim
  | succ n ih =>
    intro y2 y3 σ H locs ls hw hl h
    exact tX0_draw_23 M hN ih y2 y3 σ H locs ls hw hl h
def wX0_draw (σ : St) (Q : St → Prop) : Prop :=
  (∀ σ1 : St, σ1 = up σ 15 3 1 → (∀ σ2 : St, σ2 = up σ1 15 2 (σ1.1 3 8) → (∀ x3 : Int32, x3 = ((σ2.1 15 2) * 64) → ∃ n : Nat, Lp (lX0_draw_23 Q) n (x3, 0, σ2))))
set_option maxHeartbeats 4000000 in
set_option maxRecDepth 100000 in
theorem tX0_draw_E {Q : St → Prop} (M : MC p s m args meth c cX0_draw 7 none RX0 Y) (hN : yN Y = 108)  (σ : St) (H : Heap) (locs : List Loc) (ls : Array Slot) (hw : WS Y (AD Y) s.heap σ H locs) (hl : lv_has ls 7 [(0, .ref (yA Y 15)), (1, .ref (yA Y 3))]) (h : wX0_draw σ Q) : W p l e { frames := 1, cells := 0, slots := 0, locals := 22 } s m args below meth c H locs 0 0 (MQ below (QV Y Q) args s 0 0 (AD Y)) (F0 m 0 ls []) := by
  obtain ⟨hx, hb, hr, hml, hown, hlk, hT, hK, hB⟩ := id M
  unfold wX0_draw at h
  refine lv_aload_n hx hb dX0_draw_0 rfl (lv_at hl 0 rfl) ?_
  refine lv_iconst (v := 1) hx hb dX0_draw_1 (by decide) ?_
  refine q_put (v := 1) M hw (ob_15 hN) rfl inq_0 tyX0 tyX0_ok nmX0 3 (by decide) tw_168 rfl (by decide) rfl (Nat.le_of_ble_eq_true rfl) (by simp [up, upd, f0]) dX0_draw_2 (fun σ1 H locs es hw => ?_)
  have h := h σ1 es
  refine lv_aload_n hx hb dX0_draw_5 rfl (lv_at hl 0 rfl) ?_
  refine lv_aload_n hx hb dX0_draw_6 rfl (lv_at hl 1 rfl) ?_
  refine q_get (v := .int (σ1.1 3 8)) M hw (ph_ob (ph_3 hN)) rfl inq_3 8 (by decide) tw_127 rfl dX0_draw_7 ?_
  refine q_put (v := (σ1.1 3 8)) M hw (ob_15 hN) rfl inq_0 tyX0 tyX0_ok nmX0 2 (by decide) tw_167 rfl rfl rfl (Nat.le_of_ble_eq_true rfl) (by simp [up, upd, f0]) dX0_draw_10 (fun σ2 H locs es hw => ?_)
  have h := h σ2 es
  refine lv_aload_n hx hb dX0_draw_13 rfl (lv_at hl 0 rfl) ?_
  refine q_get (v := .int (σ2.1 15 2)) M hw (ob_15 hN) rfl inq_0 2 (by decide) tw_167 rfl dX0_draw_14 ?_
  refine lv_bipush (v := 64) hx hb dX0_draw_17 (by decide) ?_
  refine lv_imul hx hb dX0_draw_19 ?_
  refine lv_topi (fun x3 ex3 => ?_)
  have h := h x3 ex3
  refine lv_istore_n (lv' := [(2, .int x3), (0, .ref (yA Y 15)), (1, .ref (yA Y 3))]) hx hb dX0_draw_20 rfl hl (by decide) rfl (fun ls hl => ?_)
  refine lv_iconst (v := 0) hx hb dX0_draw_21 (by decide) ?_
  refine lv_istore_n (lv' := [(3, .int 0), (2, .int x3), (0, .ref (yA Y 15)), (1, .ref (yA Y 3))]) hx hb dX0_draw_22 rfl hl (by decide) rfl (fun ls hl => ?_)
  obtain ⟨n, h⟩ := h
  exact tlX0_draw_23 M hN n x3 0 σ2 _ _ _ hw (lv_sub hl [2, 3, 1, 0] rfl) h
set_option maxRecDepth 100000 in
theorem ctX0_draw (l : Launch) {Y : LY} (hB : YB Y) (hN : yN Y = 108) (σ : St) (Q : St → Prop) (h : wX0_draw σ Q) : CT l yX0_draw (Cond.code yX0_draw cX0_draw 7 none) { frames := 1, cells := 0, slots := 0, locals := 22 } Y [.ref (yA Y 15), .ref (yA Y 3)] σ (QV Y Q) :=
  q_ent hB (by decide +kernel) (Nat.le_of_ble_eq_true rfl) (fun p e s m below meth c ls M hw hl => tX0_draw_E M hN σ _ _ ls hw hl h)
theorem mbX0_draw : MB RX0 yX0_draw cX0_draw 1 7 none := ⟨tw_501, tw_18, tw_52, tw_502, by decide +kernel⟩
end
section
variable {p : Program} {l : Launch} {e : Env} {s : State} {m : MethodId} {args : Array Value} {below : List Frame} {meth : Method} {c : Code} {Y : LY}
theorem dX0_nightsFor_0 : decode cX0_nightsFor 0 = .ok (.aload_n 0, 1) := by decide +kernel
theorem dX0_nightsFor_1 : decode cX0_nightsFor 1 = .ok (.getfield 11, 3) := by decide +kernel
theorem dX0_nightsFor_4 : decode cX0_nightsFor 4 = .ok (.iload_n 1, 1) := by decide +kernel
theorem dX0_nightsFor_5 : decode cX0_nightsFor 5 = .ok (.aload_n 0, 1) := by decide +kernel
theorem dX0_nightsFor_6 : decode cX0_nightsFor 6 = .ok (.getfield 28, 3) := by decide +kernel
theorem dX0_nightsFor_9 : decode cX0_nightsFor 9 = .ok (.invokestatic 41, 3) := by decide +kernel
theorem dX0_nightsFor_12 : decode cX0_nightsFor 12 = .ok (.bipush 64, 2) := by decide +kernel
theorem dX0_nightsFor_14 : decode cX0_nightsFor 14 = .ok (.imul, 1) := by decide +kernel
theorem dX0_nightsFor_15 : decode cX0_nightsFor 15 = .ok (.iload_n 2, 1) := by decide +kernel
theorem dX0_nightsFor_16 : decode cX0_nightsFor 16 = .ok (.iadd, 1) := by decide +kernel
theorem dX0_nightsFor_17 : decode cX0_nightsFor 17 = .ok (.iaload, 1) := by decide +kernel
theorem dX0_nightsFor_18 : decode cX0_nightsFor 18 = .ok (.ireturn, 1) := by decide +kernel
def wX0_nightsFor (a0 : Int32) (a1 : Int32) (σ : St) (Q : Int32 → St → Prop) : Prop :=
  (∀ x1 : Int32, x1 = (if (σ.1 15 2) < a0 then (σ.1 15 2) else a0) → (vp_in ((x1 * 64) + a1) 3904 ∧ Q (σ.1 16 ((x1 * 64) + a1).toNatClampNeg) σ))
set_option maxHeartbeats 4000000 in
set_option maxRecDepth 100000 in
theorem tX0_nightsFor_E {Q : Int32 → St → Prop} (M : MC p s m args meth c cX0_nightsFor 3 (some .int) RX0 Y) (hN : yN Y = 108) (a0 : Int32) (a1 : Int32) (σ : St) (H : Heap) (locs : List Loc) (ls : Array Slot) (hw : WS Y (AD Y) s.heap σ H locs) (hl : lv_has ls 3 [(0, .ref (yA Y 15)), (1, .int a0), (2, .int a1)]) (h : wX0_nightsFor a0 a1 σ Q) : W p l e { frames := 1, cells := 0, slots := 0, locals := 21 } s m args below meth c H locs 0 0 (MQ below (QI Y Q) args s 0 0 (AD Y)) (F0 m 0 ls []) := by
  obtain ⟨hx, hb, hr, hml, hown, hlk, hT, hK, hB⟩ := id M
  unfold wX0_nightsFor at h
  refine lv_aload_n hx hb dX0_nightsFor_0 rfl (lv_at hl 0 rfl) ?_
  refine q_get (v := .ref (yA Y 16)) M hw (ob_15 hN) rfl inq_0 0 (by decide) tw_165 rfl dX0_nightsFor_1 ?_
  refine lv_iload_n hx hb dX0_nightsFor_4 rfl (lv_at hl 1 rfl) ?_
  refine lv_aload_n hx hb dX0_nightsFor_5 rfl (lv_at hl 0 rfl) ?_
  refine q_get (v := .int (σ.1 15 2)) M hw (ob_15 hN) rfl inq_0 2 (by decide) tw_167 rfl dX0_nightsFor_6 ?_
  refine va_mmin hx hb (by rw [hl.1]; exact hml) hown (hT _ tw_508) (hT _ tw_433) (hT _ tw_57) (hT _ tw_434) (Nat.le_of_ble_eq_true rfl) (Nat.le_of_ble_eq_true rfl) (Nat.le_refl _) (Nat.le_refl _) dX0_nightsFor_9 ?_
  refine lv_topi (fun x1 ex1 => ?_)
  have h := h x1 ex1
  refine lv_bipush (v := 64) hx hb dX0_nightsFor_12 (by decide) ?_
  refine lv_imul hx hb dX0_nightsFor_14 ?_
  refine lv_iload_n hx hb dX0_nightsFor_15 rfl (lv_at hl 2 rfl) ?_
  refine lv_iadd hx hb dX0_nightsFor_16 ?_
  have c2 := h.1
  have h := h.2
  refine q_ild M hw (ar_16 hN) c2 dX0_nightsFor_17 ?_
  exact q_iret M hw h dX0_nightsFor_18
set_option maxRecDepth 100000 in
theorem ctX0_nightsFor (l : Launch) {Y : LY} (hB : YB Y) (hN : yN Y = 108) (a0 : Int32) (a1 : Int32) (σ : St) (Q : Int32 → St → Prop) (h : wX0_nightsFor a0 a1 σ Q) : CT l yX0_nightsFor (Cond.code yX0_nightsFor cX0_nightsFor 3 (some .int)) { frames := 1, cells := 0, slots := 0, locals := 21 } Y [.ref (yA Y 15), .int a0, .int a1] σ (QI Y Q) :=
  q_ent hB (by decide +kernel) (Nat.le_of_ble_eq_true rfl) (fun p e s m below meth c ls M hw hl => tX0_nightsFor_E M hN a0 a1 σ _ _ ls hw hl h)
theorem mbX0_nightsFor : MB RX0 yX0_nightsFor cX0_nightsFor 2 3 (some .int) := ⟨tw_510, tw_511, tw_52, tw_512, by decide +kernel⟩
end
section
variable {p : Program} {l : Launch} {e : Env} {s : State} {m : MethodId} {args : Array Value} {below : List Frame} {meth : Method} {c : Code} {Y : LY}
theorem dX0_quartersFor_0 : decode cX0_quartersFor 0 = .ok (.aload_n 0, 1) := by decide +kernel
theorem dX0_quartersFor_1 : decode cX0_quartersFor 1 = .ok (.getfield 18, 3) := by decide +kernel
theorem dX0_quartersFor_4 : decode cX0_quartersFor 4 = .ok (.ifCond .ne 8, 3) := by decide +kernel
theorem dX0_quartersFor_7 : decode cX0_quartersFor 7 = .ok (.aload_n 0, 1) := by decide +kernel
theorem dX0_quartersFor_8 : decode cX0_quartersFor 8 = .ok (.aload_n 1, 1) := by decide +kernel
theorem dX0_quartersFor_9 : decode cX0_quartersFor 9 = .ok (.invokevirtual 46, 3) := by decide +kernel
theorem dX0_quartersFor_12 : decode cX0_quartersFor 12 = .ok (.iconst 0, 1) := by decide +kernel
theorem dX0_quartersFor_13 : decode cX0_quartersFor 13 = .ok (.istore 5, 2) := by decide +kernel
theorem dX0_quartersFor_15 : decode cX0_quartersFor 15 = .ok (.iload 5, 2) := by decide +kernel
theorem dX0_quartersFor_17 : decode cX0_quartersFor 17 = .ok (.bipush 64, 2) := by decide +kernel
theorem dX0_quartersFor_19 : decode cX0_quartersFor 19 = .ok (.if_icmp .ge 34, 3) := by decide +kernel
theorem dX0_quartersFor_22 : decode cX0_quartersFor 22 = .ok (.iload 5, 2) := by decide +kernel
theorem dX0_quartersFor_24 : decode cX0_quartersFor 24 = .ok (.iload_n 3, 1) := by decide +kernel
theorem dX0_quartersFor_25 : decode cX0_quartersFor 25 = .ok (.imul, 1) := by decide +kernel
theorem dX0_quartersFor_26 : decode cX0_quartersFor 26 = .ok (.iload 4, 2) := by decide +kernel
theorem dX0_quartersFor_28 : decode cX0_quartersFor 28 = .ok (.if_icmp .lt 19, 3) := by decide +kernel
theorem dX0_quartersFor_31 : decode cX0_quartersFor 31 = .ok (.aload_n 0, 1) := by decide +kernel
theorem dX0_quartersFor_32 : decode cX0_quartersFor 32 = .ok (.iload_n 2, 1) := by decide +kernel
theorem dX0_quartersFor_33 : decode cX0_quartersFor 33 = .ok (.iload 5, 2) := by decide +kernel
theorem dX0_quartersFor_35 : decode cX0_quartersFor 35 = .ok (.invokevirtual 50, 3) := by decide +kernel
theorem dX0_quartersFor_38 : decode cX0_quartersFor 38 = .ok (.sipush 1000, 3) := by decide +kernel
theorem dX0_quartersFor_41 : decode cX0_quartersFor 41 = .ok (.if_icmp .ge 6, 3) := by decide +kernel
theorem dX0_quartersFor_44 : decode cX0_quartersFor 44 = .ok (.iload 5, 2) := by decide +kernel
theorem dX0_quartersFor_46 : decode cX0_quartersFor 46 = .ok (.ireturn, 1) := by decide +kernel
theorem dX0_quartersFor_47 : decode cX0_quartersFor 47 = .ok (.iinc 5 1, 3) := by decide +kernel
theorem dX0_quartersFor_50 : decode cX0_quartersFor 50 = .ok (.goto (-35), 3) := by decide +kernel
theorem dX0_quartersFor_53 : decode cX0_quartersFor 53 = .ok (.bipush (-9), 2) := by decide +kernel
theorem dX0_quartersFor_55 : decode cX0_quartersFor 55 = .ok (.ireturn, 1) := by decide +kernel
def bX0_quartersFor_47 (R_15 : Int32 × Int32 × Int32 × Int32 × St → Prop) (y2 : Int32) (y3 : Int32) (y4 : Int32) (y5 : Int32) (σ : St) (Q : Int32 → St → Prop) : Prop :=
  (∀ x1 : Int32, x1 = y5 + 1 → R_15 (y2, y3, y4, x1, σ))
set_option maxHeartbeats 4000000 in
set_option maxRecDepth 100000 in
theorem tX0_quartersFor_47 {R_15 : Int32 × Int32 × Int32 × Int32 × St → Prop} {Q : Int32 → St → Prop} (M : MC p s m args meth c cX0_quartersFor 6 (some .int) RX0 Y) (hN : yN Y = 108) (hR_15 : ∀ (y2 y3 y4 y5 : Int32) (σ : St) (H : Heap) (locs : List Loc) (ls : Array Slot), WS Y (AD Y) s.heap σ H locs → lv_has ls 6 [(0, .ref (yA Y 15)), (2, .int y2), (3, .int y3), (4, .int y4), (5, .int y5)] → R_15 (y2, y3, y4, y5, σ) → W p l e { frames := 2, cells := 0, slots := 0, locals := 48 } s m args below meth c H locs 0 0 (MQ below (QI Y Q) args s 0 0 (AD Y)) (F0 m 15 ls [])) (y2 : Int32) (y3 : Int32) (y4 : Int32) (y5 : Int32) (σ : St) (H : Heap) (locs : List Loc) (ls : Array Slot) (hw : WS Y (AD Y) s.heap σ H locs) (hl : lv_has ls 6 [(0, .ref (yA Y 15)), (2, .int y2), (3, .int y3), (4, .int y4), (5, .int y5)]) (h : bX0_quartersFor_47 R_15 y2 y3 y4 y5 σ Q) : W p l e { frames := 2, cells := 0, slots := 0, locals := 48 } s m args below meth c H locs 0 0 (MQ below (QI Y Q) args s 0 0 (AD Y)) (F0 m 47 ls []) := by
  obtain ⟨hx, hb, hr, hml, hown, hlk, hT, hK, hB⟩ := id M
  unfold bX0_quartersFor_47 at h
  obtain ⟨x1, ex1⟩ : ∃ y : Int32, y = y5 + 1 := ⟨_, rfl⟩
  have h := h x1 ex1
  refine lv_iinc (v := x1) (lv' := [(5, .int x1), (0, .ref (yA Y 15)), (2, .int y2), (3, .int y3), (4, .int y4)]) hx hb dX0_quartersFor_47 hl (k := 4) rfl (by rw [ex1]; rfl) (by decide) rfl (fun ls hl => ?_)
  refine lv_goto (tgt := 15) hx hb dX0_quartersFor_50 (by decide) ?_
  exact hR_15 y2 y3 y4 x1 σ _ _ _ hw (lv_sub hl [1, 2, 3, 4, 0] rfl) h
def bX0_quartersFor_15 (R_15 : Int32 × Int32 × Int32 × Int32 × St → Prop) (y2 : Int32) (y3 : Int32) (y4 : Int32) (y5 : Int32) (σ : St) (Q : Int32 → St → Prop) : Prop :=
  ((64 ≤ y5 → Q (-9) σ) ∧ (¬ 64 ≤ y5 → (((y5 * y3) < y4 → bX0_quartersFor_47 R_15 y2 y3 y4 y5 σ Q) ∧ (¬ (y5 * y3) < y4 → wX0_nightsFor y2 y5 σ (fun r4 σ3 => ((1000 ≤ r4 → bX0_quartersFor_47 R_15 y2 y3 y4 y5 σ3 Q) ∧ (¬ 1000 ≤ r4 → Q y5 σ3)))))))
set_option maxHeartbeats 4000000 in
set_option maxRecDepth 100000 in
theorem tX0_quartersFor_15 {R_15 : Int32 × Int32 × Int32 × Int32 × St → Prop} {Q : Int32 → St → Prop} (M : MC p s m args meth c cX0_quartersFor 6 (some .int) RX0 Y) (hN : yN Y = 108) (hR_15 : ∀ (y2 y3 y4 y5 : Int32) (σ : St) (H : Heap) (locs : List Loc) (ls : Array Slot), WS Y (AD Y) s.heap σ H locs → lv_has ls 6 [(0, .ref (yA Y 15)), (2, .int y2), (3, .int y3), (4, .int y4), (5, .int y5)] → R_15 (y2, y3, y4, y5, σ) → W p l e { frames := 2, cells := 0, slots := 0, locals := 48 } s m args below meth c H locs 0 0 (MQ below (QI Y Q) args s 0 0 (AD Y)) (F0 m 15 ls [])) (y2 : Int32) (y3 : Int32) (y4 : Int32) (y5 : Int32) (σ : St) (H : Heap) (locs : List Loc) (ls : Array Slot) (hw : WS Y (AD Y) s.heap σ H locs) (hl : lv_has ls 6 [(0, .ref (yA Y 15)), (2, .int y2), (3, .int y3), (4, .int y4), (5, .int y5)]) (h : bX0_quartersFor_15 R_15 y2 y3 y4 y5 σ Q) : W p l e { frames := 2, cells := 0, slots := 0, locals := 48 } s m args below meth c H locs 0 0 (MQ below (QI Y Q) args s 0 0 (AD Y)) (F0 m 15 ls []) := by
  obtain ⟨hx, hb, hr, hml, hown, hlk, hT, hK, hB⟩ := id M
  unfold bX0_quartersFor_15 at h
  refine lv_iload hx hb dX0_quartersFor_15 (lv_at hl 4 rfl) ?_
  refine lv_bipush (v := 64) hx hb dX0_quartersFor_17 (by decide) ?_
  refine lv_icmp_ge (tgt := 53) hx hb dX0_quartersFor_19 (by decide) (fun c1 => ?_) (fun c1 => ?_)
  · have h := h.1 c1
    refine lv_bipush (v := (-9)) hx hb dX0_quartersFor_53 (by decide) ?_
    exact q_iret M hw h dX0_quartersFor_55
  · have h := h.2 c1
    refine lv_iload hx hb dX0_quartersFor_22 (lv_at hl 4 rfl) ?_
    refine lv_iload_n hx hb dX0_quartersFor_24 rfl (lv_at hl 2 rfl) ?_
    refine lv_imul hx hb dX0_quartersFor_25 ?_
    refine lv_iload hx hb dX0_quartersFor_26 (lv_at hl 3 rfl) ?_
    refine lv_icmp_lt (tgt := 47) hx hb dX0_quartersFor_28 (by decide) (fun c2 => ?_) (fun c2 => ?_)
    · have h := h.1 c2
      exact tX0_quartersFor_47 M hN hR_15 y2 y3 y4 y5 σ _ _ _ hw (lv_sub hl [0, 1, 2, 3, 4] rfl) h
    · have h := h.2 c2
      refine lv_aload_n hx hb dX0_quartersFor_31 rfl (lv_at hl 0 rfl) ?_
      refine lv_iload_n hx hb dX0_quartersFor_32 rfl (lv_at hl 1 rfl) ?_
      refine lv_iload hx hb dX0_quartersFor_33 (lv_at hl 4 rfl) ?_
      refine q_goI hw (q_runV (rest := []) M hw (ctX0_nightsFor l hB hN y2 y5 σ _ h) mbX0_nightsFor (ob_15 hN) rfl tw_509 rfl hl.1 rfl (Nat.le_of_ble_eq_true rfl) ⟨Nat.le_of_ble_eq_true rfl, Nat.le_of_ble_eq_true rfl⟩ ⟨Nat.le_refl _, Nat.le_refl _⟩ dX0_quartersFor_35) (fun r4 σ3 H locs h hw => ?_)
      refine lv_sipush (v := 1000) hx hb dX0_quartersFor_38 (by decide) ?_
      refine lv_icmp_ge (tgt := 47) hx hb dX0_quartersFor_41 (by decide) (fun c5 => ?_) (fun c5 => ?_)
      · have h := h.1 c5
        exact tX0_quartersFor_47 M hN hR_15 y2 y3 y4 y5 σ3 _ _ _ hw (lv_sub hl [0, 1, 2, 3, 4] rfl) h
      · have h := h.2 c5
        refine lv_iload hx hb dX0_quartersFor_44 (lv_at hl 4 rfl) ?_
        exact q_iret M hw h dX0_quartersFor_46
def lX0_quartersFor_15 (Q : Int32 → St → Prop) : (Int32 × Int32 × Int32 × Int32 × St → Prop) → Int32 × Int32 × Int32 × Int32 × St → Prop := fun R a => bX0_quartersFor_15 R a.1 a.2.1 a.2.2.1 a.2.2.2.1 a.2.2.2.2 Q
theorem tlX0_quartersFor_15 {Q : Int32 → St → Prop} (M : MC p s m args meth c cX0_quartersFor 6 (some .int) RX0 Y) (hN : yN Y = 108) (n : Nat) : ∀ (y2 : Int32) (y3 : Int32) (y4 : Int32) (y5 : Int32) (σ : St) (H : Heap) (locs : List Loc) (ls : Array Slot) (hw : WS Y (AD Y) s.heap σ H locs) (hl : lv_has ls 6 [(0, .ref (yA Y 15)), (2, .int y2), (3, .int y3), (4, .int y4), (5, .int y5)]) (h : Lp (lX0_quartersFor_15 Q) n (y2, y3, y4, y5, σ)), W p l e { frames := 2, cells := 0, slots := 0, locals := 48 } s m args below meth c H locs 0 0 (MQ below (QI Y Q) args s 0 0 (AD Y)) (F0 m 15 ls []) := by
  induction n with
  | zero => intro y2 y3 y4 y5 σ H locs ls hw hl h; exact h.elim
  | succ n ih =>
    intro y2 y3 y4 y5 σ H locs ls hw hl h
    exact tX0_quartersFor_15 M hN ih y2 y3 y4 y5 σ H locs ls hw hl h
def bX0_quartersFor_12 (y2 : Int32) (y3 : Int32) (y4 : Int32) (σ : St) (Q : Int32 → St → Prop) : Prop :=
  ∃ n : Nat, Lp (lX0_quartersFor_15 Q) n (y2, y3, y4, 0, σ)
set_option maxHeartbeats 4000000 in
set_option maxRecDepth 100000 in
theorem tX0_quartersFor_12 {Q : Int32 → St → Prop} (M : MC p s m args meth c cX0_quartersFor 6 (some .int) RX0 Y) (hN : yN Y = 108) (y2 : Int32) (y3 : Int32) (y4 : Int32) (σ : St) (H : Heap) (locs : List Loc) (ls : Array Slot) (hw : WS Y (AD Y) s.heap σ H locs) (hl : lv_has ls 6 [(0, .ref (yA Y 15)), (2, .int y2), (3, .int y3), (4, .int y4)]) (h : bX0_quartersFor_12 y2 y3 y4 σ Q) : W p l e { frames := 2, cells := 0, slots := 0, locals := 48 } s m args below meth c H locs 0 0 (MQ below (QI Y Q) args s 0 0 (AD Y)) (F0 m 12 ls []) := by
  obtain ⟨hx, hb, hr, hml, hown, hlk, hT, hK, hB⟩ := id M
  unfold bX0_quartersFor_12 at h
  refine lv_iconst (v := 0) hx hb dX0_quartersFor_12 (by decide) ?_
  refine lv_istore (lv' := [(5, .int 0), (0, .ref (yA Y 15)), (2, .int y2), (3, .int y3), (4, .int y4)]) hx hb dX0_quartersFor_13 hl (by decide) rfl (fun ls hl => ?_)
  obtain ⟨n, h⟩ := h
  exact tlX0_quartersFor_15 M hN n y2 y3 y4 0 σ _ _ _ hw (lv_sub hl [1, 2, 3, 4, 0] rfl) h
def wX0_quartersFor (a0 : Int32) (a1 : Int32) (a2 : Int32) (σ : St) (Q : Int32 → St → Prop) : Prop :=
  (((σ.1 15 3) = 0 → wX0_draw σ (fun σ2 => bX0_quartersFor_12 a0 a1 a2 σ2 Q)) ∧ (¬ (σ.1 15 3) = 0 → bX0_quartersFor_12 a0 a1 a2 σ Q))
set_option maxHeartbeats 4000000 in
set_option maxRecDepth 100000 in
theorem tX0_quartersFor_E {Q : Int32 → St → Prop} (M : MC p s m args meth c cX0_quartersFor 6 (some .int) RX0 Y) (hN : yN Y = 108) (a0 : Int32) (a1 : Int32) (a2 : Int32) (σ : St) (H : Heap) (locs : List Loc) (ls : Array Slot) (hw : WS Y (AD Y) s.heap σ H locs) (hl : lv_has ls 6 [(0, .ref (yA Y 15)), (1, .ref (yA Y 3)), (2, .int a0), (3, .int a1), (4, .int a2)]) (h : wX0_quartersFor a0 a1 a2 σ Q) : W p l e { frames := 2, cells := 0, slots := 0, locals := 48 } s m args below meth c H locs 0 0 (MQ below (QI Y Q) args s 0 0 (AD Y)) (F0 m 0 ls []) := by
  obtain ⟨hx, hb, hr, hml, hown, hlk, hT, hK, hB⟩ := id M
  unfold wX0_quartersFor at h
  refine lv_aload_n hx hb dX0_quartersFor_0 rfl (lv_at hl 0 rfl) ?_
  refine q_get (v := .int (σ.1 15 3)) M hw (ob_15 hN) rfl inq_0 3 (by decide) tw_168 rfl dX0_quartersFor_1 ?_
  refine lv_if_ne (tgt := 12) hx hb dX0_quartersFor_4 (by decide) (fun c1 => ?_) (fun c1 => ?_)
  · have h := h.2 c1
    exact tX0_quartersFor_12 M hN a0 a1 a2 σ _ _ _ hw (lv_sub hl [0, 2, 3, 4] rfl) h
  · have h := h.1 c1
    refine lv_aload_n hx hb dX0_quartersFor_7 rfl (lv_at hl 0 rfl) ?_
    refine lv_aload_n hx hb dX0_quartersFor_8 rfl (lv_at hl 1 rfl) ?_
    refine q_goV hw (q_runV (rest := []) M hw (ctX0_draw l hB hN σ _ h) mbX0_draw (ob_15 hN) rfl tw_499 rfl hl.1 rfl (Nat.le_of_ble_eq_true rfl) ⟨Nat.le_of_ble_eq_true rfl, Nat.le_of_ble_eq_true rfl⟩ ⟨Nat.le_refl _, Nat.le_refl _⟩ dX0_quartersFor_9) (fun σ2 H locs h hw => ?_)
    exact tX0_quartersFor_12 M hN a0 a1 a2 σ2 _ _ _ hw (lv_sub hl [0, 2, 3, 4] rfl) h
set_option maxRecDepth 100000 in
theorem ctX0_quartersFor (l : Launch) {Y : LY} (hB : YB Y) (hN : yN Y = 108) (a0 : Int32) (a1 : Int32) (a2 : Int32) (σ : St) (Q : Int32 → St → Prop) (h : wX0_quartersFor a0 a1 a2 σ Q) : CT l yX0_quartersFor (Cond.code yX0_quartersFor cX0_quartersFor 6 (some .int)) { frames := 2, cells := 0, slots := 0, locals := 48 } Y [.ref (yA Y 15), .ref (yA Y 3), .int a0, .int a1, .int a2] σ (QI Y Q) :=
  q_ent hB (by decide +kernel) (Nat.le_of_ble_eq_true rfl) (fun p e s m below meth c ls M hw hl => tX0_quartersFor_E M hN a0 a1 a2 σ _ _ ls hw hl h)
theorem mbX0_quartersFor : MB RX0 yX0_quartersFor cX0_quartersFor 4 6 (some .int) := ⟨tw_496, tw_497, tw_52, tw_498, by decide +kernel⟩
end
section
variable {p : Program} {l : Launch} {e : Env} {s : State} {m : MethodId} {args : Array Value} {below : List Frame} {meth : Method} {c : Code} {Y : LY}
theorem dX0_nightAt_0 : decode cX0_nightAt 0 = .ok (.iload_n 2, 1) := by decide +kernel
theorem dX0_nightAt_1 : decode cX0_nightAt 1 = .ok (.istore 4, 2) := by decide +kernel
theorem dX0_nightAt_3 : decode cX0_nightAt 3 = .ok (.iconst 0, 1) := by decide +kernel
theorem dX0_nightAt_4 : decode cX0_nightAt 4 = .ok (.istore 5, 2) := by decide +kernel
theorem dX0_nightAt_6 : decode cX0_nightAt 6 = .ok (.iload_n 1, 1) := by decide +kernel
theorem dX0_nightAt_7 : decode cX0_nightAt 7 = .ok (.istore 6, 2) := by decide +kernel
theorem dX0_nightAt_9 : decode cX0_nightAt 9 = .ok (.iload 6, 2) := by decide +kernel
theorem dX0_nightAt_11 : decode cX0_nightAt 11 = .ok (.aload_n 0, 1) := by decide +kernel
theorem dX0_nightAt_12 : decode cX0_nightAt 12 = .ok (.getfield 28, 3) := by decide +kernel
theorem dX0_nightAt_15 : decode cX0_nightAt 15 = .ok (.if_icmp .ge 57, 3) := by decide +kernel
theorem dX0_nightAt_18 : decode cX0_nightAt 18 = .ok (.aload_n 0, 1) := by decide +kernel
theorem dX0_nightAt_19 : decode cX0_nightAt 19 = .ok (.iload 6, 2) := by decide +kernel
theorem dX0_nightAt_21 : decode cX0_nightAt 21 = .ok (.iload 4, 2) := by decide +kernel
theorem dX0_nightAt_23 : decode cX0_nightAt 23 = .ok (.invokevirtual 37, 3) := by decide +kernel
theorem dX0_nightAt_26 : decode cX0_nightAt 26 = .ok (.aload_n 0, 1) := by decide +kernel
theorem dX0_nightAt_27 : decode cX0_nightAt 27 = .ok (.getfield 11, 3) := by decide +kernel
theorem dX0_nightAt_30 : decode cX0_nightAt 30 = .ok (.iload 6, 2) := by decide +kernel
theorem dX0_nightAt_32 : decode cX0_nightAt 32 = .ok (.bipush 64, 2) := by decide +kernel
theorem dX0_nightAt_34 : decode cX0_nightAt 34 = .ok (.imul, 1) := by decide +kernel
theorem dX0_nightAt_35 : decode cX0_nightAt 35 = .ok (.iload 4, 2) := by decide +kernel
theorem dX0_nightAt_37 : decode cX0_nightAt 37 = .ok (.iadd, 1) := by decide +kernel
theorem dX0_nightAt_38 : decode cX0_nightAt 38 = .ok (.iaload, 1) := by decide +kernel
theorem dX0_nightAt_39 : decode cX0_nightAt 39 = .ok (.if_icmp .ne 27, 3) := by decide +kernel
theorem dX0_nightAt_42 : decode cX0_nightAt 42 = .ok (.iload 5, 2) := by decide +kernel
theorem dX0_nightAt_44 : decode cX0_nightAt 44 = .ok (.iload_n 3, 1) := by decide +kernel
theorem dX0_nightAt_45 : decode cX0_nightAt 45 = .ok (.if_icmp .ne 6, 3) := by decide +kernel
theorem dX0_nightAt_48 : decode cX0_nightAt 48 = .ok (.iload 6, 2) := by decide +kernel
theorem dX0_nightAt_50 : decode cX0_nightAt 50 = .ok (.ireturn, 1) := by decide +kernel
theorem dX0_nightAt_51 : decode cX0_nightAt 51 = .ok (.iinc 5 1, 3) := by decide +kernel
theorem dX0_nightAt_54 : decode cX0_nightAt 54 = .ok (.iload 4, 2) := by decide +kernel
theorem dX0_nightAt_56 : decode cX0_nightAt 56 = .ok (.aload_n 0, 1) := by decide +kernel
theorem dX0_nightAt_57 : decode cX0_nightAt 57 = .ok (.getfield 15, 3) := by decide +kernel
theorem dX0_nightAt_60 : decode cX0_nightAt 60 = .ok (.iload 6, 2) := by decide +kernel
theorem dX0_nightAt_62 : decode cX0_nightAt 62 = .ok (.iaload, 1) := by decide +kernel
theorem dX0_nightAt_63 : decode cX0_nightAt 63 = .ok (.isub, 1) := by decide +kernel
theorem dX0_nightAt_64 : decode cX0_nightAt 64 = .ok (.istore 4, 2) := by decide +kernel
theorem dX0_nightAt_66 : decode cX0_nightAt 66 = .ok (.iinc 6 1, 3) := by decide +kernel
theorem dX0_nightAt_69 : decode cX0_nightAt 69 = .ok (.goto (-60), 3) := by decide +kernel
theorem dX0_nightAt_72 : decode cX0_nightAt 72 = .ok (.bipush (-5), 2) := by decide +kernel
theorem dX0_nightAt_74 : decode cX0_nightAt 74 = .ok (.ireturn, 1) := by decide +kernel
def bX0_nightAt_66 (R_9 : Int32 × Int32 × Int32 × Int32 × St → Prop) (y3 : Int32) (y4 : Int32) (y5 : Int32) (y6 : Int32) (σ : St) (Q : Int32 → St → Prop) : Prop :=
  (∀ x1 : Int32, x1 = y6 + 1 → R_9 (y3, y4, y5, x1, σ))
set_option maxHeartbeats 4000000 in
set_option maxRecDepth 100000 in
theorem tX0_nightAt_66 {R_9 : Int32 × Int32 × Int32 × Int32 × St → Prop} {Q : Int32 → St → Prop} (M : MC p s m args meth c cX0_nightAt 7 (some .int) RX0 Y) (hN : yN Y = 108) (hR_9 : ∀ (y3 y4 y5 y6 : Int32) (σ : St) (H : Heap) (locs : List Loc) (ls : Array Slot), WS Y (AD Y) s.heap σ H locs → lv_has ls 7 [(0, .ref (yA Y 15)), (3, .int y3), (4, .int y4), (5, .int y5), (6, .int y6)] → R_9 (y3, y4, y5, y6, σ) → W p l e { frames := 1, cells := 0, slots := 0, locals := 22 } s m args below meth c H locs 0 0 (MQ below (QI Y Q) args s 0 0 (AD Y)) (F0 m 9 ls [])) (y3 : Int32) (y4 : Int32) (y5 : Int32) (y6 : Int32) (σ : St) (H : Heap) (locs : List Loc) (ls : Array Slot) (hw : WS Y (AD Y) s.heap σ H locs) (hl : lv_has ls 7 [(0, .ref (yA Y 15)), (3, .int y3), (4, .int y4), (5, .int y5), (6, .int y6)]) (h : bX0_nightAt_66 R_9 y3 y4 y5 y6 σ Q) : W p l e { frames := 1, cells := 0, slots := 0, locals := 22 } s m args below meth c H locs 0 0 (MQ below (QI Y Q) args s 0 0 (AD Y)) (F0 m 66 ls []) := by
  obtain ⟨hx, hb, hr, hml, hown, hlk, hT, hK, hB⟩ := id M
  unfold bX0_nightAt_66 at h
  obtain ⟨x1, ex1⟩ : ∃ y : Int32, y = y6 + 1 := ⟨_, rfl⟩
  have h := h x1 ex1
  refine lv_iinc (v := x1) (lv' := [(6, .int x1), (0, .ref (yA Y 15)), (3, .int y3), (4, .int y4), (5, .int y5)]) hx hb dX0_nightAt_66 hl (k := 4) rfl (by rw [ex1]; rfl) (by decide) rfl (fun ls hl => ?_)
  refine lv_goto (tgt := 9) hx hb dX0_nightAt_69 (by decide) ?_
  exact hR_9 y3 y4 y5 x1 σ _ _ _ hw (lv_sub hl [1, 2, 3, 4, 0] rfl) h
def bX0_nightAt_9 (R_9 : Int32 × Int32 × Int32 × Int32 × St → Prop) (y3 : Int32) (y4 : Int32) (y5 : Int32) (y6 : Int32) (σ : St) (Q : Int32 → St → Prop) : Prop :=
  (((σ.1 15 2) ≤ y6 → Q (-5) σ) ∧ (¬ (σ.1 15 2) ≤ y6 → wX0_nightsWith y6 y4 σ (fun r3 σ2 => (vp_in ((y6 * 64) + y4) 3904 ∧ ((r3 = (σ2.1 16 ((y6 * 64) + y4).toNatClampNeg) → ((y5 = y3 → Q y6 σ2) ∧ (¬ y5 = y3 → (∀ x7 : Int32, x7 = y5 + 1 → (vp_in y6 60 ∧ (∀ x9 : Int32, x9 = (y4 - (σ2.1 17 y6.toNatClampNeg)) → bX0_nightAt_66 R_9 y3 x9 x7 y6 σ2 Q)))))) ∧ (¬ r3 = (σ2.1 16 ((y6 * 64) + y4).toNatClampNeg) → bX0_nightAt_66 R_9 y3 y4 y5 y6 σ2 Q))))))
set_option maxHeartbeats 4000000 in
set_option maxRecDepth 100000 in
theorem tX0_nightAt_9 {R_9 : Int32 × Int32 × Int32 × Int32 × St → Prop} {Q : Int32 → St → Prop} (M : MC p s m args meth c cX0_nightAt 7 (some .int) RX0 Y) (hN : yN Y = 108) (hR_9 : ∀ (y3 y4 y5 y6 : Int32) (σ : St) (H : Heap) (locs : List Loc) (ls : Array Slot), WS Y (AD Y) s.heap σ H locs → lv_has ls 7 [(0, .ref (yA Y 15)), (3, .int y3), (4, .int y4), (5, .int y5), (6, .int y6)] → R_9 (y3, y4, y5, y6, σ) → W p l e { frames := 1, cells := 0, slots := 0, locals := 22 } s m args below meth c H locs 0 0 (MQ below (QI Y Q) args s 0 0 (AD Y)) (F0 m 9 ls [])) (y3 : Int32) (y4 : Int32) (y5 : Int32) (y6 : Int32) (σ : St) (H : Heap) (locs : List Loc) (ls : Array Slot) (hw : WS Y (AD Y) s.heap σ H locs) (hl : lv_has ls 7 [(0, .ref (yA Y 15)), (3, .int y3), (4, .int y4), (5, .int y5), (6, .int y6)]) (h : bX0_nightAt_9 R_9 y3 y4 y5 y6 σ Q) : W p l e { frames := 1, cells := 0, slots := 0, locals := 22 } s m args below meth c H locs 0 0 (MQ below (QI Y Q) args s 0 0 (AD Y)) (F0 m 9 ls []) := by
  obtain ⟨hx, hb, hr, hml, hown, hlk, hT, hK, hB⟩ := id M
  unfold bX0_nightAt_9 at h
  refine lv_iload hx hb dX0_nightAt_9 (lv_at hl 4 rfl) ?_
  refine lv_aload_n hx hb dX0_nightAt_11 rfl (lv_at hl 0 rfl) ?_
  refine q_get (v := .int (σ.1 15 2)) M hw (ob_15 hN) rfl inq_0 2 (by decide) tw_167 rfl dX0_nightAt_12 ?_
  refine lv_icmp_ge (tgt := 72) hx hb dX0_nightAt_15 (by decide) (fun c1 => ?_) (fun c1 => ?_)
  · have h := h.1 c1
    refine lv_bipush (v := (-5)) hx hb dX0_nightAt_72 (by decide) ?_
    exact q_iret M hw h dX0_nightAt_74
  · have h := h.2 c1
    refine lv_aload_n hx hb dX0_nightAt_18 rfl (lv_at hl 0 rfl) ?_
    refine lv_iload hx hb dX0_nightAt_19 (lv_at hl 4 rfl) ?_
    refine lv_iload hx hb dX0_nightAt_21 (lv_at hl 2 rfl) ?_
    refine q_goI hw (q_runV (rest := []) M hw (ctX0_nightsWith l hB hN y6 y4 σ _ h) mbX0_nightsWith (ob_15 hN) rfl tw_504 rfl hl.1 rfl (Nat.le_of_ble_eq_true rfl) ⟨Nat.le_of_ble_eq_true rfl, Nat.le_of_ble_eq_true rfl⟩ ⟨Nat.le_refl _, Nat.le_refl _⟩ dX0_nightAt_23) (fun r3 σ2 H locs h hw => ?_)
    refine lv_aload_n hx hb dX0_nightAt_26 rfl (lv_at hl 0 rfl) ?_
    refine q_get (v := .ref (yA Y 16)) M hw (ob_15 hN) rfl inq_0 0 (by decide) tw_165 rfl dX0_nightAt_27 ?_
    refine lv_iload hx hb dX0_nightAt_30 (lv_at hl 4 rfl) ?_
    refine lv_bipush (v := 64) hx hb dX0_nightAt_32 (by decide) ?_
    refine lv_imul hx hb dX0_nightAt_34 ?_
    refine lv_iload hx hb dX0_nightAt_35 (lv_at hl 2 rfl) ?_
    refine lv_iadd hx hb dX0_nightAt_37 ?_
    have c4 := h.1
    have h := h.2
    refine q_ild M hw (ar_16 hN) c4 dX0_nightAt_38 ?_
    refine lv_icmp_ne (tgt := 66) hx hb dX0_nightAt_39 (by decide) (fun c5 => ?_) (fun c5 => ?_)
    · have h := h.2 c5
      exact tX0_nightAt_66 M hN hR_9 y3 y4 y5 y6 σ2 _ _ _ hw (lv_sub hl [0, 1, 2, 3, 4] rfl) h
    · have h := h.1 c5
      refine lv_iload hx hb dX0_nightAt_42 (lv_at hl 3 rfl) ?_
      refine lv_iload_n hx hb dX0_nightAt_44 rfl (lv_at hl 1 rfl) ?_
      refine lv_icmp_ne (tgt := 51) hx hb dX0_nightAt_45 (by decide) (fun c6 => ?_) (fun c6 => ?_)
      · have h := h.2 c6
        obtain ⟨x7, ex7⟩ : ∃ y : Int32, y = y5 + 1 := ⟨_, rfl⟩
        have h := h x7 ex7
        refine lv_iinc (v := x7) (lv' := [(5, .int x7), (0, .ref (yA Y 15)), (3, .int y3), (4, .int y4), (6, .int y6)]) hx hb dX0_nightAt_51 hl (k := 3) rfl (by rw [ex7]; rfl) (by decide) rfl (fun ls hl => ?_)
        refine lv_iload hx hb dX0_nightAt_54 (lv_at hl 3 rfl) ?_
        refine lv_aload_n hx hb dX0_nightAt_56 rfl (lv_at hl 1 rfl) ?_
        refine q_get (v := .ref (yA Y 17)) M hw (ob_15 hN) rfl inq_0 1 (by decide) tw_166 rfl dX0_nightAt_57 ?_
        refine lv_iload hx hb dX0_nightAt_60 (lv_at hl 4 rfl) ?_
        have c8 := h.1
        have h := h.2
        refine q_ild M hw (ar_17 hN) c8 dX0_nightAt_62 ?_
        refine lv_isub hx hb dX0_nightAt_63 ?_
        refine lv_topi (fun x9 ex9 => ?_)
        have h := h x9 ex9
        refine lv_istore (lv' := [(4, .int x9), (5, .int x7), (0, .ref (yA Y 15)), (3, .int y3), (6, .int y6)]) hx hb dX0_nightAt_64 hl (by decide) rfl (fun ls hl => ?_)
        exact tX0_nightAt_66 M hN hR_9 y3 x9 x7 y6 σ2 _ _ _ hw (lv_sub hl [2, 3, 0, 1, 4] rfl) h
      · have h := h.1 c6
        refine lv_iload hx hb dX0_nightAt_48 (lv_at hl 4 rfl) ?_
        exact q_iret M hw h dX0_nightAt_50
def lX0_nightAt_9 (Q : Int32 → St → Prop) : (Int32 × Int32 × Int32 × Int32 × St → Prop) → Int32 × Int32 × Int32 × Int32 × St → Prop := fun R a => bX0_nightAt_9 R a.1 a.2.1 a.2.2.1 a.2.2.2.1 a.2.2.2.2 Q
theorem tlX0_nightAt_9 {Q : Int32 → St → Prop} (M : MC p s m args meth c cX0_nightAt 7 (some .int) RX0 Y) (hN : yN Y = 108) (n : Nat) : ∀ (y3 : Int32) (y4 : Int32) (y5 : Int32) (y6 : Int32) (σ : St) (H : Heap) (locs : List Loc) (ls : Array Slot) (hw : WS Y (AD Y) s.heap σ H locs) (hl : lv_has ls 7 [(0, .ref (yA Y 15)), (3, .int y3), (4, .int y4), (5, .int y5), (6, .int y6)]) (h : Lp (lX0_nightAt_9 Q) n (y3, y4, y5, y6, σ)), W p l e { frames := 1, cells := 0, slots := 0, locals := 22 } s m args below meth c H locs 0 0 (MQ below (QI Y Q) args s 0 0 (AD Y)) (F0 m 9 ls []) := by
  induction n with
  | zero => intro y3 y4 y5 y6 σ H locs ls hw hl h; exact h.elim
  | succ n ih =>
    intro y3 y4 y5 y6 σ H locs ls hw hl h
    exact tX0_nightAt_9 M hN ih y3 y4 y5 y6 σ H locs ls hw hl h
def wX0_nightAt (a0 : Int32) (a1 : Int32) (a2 : Int32) (σ : St) (Q : Int32 → St → Prop) : Prop :=
  ∃ n : Nat, Lp (lX0_nightAt_9 Q) n (a2, a1, 0, a0, σ)
set_option maxHeartbeats 4000000 in
set_option maxRecDepth 100000 in
theorem tX0_nightAt_E {Q : Int32 → St → Prop} (M : MC p s m args meth c cX0_nightAt 7 (some .int) RX0 Y) (hN : yN Y = 108) (a0 : Int32) (a1 : Int32) (a2 : Int32) (σ : St) (H : Heap) (locs : List Loc) (ls : Array Slot) (hw : WS Y (AD Y) s.heap σ H locs) (hl : lv_has ls 7 [(0, .ref (yA Y 15)), (1, .int a0), (2, .int a1), (3, .int a2)]) (h : wX0_nightAt a0 a1 a2 σ Q) : W p l e { frames := 1, cells := 0, slots := 0, locals := 22 } s m args below meth c H locs 0 0 (MQ below (QI Y Q) args s 0 0 (AD Y)) (F0 m 0 ls []) := by
  obtain ⟨hx, hb, hr, hml, hown, hlk, hT, hK, hB⟩ := id M
  unfold wX0_nightAt at h
  refine lv_iload_n hx hb dX0_nightAt_0 rfl (lv_at hl 2 rfl) ?_
  refine lv_istore (lv' := [(4, .int a1), (0, .ref (yA Y 15)), (1, .int a0), (2, .int a1), (3, .int a2)]) hx hb dX0_nightAt_1 hl (by decide) rfl (fun ls hl => ?_)
  refine lv_iconst (v := 0) hx hb dX0_nightAt_3 (by decide) ?_
  refine lv_istore (lv' := [(5, .int 0), (4, .int a1), (0, .ref (yA Y 15)), (1, .int a0), (2, .int a1), (3, .int a2)]) hx hb dX0_nightAt_4 hl (by decide) rfl (fun ls hl => ?_)
  refine lv_iload_n hx hb dX0_nightAt_6 rfl (lv_at hl 3 rfl) ?_
  refine lv_istore (lv' := [(6, .int a0), (5, .int 0), (4, .int a1), (0, .ref (yA Y 15)), (1, .int a0), (2, .int a1), (3, .int a2)]) hx hb dX0_nightAt_7 hl (by decide) rfl (fun ls hl => ?_)
  obtain ⟨n, h⟩ := h
  exact tlX0_nightAt_9 M hN n a2 a1 0 a0 σ _ _ _ hw (lv_sub hl [3, 6, 2, 1, 0] rfl) h
set_option maxRecDepth 100000 in
theorem ctX0_nightAt (l : Launch) {Y : LY} (hB : YB Y) (hN : yN Y = 108) (a0 : Int32) (a1 : Int32) (a2 : Int32) (σ : St) (Q : Int32 → St → Prop) (h : wX0_nightAt a0 a1 a2 σ Q) : CT l yX0_nightAt (Cond.code yX0_nightAt cX0_nightAt 7 (some .int)) { frames := 1, cells := 0, slots := 0, locals := 22 } Y [.ref (yA Y 15), .int a0, .int a1, .int a2] σ (QI Y Q) :=
  q_ent hB (by decide +kernel) (Nat.le_of_ble_eq_true rfl) (fun p e s m below meth c ls M hw hl => tX0_nightAt_E M hN a0 a1 a2 σ _ _ ls hw hl h)
theorem mbX0_nightAt : MB RX0 yX0_nightAt cX0_nightAt 3 7 (some .int) := ⟨tw_515, tw_516, tw_52, tw_517, by decide +kernel⟩
end
section
variable {p : Program} {l : Launch} {e : Env} {s : State} {m : MethodId} {args : Array Value} {below : List Frame} {meth : Method} {c : Code} {Y : LY}
theorem dX1_add_0 : decode cX1_add 0 = .ok (.aload_n 0, 1) := by decide +kernel
theorem dX1_add_1 : decode cX1_add 1 = .ok (.getfield 21, 3) := by decide +kernel
theorem dX1_add_4 : decode cX1_add 4 = .ok (.bipush 6, 2) := by decide +kernel
theorem dX1_add_6 : decode cX1_add 6 = .ok (.if_icmp .lt 5, 3) := by decide +kernel
theorem dX1_add_9 : decode cX1_add 9 = .ok (.iconst 0, 1) := by decide +kernel
theorem dX1_add_10 : decode cX1_add 10 = .ok (.ireturn, 1) := by decide +kernel
theorem dX1_add_11 : decode cX1_add 11 = .ok (.aload_n 0, 1) := by decide +kernel
theorem dX1_add_12 : decode cX1_add 12 = .ok (.getfield 9, 3) := by decide +kernel
theorem dX1_add_15 : decode cX1_add 15 = .ok (.aload_n 0, 1) := by decide +kernel
theorem dX1_add_16 : decode cX1_add 16 = .ok (.getfield 21, 3) := by decide +kernel
theorem dX1_add_19 : decode cX1_add 19 = .ok (.iload_n 1, 1) := by decide +kernel
theorem dX1_add_20 : decode cX1_add 20 = .ok (.iastore, 1) := by decide +kernel
theorem dX1_add_21 : decode cX1_add 21 = .ok (.aload_n 0, 1) := by decide +kernel
theorem dX1_add_22 : decode cX1_add 22 = .ok (.getfield 15, 3) := by decide +kernel
theorem dX1_add_25 : decode cX1_add 25 = .ok (.aload_n 0, 1) := by decide +kernel
theorem dX1_add_26 : decode cX1_add 26 = .ok (.getfield 21, 3) := by decide +kernel
theorem dX1_add_29 : decode cX1_add 29 = .ok (.iload_n 2, 1) := by decide +kernel
theorem dX1_add_30 : decode cX1_add 30 = .ok (.iastore, 1) := by decide +kernel
theorem dX1_add_31 : decode cX1_add 31 = .ok (.aload_n 0, 1) := by decide +kernel
theorem dX1_add_32 : decode cX1_add 32 = .ok (.getfield 18, 3) := by decide +kernel
theorem dX1_add_35 : decode cX1_add 35 = .ok (.aload_n 0, 1) := by decide +kernel
theorem dX1_add_36 : decode cX1_add 36 = .ok (.getfield 21, 3) := by decide +kernel
theorem dX1_add_39 : decode cX1_add 39 = .ok (.iload_n 3, 1) := by decide +kernel
theorem dX1_add_40 : decode cX1_add 40 = .ok (.iastore, 1) := by decide +kernel
theorem dX1_add_41 : decode cX1_add 41 = .ok (.aload_n 0, 1) := by decide +kernel
theorem dX1_add_42 : decode cX1_add 42 = .ok (.dup, 1) := by decide +kernel
theorem dX1_add_43 : decode cX1_add 43 = .ok (.getfield 21, 3) := by decide +kernel
theorem dX1_add_46 : decode cX1_add 46 = .ok (.iconst 1, 1) := by decide +kernel
theorem dX1_add_47 : decode cX1_add 47 = .ok (.iadd, 1) := by decide +kernel
theorem dX1_add_48 : decode cX1_add 48 = .ok (.putfield 21, 3) := by decide +kernel
theorem dX1_add_51 : decode cX1_add 51 = .ok (.iconst 1, 1) := by decide +kernel
theorem dX1_add_52 : decode cX1_add 52 = .ok (.ireturn, 1) := by decide +kernel
def wX1_add (a0 : Int32) (a1 : Int32) (a2 : Int32) (σ : St) (Q : Int32 → St → Prop) : Prop :=
  (((σ.1 87 3) < 6 → (vp_in (σ.1 87 3) 6 ∧ ∀ σ3 : St, σ3 = up σ 88 (σ.1 87 3).toNatClampNeg a0 → (vp_in (σ3.1 87 3) 6 ∧ ∀ σ5 : St, σ5 = up σ3 89 (σ3.1 87 3).toNatClampNeg a1 → (vp_in (σ5.1 87 3) 6 ∧ ∀ σ7 : St, σ7 = up σ5 90 (σ5.1 87 3).toNatClampNeg a2 → (∀ σ8 : St, σ8 = up σ7 87 3 ((σ7.1 87 3) + 1) → Q 1 σ8))))) ∧ (¬ (σ.1 87 3) < 6 → Q 0 σ))
set_option maxHeartbeats 4000000 in
set_option maxRecDepth 100000 in
theorem tX1_add_E {Q : Int32 → St → Prop} (M : MC p s m args meth c cX1_add 4 (some .boolean) RX1 Y) (hN : yN Y = 108) (a0 : Int32) (a1 : Int32) (a2 : Int32) (σ : St) (H : Heap) (locs : List Loc) (ls : Array Slot) (hw : WS Y (AD Y) s.heap σ H locs) (hl : lv_has ls 4 [(0, .ref (yA Y 87)), (1, .int a0), (2, .int a1), (3, .int a2)]) (h : wX1_add a0 a1 a2 σ Q) : W p l e { frames := 0, cells := 0, slots := 0, locals := 0 } s m args below meth c H locs 0 0 (MQ below (QI Y Q) args s 0 0 (AD Y)) (F0 m 0 ls []) := by
  obtain ⟨hx, hb, hr, hml, hown, hlk, hT, hK, hB⟩ := id M
  unfold wX1_add at h
  refine lv_aload_n hx hb dX1_add_0 rfl (lv_at hl 0 rfl) ?_
  refine q_get (v := .int (σ.1 87 3)) M hw (ob_87 hN) rfl inq_1 3 (by decide) tw_246 rfl dX1_add_1 ?_
  refine lv_bipush (v := 6) hx hb dX1_add_4 (by decide) ?_
  refine lv_icmp_lt (tgt := 11) hx hb dX1_add_6 (by decide) (fun c1 => ?_) (fun c1 => ?_)
  · have h := h.1 c1
    refine lv_aload_n hx hb dX1_add_11 rfl (lv_at hl 0 rfl) ?_
    refine q_get (v := .ref (yA Y 88)) M hw (ob_87 hN) rfl inq_1 0 (by decide) tw_240 rfl dX1_add_12 ?_
    refine lv_aload_n hx hb dX1_add_15 rfl (lv_at hl 0 rfl) ?_
    refine q_get (v := .int (σ.1 87 3)) M hw (ob_87 hN) rfl inq_1 3 (by decide) tw_246 rfl dX1_add_16 ?_
    refine lv_iload_n hx hb dX1_add_19 rfl (lv_at hl 1 rfl) ?_
    have c2 := h.1
    refine q_ist M hw (ar_88 hN) c2 dX1_add_20 (fun σ3 H locs es hw => ?_)
    have h := h.2 σ3 es
    refine lv_aload_n hx hb dX1_add_21 rfl (lv_at hl 0 rfl) ?_
    refine q_get (v := .ref (yA Y 89)) M hw (ob_87 hN) rfl inq_1 1 (by decide) tw_242 rfl dX1_add_22 ?_
    refine lv_aload_n hx hb dX1_add_25 rfl (lv_at hl 0 rfl) ?_
    refine q_get (v := .int (σ3.1 87 3)) M hw (ob_87 hN) rfl inq_1 3 (by decide) tw_246 rfl dX1_add_26 ?_
    refine lv_iload_n hx hb dX1_add_29 rfl (lv_at hl 2 rfl) ?_
    have c4 := h.1
    refine q_ist M hw (ar_89 hN) c4 dX1_add_30 (fun σ5 H locs es hw => ?_)
    have h := h.2 σ5 es
    refine lv_aload_n hx hb dX1_add_31 rfl (lv_at hl 0 rfl) ?_
    refine q_get (v := .ref (yA Y 90)) M hw (ob_87 hN) rfl inq_1 2 (by decide) tw_244 rfl dX1_add_32 ?_
    refine lv_aload_n hx hb dX1_add_35 rfl (lv_at hl 0 rfl) ?_
    refine q_get (v := .int (σ5.1 87 3)) M hw (ob_87 hN) rfl inq_1 3 (by decide) tw_246 rfl dX1_add_36 ?_
    refine lv_iload_n hx hb dX1_add_39 rfl (lv_at hl 3 rfl) ?_
    have c6 := h.1
    refine q_ist M hw (ar_90 hN) c6 dX1_add_40 (fun σ7 H locs es hw => ?_)
    have h := h.2 σ7 es
    refine lv_aload_n hx hb dX1_add_41 rfl (lv_at hl 0 rfl) ?_
    refine lv_dup hx hb dX1_add_42 rfl ?_
    refine q_get (v := .int (σ7.1 87 3)) M hw (ob_87 hN) rfl inq_1 3 (by decide) tw_246 rfl dX1_add_43 ?_
    refine lv_iconst (v := 1) hx hb dX1_add_46 (by decide) ?_
    refine lv_iadd hx hb dX1_add_47 ?_
    refine q_put (v := ((σ7.1 87 3) + 1)) M hw (ob_87 hN) rfl inq_1 tyX1 tyX1_ok nmX1 3 (by decide) tw_246 rfl rfl rfl (Nat.le_of_ble_eq_true rfl) (by simp [up, upd, f0]) dX1_add_48 (fun σ8 H locs es hw => ?_)
    have h := h σ8 es
    refine lv_iconst (v := 1) hx hb dX1_add_51 (by decide) ?_
    exact q_zret M hw (by decide) h dX1_add_52
  · have h := h.2 c1
    refine lv_iconst (v := 0) hx hb dX1_add_9 (by decide) ?_
    exact q_zret M hw (by decide) h dX1_add_10
set_option maxRecDepth 100000 in
theorem ctX1_add (l : Launch) {Y : LY} (hB : YB Y) (hN : yN Y = 108) (a0 : Int32) (a1 : Int32) (a2 : Int32) (σ : St) (Q : Int32 → St → Prop) (h : wX1_add a0 a1 a2 σ Q) : CT l yX1_add (Cond.code yX1_add cX1_add 4 (some .boolean)) { frames := 0, cells := 0, slots := 0, locals := 0 } Y [.ref (yA Y 87), .int a0, .int a1, .int a2] σ (QI Y Q) :=
  q_ent hB (by decide +kernel) (Nat.le_of_ble_eq_true rfl) (fun p e s m below meth c ls M hw hl => tX1_add_E M hN a0 a1 a2 σ _ _ ls hw hl h)
theorem mbX1_add : MB RX1 yX1_add cX1_add 3 4 (some .boolean) := ⟨tw_549, tw_550, tw_55, tw_551, by decide +kernel⟩
end
section
variable {p : Program} {l : Launch} {e : Env} {s : State} {m : MethodId} {args : Array Value} {below : List Frame} {meth : Method} {c : Code} {Y : LY}
theorem dX4_copy_0 : decode cX4_copy 0 = .ok (.aload_n 0, 1) := by decide +kernel
theorem dX4_copy_1 : decode cX4_copy 1 = .ok (.aload_n 1, 1) := by decide +kernel
theorem dX4_copy_2 : decode cX4_copy 2 = .ok (.getfield 24, 3) := by decide +kernel
theorem dX4_copy_5 : decode cX4_copy 5 = .ok (.putfield 24, 3) := by decide +kernel
theorem dX4_copy_8 : decode cX4_copy 8 = .ok (.aload_n 0, 1) := by decide +kernel
theorem dX4_copy_9 : decode cX4_copy 9 = .ok (.aload_n 1, 1) := by decide +kernel
theorem dX4_copy_10 : decode cX4_copy 10 = .ok (.getfield 33, 3) := by decide +kernel
theorem dX4_copy_13 : decode cX4_copy 13 = .ok (.putfield 33, 3) := by decide +kernel
theorem dX4_copy_16 : decode cX4_copy 16 = .ok (.aload_n 0, 1) := by decide +kernel
theorem dX4_copy_17 : decode cX4_copy 17 = .ok (.aload_n 1, 1) := by decide +kernel
theorem dX4_copy_18 : decode cX4_copy 18 = .ok (.getfield 36, 3) := by decide +kernel
theorem dX4_copy_21 : decode cX4_copy 21 = .ok (.putfield 36, 3) := by decide +kernel
theorem dX4_copy_24 : decode cX4_copy 24 = .ok (.iconst 0, 1) := by decide +kernel
theorem dX4_copy_25 : decode cX4_copy 25 = .ok (.istore_n 2, 1) := by decide +kernel
theorem dX4_copy_26 : decode cX4_copy 26 = .ok (.iload_n 2, 1) := by decide +kernel
theorem dX4_copy_27 : decode cX4_copy 27 = .ok (.iconst 5, 1) := by decide +kernel
theorem dX4_copy_28 : decode cX4_copy 28 = .ok (.if_icmp .ge 33, 3) := by decide +kernel
theorem dX4_copy_31 : decode cX4_copy 31 = .ok (.aload_n 0, 1) := by decide +kernel
theorem dX4_copy_32 : decode cX4_copy 32 = .ok (.getfield 9, 3) := by decide +kernel
theorem dX4_copy_35 : decode cX4_copy 35 = .ok (.iload_n 2, 1) := by decide +kernel
theorem dX4_copy_36 : decode cX4_copy 36 = .ok (.aload_n 1, 1) := by decide +kernel
theorem dX4_copy_37 : decode cX4_copy 37 = .ok (.getfield 9, 3) := by decide +kernel
theorem dX4_copy_40 : decode cX4_copy 40 = .ok (.iload_n 2, 1) := by decide +kernel
theorem dX4_copy_41 : decode cX4_copy 41 = .ok (.iaload, 1) := by decide +kernel
theorem dX4_copy_42 : decode cX4_copy 42 = .ok (.iastore, 1) := by decide +kernel
theorem dX4_copy_43 : decode cX4_copy 43 = .ok (.aload_n 0, 1) := by decide +kernel
theorem dX4_copy_44 : decode cX4_copy 44 = .ok (.getfield 15, 3) := by decide +kernel
theorem dX4_copy_47 : decode cX4_copy 47 = .ok (.iload_n 2, 1) := by decide +kernel
theorem dX4_copy_48 : decode cX4_copy 48 = .ok (.aload_n 1, 1) := by decide +kernel
theorem dX4_copy_49 : decode cX4_copy 49 = .ok (.getfield 15, 3) := by decide +kernel
theorem dX4_copy_52 : decode cX4_copy 52 = .ok (.iload_n 2, 1) := by decide +kernel
theorem dX4_copy_53 : decode cX4_copy 53 = .ok (.iaload, 1) := by decide +kernel
theorem dX4_copy_54 : decode cX4_copy 54 = .ok (.iastore, 1) := by decide +kernel
theorem dX4_copy_55 : decode cX4_copy 55 = .ok (.iinc 2 1, 3) := by decide +kernel
theorem dX4_copy_58 : decode cX4_copy 58 = .ok (.goto (-32), 3) := by decide +kernel
theorem dX4_copy_61 : decode cX4_copy 61 = .ok (.iconst 0, 1) := by decide +kernel
theorem dX4_copy_62 : decode cX4_copy 62 = .ok (.istore_n 2, 1) := by decide +kernel
theorem dX4_copy_63 : decode cX4_copy 63 = .ok (.iload_n 2, 1) := by decide +kernel
theorem dX4_copy_64 : decode cX4_copy 64 = .ok (.bipush 7, 2) := by decide +kernel
theorem dX4_copy_66 : decode cX4_copy 66 = .ok (.if_icmp .ge 33, 3) := by decide +kernel
theorem dX4_copy_69 : decode cX4_copy 69 = .ok (.aload_n 0, 1) := by decide +kernel
theorem dX4_copy_70 : decode cX4_copy 70 = .ok (.getfield 18, 3) := by decide +kernel
theorem dX4_copy_73 : decode cX4_copy 73 = .ok (.iload_n 2, 1) := by decide +kernel
theorem dX4_copy_74 : decode cX4_copy 74 = .ok (.aload_n 1, 1) := by decide +kernel
theorem dX4_copy_75 : decode cX4_copy 75 = .ok (.getfield 18, 3) := by decide +kernel
theorem dX4_copy_78 : decode cX4_copy 78 = .ok (.iload_n 2, 1) := by decide +kernel
theorem dX4_copy_79 : decode cX4_copy 79 = .ok (.iaload, 1) := by decide +kernel
theorem dX4_copy_80 : decode cX4_copy 80 = .ok (.iastore, 1) := by decide +kernel
theorem dX4_copy_81 : decode cX4_copy 81 = .ok (.aload_n 0, 1) := by decide +kernel
theorem dX4_copy_82 : decode cX4_copy 82 = .ok (.getfield 21, 3) := by decide +kernel
theorem dX4_copy_85 : decode cX4_copy 85 = .ok (.iload_n 2, 1) := by decide +kernel
theorem dX4_copy_86 : decode cX4_copy 86 = .ok (.aload_n 1, 1) := by decide +kernel
theorem dX4_copy_87 : decode cX4_copy 87 = .ok (.getfield 21, 3) := by decide +kernel
theorem dX4_copy_90 : decode cX4_copy 90 = .ok (.iload_n 2, 1) := by decide +kernel
theorem dX4_copy_91 : decode cX4_copy 91 = .ok (.iaload, 1) := by decide +kernel
theorem dX4_copy_92 : decode cX4_copy 92 = .ok (.iastore, 1) := by decide +kernel
theorem dX4_copy_93 : decode cX4_copy 93 = .ok (.iinc 2 1, 3) := by decide +kernel
theorem dX4_copy_96 : decode cX4_copy 96 = .ok (.goto (-33), 3) := by decide +kernel
theorem dX4_copy_99 : decode cX4_copy 99 = .ok (.return_, 1) := by decide +kernel
def bX4_copy_63 (R_63 : Int32 × St → Prop) (kq : Nat) (oq : Nat) (y2 : Int32) (σ : St) (Q : St → Prop) : Prop :=
  ((7 ≤ y2 → Q σ) ∧ (¬ 7 ≤ y2 → (vp_in y2 7 ∧ (vp_in y2 7 ∧ ∀ σ4 : St, σ4 = up σ (kq + 3) y2.toNatClampNeg (σ.1 (oq + 3) y2.toNatClampNeg) → (vp_in y2 7 ∧ (vp_in y2 7 ∧ ∀ σ7 : St, σ7 = up σ4 (kq + 4) y2.toNatClampNeg (σ4.1 (oq + 4) y2.toNatClampNeg) → (∀ x8 : Int32, x8 = y2 + 1 → R_63 (x8, σ7))))))))
set_option maxHeartbeats 4000000 in
set_option maxRecDepth 100000 in
theorem tX4_copy_63 {R_63 : Int32 × St → Prop} {kq : Nat} {oq : Nat} {Q : St → Prop} (M : MC p s m args meth c cX4_copy 3 none RX4 Y) (hh_kq : SH Y kq) (hh_oq : SH Y oq) (hR_63 : ∀ (y2 : Int32) (σ : St) (H : Heap) (locs : List Loc) (ls : Array Slot), WS Y (AD Y) s.heap σ H locs → lv_has ls 3 [(0, .ref (yA Y kq)), (1, .ref (yA Y oq)), (2, .int y2)] → R_63 (y2, σ) → W p l e { frames := 0, cells := 0, slots := 0, locals := 0 } s m args below meth c H locs 0 0 (MQ below (QV Y Q) args s 0 0 (AD Y)) (F0 m 63 ls [])) (y2 : Int32) (σ : St) (H : Heap) (locs : List Loc) (ls : Array Slot) (hw : WS Y (AD Y) s.heap σ H locs) (hl : lv_has ls 3 [(0, .ref (yA Y kq)), (1, .ref (yA Y oq)), (2, .int y2)]) (h : bX4_copy_63 R_63 kq oq y2 σ Q) : W p l e { frames := 0, cells := 0, slots := 0, locals := 0 } s m args below meth c H locs 0 0 (MQ below (QV Y Q) args s 0 0 (AD Y)) (F0 m 63 ls []) := by
  obtain ⟨hx, hb, hr, hml, hown, hlk, hT, hK, hB⟩ := id M
  unfold bX4_copy_63 at h
  refine lv_iload_n hx hb dX4_copy_63 rfl (lv_at hl 2 rfl) ?_
  refine lv_bipush (v := 7) hx hb dX4_copy_64 (by decide) ?_
  refine lv_icmp_ge (tgt := 99) hx hb dX4_copy_66 (by decide) (fun c1 => ?_) (fun c1 => ?_)
  · have h := h.1 c1
    exact q_vret M hw h dX4_copy_99
  · have h := h.2 c1
    refine lv_aload_n hx hb dX4_copy_69 rfl (lv_at hl 0 rfl) ?_
    refine q_get (v := .ref (yA Y (kq + 3))) M hw (sh_ob hh_kq) rfl inq_4 2 (by decide) tw_189 rfl dX4_copy_70 ?_
    refine lv_iload_n hx hb dX4_copy_73 rfl (lv_at hl 2 rfl) ?_
    refine lv_aload_n hx hb dX4_copy_74 rfl (lv_at hl 1 rfl) ?_
    refine q_get (v := .ref (yA Y (oq + 3))) M hw (sh_ob hh_oq) rfl inq_4 2 (by decide) tw_189 rfl dX4_copy_75 ?_
    refine lv_iload_n hx hb dX4_copy_78 rfl (lv_at hl 2 rfl) ?_
    have c2 := h.1
    have h := h.2
    refine q_ild M hw (sh_a3 hh_oq) c2 dX4_copy_79 ?_
    have c3 := h.1
    refine q_ist M hw (sh_a3 hh_kq) c3 dX4_copy_80 (fun σ4 H locs es hw => ?_)
    have h := h.2 σ4 es
    refine lv_aload_n hx hb dX4_copy_81 rfl (lv_at hl 0 rfl) ?_
    refine q_get (v := .ref (yA Y (kq + 4))) M hw (sh_ob hh_kq) rfl inq_4 3 (by decide) tw_191 rfl dX4_copy_82 ?_
    refine lv_iload_n hx hb dX4_copy_85 rfl (lv_at hl 2 rfl) ?_
    refine lv_aload_n hx hb dX4_copy_86 rfl (lv_at hl 1 rfl) ?_
    refine q_get (v := .ref (yA Y (oq + 4))) M hw (sh_ob hh_oq) rfl inq_4 3 (by decide) tw_191 rfl dX4_copy_87 ?_
    refine lv_iload_n hx hb dX4_copy_90 rfl (lv_at hl 2 rfl) ?_
    have c5 := h.1
    have h := h.2
    refine q_ild M hw (sh_a4 hh_oq) c5 dX4_copy_91 ?_
    have c6 := h.1
    refine q_ist M hw (sh_a4 hh_kq) c6 dX4_copy_92 (fun σ7 H locs es hw => ?_)
    have h := h.2 σ7 es
    obtain ⟨x8, ex8⟩ : ∃ y : Int32, y = y2 + 1 := ⟨_, rfl⟩
    have h := h x8 ex8
    refine lv_iinc (v := x8) (lv' := [(2, .int x8), (0, .ref (yA Y kq)), (1, .ref (yA Y oq))]) hx hb dX4_copy_93 hl (k := 2) rfl (by rw [ex8]; rfl) (by decide) rfl (fun ls hl => ?_)
    refine lv_goto (tgt := 63) hx hb dX4_copy_96 (by decide) ?_
    exact hR_63 x8 σ7 _ _ _ hw (lv_sub hl [1, 2, 0] rfl) h
def lX4_copy_63 (kq : Nat) (oq : Nat) (Q : St → Prop) : (Int32 × St → Prop) → Int32 × St → Prop := fun R a => bX4_copy_63 R kq oq a.1 a.2 Q
theorem tlX4_copy_63 {kq : Nat} {oq : Nat} {Q : St → Prop} (M : MC p s m args meth c cX4_copy 3 none RX4 Y) (hh_kq : SH Y kq) (hh_oq : SH Y oq) (n : Nat) : ∀ (y2 : Int32) (σ : St) (H : Heap) (locs : List Loc) (ls : Array Slot) (hw : WS Y (AD Y) s.heap σ H locs) (hl : lv_has ls 3 [(0, .ref (yA Y kq)), (1, .ref (yA Y oq)), (2, .int y2)]) (h : Lp (lX4_copy_63 kq oq Q) n (y2, σ)), W p l e { frames := 0, cells := 0, slots := 0, locals := 0 } s m args below meth c H locs 0 0 (MQ below (QV Y Q) args s 0 0 (AD Y)) (F0 m 63 ls []) := by
  induction n with
  | zero => intro y2 σ H locs ls hw hl h; exact h.elim
  | succ n ih =>
    intro y2 σ H locs ls hw hl h
    exact tX4_copy_63 M hh_kq hh_oq ih y2 σ H locs ls hw hl h
def bX4_copy_26 (R_26 : Int32 × St → Prop) (kq : Nat) (oq : Nat) (y2 : Int32) (σ : St) (Q : St → Prop) : Prop :=
  ((5 ≤ y2 → ∃ n : Nat, Lp (lX4_copy_63 kq oq Q) n (0, σ)) ∧ (¬ 5 ≤ y2 → (vp_in y2 5 ∧ (vp_in y2 5 ∧ ∀ σ4 : St, σ4 = up σ (kq + 1) y2.toNatClampNeg (σ.1 (oq + 1) y2.toNatClampNeg) → (vp_in y2 5 ∧ (vp_in y2 5 ∧ ∀ σ7 : St, σ7 = up σ4 (kq + 2) y2.toNatClampNeg (σ4.1 (oq + 2) y2.toNatClampNeg) → (∀ x8 : Int32, x8 = y2 + 1 → R_26 (x8, σ7))))))))
set_option maxHeartbeats 4000000 in
set_option maxRecDepth 100000 in
theorem tX4_copy_26 {R_26 : Int32 × St → Prop} {kq : Nat} {oq : Nat} {Q : St → Prop} (M : MC p s m args meth c cX4_copy 3 none RX4 Y) (hh_kq : SH Y kq) (hh_oq : SH Y oq) (hR_26 : ∀ (y2 : Int32) (σ : St) (H : Heap) (locs : List Loc) (ls : Array Slot), WS Y (AD Y) s.heap σ H locs → lv_has ls 3 [(0, .ref (yA Y kq)), (1, .ref (yA Y oq)), (2, .int y2)] → R_26 (y2, σ) → W p l e { frames := 0, cells := 0, slots := 0, locals := 0 } s m args below meth c H locs 0 0 (MQ below (QV Y Q) args s 0 0 (AD Y)) (F0 m 26 ls [])) (y2 : Int32) (σ : St) (H : Heap) (locs : List Loc) (ls : Array Slot) (hw : WS Y (AD Y) s.heap σ H locs) (hl : lv_has ls 3 [(0, .ref (yA Y kq)), (1, .ref (yA Y oq)), (2, .int y2)]) (h : bX4_copy_26 R_26 kq oq y2 σ Q) : W p l e { frames := 0, cells := 0, slots := 0, locals := 0 } s m args below meth c H locs 0 0 (MQ below (QV Y Q) args s 0 0 (AD Y)) (F0 m 26 ls []) := by
  obtain ⟨hx, hb, hr, hml, hown, hlk, hT, hK, hB⟩ := id M
  unfold bX4_copy_26 at h
  refine lv_iload_n hx hb dX4_copy_26 rfl (lv_at hl 2 rfl) ?_
  refine lv_iconst (v := 5) hx hb dX4_copy_27 (by decide) ?_
  refine lv_icmp_ge (tgt := 61) hx hb dX4_copy_28 (by decide) (fun c1 => ?_) (fun c1 => ?_)
  · have h := h.1 c1
    refine lv_iconst (v := 0) hx hb dX4_copy_61 (by decide) ?_
    refine lv_istore_n (lv' := [(2, .int 0), (0, .ref (yA Y kq)), (1, .ref (yA Y oq))]) hx hb dX4_copy_62 rfl hl (by decide) rfl (fun ls hl => ?_)
    obtain ⟨n, h⟩ := h
    exact tlX4_copy_63 M hh_kq hh_oq n 0 σ _ _ _ hw (lv_sub hl [1, 2, 0] rfl) h
  · have h := h.2 c1
    refine lv_aload_n hx hb dX4_copy_31 rfl (lv_at hl 0 rfl) ?_
    refine q_get (v := .ref (yA Y (kq + 1))) M hw (sh_ob hh_kq) rfl inq_4 0 (by decide) tw_185 rfl dX4_copy_32 ?_
    refine lv_iload_n hx hb dX4_copy_35 rfl (lv_at hl 2 rfl) ?_
    refine lv_aload_n hx hb dX4_copy_36 rfl (lv_at hl 1 rfl) ?_
    refine q_get (v := .ref (yA Y (oq + 1))) M hw (sh_ob hh_oq) rfl inq_4 0 (by decide) tw_185 rfl dX4_copy_37 ?_
    refine lv_iload_n hx hb dX4_copy_40 rfl (lv_at hl 2 rfl) ?_
    have c2 := h.1
    have h := h.2
    refine q_ild M hw (sh_a1 hh_oq) c2 dX4_copy_41 ?_
    have c3 := h.1
    refine q_ist M hw (sh_a1 hh_kq) c3 dX4_copy_42 (fun σ4 H locs es hw => ?_)
    have h := h.2 σ4 es
    refine lv_aload_n hx hb dX4_copy_43 rfl (lv_at hl 0 rfl) ?_
    refine q_get (v := .ref (yA Y (kq + 2))) M hw (sh_ob hh_kq) rfl inq_4 1 (by decide) tw_187 rfl dX4_copy_44 ?_
    refine lv_iload_n hx hb dX4_copy_47 rfl (lv_at hl 2 rfl) ?_
    refine lv_aload_n hx hb dX4_copy_48 rfl (lv_at hl 1 rfl) ?_
    refine q_get (v := .ref (yA Y (oq + 2))) M hw (sh_ob hh_oq) rfl inq_4 1 (by decide) tw_187 rfl dX4_copy_49 ?_
    refine lv_iload_n hx hb dX4_copy_52 rfl (lv_at hl 2 rfl) ?_
    have c5 := h.1
    have h := h.2
    refine q_ild M hw (sh_a2 hh_oq) c5 dX4_copy_53 ?_
    have c6 := h.1
    refine q_ist M hw (sh_a2 hh_kq) c6 dX4_copy_54 (fun σ7 H locs es hw => ?_)
    have h := h.2 σ7 es
    obtain ⟨x8, ex8⟩ : ∃ y : Int32, y = y2 + 1 := ⟨_, rfl⟩
    have h := h x8 ex8
    refine lv_iinc (v := x8) (lv' := [(2, .int x8), (0, .ref (yA Y kq)), (1, .ref (yA Y oq))]) hx hb dX4_copy_55 hl (k := 2) rfl (by rw [ex8]; rfl) (by decide) rfl (fun ls hl => ?_)
    refine lv_goto (tgt := 26) hx hb dX4_copy_58 (by decide) ?_
    exact hR_26 x8 σ7 _ _ _ hw (lv_sub hl [1, 2, 0] rfl) h
def lX4_copy_26 (kq : Nat) (oq : Nat) (Q : St → Prop) : (Int32 × St → Prop) → Int32 × St → Prop := fun R a => bX4_copy_26 R kq oq a.1 a.2 Q
theorem tlX4_copy_26 {kq : Nat} {oq : Nat} {Q : St → Prop} (M : MC p s m args meth c cX4_copy 3 none RX4 Y) (hh_kq : SH Y kq) (hh_oq : SH Y oq) (n : Nat) : ∀ (y2 : Int32) (σ : St) (H : Heap) (locs : List Loc) (ls : Array Slot) (hw : WS Y (AD Y) s.heap σ H locs) (hl : lv_has ls 3 [(0, .ref (yA Y kq)), (1, .ref (yA Y oq)), (2, .int y2)]) (h : Lp (lX4_copy_26 kq oq Q) n (y2, σ)), W p l e { frames := 0, cells := 0, slots := 0, locals := 0 } s m args below meth c H locs 0 0 (MQ below (QV Y Q) args s 0 0 (AD Y)) (F0 m 26 ls []) := by
  induction n with
  | zero => intro y2 σ H locs ls hw hl h; exact h.elim
  | succ n ih =>
    intro y2 σ H locs ls hw hl h
    exact tX4_copy_26 M hh_kq hh_oq ih y2 σ H locs ls hw hl h
def wX4_copy (kq : Nat) (oq : Nat) (σ : St) (Q : St → Prop) : Prop :=
  (∀ σ1 : St, σ1 = up σ kq 4 (σ.1 oq 4) → (∀ σ2 : St, σ2 = up σ1 kq 5 (σ1.1 oq 5) → (∀ σ3 : St, σ3 = up σ2 kq 6 (σ2.1 oq 6) → ∃ n : Nat, Lp (lX4_copy_26 kq oq Q) n (0, σ3))))
set_option maxHeartbeats 4000000 in
set_option maxRecDepth 100000 in
theorem tX4_copy_E {kq : Nat} {oq : Nat} {Q : St → Prop} (M : MC p s m args meth c cX4_copy 3 none RX4 Y) (hh_kq : SH Y kq) (hh_oq : SH Y oq)  (σ : St) (H : Heap) (locs : List Loc) (ls : Array Slot) (hw : WS Y (AD Y) s.heap σ H locs) (hl : lv_has ls 3 [(0, .ref (yA Y kq)), (1, .ref (yA Y oq))]) (h : wX4_copy kq oq σ Q) : W p l e { frames := 0, cells := 0, slots := 0, locals := 0 } s m args below meth c H locs 0 0 (MQ below (QV Y Q) args s 0 0 (AD Y)) (F0 m 0 ls []) := by
  obtain ⟨hx, hb, hr, hml, hown, hlk, hT, hK, hB⟩ := id M
  unfold wX4_copy at h
  refine lv_aload_n hx hb dX4_copy_0 rfl (lv_at hl 0 rfl) ?_
  refine lv_aload_n hx hb dX4_copy_1 rfl (lv_at hl 1 rfl) ?_
  refine q_get (v := .int (σ.1 oq 4)) M hw (sh_ob hh_oq) rfl inq_4 4 (by decide) tw_193 rfl dX4_copy_2 ?_
  refine q_put (v := (σ.1 oq 4)) M hw (sh_ob hh_kq) rfl inq_4 tyX4 tyX4_ok nmX4 4 (by decide) tw_193 rfl rfl rfl (Nat.le_of_ble_eq_true rfl) (by simp [up, upd, f0]) dX4_copy_5 (fun σ1 H locs es hw => ?_)
  have h := h σ1 es
  refine lv_aload_n hx hb dX4_copy_8 rfl (lv_at hl 0 rfl) ?_
  refine lv_aload_n hx hb dX4_copy_9 rfl (lv_at hl 1 rfl) ?_
  refine q_get (v := .int (σ1.1 oq 5)) M hw (sh_ob hh_oq) rfl inq_4 5 (by decide) tw_195 rfl dX4_copy_10 ?_
  refine q_put (v := (σ1.1 oq 5)) M hw (sh_ob hh_kq) rfl inq_4 tyX4 tyX4_ok nmX4 5 (by decide) tw_195 rfl rfl rfl (Nat.le_of_ble_eq_true rfl) (by simp [up, upd, f0]) dX4_copy_13 (fun σ2 H locs es hw => ?_)
  have h := h σ2 es
  refine lv_aload_n hx hb dX4_copy_16 rfl (lv_at hl 0 rfl) ?_
  refine lv_aload_n hx hb dX4_copy_17 rfl (lv_at hl 1 rfl) ?_
  refine q_get (v := .int (σ2.1 oq 6)) M hw (sh_ob hh_oq) rfl inq_4 6 (by decide) tw_197 rfl dX4_copy_18 ?_
  refine q_put (v := (σ2.1 oq 6)) M hw (sh_ob hh_kq) rfl inq_4 tyX4 tyX4_ok nmX4 6 (by decide) tw_197 rfl rfl rfl (Nat.le_of_ble_eq_true rfl) (by simp [up, upd, f0]) dX4_copy_21 (fun σ3 H locs es hw => ?_)
  have h := h σ3 es
  refine lv_iconst (v := 0) hx hb dX4_copy_24 (by decide) ?_
  refine lv_istore_n (lv' := [(2, .int 0), (0, .ref (yA Y kq)), (1, .ref (yA Y oq))]) hx hb dX4_copy_25 rfl hl (by decide) rfl (fun ls hl => ?_)
  obtain ⟨n, h⟩ := h
  exact tlX4_copy_26 M hh_kq hh_oq n 0 σ3 _ _ _ hw (lv_sub hl [1, 2, 0] rfl) h
set_option maxRecDepth 100000 in
theorem ctX4_copy (l : Launch) {Y : LY} {kq : Nat} {oq : Nat} (hB : YB Y) (hh_kq : SH Y kq) (hh_oq : SH Y oq) (σ : St) (Q : St → Prop) (h : wX4_copy kq oq σ Q) : CT l yX4_copy (Cond.code yX4_copy cX4_copy 3 none) { frames := 0, cells := 0, slots := 0, locals := 0 } Y [.ref (yA Y kq), .ref (yA Y oq)] σ (QV Y Q) :=
  q_ent hB (by decide +kernel) (Nat.le_of_ble_eq_true rfl) (fun p e s m below meth c ls M hw hl => tX4_copy_E M hh_kq hh_oq σ _ _ ls hw hl h)
theorem mbX4_copy : MB RX4 yX4_copy cX4_copy 1 3 none := ⟨tw_429, tw_430, tw_53, tw_431, by decide +kernel⟩
end
section
variable {p : Program} {l : Launch} {e : Env} {s : State} {m : MethodId} {args : Array Value} {below : List Frame} {meth : Method} {c : Code} {Y : LY}
theorem dX2_push_0 : decode cX2_push 0 = .ok (.aload_n 0, 1) := by decide +kernel
theorem dX2_push_1 : decode cX2_push 1 = .ok (.getfield 11, 3) := by decide +kernel
theorem dX2_push_4 : decode cX2_push 4 = .ok (.aload_n 0, 1) := by decide +kernel
theorem dX2_push_5 : decode cX2_push 5 = .ok (.getfield 18, 3) := by decide +kernel
theorem dX2_push_8 : decode cX2_push 8 = .ok (.aaload, 1) := by decide +kernel
theorem dX2_push_9 : decode cX2_push 9 = .ok (.aload_n 1, 1) := by decide +kernel
theorem dX2_push_10 : decode cX2_push 10 = .ok (.invokevirtual 22, 3) := by decide +kernel
theorem dX2_push_13 : decode cX2_push 13 = .ok (.aload_n 0, 1) := by decide +kernel
theorem dX2_push_14 : decode cX2_push 14 = .ok (.aload_n 0, 1) := by decide +kernel
theorem dX2_push_15 : decode cX2_push 15 = .ok (.getfield 18, 3) := by decide +kernel
theorem dX2_push_18 : decode cX2_push 18 = .ok (.iconst 1, 1) := by decide +kernel
theorem dX2_push_19 : decode cX2_push 19 = .ok (.iadd, 1) := by decide +kernel
theorem dX2_push_20 : decode cX2_push 20 = .ok (.bipush 10, 2) := by decide +kernel
theorem dX2_push_22 : decode cX2_push 22 = .ok (.irem, 1) := by decide +kernel
theorem dX2_push_23 : decode cX2_push 23 = .ok (.putfield 18, 3) := by decide +kernel
theorem dX2_push_26 : decode cX2_push 26 = .ok (.aload_n 0, 1) := by decide +kernel
theorem dX2_push_27 : decode cX2_push 27 = .ok (.bipush 10, 2) := by decide +kernel
theorem dX2_push_29 : decode cX2_push 29 = .ok (.aload_n 0, 1) := by decide +kernel
theorem dX2_push_30 : decode cX2_push 30 = .ok (.getfield 26, 3) := by decide +kernel
theorem dX2_push_33 : decode cX2_push 33 = .ok (.iconst 1, 1) := by decide +kernel
theorem dX2_push_34 : decode cX2_push 34 = .ok (.iadd, 1) := by decide +kernel
theorem dX2_push_35 : decode cX2_push 35 = .ok (.invokestatic 29, 3) := by decide +kernel
theorem dX2_push_38 : decode cX2_push 38 = .ok (.putfield 26, 3) := by decide +kernel
theorem dX2_push_41 : decode cX2_push 41 = .ok (.return_, 1) := by decide +kernel
def wX2_push (σ : St) (Q : St → Prop) : Prop :=
  (vp_in (σ.1 23 1) 10 ∧ wX4_copy (24 + 1 + 5 * (σ.1 23 1).toNatClampNeg) 18 σ (fun σ2 => (∀ σ3 : St, σ3 = up σ2 23 1 (((σ2.1 23 1) + 1) - ((σ2.1 23 1) + 1) / 10 * 10) → (∀ x4 : Int32, x4 = (if ((σ3.1 23 2) + 1) < 10 then ((σ3.1 23 2) + 1) else 10) → (∀ σ5 : St, σ5 = up σ3 23 2 x4 → Q σ5)))))
set_option maxHeartbeats 4000000 in
set_option maxRecDepth 100000 in
theorem tX2_push_E {Q : St → Prop} (M : MC p s m args meth c cX2_push 2 none RX2 Y) (hN : yN Y = 108)  (σ : St) (H : Heap) (locs : List Loc) (ls : Array Slot) (hw : WS Y (AD Y) s.heap σ H locs) (hl : lv_has ls 2 [(0, .ref (yA Y 23)), (1, .ref (yA Y 18))]) (h : wX2_push σ Q) : W p l e { frames := 1, cells := 0, slots := 0, locals := 22 } s m args below meth c H locs 0 0 (MQ below (QV Y Q) args s 0 0 (AD Y)) (F0 m 0 ls []) := by
  obtain ⟨hx, hb, hr, hml, hown, hlk, hT, hK, hB⟩ := id M
  unfold wX2_push at h
  refine lv_aload_n hx hb dX2_push_0 rfl (lv_at hl 0 rfl) ?_
  refine q_get (v := .ref (yA Y 24)) M hw (ob_23 hN) rfl inq_2 0 (by decide) tw_223 rfl dX2_push_1 ?_
  refine lv_aload_n hx hb dX2_push_4 rfl (lv_at hl 0 rfl) ?_
  refine q_get (v := .int (σ.1 23 1)) M hw (ob_23 hN) rfl inq_2 1 (by decide) tw_224 rfl dX2_push_5 ?_
  have c1 := h.1
  have h := h.2
  refine q_sld M hw (i := 24) (n := 10) (by rw [hN]; decide) (fun _ => rfl) c1 dX2_push_8 ?_
  refine lv_aload_n hx hb dX2_push_9 rfl (lv_at hl 1 rfl) ?_
  refine q_goV hw (q_runV (rest := []) M hw (ctX4_copy l hB (sh_past hN c1) (sh_18 hN) σ _ h) mbX4_copy (sh_ob (sh_past hN c1)) rfl tw_428 rfl hl.1 rfl (Nat.le_of_ble_eq_true rfl) ⟨Nat.le_of_ble_eq_true rfl, Nat.le_of_ble_eq_true rfl⟩ ⟨Nat.le_refl _, Nat.le_refl _⟩ dX2_push_10) (fun σ2 H locs h hw => ?_)
  refine lv_aload_n hx hb dX2_push_13 rfl (lv_at hl 0 rfl) ?_
  refine lv_aload_n hx hb dX2_push_14 rfl (lv_at hl 0 rfl) ?_
  refine q_get (v := .int (σ2.1 23 1)) M hw (ob_23 hN) rfl inq_2 1 (by decide) tw_224 rfl dX2_push_15 ?_
  refine lv_iconst (v := 1) hx hb dX2_push_18 (by decide) ?_
  refine lv_iadd hx hb dX2_push_19 ?_
  refine lv_bipush (v := 10) hx hb dX2_push_20 (by decide) ?_
  refine lv_irem hx hb dX2_push_22 (by decide) ?_
  refine q_put (v := (((σ2.1 23 1) + 1) - ((σ2.1 23 1) + 1) / 10 * 10)) M hw (ob_23 hN) rfl inq_2 tyX2 tyX2_ok nmX2 1 (by decide) tw_224 rfl rfl rfl (Nat.le_of_ble_eq_true rfl) (by simp [up, upd, f0]) dX2_push_23 (fun σ3 H locs es hw => ?_)
  have h := h σ3 es
  refine lv_aload_n hx hb dX2_push_26 rfl (lv_at hl 0 rfl) ?_
  refine lv_bipush (v := 10) hx hb dX2_push_27 (by decide) ?_
  refine lv_aload_n hx hb dX2_push_29 rfl (lv_at hl 0 rfl) ?_
  refine q_get (v := .int (σ3.1 23 2)) M hw (ob_23 hN) rfl inq_2 2 (by decide) tw_225 rfl dX2_push_30 ?_
  refine lv_iconst (v := 1) hx hb dX2_push_33 (by decide) ?_
  refine lv_iadd hx hb dX2_push_34 ?_
  refine va_mmin hx hb (by rw [hl.1]; exact hml) hown (hT _ tw_432) (hT _ tw_433) (hT _ tw_57) (hT _ tw_434) (Nat.le_of_ble_eq_true rfl) (Nat.le_of_ble_eq_true rfl) (Nat.le_refl _) (Nat.le_refl _) dX2_push_35 ?_
  refine lv_topi (fun x4 ex4 => ?_)
  have h := h x4 ex4
  refine q_put (v := x4) M hw (ob_23 hN) rfl inq_2 tyX2 tyX2_ok nmX2 2 (by decide) tw_225 rfl rfl rfl (Nat.le_of_ble_eq_true rfl) (by simp [up, upd, f0]) dX2_push_38 (fun σ5 H locs es hw => ?_)
  have h := h σ5 es
  exact q_vret M hw h dX2_push_41
set_option maxRecDepth 100000 in
theorem ctX2_push (l : Launch) {Y : LY} (hB : YB Y) (hN : yN Y = 108) (σ : St) (Q : St → Prop) (h : wX2_push σ Q) : CT l yX2_push (Cond.code yX2_push cX2_push 2 none) { frames := 1, cells := 0, slots := 0, locals := 22 } Y [.ref (yA Y 23), .ref (yA Y 18)] σ (QV Y Q) :=
  q_ent hB (by decide +kernel) (Nat.le_of_ble_eq_true rfl) (fun p e s m below meth c ls M hw hl => tX2_push_E M hN σ _ _ ls hw hl h)
theorem mbX2_push : MB RX2 yX2_push cX2_push 1 2 none := ⟨tw_425, tw_426, tw_54, tw_427, by decide +kernel⟩
end
section
variable {p : Program} {l : Launch} {e : Env} {s : State} {m : MethodId} {args : Array Value} {below : List Frame} {meth : Method} {c : Code} {Y : LY}
theorem dX2_pop_0 : decode cX2_pop 0 = .ok (.aload_n 0, 1) := by decide +kernel
theorem dX2_pop_1 : decode cX2_pop 1 = .ok (.getfield 26, 3) := by decide +kernel
theorem dX2_pop_4 : decode cX2_pop 4 = .ok (.ifCond .ne 5, 3) := by decide +kernel
theorem dX2_pop_7 : decode cX2_pop 7 = .ok (.iconst 0, 1) := by decide +kernel
theorem dX2_pop_8 : decode cX2_pop 8 = .ok (.ireturn, 1) := by decide +kernel
theorem dX2_pop_9 : decode cX2_pop 9 = .ok (.aload_n 0, 1) := by decide +kernel
theorem dX2_pop_10 : decode cX2_pop 10 = .ok (.aload_n 0, 1) := by decide +kernel
theorem dX2_pop_11 : decode cX2_pop 11 = .ok (.getfield 18, 3) := by decide +kernel
theorem dX2_pop_14 : decode cX2_pop 14 = .ok (.bipush 10, 2) := by decide +kernel
theorem dX2_pop_16 : decode cX2_pop 16 = .ok (.iadd, 1) := by decide +kernel
theorem dX2_pop_17 : decode cX2_pop 17 = .ok (.iconst 1, 1) := by decide +kernel
theorem dX2_pop_18 : decode cX2_pop 18 = .ok (.isub, 1) := by decide +kernel
theorem dX2_pop_19 : decode cX2_pop 19 = .ok (.bipush 10, 2) := by decide +kernel
theorem dX2_pop_21 : decode cX2_pop 21 = .ok (.irem, 1) := by decide +kernel
theorem dX2_pop_22 : decode cX2_pop 22 = .ok (.putfield 18, 3) := by decide +kernel
theorem dX2_pop_25 : decode cX2_pop 25 = .ok (.aload_n 0, 1) := by decide +kernel
theorem dX2_pop_26 : decode cX2_pop 26 = .ok (.dup, 1) := by decide +kernel
theorem dX2_pop_27 : decode cX2_pop 27 = .ok (.getfield 26, 3) := by decide +kernel
theorem dX2_pop_30 : decode cX2_pop 30 = .ok (.iconst 1, 1) := by decide +kernel
theorem dX2_pop_31 : decode cX2_pop 31 = .ok (.isub, 1) := by decide +kernel
theorem dX2_pop_32 : decode cX2_pop 32 = .ok (.putfield 26, 3) := by decide +kernel
theorem dX2_pop_35 : decode cX2_pop 35 = .ok (.aload_n 1, 1) := by decide +kernel
theorem dX2_pop_36 : decode cX2_pop 36 = .ok (.aload_n 0, 1) := by decide +kernel
theorem dX2_pop_37 : decode cX2_pop 37 = .ok (.getfield 11, 3) := by decide +kernel
theorem dX2_pop_40 : decode cX2_pop 40 = .ok (.aload_n 0, 1) := by decide +kernel
theorem dX2_pop_41 : decode cX2_pop 41 = .ok (.getfield 18, 3) := by decide +kernel
theorem dX2_pop_44 : decode cX2_pop 44 = .ok (.aaload, 1) := by decide +kernel
theorem dX2_pop_45 : decode cX2_pop 45 = .ok (.invokevirtual 22, 3) := by decide +kernel
theorem dX2_pop_48 : decode cX2_pop 48 = .ok (.iconst 1, 1) := by decide +kernel
theorem dX2_pop_49 : decode cX2_pop 49 = .ok (.ireturn, 1) := by decide +kernel
def wX2_pop (σ : St) (Q : Int32 → St → Prop) : Prop :=
  (((σ.1 23 2) = 0 → Q 0 σ) ∧ (¬ (σ.1 23 2) = 0 → (∀ σ2 : St, σ2 = up σ 23 1 ((((σ.1 23 1) + 10) - 1) - (((σ.1 23 1) + 10) - 1) / 10 * 10) → (∀ σ3 : St, σ3 = up σ2 23 2 ((σ2.1 23 2) - 1) → (vp_in (σ3.1 23 1) 10 ∧ wX4_copy 18 (24 + 1 + 5 * (σ3.1 23 1).toNatClampNeg) σ3 (fun σ5 => Q 1 σ5))))))
set_option maxHeartbeats 4000000 in
set_option maxRecDepth 100000 in
theorem tX2_pop_E {Q : Int32 → St → Prop} (M : MC p s m args meth c cX2_pop 2 (some .boolean) RX2 Y) (hN : yN Y = 108)  (σ : St) (H : Heap) (locs : List Loc) (ls : Array Slot) (hw : WS Y (AD Y) s.heap σ H locs) (hl : lv_has ls 2 [(0, .ref (yA Y 23)), (1, .ref (yA Y 18))]) (h : wX2_pop σ Q) : W p l e { frames := 1, cells := 0, slots := 0, locals := 22 } s m args below meth c H locs 0 0 (MQ below (QI Y Q) args s 0 0 (AD Y)) (F0 m 0 ls []) := by
  obtain ⟨hx, hb, hr, hml, hown, hlk, hT, hK, hB⟩ := id M
  unfold wX2_pop at h
  refine lv_aload_n hx hb dX2_pop_0 rfl (lv_at hl 0 rfl) ?_
  refine q_get (v := .int (σ.1 23 2)) M hw (ob_23 hN) rfl inq_2 2 (by decide) tw_225 rfl dX2_pop_1 ?_
  refine lv_if_ne (tgt := 9) hx hb dX2_pop_4 (by decide) (fun c1 => ?_) (fun c1 => ?_)
  · have h := h.2 c1
    refine lv_aload_n hx hb dX2_pop_9 rfl (lv_at hl 0 rfl) ?_
    refine lv_aload_n hx hb dX2_pop_10 rfl (lv_at hl 0 rfl) ?_
    refine q_get (v := .int (σ.1 23 1)) M hw (ob_23 hN) rfl inq_2 1 (by decide) tw_224 rfl dX2_pop_11 ?_
    refine lv_bipush (v := 10) hx hb dX2_pop_14 (by decide) ?_
    refine lv_iadd hx hb dX2_pop_16 ?_
    refine lv_iconst (v := 1) hx hb dX2_pop_17 (by decide) ?_
    refine lv_isub hx hb dX2_pop_18 ?_
    refine lv_bipush (v := 10) hx hb dX2_pop_19 (by decide) ?_
    refine lv_irem hx hb dX2_pop_21 (by decide) ?_
    refine q_put (v := ((((σ.1 23 1) + 10) - 1) - (((σ.1 23 1) + 10) - 1) / 10 * 10)) M hw (ob_23 hN) rfl inq_2 tyX2 tyX2_ok nmX2 1 (by decide) tw_224 rfl rfl rfl (Nat.le_of_ble_eq_true rfl) (by simp [up, upd, f0]) dX2_pop_22 (fun σ2 H locs es hw => ?_)
    have h := h σ2 es
    refine lv_aload_n hx hb dX2_pop_25 rfl (lv_at hl 0 rfl) ?_
    refine lv_dup hx hb dX2_pop_26 rfl ?_
    refine q_get (v := .int (σ2.1 23 2)) M hw (ob_23 hN) rfl inq_2 2 (by decide) tw_225 rfl dX2_pop_27 ?_
    refine lv_iconst (v := 1) hx hb dX2_pop_30 (by decide) ?_
    refine lv_isub hx hb dX2_pop_31 ?_
    refine q_put (v := ((σ2.1 23 2) - 1)) M hw (ob_23 hN) rfl inq_2 tyX2 tyX2_ok nmX2 2 (by decide) tw_225 rfl rfl rfl (Nat.le_of_ble_eq_true rfl) (by simp [up, upd, f0]) dX2_pop_32 (fun σ3 H locs es hw => ?_)
    have h := h σ3 es
    refine lv_aload_n hx hb dX2_pop_35 rfl (lv_at hl 1 rfl) ?_
    refine lv_aload_n hx hb dX2_pop_36 rfl (lv_at hl 0 rfl) ?_
    refine q_get (v := .ref (yA Y 24)) M hw (ob_23 hN) rfl inq_2 0 (by decide) tw_223 rfl dX2_pop_37 ?_
    refine lv_aload_n hx hb dX2_pop_40 rfl (lv_at hl 0 rfl) ?_
    refine q_get (v := .int (σ3.1 23 1)) M hw (ob_23 hN) rfl inq_2 1 (by decide) tw_224 rfl dX2_pop_41 ?_
    have c4 := h.1
    have h := h.2
    refine q_sld M hw (i := 24) (n := 10) (by rw [hN]; decide) (fun _ => rfl) c4 dX2_pop_44 ?_
    refine q_goV hw (q_runV (rest := []) M hw (ctX4_copy l hB (sh_18 hN) (sh_past hN c4) σ3 _ h) mbX4_copy (sh_ob (sh_18 hN)) rfl tw_428 rfl hl.1 rfl (Nat.le_of_ble_eq_true rfl) ⟨Nat.le_of_ble_eq_true rfl, Nat.le_of_ble_eq_true rfl⟩ ⟨Nat.le_refl _, Nat.le_refl _⟩ dX2_pop_45) (fun σ5 H locs h hw => ?_)
    refine lv_iconst (v := 1) hx hb dX2_pop_48 (by decide) ?_
    exact q_zret M hw (by decide) h dX2_pop_49
  · have h := h.1 c1
    refine lv_iconst (v := 0) hx hb dX2_pop_7 (by decide) ?_
    exact q_zret M hw (by decide) h dX2_pop_8
set_option maxRecDepth 100000 in
theorem ctX2_pop (l : Launch) {Y : LY} (hB : YB Y) (hN : yN Y = 108) (σ : St) (Q : Int32 → St → Prop) (h : wX2_pop σ Q) : CT l yX2_pop (Cond.code yX2_pop cX2_pop 2 (some .boolean)) { frames := 1, cells := 0, slots := 0, locals := 22 } Y [.ref (yA Y 23), .ref (yA Y 18)] σ (QI Y Q) :=
  q_ent hB (by decide +kernel) (Nat.le_of_ble_eq_true rfl) (fun p e s m below meth c ls M hw hl => tX2_pop_E M hN σ _ _ ls hw hl h)
theorem mbX2_pop : MB RX2 yX2_pop cX2_pop 1 2 (some .boolean) := ⟨tw_484, tw_485, tw_54, tw_486, by decide +kernel⟩
end
section
variable {p : Program} {l : Launch} {e : Env} {s : State} {m : MethodId} {args : Array Value} {below : List Frame} {meth : Method} {c : Code} {Y : LY}
theorem dX2_forgetAll_0 : decode cX2_forgetAll 0 = .ok (.aload_n 0, 1) := by decide +kernel
theorem dX2_forgetAll_1 : decode cX2_forgetAll 1 = .ok (.iconst 0, 1) := by decide +kernel
theorem dX2_forgetAll_2 : decode cX2_forgetAll 2 = .ok (.putfield 26, 3) := by decide +kernel
theorem dX2_forgetAll_5 : decode cX2_forgetAll 5 = .ok (.return_, 1) := by decide +kernel
def wX2_forgetAll (σ : St) (Q : St → Prop) : Prop :=
  (∀ σ1 : St, σ1 = up σ 23 2 0 → Q σ1)
set_option maxHeartbeats 4000000 in
set_option maxRecDepth 100000 in
theorem tX2_forgetAll_E {Q : St → Prop} (M : MC p s m args meth c cX2_forgetAll 1 none RX2 Y) (hN : yN Y = 108)  (σ : St) (H : Heap) (locs : List Loc) (ls : Array Slot) (hw : WS Y (AD Y) s.heap σ H locs) (hl : lv_has ls 1 [(0, .ref (yA Y 23))]) (h : wX2_forgetAll σ Q) : W p l e { frames := 0, cells := 0, slots := 0, locals := 0 } s m args below meth c H locs 0 0 (MQ below (QV Y Q) args s 0 0 (AD Y)) (F0 m 0 ls []) := by
  obtain ⟨hx, hb, hr, hml, hown, hlk, hT, hK, hB⟩ := id M
  unfold wX2_forgetAll at h
  refine lv_aload_n hx hb dX2_forgetAll_0 rfl (lv_at hl 0 rfl) ?_
  refine lv_iconst (v := 0) hx hb dX2_forgetAll_1 (by decide) ?_
  refine q_put (v := 0) M hw (ob_23 hN) rfl inq_2 tyX2 tyX2_ok nmX2 2 (by decide) tw_225 rfl rfl rfl (Nat.le_of_ble_eq_true rfl) (by simp [up, upd, f0]) dX2_forgetAll_2 (fun σ1 H locs es hw => ?_)
  have h := h σ1 es
  exact q_vret M hw h dX2_forgetAll_5
set_option maxRecDepth 100000 in
theorem ctX2_forgetAll (l : Launch) {Y : LY} (hB : YB Y) (hN : yN Y = 108) (σ : St) (Q : St → Prop) (h : wX2_forgetAll σ Q) : CT l yX2_forgetAll (Cond.code yX2_forgetAll cX2_forgetAll 1 none) { frames := 0, cells := 0, slots := 0, locals := 0 } Y [.ref (yA Y 23)] σ (QV Y Q) :=
  q_ent hB (by decide +kernel) (Nat.le_of_ble_eq_true rfl) (fun p e s m below meth c ls M hw hl => tX2_forgetAll_E M hN σ _ _ ls hw hl h)
theorem mbX2_forgetAll : MB RX2 yX2_forgetAll cX2_forgetAll 0 1 none := ⟨tw_360, tw_361, tw_54, tw_362, by decide +kernel⟩
end
section
variable {p : Program} {l : Launch} {e : Env} {s : State} {m : MethodId} {args : Array Value} {below : List Frame} {meth : Method} {c : Code} {Y : LY}
theorem dX3_empty_0 : decode cX3_empty 0 = .ok (.aload_n 0, 1) := by decide +kernel
theorem dX3_empty_1 : decode cX3_empty 1 = .ok (.iconst 0, 1) := by decide +kernel
theorem dX3_empty_2 : decode cX3_empty 2 = .ok (.putfield 32, 3) := by decide +kernel
theorem dX3_empty_5 : decode cX3_empty 5 = .ok (.aload_n 0, 1) := by decide +kernel
theorem dX3_empty_6 : decode cX3_empty 6 = .ok (.iconst 0, 1) := by decide +kernel
theorem dX3_empty_7 : decode cX3_empty 7 = .ok (.putfield 35, 3) := by decide +kernel
theorem dX3_empty_10 : decode cX3_empty 10 = .ok (.aload_n 0, 1) := by decide +kernel
theorem dX3_empty_11 : decode cX3_empty 11 = .ok (.iconst 0, 1) := by decide +kernel
theorem dX3_empty_12 : decode cX3_empty 12 = .ok (.putfield 38, 3) := by decide +kernel
theorem dX3_empty_15 : decode cX3_empty 15 = .ok (.aload_n 0, 1) := by decide +kernel
theorem dX3_empty_16 : decode cX3_empty 16 = .ok (.bipush 30, 2) := by decide +kernel
theorem dX3_empty_18 : decode cX3_empty 18 = .ok (.putfield 28, 3) := by decide +kernel
theorem dX3_empty_21 : decode cX3_empty 21 = .ok (.aload_n 0, 1) := by decide +kernel
theorem dX3_empty_22 : decode cX3_empty 22 = .ok (.iconst 0, 1) := by decide +kernel
theorem dX3_empty_23 : decode cX3_empty 23 = .ok (.putfield 41, 3) := by decide +kernel
theorem dX3_empty_26 : decode cX3_empty 26 = .ok (.aload_n 0, 1) := by decide +kernel
theorem dX3_empty_27 : decode cX3_empty 27 = .ok (.iconst 0, 1) := by decide +kernel
theorem dX3_empty_28 : decode cX3_empty 28 = .ok (.putfield 45, 3) := by decide +kernel
theorem dX3_empty_31 : decode cX3_empty 31 = .ok (.iconst 0, 1) := by decide +kernel
theorem dX3_empty_32 : decode cX3_empty 32 = .ok (.istore_n 1, 1) := by decide +kernel
theorem dX3_empty_33 : decode cX3_empty 33 = .ok (.iload_n 1, 1) := by decide +kernel
theorem dX3_empty_34 : decode cX3_empty 34 = .ok (.bipush 99, 2) := by decide +kernel
theorem dX3_empty_36 : decode cX3_empty 36 = .ok (.if_icmp .gt 16, 3) := by decide +kernel
theorem dX3_empty_39 : decode cX3_empty 39 = .ok (.aload_n 0, 1) := by decide +kernel
theorem dX3_empty_40 : decode cX3_empty 40 = .ok (.getfield 24, 3) := by decide +kernel
theorem dX3_empty_43 : decode cX3_empty 43 = .ok (.iload_n 1, 1) := by decide +kernel
theorem dX3_empty_44 : decode cX3_empty 44 = .ok (.iconst 0, 1) := by decide +kernel
theorem dX3_empty_45 : decode cX3_empty 45 = .ok (.bastore, 1) := by decide +kernel
theorem dX3_empty_46 : decode cX3_empty 46 = .ok (.iinc 1 1, 3) := by decide +kernel
theorem dX3_empty_49 : decode cX3_empty 49 = .ok (.goto (-16), 3) := by decide +kernel
theorem dX3_empty_52 : decode cX3_empty 52 = .ok (.return_, 1) := by decide +kernel
def bX3_empty_33 (R_33 : Int32 × St → Prop) (pq : Nat) (y1 : Int32) (σ : St) (Q : St → Prop) : Prop :=
  ((99 < y1 → Q σ) ∧ (¬ 99 < y1 → (vp_in y1 100 ∧ ∀ σ3 : St, σ3 = up σ (pq + 5) y1.toNatClampNeg (vp_nar .boolean 0) → (∀ x4 : Int32, x4 = y1 + 1 → R_33 (x4, σ3)))))
set_option maxHeartbeats 4000000 in
set_option maxRecDepth 100000 in
theorem tX3_empty_33 {R_33 : Int32 × St → Prop} {pq : Nat} {Q : St → Prop} (M : MC p s m args meth c cX3_empty 2 none RX3 Y) (hh_pq : PH Y pq) (hR_33 : ∀ (y1 : Int32) (σ : St) (H : Heap) (locs : List Loc) (ls : Array Slot), WS Y (AD Y) s.heap σ H locs → lv_has ls 2 [(0, .ref (yA Y pq)), (1, .int y1)] → R_33 (y1, σ) → W p l e { frames := 0, cells := 0, slots := 0, locals := 0 } s m args below meth c H locs 0 0 (MQ below (QV Y Q) args s 0 0 (AD Y)) (F0 m 33 ls [])) (y1 : Int32) (σ : St) (H : Heap) (locs : List Loc) (ls : Array Slot) (hw : WS Y (AD Y) s.heap σ H locs) (hl : lv_has ls 2 [(0, .ref (yA Y pq)), (1, .int y1)]) (h : bX3_empty_33 R_33 pq y1 σ Q) : W p l e { frames := 0, cells := 0, slots := 0, locals := 0 } s m args below meth c H locs 0 0 (MQ below (QV Y Q) args s 0 0 (AD Y)) (F0 m 33 ls []) := by
  obtain ⟨hx, hb, hr, hml, hown, hlk, hT, hK, hB⟩ := id M
  unfold bX3_empty_33 at h
  refine lv_iload_n hx hb dX3_empty_33 rfl (lv_at hl 1 rfl) ?_
  refine lv_bipush (v := 99) hx hb dX3_empty_34 (by decide) ?_
  refine lv_icmp_gt (tgt := 52) hx hb dX3_empty_36 (by decide) (fun c1 => ?_) (fun c1 => ?_)
  · have h := h.1 c1
    exact q_vret M hw h dX3_empty_52
  · have h := h.2 c1
    refine lv_aload_n hx hb dX3_empty_39 rfl (lv_at hl 0 rfl) ?_
    refine q_get (v := .ref (yA Y (pq + 5))) M hw (ph_ob hh_pq) rfl inq_3 4 (by decide) tw_112 rfl dX3_empty_40 ?_
    refine lv_iload_n hx hb dX3_empty_43 rfl (lv_at hl 1 rfl) ?_
    refine lv_iconst (v := 0) hx hb dX3_empty_44 (by decide) ?_
    have c2 := h.1
    refine q_zst M hw (ph_a5 hh_pq) c2 dX3_empty_45 (fun σ3 H locs es hw => ?_)
    have h := h.2 σ3 es
    obtain ⟨x4, ex4⟩ : ∃ y : Int32, y = y1 + 1 := ⟨_, rfl⟩
    have h := h x4 ex4
    refine lv_iinc (v := x4) (lv' := [(1, .int x4), (0, .ref (yA Y pq))]) hx hb dX3_empty_46 hl (k := 1) rfl (by rw [ex4]; rfl) (by decide) rfl (fun ls hl => ?_)
    refine lv_goto (tgt := 33) hx hb dX3_empty_49 (by decide) ?_
    exact hR_33 x4 σ3 _ _ _ hw (lv_sub hl [1, 0] rfl) h
def lX3_empty_33 (pq : Nat) (Q : St → Prop) : (Int32 × St → Prop) → Int32 × St → Prop := fun R a => bX3_empty_33 R pq a.1 a.2 Q
theorem tlX3_empty_33 {pq : Nat} {Q : St → Prop} (M : MC p s m args meth c cX3_empty 2 none RX3 Y) (hh_pq : PH Y pq) (n : Nat) : ∀ (y1 : Int32) (σ : St) (H : Heap) (locs : List Loc) (ls : Array Slot) (hw : WS Y (AD Y) s.heap σ H locs) (hl : lv_has ls 2 [(0, .ref (yA Y pq)), (1, .int y1)]) (h : Lp (lX3_empty_33 pq Q) n (y1, σ)), W p l e { frames := 0, cells := 0, slots := 0, locals := 0 } s m args below meth c H locs 0 0 (MQ below (QV Y Q) args s 0 0 (AD Y)) (F0 m 33 ls []) := by
  induction n with
  | zero => intro y1 σ H locs ls hw hl h; exact h.elim
  | succ n ih =>
    intro y1 σ H locs ls hw hl h
    exact tX3_empty_33 M hh_pq ih y1 σ H locs ls hw hl h
def wX3_empty (pq : Nat) (σ : St) (Q : St → Prop) : Prop :=
  (∀ σ1 : St, σ1 = up σ pq 5 0 → (∀ σ2 : St, σ2 = up σ1 pq 6 0 → (∀ σ3 : St, σ3 = up σ2 pq 7 0 → (∀ σ4 : St, σ4 = up σ3 pq 8 30 → (∀ σ5 : St, σ5 = up σ4 pq 9 0 → (∀ σ6 : St, σ6 = up σ5 pq 10 0 → ∃ n : Nat, Lp (lX3_empty_33 pq Q) n (0, σ6)))))))
set_option maxHeartbeats 4000000 in
set_option maxRecDepth 100000 in
theorem tX3_empty_E {pq : Nat} {Q : St → Prop} (M : MC p s m args meth c cX3_empty 2 none RX3 Y) (hh_pq : PH Y pq)  (σ : St) (H : Heap) (locs : List Loc) (ls : Array Slot) (hw : WS Y (AD Y) s.heap σ H locs) (hl : lv_has ls 2 [(0, .ref (yA Y pq))]) (h : wX3_empty pq σ Q) : W p l e { frames := 0, cells := 0, slots := 0, locals := 0 } s m args below meth c H locs 0 0 (MQ below (QV Y Q) args s 0 0 (AD Y)) (F0 m 0 ls []) := by
  obtain ⟨hx, hb, hr, hml, hown, hlk, hT, hK, hB⟩ := id M
  unfold wX3_empty at h
  refine lv_aload_n hx hb dX3_empty_0 rfl (lv_at hl 0 rfl) ?_
  refine lv_iconst (v := 0) hx hb dX3_empty_1 (by decide) ?_
  refine q_put (v := 0) M hw (ph_ob hh_pq) rfl inq_3 tyX3 tyX3_ok nmX3 5 (by decide) tw_116 rfl rfl rfl (Nat.le_of_ble_eq_true rfl) (by simp [up, upd, f0]) dX3_empty_2 (fun σ1 H locs es hw => ?_)
  have h := h σ1 es
  refine lv_aload_n hx hb dX3_empty_5 rfl (lv_at hl 0 rfl) ?_
  refine lv_iconst (v := 0) hx hb dX3_empty_6 (by decide) ?_
  refine q_put (v := 0) M hw (ph_ob hh_pq) rfl inq_3 tyX3 tyX3_ok nmX3 6 (by decide) tw_120 rfl rfl rfl (Nat.le_of_ble_eq_true rfl) (by simp [up, upd, f0]) dX3_empty_7 (fun σ2 H locs es hw => ?_)
  have h := h σ2 es
  refine lv_aload_n hx hb dX3_empty_10 rfl (lv_at hl 0 rfl) ?_
  refine lv_iconst (v := 0) hx hb dX3_empty_11 (by decide) ?_
  refine q_put (v := 0) M hw (ph_ob hh_pq) rfl inq_3 tyX3 tyX3_ok nmX3 7 (by decide) tw_123 rfl rfl rfl (Nat.le_of_ble_eq_true rfl) (by simp [up, upd, f0]) dX3_empty_12 (fun σ3 H locs es hw => ?_)
  have h := h σ3 es
  refine lv_aload_n hx hb dX3_empty_15 rfl (lv_at hl 0 rfl) ?_
  refine lv_bipush (v := 30) hx hb dX3_empty_16 (by decide) ?_
  refine q_put (v := 30) M hw (ph_ob hh_pq) rfl inq_3 tyX3 tyX3_ok nmX3 8 (by decide) tw_126 rfl rfl rfl (Nat.le_of_ble_eq_true rfl) (by simp [up, upd, f0]) dX3_empty_18 (fun σ4 H locs es hw => ?_)
  have h := h σ4 es
  refine lv_aload_n hx hb dX3_empty_21 rfl (lv_at hl 0 rfl) ?_
  refine lv_iconst (v := 0) hx hb dX3_empty_22 (by decide) ?_
  refine q_put (v := 0) M hw (ph_ob hh_pq) rfl inq_3 tyX3 tyX3_ok nmX3 9 (by decide) tw_130 rfl (by decide) rfl (Nat.le_of_ble_eq_true rfl) (by simp [up, upd, f0]) dX3_empty_23 (fun σ5 H locs es hw => ?_)
  have h := h σ5 es
  refine lv_aload_n hx hb dX3_empty_26 rfl (lv_at hl 0 rfl) ?_
  refine lv_iconst (v := 0) hx hb dX3_empty_27 (by decide) ?_
  refine q_put (v := 0) M hw (ph_ob hh_pq) rfl inq_3 tyX3 tyX3_ok nmX3 10 (by decide) tw_132 rfl (by decide) rfl (Nat.le_of_ble_eq_true rfl) (by simp [up, upd, f0]) dX3_empty_28 (fun σ6 H locs es hw => ?_)
  have h := h σ6 es
  refine lv_iconst (v := 0) hx hb dX3_empty_31 (by decide) ?_
  refine lv_istore_n (lv' := [(1, .int 0), (0, .ref (yA Y pq))]) hx hb dX3_empty_32 rfl hl (by decide) rfl (fun ls hl => ?_)
  obtain ⟨n, h⟩ := h
  exact tlX3_empty_33 M hh_pq n 0 σ6 _ _ _ hw (lv_sub hl [1, 0] rfl) h
set_option maxRecDepth 100000 in
theorem ctX3_empty (l : Launch) {Y : LY} {pq : Nat} (hB : YB Y) (hh_pq : PH Y pq) (σ : St) (Q : St → Prop) (h : wX3_empty pq σ Q) : CT l yX3_empty (Cond.code yX3_empty cX3_empty 2 none) { frames := 0, cells := 0, slots := 0, locals := 0 } Y [.ref (yA Y pq)] σ (QV Y Q) :=
  q_ent hB (by decide +kernel) (Nat.le_of_ble_eq_true rfl) (fun p e s m below meth c ls M hw hl => tX3_empty_E M hh_pq σ _ _ ls hw hl h)
theorem mbX3_empty : MB RX3 yX3_empty cX3_empty 0 2 none := ⟨tw_312, tw_313, tw_51, tw_314, by decide +kernel⟩
end
section
variable {p : Program} {l : Launch} {e : Env} {s : State} {m : MethodId} {args : Array Value} {below : List Frame} {meth : Method} {c : Code} {Y : LY}
theorem dX4_begin_0 : decode cX4_begin 0 = .ok (.aload_n 0, 1) := by decide +kernel
theorem dX4_begin_1 : decode cX4_begin 1 = .ok (.iconst 0, 1) := by decide +kernel
theorem dX4_begin_2 : decode cX4_begin 2 = .ok (.putfield 24, 3) := by decide +kernel
theorem dX4_begin_5 : decode cX4_begin 5 = .ok (.aload_n 0, 1) := by decide +kernel
theorem dX4_begin_6 : decode cX4_begin 6 = .ok (.iconst 1, 1) := by decide +kernel
theorem dX4_begin_7 : decode cX4_begin 7 = .ok (.aload_n 1, 1) := by decide +kernel
theorem dX4_begin_8 : decode cX4_begin 8 = .ok (.getfield 28, 3) := by decide +kernel
theorem dX4_begin_11 : decode cX4_begin 11 = .ok (.ishl, 1) := by decide +kernel
theorem dX4_begin_12 : decode cX4_begin 12 = .ok (.iconst 1, 1) := by decide +kernel
theorem dX4_begin_13 : decode cX4_begin 13 = .ok (.isub, 1) := by decide +kernel
theorem dX4_begin_14 : decode cX4_begin 14 = .ok (.putfield 33, 3) := by decide +kernel
theorem dX4_begin_17 : decode cX4_begin 17 = .ok (.aload_n 0, 1) := by decide +kernel
theorem dX4_begin_18 : decode cX4_begin 18 = .ok (.iconst 0, 1) := by decide +kernel
theorem dX4_begin_19 : decode cX4_begin 19 = .ok (.putfield 36, 3) := by decide +kernel
theorem dX4_begin_22 : decode cX4_begin 22 = .ok (.iconst 0, 1) := by decide +kernel
theorem dX4_begin_23 : decode cX4_begin 23 = .ok (.istore_n 2, 1) := by decide +kernel
theorem dX4_begin_24 : decode cX4_begin 24 = .ok (.iload_n 2, 1) := by decide +kernel
theorem dX4_begin_25 : decode cX4_begin 25 = .ok (.iconst 5, 1) := by decide +kernel
theorem dX4_begin_26 : decode cX4_begin 26 = .ok (.if_icmp .ge 29, 3) := by decide +kernel
theorem dX4_begin_29 : decode cX4_begin 29 = .ok (.aload_n 0, 1) := by decide +kernel
theorem dX4_begin_30 : decode cX4_begin 30 = .ok (.getfield 9, 3) := by decide +kernel
theorem dX4_begin_33 : decode cX4_begin 33 = .ok (.iload_n 2, 1) := by decide +kernel
theorem dX4_begin_34 : decode cX4_begin 34 = .ok (.aload_n 1, 1) := by decide +kernel
theorem dX4_begin_35 : decode cX4_begin 35 = .ok (.getfield 39, 3) := by decide +kernel
theorem dX4_begin_38 : decode cX4_begin 38 = .ok (.iload_n 2, 1) := by decide +kernel
theorem dX4_begin_39 : decode cX4_begin 39 = .ok (.iaload, 1) := by decide +kernel
theorem dX4_begin_40 : decode cX4_begin 40 = .ok (.iastore, 1) := by decide +kernel
theorem dX4_begin_41 : decode cX4_begin 41 = .ok (.aload_n 0, 1) := by decide +kernel
theorem dX4_begin_42 : decode cX4_begin 42 = .ok (.getfield 15, 3) := by decide +kernel
theorem dX4_begin_45 : decode cX4_begin 45 = .ok (.iload_n 2, 1) := by decide +kernel
theorem dX4_begin_46 : decode cX4_begin 46 = .ok (.bipush (-9), 2) := by decide +kernel
theorem dX4_begin_48 : decode cX4_begin 48 = .ok (.iastore, 1) := by decide +kernel
theorem dX4_begin_49 : decode cX4_begin 49 = .ok (.iinc 2 1, 3) := by decide +kernel
theorem dX4_begin_52 : decode cX4_begin 52 = .ok (.goto (-28), 3) := by decide +kernel
theorem dX4_begin_55 : decode cX4_begin 55 = .ok (.iconst 0, 1) := by decide +kernel
theorem dX4_begin_56 : decode cX4_begin 56 = .ok (.istore_n 2, 1) := by decide +kernel
theorem dX4_begin_57 : decode cX4_begin 57 = .ok (.iload_n 2, 1) := by decide +kernel
theorem dX4_begin_58 : decode cX4_begin 58 = .ok (.bipush 7, 2) := by decide +kernel
theorem dX4_begin_60 : decode cX4_begin 60 = .ok (.if_icmp .ge 33, 3) := by decide +kernel
theorem dX4_begin_63 : decode cX4_begin 63 = .ok (.aload_n 0, 1) := by decide +kernel
theorem dX4_begin_64 : decode cX4_begin 64 = .ok (.getfield 18, 3) := by decide +kernel
theorem dX4_begin_67 : decode cX4_begin 67 = .ok (.iload_n 2, 1) := by decide +kernel
theorem dX4_begin_68 : decode cX4_begin 68 = .ok (.aload_n 1, 1) := by decide +kernel
theorem dX4_begin_69 : decode cX4_begin 69 = .ok (.getfield 40, 3) := by decide +kernel
theorem dX4_begin_72 : decode cX4_begin 72 = .ok (.iload_n 2, 1) := by decide +kernel
theorem dX4_begin_73 : decode cX4_begin 73 = .ok (.iaload, 1) := by decide +kernel
theorem dX4_begin_74 : decode cX4_begin 74 = .ok (.iastore, 1) := by decide +kernel
theorem dX4_begin_75 : decode cX4_begin 75 = .ok (.aload_n 0, 1) := by decide +kernel
theorem dX4_begin_76 : decode cX4_begin 76 = .ok (.getfield 21, 3) := by decide +kernel
theorem dX4_begin_79 : decode cX4_begin 79 = .ok (.iload_n 2, 1) := by decide +kernel
theorem dX4_begin_80 : decode cX4_begin 80 = .ok (.aload_n 1, 1) := by decide +kernel
theorem dX4_begin_81 : decode cX4_begin 81 = .ok (.getfield 41, 3) := by decide +kernel
theorem dX4_begin_84 : decode cX4_begin 84 = .ok (.iload_n 2, 1) := by decide +kernel
theorem dX4_begin_85 : decode cX4_begin 85 = .ok (.iaload, 1) := by decide +kernel
theorem dX4_begin_86 : decode cX4_begin 86 = .ok (.iastore, 1) := by decide +kernel
theorem dX4_begin_87 : decode cX4_begin 87 = .ok (.iinc 2 1, 3) := by decide +kernel
theorem dX4_begin_90 : decode cX4_begin 90 = .ok (.goto (-33), 3) := by decide +kernel
theorem dX4_begin_93 : decode cX4_begin 93 = .ok (.return_, 1) := by decide +kernel
def bX4_begin_57 (R_57 : Int32 × St → Prop) (kq : Nat) (pq : Nat) (y2 : Int32) (σ : St) (Q : St → Prop) : Prop :=
  ((7 ≤ y2 → Q σ) ∧ (¬ 7 ≤ y2 → (vp_in y2 7 ∧ (vp_in y2 7 ∧ ∀ σ4 : St, σ4 = up σ (kq + 3) y2.toNatClampNeg (σ.1 (pq + 3) y2.toNatClampNeg) → (vp_in y2 7 ∧ (vp_in y2 7 ∧ ∀ σ7 : St, σ7 = up σ4 (kq + 4) y2.toNatClampNeg (σ4.1 (pq + 4) y2.toNatClampNeg) → (∀ x8 : Int32, x8 = y2 + 1 → R_57 (x8, σ7))))))))
set_option maxHeartbeats 4000000 in
set_option maxRecDepth 100000 in
theorem tX4_begin_57 {R_57 : Int32 × St → Prop} {kq : Nat} {pq : Nat} {Q : St → Prop} (M : MC p s m args meth c cX4_begin 3 none RX4 Y) (hh_kq : SH Y kq) (hh_pq : PH Y pq) (hR_57 : ∀ (y2 : Int32) (σ : St) (H : Heap) (locs : List Loc) (ls : Array Slot), WS Y (AD Y) s.heap σ H locs → lv_has ls 3 [(0, .ref (yA Y kq)), (1, .ref (yA Y pq)), (2, .int y2)] → R_57 (y2, σ) → W p l e { frames := 0, cells := 0, slots := 0, locals := 0 } s m args below meth c H locs 0 0 (MQ below (QV Y Q) args s 0 0 (AD Y)) (F0 m 57 ls [])) (y2 : Int32) (σ : St) (H : Heap) (locs : List Loc) (ls : Array Slot) (hw : WS Y (AD Y) s.heap σ H locs) (hl : lv_has ls 3 [(0, .ref (yA Y kq)), (1, .ref (yA Y pq)), (2, .int y2)]) (h : bX4_begin_57 R_57 kq pq y2 σ Q) : W p l e { frames := 0, cells := 0, slots := 0, locals := 0 } s m args below meth c H locs 0 0 (MQ below (QV Y Q) args s 0 0 (AD Y)) (F0 m 57 ls []) := by
  obtain ⟨hx, hb, hr, hml, hown, hlk, hT, hK, hB⟩ := id M
  unfold bX4_begin_57 at h
  refine lv_iload_n hx hb dX4_begin_57 rfl (lv_at hl 2 rfl) ?_
  refine lv_bipush (v := 7) hx hb dX4_begin_58 (by decide) ?_
  refine lv_icmp_ge (tgt := 93) hx hb dX4_begin_60 (by decide) (fun c1 => ?_) (fun c1 => ?_)
  · have h := h.1 c1
    exact q_vret M hw h dX4_begin_93
  · have h := h.2 c1
    refine lv_aload_n hx hb dX4_begin_63 rfl (lv_at hl 0 rfl) ?_
    refine q_get (v := .ref (yA Y (kq + 3))) M hw (sh_ob hh_kq) rfl inq_4 2 (by decide) tw_189 rfl dX4_begin_64 ?_
    refine lv_iload_n hx hb dX4_begin_67 rfl (lv_at hl 2 rfl) ?_
    refine lv_aload_n hx hb dX4_begin_68 rfl (lv_at hl 1 rfl) ?_
    refine q_get (v := .ref (yA Y (pq + 3))) M hw (ph_ob hh_pq) rfl inq_3 2 (by decide) tw_106 rfl dX4_begin_69 ?_
    refine lv_iload_n hx hb dX4_begin_72 rfl (lv_at hl 2 rfl) ?_
    have c2 := h.1
    have h := h.2
    refine q_ild M hw (ph_a3 hh_pq) c2 dX4_begin_73 ?_
    have c3 := h.1
    refine q_ist M hw (sh_a3 hh_kq) c3 dX4_begin_74 (fun σ4 H locs es hw => ?_)
    have h := h.2 σ4 es
    refine lv_aload_n hx hb dX4_begin_75 rfl (lv_at hl 0 rfl) ?_
    refine q_get (v := .ref (yA Y (kq + 4))) M hw (sh_ob hh_kq) rfl inq_4 3 (by decide) tw_191 rfl dX4_begin_76 ?_
    refine lv_iload_n hx hb dX4_begin_79 rfl (lv_at hl 2 rfl) ?_
    refine lv_aload_n hx hb dX4_begin_80 rfl (lv_at hl 1 rfl) ?_
    refine q_get (v := .ref (yA Y (pq + 4))) M hw (ph_ob hh_pq) rfl inq_3 3 (by decide) tw_109 rfl dX4_begin_81 ?_
    refine lv_iload_n hx hb dX4_begin_84 rfl (lv_at hl 2 rfl) ?_
    have c5 := h.1
    have h := h.2
    refine q_ild M hw (ph_a4 hh_pq) c5 dX4_begin_85 ?_
    have c6 := h.1
    refine q_ist M hw (sh_a4 hh_kq) c6 dX4_begin_86 (fun σ7 H locs es hw => ?_)
    have h := h.2 σ7 es
    obtain ⟨x8, ex8⟩ : ∃ y : Int32, y = y2 + 1 := ⟨_, rfl⟩
    have h := h x8 ex8
    refine lv_iinc (v := x8) (lv' := [(2, .int x8), (0, .ref (yA Y kq)), (1, .ref (yA Y pq))]) hx hb dX4_begin_87 hl (k := 2) rfl (by rw [ex8]; rfl) (by decide) rfl (fun ls hl => ?_)
    refine lv_goto (tgt := 57) hx hb dX4_begin_90 (by decide) ?_
    exact hR_57 x8 σ7 _ _ _ hw (lv_sub hl [1, 2, 0] rfl) h
def lX4_begin_57 (kq : Nat) (pq : Nat) (Q : St → Prop) : (Int32 × St → Prop) → Int32 × St → Prop := fun R a => bX4_begin_57 R kq pq a.1 a.2 Q
theorem tlX4_begin_57 {kq : Nat} {pq : Nat} {Q : St → Prop} (M : MC p s m args meth c cX4_begin 3 none RX4 Y) (hh_kq : SH Y kq) (hh_pq : PH Y pq) (n : Nat) : ∀ (y2 : Int32) (σ : St) (H : Heap) (locs : List Loc) (ls : Array Slot) (hw : WS Y (AD Y) s.heap σ H locs) (hl : lv_has ls 3 [(0, .ref (yA Y kq)), (1, .ref (yA Y pq)), (2, .int y2)]) (h : Lp (lX4_begin_57 kq pq Q) n (y2, σ)), W p l e { frames := 0, cells := 0, slots := 0, locals := 0 } s m args below meth c H locs 0 0 (MQ below (QV Y Q) args s 0 0 (AD Y)) (F0 m 57 ls []) := by
  induction n with
  | zero => intro y2 σ H locs ls hw hl h; exact h.elim
  | succ n ih =>
    intro y2 σ H locs ls hw hl h
    exact tX4_begin_57 M hh_kq hh_pq ih y2 σ H locs ls hw hl h
def bX4_begin_24 (R_24 : Int32 × St → Prop) (kq : Nat) (pq : Nat) (y2 : Int32) (σ : St) (Q : St → Prop) : Prop :=
  ((5 ≤ y2 → ∃ n : Nat, Lp (lX4_begin_57 kq pq Q) n (0, σ)) ∧ (¬ 5 ≤ y2 → (vp_in y2 5 ∧ (vp_in y2 5 ∧ ∀ σ4 : St, σ4 = up σ (kq + 1) y2.toNatClampNeg (σ.1 (pq + 1) y2.toNatClampNeg) → (vp_in y2 5 ∧ ∀ σ6 : St, σ6 = up σ4 (kq + 2) y2.toNatClampNeg (-9) → (∀ x7 : Int32, x7 = y2 + 1 → R_24 (x7, σ6)))))))
set_option maxHeartbeats 4000000 in
set_option maxRecDepth 100000 in
theorem tX4_begin_24 {R_24 : Int32 × St → Prop} {kq : Nat} {pq : Nat} {Q : St → Prop} (M : MC p s m args meth c cX4_begin 3 none RX4 Y) (hh_kq : SH Y kq) (hh_pq : PH Y pq) (hR_24 : ∀ (y2 : Int32) (σ : St) (H : Heap) (locs : List Loc) (ls : Array Slot), WS Y (AD Y) s.heap σ H locs → lv_has ls 3 [(0, .ref (yA Y kq)), (1, .ref (yA Y pq)), (2, .int y2)] → R_24 (y2, σ) → W p l e { frames := 0, cells := 0, slots := 0, locals := 0 } s m args below meth c H locs 0 0 (MQ below (QV Y Q) args s 0 0 (AD Y)) (F0 m 24 ls [])) (y2 : Int32) (σ : St) (H : Heap) (locs : List Loc) (ls : Array Slot) (hw : WS Y (AD Y) s.heap σ H locs) (hl : lv_has ls 3 [(0, .ref (yA Y kq)), (1, .ref (yA Y pq)), (2, .int y2)]) (h : bX4_begin_24 R_24 kq pq y2 σ Q) : W p l e { frames := 0, cells := 0, slots := 0, locals := 0 } s m args below meth c H locs 0 0 (MQ below (QV Y Q) args s 0 0 (AD Y)) (F0 m 24 ls []) := by
  obtain ⟨hx, hb, hr, hml, hown, hlk, hT, hK, hB⟩ := id M
  unfold bX4_begin_24 at h
  refine lv_iload_n hx hb dX4_begin_24 rfl (lv_at hl 2 rfl) ?_
  refine lv_iconst (v := 5) hx hb dX4_begin_25 (by decide) ?_
  refine lv_icmp_ge (tgt := 55) hx hb dX4_begin_26 (by decide) (fun c1 => ?_) (fun c1 => ?_)
  · have h := h.1 c1
    refine lv_iconst (v := 0) hx hb dX4_begin_55 (by decide) ?_
    refine lv_istore_n (lv' := [(2, .int 0), (0, .ref (yA Y kq)), (1, .ref (yA Y pq))]) hx hb dX4_begin_56 rfl hl (by decide) rfl (fun ls hl => ?_)
    obtain ⟨n, h⟩ := h
    exact tlX4_begin_57 M hh_kq hh_pq n 0 σ _ _ _ hw (lv_sub hl [1, 2, 0] rfl) h
  · have h := h.2 c1
    refine lv_aload_n hx hb dX4_begin_29 rfl (lv_at hl 0 rfl) ?_
    refine q_get (v := .ref (yA Y (kq + 1))) M hw (sh_ob hh_kq) rfl inq_4 0 (by decide) tw_185 rfl dX4_begin_30 ?_
    refine lv_iload_n hx hb dX4_begin_33 rfl (lv_at hl 2 rfl) ?_
    refine lv_aload_n hx hb dX4_begin_34 rfl (lv_at hl 1 rfl) ?_
    refine q_get (v := .ref (yA Y (pq + 1))) M hw (ph_ob hh_pq) rfl inq_3 0 (by decide) tw_100 rfl dX4_begin_35 ?_
    refine lv_iload_n hx hb dX4_begin_38 rfl (lv_at hl 2 rfl) ?_
    have c2 := h.1
    have h := h.2
    refine q_ild M hw (ph_a1 hh_pq) c2 dX4_begin_39 ?_
    have c3 := h.1
    refine q_ist M hw (sh_a1 hh_kq) c3 dX4_begin_40 (fun σ4 H locs es hw => ?_)
    have h := h.2 σ4 es
    refine lv_aload_n hx hb dX4_begin_41 rfl (lv_at hl 0 rfl) ?_
    refine q_get (v := .ref (yA Y (kq + 2))) M hw (sh_ob hh_kq) rfl inq_4 1 (by decide) tw_187 rfl dX4_begin_42 ?_
    refine lv_iload_n hx hb dX4_begin_45 rfl (lv_at hl 2 rfl) ?_
    refine lv_bipush (v := (-9)) hx hb dX4_begin_46 (by decide) ?_
    have c5 := h.1
    refine q_ist M hw (sh_a2 hh_kq) c5 dX4_begin_48 (fun σ6 H locs es hw => ?_)
    have h := h.2 σ6 es
    obtain ⟨x7, ex7⟩ : ∃ y : Int32, y = y2 + 1 := ⟨_, rfl⟩
    have h := h x7 ex7
    refine lv_iinc (v := x7) (lv' := [(2, .int x7), (0, .ref (yA Y kq)), (1, .ref (yA Y pq))]) hx hb dX4_begin_49 hl (k := 2) rfl (by rw [ex7]; rfl) (by decide) rfl (fun ls hl => ?_)
    refine lv_goto (tgt := 24) hx hb dX4_begin_52 (by decide) ?_
    exact hR_24 x7 σ6 _ _ _ hw (lv_sub hl [1, 2, 0] rfl) h
def lX4_begin_24 (kq : Nat) (pq : Nat) (Q : St → Prop) : (Int32 × St → Prop) → Int32 × St → Prop := fun R a => bX4_begin_24 R kq pq a.1 a.2 Q
theorem tlX4_begin_24 {kq : Nat} {pq : Nat} {Q : St → Prop} (M : MC p s m args meth c cX4_begin 3 none RX4 Y) (hh_kq : SH Y kq) (hh_pq : PH Y pq) (n : Nat) : ∀ (y2 : Int32) (σ : St) (H : Heap) (locs : List Loc) (ls : Array Slot) (hw : WS Y (AD Y) s.heap σ H locs) (hl : lv_has ls 3 [(0, .ref (yA Y kq)), (1, .ref (yA Y pq)), (2, .int y2)]) (h : Lp (lX4_begin_24 kq pq Q) n (y2, σ)), W p l e { frames := 0, cells := 0, slots := 0, locals := 0 } s m args below meth c H locs 0 0 (MQ below (QV Y Q) args s 0 0 (AD Y)) (F0 m 24 ls []) := by
  induction n with
  | zero => intro y2 σ H locs ls hw hl h; exact h.elim
  | succ n ih =>
    intro y2 σ H locs ls hw hl h
    exact tX4_begin_24 M hh_kq hh_pq ih y2 σ H locs ls hw hl h
def wX4_begin (kq : Nat) (pq : Nat) (σ : St) (Q : St → Prop) : Prop :=
  (∀ σ1 : St, σ1 = up σ kq 4 0 → (∀ σ2 : St, σ2 = up σ1 kq 5 ((1 <<< ((σ1.1 pq 5) &&& 31)) - 1) → (∀ σ3 : St, σ3 = up σ2 kq 6 0 → ∃ n : Nat, Lp (lX4_begin_24 kq pq Q) n (0, σ3))))
set_option maxHeartbeats 4000000 in
set_option maxRecDepth 100000 in
theorem tX4_begin_E {kq : Nat} {pq : Nat} {Q : St → Prop} (M : MC p s m args meth c cX4_begin 3 none RX4 Y) (hh_kq : SH Y kq) (hh_pq : PH Y pq)  (σ : St) (H : Heap) (locs : List Loc) (ls : Array Slot) (hw : WS Y (AD Y) s.heap σ H locs) (hl : lv_has ls 3 [(0, .ref (yA Y kq)), (1, .ref (yA Y pq))]) (h : wX4_begin kq pq σ Q) : W p l e { frames := 0, cells := 0, slots := 0, locals := 0 } s m args below meth c H locs 0 0 (MQ below (QV Y Q) args s 0 0 (AD Y)) (F0 m 0 ls []) := by
  obtain ⟨hx, hb, hr, hml, hown, hlk, hT, hK, hB⟩ := id M
  unfold wX4_begin at h
  refine lv_aload_n hx hb dX4_begin_0 rfl (lv_at hl 0 rfl) ?_
  refine lv_iconst (v := 0) hx hb dX4_begin_1 (by decide) ?_
  refine q_put (v := 0) M hw (sh_ob hh_kq) rfl inq_4 tyX4 tyX4_ok nmX4 4 (by decide) tw_193 rfl rfl rfl (Nat.le_of_ble_eq_true rfl) (by simp [up, upd, f0]) dX4_begin_2 (fun σ1 H locs es hw => ?_)
  have h := h σ1 es
  refine lv_aload_n hx hb dX4_begin_5 rfl (lv_at hl 0 rfl) ?_
  refine lv_iconst (v := 1) hx hb dX4_begin_6 (by decide) ?_
  refine lv_aload_n hx hb dX4_begin_7 rfl (lv_at hl 1 rfl) ?_
  refine q_get (v := .int (σ1.1 pq 5)) M hw (ph_ob hh_pq) rfl inq_3 5 (by decide) tw_117 rfl dX4_begin_8 ?_
  refine lv_ishl hx hb dX4_begin_11 ?_
  refine lv_iconst (v := 1) hx hb dX4_begin_12 (by decide) ?_
  refine lv_isub hx hb dX4_begin_13 ?_
  refine q_put (v := ((1 <<< ((σ1.1 pq 5) &&& 31)) - 1)) M hw (sh_ob hh_kq) rfl inq_4 tyX4 tyX4_ok nmX4 5 (by decide) tw_195 rfl rfl rfl (Nat.le_of_ble_eq_true rfl) (by simp [up, upd, f0]) dX4_begin_14 (fun σ2 H locs es hw => ?_)
  have h := h σ2 es
  refine lv_aload_n hx hb dX4_begin_17 rfl (lv_at hl 0 rfl) ?_
  refine lv_iconst (v := 0) hx hb dX4_begin_18 (by decide) ?_
  refine q_put (v := 0) M hw (sh_ob hh_kq) rfl inq_4 tyX4 tyX4_ok nmX4 6 (by decide) tw_197 rfl rfl rfl (Nat.le_of_ble_eq_true rfl) (by simp [up, upd, f0]) dX4_begin_19 (fun σ3 H locs es hw => ?_)
  have h := h σ3 es
  refine lv_iconst (v := 0) hx hb dX4_begin_22 (by decide) ?_
  refine lv_istore_n (lv' := [(2, .int 0), (0, .ref (yA Y kq)), (1, .ref (yA Y pq))]) hx hb dX4_begin_23 rfl hl (by decide) rfl (fun ls hl => ?_)
  obtain ⟨n, h⟩ := h
  exact tlX4_begin_24 M hh_kq hh_pq n 0 σ3 _ _ _ hw (lv_sub hl [1, 2, 0] rfl) h
set_option maxRecDepth 100000 in
theorem ctX4_begin (l : Launch) {Y : LY} {kq : Nat} {pq : Nat} (hB : YB Y) (hh_kq : SH Y kq) (hh_pq : PH Y pq) (σ : St) (Q : St → Prop) (h : wX4_begin kq pq σ Q) : CT l yX4_begin (Cond.code yX4_begin cX4_begin 3 none) { frames := 0, cells := 0, slots := 0, locals := 0 } Y [.ref (yA Y kq), .ref (yA Y pq)] σ (QV Y Q) :=
  q_ent hB (by decide +kernel) (Nat.le_of_ble_eq_true rfl) (fun p e s m below meth c ls M hw hl => tX4_begin_E M hh_kq hh_pq σ _ _ ls hw hl h)
theorem mbX4_begin : MB RX4 yX4_begin cX4_begin 1 3 none := ⟨tw_356, tw_357, tw_53, tw_358, by decide +kernel⟩
end
section
variable {p : Program} {l : Launch} {e : Env} {s : State} {m : MethodId} {args : Array Value} {below : List Frame} {meth : Method} {c : Code} {Y : LY}
theorem dX4_alive_0 : decode cX4_alive 0 = .ok (.aload_n 0, 1) := by decide +kernel
theorem dX4_alive_1 : decode cX4_alive 1 = .ok (.getfield 33, 3) := by decide +kernel
theorem dX4_alive_4 : decode cX4_alive 4 = .ok (.iload_n 1, 1) := by decide +kernel
theorem dX4_alive_5 : decode cX4_alive 5 = .ok (.ishr, 1) := by decide +kernel
theorem dX4_alive_6 : decode cX4_alive 6 = .ok (.iconst 1, 1) := by decide +kernel
theorem dX4_alive_7 : decode cX4_alive 7 = .ok (.iand, 1) := by decide +kernel
theorem dX4_alive_8 : decode cX4_alive 8 = .ok (.iconst 1, 1) := by decide +kernel
theorem dX4_alive_9 : decode cX4_alive 9 = .ok (.if_icmp .ne 7, 3) := by decide +kernel
theorem dX4_alive_12 : decode cX4_alive 12 = .ok (.iconst 1, 1) := by decide +kernel
theorem dX4_alive_13 : decode cX4_alive 13 = .ok (.goto 4, 3) := by decide +kernel
theorem dX4_alive_16 : decode cX4_alive 16 = .ok (.iconst 0, 1) := by decide +kernel
theorem dX4_alive_17 : decode cX4_alive 17 = .ok (.ireturn, 1) := by decide +kernel
def wX4_alive (kq : Nat) (a0 : Int32) (σ : St) (Q : Int32 → St → Prop) : Prop :=
  (((((σ.1 kq 5) >>> (a0 &&& 31)) &&& 1) = 1 → Q 1 σ) ∧ (¬ (((σ.1 kq 5) >>> (a0 &&& 31)) &&& 1) = 1 → Q 0 σ))
set_option maxHeartbeats 4000000 in
set_option maxRecDepth 100000 in
theorem tX4_alive_E {kq : Nat} {Q : Int32 → St → Prop} (M : MC p s m args meth c cX4_alive 2 (some .boolean) RX4 Y) (hh_kq : SH Y kq) (a0 : Int32) (σ : St) (H : Heap) (locs : List Loc) (ls : Array Slot) (hw : WS Y (AD Y) s.heap σ H locs) (hl : lv_has ls 2 [(0, .ref (yA Y kq)), (1, .int a0)]) (h : wX4_alive kq a0 σ Q) : W p l e { frames := 0, cells := 0, slots := 0, locals := 0 } s m args below meth c H locs 0 0 (MQ below (QI Y Q) args s 0 0 (AD Y)) (F0 m 0 ls []) := by
  obtain ⟨hx, hb, hr, hml, hown, hlk, hT, hK, hB⟩ := id M
  unfold wX4_alive at h
  refine lv_aload_n hx hb dX4_alive_0 rfl (lv_at hl 0 rfl) ?_
  refine q_get (v := .int (σ.1 kq 5)) M hw (sh_ob hh_kq) rfl inq_4 5 (by decide) tw_195 rfl dX4_alive_1 ?_
  refine lv_iload_n hx hb dX4_alive_4 rfl (lv_at hl 1 rfl) ?_
  refine lv_ishr hx hb dX4_alive_5 ?_
  refine lv_iconst (v := 1) hx hb dX4_alive_6 (by decide) ?_
  refine lv_iand hx hb dX4_alive_7 ?_
  refine lv_iconst (v := 1) hx hb dX4_alive_8 (by decide) ?_
  refine lv_icmp_ne (tgt := 16) hx hb dX4_alive_9 (by decide) (fun c1 => ?_) (fun c1 => ?_)
  · have h := h.2 c1
    refine lv_iconst (v := 0) hx hb dX4_alive_16 (by decide) ?_
    exact q_zret M hw (by decide) h dX4_alive_17
  · have h := h.1 c1
    refine lv_iconst (v := 1) hx hb dX4_alive_12 (by decide) ?_
    refine lv_goto (tgt := 17) hx hb dX4_alive_13 (by decide) ?_
    exact q_zret M hw (by decide) h dX4_alive_17
set_option maxRecDepth 100000 in
theorem ctX4_alive (l : Launch) {Y : LY} {kq : Nat} (hB : YB Y) (hh_kq : SH Y kq) (a0 : Int32) (σ : St) (Q : Int32 → St → Prop) (h : wX4_alive kq a0 σ Q) : CT l yX4_alive (Cond.code yX4_alive cX4_alive 2 (some .boolean)) { frames := 0, cells := 0, slots := 0, locals := 0 } Y [.ref (yA Y kq), .int a0] σ (QI Y Q) :=
  q_ent hB (by decide +kernel) (Nat.le_of_ble_eq_true rfl) (fun p e s m below meth c ls M hw hl => tX4_alive_E M hh_kq a0 σ _ _ ls hw hl h)
theorem mbX4_alive : MB RX4 yX4_alive cX4_alive 1 2 (some .boolean) := ⟨tw_372, tw_373, tw_53, tw_374, by decide +kernel⟩
end
section
variable {p : Program} {l : Launch} {e : Env} {s : State} {m : MethodId} {args : Array Value} {below : List Frame} {meth : Method} {c : Code} {Y : LY}
theorem dX4_free_0 : decode cX4_free 0 = .ok (.aload_n 0, 1) := by decide +kernel
theorem dX4_free_1 : decode cX4_free 1 = .ok (.iload_n 1, 1) := by decide +kernel
theorem dX4_free_2 : decode cX4_free 2 = .ok (.invokevirtual 44, 3) := by decide +kernel
theorem dX4_free_5 : decode cX4_free 5 = .ok (.ifCond .eq 18, 3) := by decide +kernel
theorem dX4_free_8 : decode cX4_free 8 = .ok (.aload_n 0, 1) := by decide +kernel
theorem dX4_free_9 : decode cX4_free 9 = .ok (.getfield 15, 3) := by decide +kernel
theorem dX4_free_12 : decode cX4_free 12 = .ok (.iload_n 1, 1) := by decide +kernel
theorem dX4_free_13 : decode cX4_free 13 = .ok (.iaload, 1) := by decide +kernel
theorem dX4_free_14 : decode cX4_free 14 = .ok (.bipush (-9), 2) := by decide +kernel
theorem dX4_free_16 : decode cX4_free 16 = .ok (.if_icmp .ne 7, 3) := by decide +kernel
theorem dX4_free_19 : decode cX4_free 19 = .ok (.iconst 1, 1) := by decide +kernel
theorem dX4_free_20 : decode cX4_free 20 = .ok (.goto 4, 3) := by decide +kernel
theorem dX4_free_23 : decode cX4_free 23 = .ok (.iconst 0, 1) := by decide +kernel
theorem dX4_free_24 : decode cX4_free 24 = .ok (.ireturn, 1) := by decide +kernel
def wX4_free (kq : Nat) (a0 : Int32) (σ : St) (Q : Int32 → St → Prop) : Prop :=
  wX4_alive kq a0 σ (fun r2 σ1 => ((r2 = 0 → Q 0 σ1) ∧ (¬ r2 = 0 → (vp_in a0 5 ∧ (((σ1.1 (kq + 2) a0.toNatClampNeg) = (-9) → Q 1 σ1) ∧ (¬ (σ1.1 (kq + 2) a0.toNatClampNeg) = (-9) → Q 0 σ1))))))
set_option maxHeartbeats 4000000 in
set_option maxRecDepth 100000 in
theorem tX4_free_E {kq : Nat} {Q : Int32 → St → Prop} (M : MC p s m args meth c cX4_free 2 (some .boolean) RX4 Y) (hh_kq : SH Y kq) (a0 : Int32) (σ : St) (H : Heap) (locs : List Loc) (ls : Array Slot) (hw : WS Y (AD Y) s.heap σ H locs) (hl : lv_has ls 2 [(0, .ref (yA Y kq)), (1, .int a0)]) (h : wX4_free kq a0 σ Q) : W p l e { frames := 1, cells := 0, slots := 0, locals := 21 } s m args below meth c H locs 0 0 (MQ below (QI Y Q) args s 0 0 (AD Y)) (F0 m 0 ls []) := by
  obtain ⟨hx, hb, hr, hml, hown, hlk, hT, hK, hB⟩ := id M
  unfold wX4_free at h
  refine lv_aload_n hx hb dX4_free_0 rfl (lv_at hl 0 rfl) ?_
  refine lv_iload_n hx hb dX4_free_1 rfl (lv_at hl 1 rfl) ?_
  refine q_goI hw (q_runV (rest := []) M hw (ctX4_alive l hB hh_kq a0 σ _ h) mbX4_alive (sh_ob hh_kq) rfl tw_422 rfl hl.1 rfl (Nat.le_of_ble_eq_true rfl) ⟨Nat.le_of_ble_eq_true rfl, Nat.le_of_ble_eq_true rfl⟩ ⟨Nat.le_refl _, Nat.le_refl _⟩ dX4_free_2) (fun r2 σ1 H locs h hw => ?_)
  refine lv_if_eq (tgt := 23) hx hb dX4_free_5 (by decide) (fun c3 => ?_) (fun c3 => ?_)
  · have h := h.1 c3
    refine lv_iconst (v := 0) hx hb dX4_free_23 (by decide) ?_
    exact q_zret M hw (by decide) h dX4_free_24
  · have h := h.2 c3
    refine lv_aload_n hx hb dX4_free_8 rfl (lv_at hl 0 rfl) ?_
    refine q_get (v := .ref (yA Y (kq + 2))) M hw (sh_ob hh_kq) rfl inq_4 1 (by decide) tw_187 rfl dX4_free_9 ?_
    refine lv_iload_n hx hb dX4_free_12 rfl (lv_at hl 1 rfl) ?_
    have c4 := h.1
    have h := h.2
    refine q_ild M hw (sh_a2 hh_kq) c4 dX4_free_13 ?_
    refine lv_bipush (v := (-9)) hx hb dX4_free_14 (by decide) ?_
    refine lv_icmp_ne (tgt := 23) hx hb dX4_free_16 (by decide) (fun c5 => ?_) (fun c5 => ?_)
    · have h := h.2 c5
      refine lv_iconst (v := 0) hx hb dX4_free_23 (by decide) ?_
      exact q_zret M hw (by decide) h dX4_free_24
    · have h := h.1 c5
      refine lv_iconst (v := 1) hx hb dX4_free_19 (by decide) ?_
      refine lv_goto (tgt := 24) hx hb dX4_free_20 (by decide) ?_
      exact q_zret M hw (by decide) h dX4_free_24
set_option maxRecDepth 100000 in
theorem ctX4_free (l : Launch) {Y : LY} {kq : Nat} (hB : YB Y) (hh_kq : SH Y kq) (a0 : Int32) (σ : St) (Q : Int32 → St → Prop) (h : wX4_free kq a0 σ Q) : CT l yX4_free (Cond.code yX4_free cX4_free 2 (some .boolean)) { frames := 1, cells := 0, slots := 0, locals := 21 } Y [.ref (yA Y kq), .int a0] σ (QI Y Q) :=
  q_ent hB (by decide +kernel) (Nat.le_of_ble_eq_true rfl) (fun p e s m below meth c ls M hw hl => tX4_free_E M hh_kq a0 σ _ _ ls hw hl h)
theorem mbX4_free : MB RX4 yX4_free cX4_free 1 2 (some .boolean) := ⟨tw_459, tw_460, tw_53, tw_461, by decide +kernel⟩
end
section
variable {p : Program} {l : Launch} {e : Env} {s : State} {m : MethodId} {args : Array Value} {below : List Frame} {meth : Method} {c : Code} {Y : LY}
theorem dX4_hasPloughed_0 : decode cX4_hasPloughed 0 = .ok (.aload_n 0, 1) := by decide +kernel
theorem dX4_hasPloughed_1 : decode cX4_hasPloughed 1 = .ok (.getfield 36, 3) := by decide +kernel
theorem dX4_hasPloughed_4 : decode cX4_hasPloughed 4 = .ok (.iload_n 1, 1) := by decide +kernel
theorem dX4_hasPloughed_5 : decode cX4_hasPloughed 5 = .ok (.ishr, 1) := by decide +kernel
theorem dX4_hasPloughed_6 : decode cX4_hasPloughed 6 = .ok (.iconst 1, 1) := by decide +kernel
theorem dX4_hasPloughed_7 : decode cX4_hasPloughed 7 = .ok (.iand, 1) := by decide +kernel
theorem dX4_hasPloughed_8 : decode cX4_hasPloughed 8 = .ok (.iconst 1, 1) := by decide +kernel
theorem dX4_hasPloughed_9 : decode cX4_hasPloughed 9 = .ok (.if_icmp .ne 7, 3) := by decide +kernel
theorem dX4_hasPloughed_12 : decode cX4_hasPloughed 12 = .ok (.iconst 1, 1) := by decide +kernel
theorem dX4_hasPloughed_13 : decode cX4_hasPloughed 13 = .ok (.goto 4, 3) := by decide +kernel
theorem dX4_hasPloughed_16 : decode cX4_hasPloughed 16 = .ok (.iconst 0, 1) := by decide +kernel
theorem dX4_hasPloughed_17 : decode cX4_hasPloughed 17 = .ok (.ireturn, 1) := by decide +kernel
def wX4_hasPloughed (kq : Nat) (a0 : Int32) (σ : St) (Q : Int32 → St → Prop) : Prop :=
  (((((σ.1 kq 6) >>> (a0 &&& 31)) &&& 1) = 1 → Q 1 σ) ∧ (¬ (((σ.1 kq 6) >>> (a0 &&& 31)) &&& 1) = 1 → Q 0 σ))
set_option maxHeartbeats 4000000 in
set_option maxRecDepth 100000 in
theorem tX4_hasPloughed_E {kq : Nat} {Q : Int32 → St → Prop} (M : MC p s m args meth c cX4_hasPloughed 2 (some .boolean) RX4 Y) (hh_kq : SH Y kq) (a0 : Int32) (σ : St) (H : Heap) (locs : List Loc) (ls : Array Slot) (hw : WS Y (AD Y) s.heap σ H locs) (hl : lv_has ls 2 [(0, .ref (yA Y kq)), (1, .int a0)]) (h : wX4_hasPloughed kq a0 σ Q) : W p l e { frames := 0, cells := 0, slots := 0, locals := 0 } s m args below meth c H locs 0 0 (MQ below (QI Y Q) args s 0 0 (AD Y)) (F0 m 0 ls []) := by
  obtain ⟨hx, hb, hr, hml, hown, hlk, hT, hK, hB⟩ := id M
  unfold wX4_hasPloughed at h
  refine lv_aload_n hx hb dX4_hasPloughed_0 rfl (lv_at hl 0 rfl) ?_
  refine q_get (v := .int (σ.1 kq 6)) M hw (sh_ob hh_kq) rfl inq_4 6 (by decide) tw_197 rfl dX4_hasPloughed_1 ?_
  refine lv_iload_n hx hb dX4_hasPloughed_4 rfl (lv_at hl 1 rfl) ?_
  refine lv_ishr hx hb dX4_hasPloughed_5 ?_
  refine lv_iconst (v := 1) hx hb dX4_hasPloughed_6 (by decide) ?_
  refine lv_iand hx hb dX4_hasPloughed_7 ?_
  refine lv_iconst (v := 1) hx hb dX4_hasPloughed_8 (by decide) ?_
  refine lv_icmp_ne (tgt := 16) hx hb dX4_hasPloughed_9 (by decide) (fun c1 => ?_) (fun c1 => ?_)
  · have h := h.2 c1
    refine lv_iconst (v := 0) hx hb dX4_hasPloughed_16 (by decide) ?_
    exact q_zret M hw (by decide) h dX4_hasPloughed_17
  · have h := h.1 c1
    refine lv_iconst (v := 1) hx hb dX4_hasPloughed_12 (by decide) ?_
    refine lv_goto (tgt := 17) hx hb dX4_hasPloughed_13 (by decide) ?_
    exact q_zret M hw (by decide) h dX4_hasPloughed_17
set_option maxRecDepth 100000 in
theorem ctX4_hasPloughed (l : Launch) {Y : LY} {kq : Nat} (hB : YB Y) (hh_kq : SH Y kq) (a0 : Int32) (σ : St) (Q : Int32 → St → Prop) (h : wX4_hasPloughed kq a0 σ Q) : CT l yX4_hasPloughed (Cond.code yX4_hasPloughed cX4_hasPloughed 2 (some .boolean)) { frames := 0, cells := 0, slots := 0, locals := 0 } Y [.ref (yA Y kq), .int a0] σ (QI Y Q) :=
  q_ent hB (by decide +kernel) (Nat.le_of_ble_eq_true rfl) (fun p e s m below meth c ls M hw hl => tX4_hasPloughed_E M hh_kq a0 σ _ _ ls hw hl h)
theorem mbX4_hasPloughed : MB RX4 yX4_hasPloughed cX4_hasPloughed 1 2 (some .boolean) := ⟨tw_376, tw_377, tw_53, tw_378, by decide +kernel⟩
end
section
variable {p : Program} {l : Launch} {e : Env} {s : State} {m : MethodId} {args : Array Value} {below : List Frame} {meth : Method} {c : Code} {Y : LY}
theorem dX4_lowestOther_0 : decode cX4_lowestOther 0 = .ok (.iconst 0, 1) := by decide +kernel
theorem dX4_lowestOther_1 : decode cX4_lowestOther 1 = .ok (.istore_n 2, 1) := by decide +kernel
theorem dX4_lowestOther_2 : decode cX4_lowestOther 2 = .ok (.iload_n 2, 1) := by decide +kernel
theorem dX4_lowestOther_3 : decode cX4_lowestOther 3 = .ok (.iconst 5, 1) := by decide +kernel
theorem dX4_lowestOther_4 : decode cX4_lowestOther 4 = .ok (.if_icmp .ge 24, 3) := by decide +kernel
theorem dX4_lowestOther_7 : decode cX4_lowestOther 7 = .ok (.iload_n 2, 1) := by decide +kernel
theorem dX4_lowestOther_8 : decode cX4_lowestOther 8 = .ok (.iload_n 1, 1) := by decide +kernel
theorem dX4_lowestOther_9 : decode cX4_lowestOther 9 = .ok (.if_icmp .eq 13, 3) := by decide +kernel
theorem dX4_lowestOther_12 : decode cX4_lowestOther 12 = .ok (.aload_n 0, 1) := by decide +kernel
theorem dX4_lowestOther_13 : decode cX4_lowestOther 13 = .ok (.iload_n 2, 1) := by decide +kernel
theorem dX4_lowestOther_14 : decode cX4_lowestOther 14 = .ok (.invokevirtual 44, 3) := by decide +kernel
theorem dX4_lowestOther_17 : decode cX4_lowestOther 17 = .ok (.ifCond .eq 5, 3) := by decide +kernel
theorem dX4_lowestOther_20 : decode cX4_lowestOther 20 = .ok (.iload_n 2, 1) := by decide +kernel
theorem dX4_lowestOther_21 : decode cX4_lowestOther 21 = .ok (.ireturn, 1) := by decide +kernel
theorem dX4_lowestOther_22 : decode cX4_lowestOther 22 = .ok (.iinc 2 1, 3) := by decide +kernel
theorem dX4_lowestOther_25 : decode cX4_lowestOther 25 = .ok (.goto (-23), 3) := by decide +kernel
theorem dX4_lowestOther_28 : decode cX4_lowestOther 28 = .ok (.bipush (-9), 2) := by decide +kernel
theorem dX4_lowestOther_30 : decode cX4_lowestOther 30 = .ok (.ireturn, 1) := by decide +kernel
def bX4_lowestOther_22 (R_2 : Int32 × Int32 × St → Prop) (kq : Nat) (y1 : Int32) (y2 : Int32) (σ : St) (Q : Int32 → St → Prop) : Prop :=
  (∀ x1 : Int32, x1 = y2 + 1 → R_2 (y1, x1, σ))
set_option maxHeartbeats 4000000 in
set_option maxRecDepth 100000 in
theorem tX4_lowestOther_22 {R_2 : Int32 × Int32 × St → Prop} {kq : Nat} {Q : Int32 → St → Prop} (M : MC p s m args meth c cX4_lowestOther 3 (some .int) RX4 Y) (hh_kq : SH Y kq) (hR_2 : ∀ (y1 y2 : Int32) (σ : St) (H : Heap) (locs : List Loc) (ls : Array Slot), WS Y (AD Y) s.heap σ H locs → lv_has ls 3 [(0, .ref (yA Y kq)), (1, .int y1), (2, .int y2)] → R_2 (y1, y2, σ) → W p l e { frames := 1, cells := 0, slots := 0, locals := 21 } s m args below meth c H locs 0 0 (MQ below (QI Y Q) args s 0 0 (AD Y)) (F0 m 2 ls [])) (y1 : Int32) (y2 : Int32) (σ : St) (H : Heap) (locs : List Loc) (ls : Array Slot) (hw : WS Y (AD Y) s.heap σ H locs) (hl : lv_has ls 3 [(0, .ref (yA Y kq)), (1, .int y1), (2, .int y2)]) (h : bX4_lowestOther_22 R_2 kq y1 y2 σ Q) : W p l e { frames := 1, cells := 0, slots := 0, locals := 21 } s m args below meth c H locs 0 0 (MQ below (QI Y Q) args s 0 0 (AD Y)) (F0 m 22 ls []) := by
  obtain ⟨hx, hb, hr, hml, hown, hlk, hT, hK, hB⟩ := id M
  unfold bX4_lowestOther_22 at h
  obtain ⟨x1, ex1⟩ : ∃ y : Int32, y = y2 + 1 := ⟨_, rfl⟩
  have h := h x1 ex1
  refine lv_iinc (v := x1) (lv' := [(2, .int x1), (0, .ref (yA Y kq)), (1, .int y1)]) hx hb dX4_lowestOther_22 hl (k := 2) rfl (by rw [ex1]; rfl) (by decide) rfl (fun ls hl => ?_)
  refine lv_goto (tgt := 2) hx hb dX4_lowestOther_25 (by decide) ?_
  exact hR_2 y1 x1 σ _ _ _ hw (lv_sub hl [1, 2, 0] rfl) h
def bX4_lowestOther_2 (R_2 : Int32 × Int32 × St → Prop) (kq : Nat) (y1 : Int32) (y2 : Int32) (σ : St) (Q : Int32 → St → Prop) : Prop :=
  ((5 ≤ y2 → Q (-9) σ) ∧ (¬ 5 ≤ y2 → ((y2 = y1 → bX4_lowestOther_22 R_2 kq y1 y2 σ Q) ∧ (¬ y2 = y1 → wX4_alive kq y2 σ (fun r4 σ3 => ((r4 = 0 → bX4_lowestOther_22 R_2 kq y1 y2 σ3 Q) ∧ (¬ r4 = 0 → Q y2 σ3)))))))
set_option maxHeartbeats 4000000 in
set_option maxRecDepth 100000 in
theorem tX4_lowestOther_2 {R_2 : Int32 × Int32 × St → Prop} {kq : Nat} {Q : Int32 → St → Prop} (M : MC p s m args meth c cX4_lowestOther 3 (some .int) RX4 Y) (hh_kq : SH Y kq) (hR_2 : ∀ (y1 y2 : Int32) (σ : St) (H : Heap) (locs : List Loc) (ls : Array Slot), WS Y (AD Y) s.heap σ H locs → lv_has ls 3 [(0, .ref (yA Y kq)), (1, .int y1), (2, .int y2)] → R_2 (y1, y2, σ) → W p l e { frames := 1, cells := 0, slots := 0, locals := 21 } s m args below meth c H locs 0 0 (MQ below (QI Y Q) args s 0 0 (AD Y)) (F0 m 2 ls [])) (y1 : Int32) (y2 : Int32) (σ : St) (H : Heap) (locs : List Loc) (ls : Array Slot) (hw : WS Y (AD Y) s.heap σ H locs) (hl : lv_has ls 3 [(0, .ref (yA Y kq)), (1, .int y1), (2, .int y2)]) (h : bX4_lowestOther_2 R_2 kq y1 y2 σ Q) : W p l e { frames := 1, cells := 0, slots := 0, locals := 21 } s m args below meth c H locs 0 0 (MQ below (QI Y Q) args s 0 0 (AD Y)) (F0 m 2 ls []) := by
  obtain ⟨hx, hb, hr, hml, hown, hlk, hT, hK, hB⟩ := id M
  unfold bX4_lowestOther_2 at h
  refine lv_iload_n hx hb dX4_lowestOther_2 rfl (lv_at hl 2 rfl) ?_
  refine lv_iconst (v := 5) hx hb dX4_lowestOther_3 (by decide) ?_
  refine lv_icmp_ge (tgt := 28) hx hb dX4_lowestOther_4 (by decide) (fun c1 => ?_) (fun c1 => ?_)
  · have h := h.1 c1
    refine lv_bipush (v := (-9)) hx hb dX4_lowestOther_28 (by decide) ?_
    exact q_iret M hw h dX4_lowestOther_30
  · have h := h.2 c1
    refine lv_iload_n hx hb dX4_lowestOther_7 rfl (lv_at hl 2 rfl) ?_
    refine lv_iload_n hx hb dX4_lowestOther_8 rfl (lv_at hl 1 rfl) ?_
    refine lv_icmp_eq (tgt := 22) hx hb dX4_lowestOther_9 (by decide) (fun c2 => ?_) (fun c2 => ?_)
    · have h := h.1 c2
      exact tX4_lowestOther_22 M hh_kq hR_2 y1 y2 σ _ _ _ hw (lv_sub hl [0, 1, 2] rfl) h
    · have h := h.2 c2
      refine lv_aload_n hx hb dX4_lowestOther_12 rfl (lv_at hl 0 rfl) ?_
      refine lv_iload_n hx hb dX4_lowestOther_13 rfl (lv_at hl 2 rfl) ?_
      refine q_goI hw (q_runV (rest := []) M hw (ctX4_alive l hB hh_kq y2 σ _ h) mbX4_alive (sh_ob hh_kq) rfl tw_422 rfl hl.1 rfl (Nat.le_of_ble_eq_true rfl) ⟨Nat.le_of_ble_eq_true rfl, Nat.le_of_ble_eq_true rfl⟩ ⟨Nat.le_refl _, Nat.le_refl _⟩ dX4_lowestOther_14) (fun r4 σ3 H locs h hw => ?_)
      refine lv_if_eq (tgt := 22) hx hb dX4_lowestOther_17 (by decide) (fun c5 => ?_) (fun c5 => ?_)
      · have h := h.1 c5
        exact tX4_lowestOther_22 M hh_kq hR_2 y1 y2 σ3 _ _ _ hw (lv_sub hl [0, 1, 2] rfl) h
      · have h := h.2 c5
        refine lv_iload_n hx hb dX4_lowestOther_20 rfl (lv_at hl 2 rfl) ?_
        exact q_iret M hw h dX4_lowestOther_21
def lX4_lowestOther_2 (kq : Nat) (Q : Int32 → St → Prop) : (Int32 × Int32 × St → Prop) → Int32 × Int32 × St → Prop := fun R a => bX4_lowestOther_2 R kq a.1 a.2.1 a.2.2 Q
theorem tlX4_lowestOther_2 {kq : Nat} {Q : Int32 → St → Prop} (M : MC p s m args meth c cX4_lowestOther 3 (some .int) RX4 Y) (hh_kq : SH Y kq) (n : Nat) : ∀ (y1 : Int32) (y2 : Int32) (σ : St) (H : Heap) (locs : List Loc) (ls : Array Slot) (hw : WS Y (AD Y) s.heap σ H locs) (hl : lv_has ls 3 [(0, .ref (yA Y kq)), (1, .int y1), (2, .int y2)]) (h : Lp (lX4_lowestOther_2 kq Q) n (y1, y2, σ)), W p l e { frames := 1, cells := 0, slots := 0, locals := 21 } s m args below meth c H locs 0 0 (MQ below (QI Y Q) args s 0 0 (AD Y)) (F0 m 2 ls []) := by
  induction n with
  | zero => intro y1 y2 σ H locs ls hw hl h; exact h.elim
  | succ n ih =>
    intro y1 y2 σ H locs ls hw hl h
    exact tX4_lowestOther_2 M hh_kq ih y1 y2 σ H locs ls hw hl h
def wX4_lowestOther (kq : Nat) (a0 : Int32) (σ : St) (Q : Int32 → St → Prop) : Prop :=
  ∃ n : Nat, Lp (lX4_lowestOther_2 kq Q) n (a0, 0, σ)
set_option maxHeartbeats 4000000 in
set_option maxRecDepth 100000 in
theorem tX4_lowestOther_E {kq : Nat} {Q : Int32 → St → Prop} (M : MC p s m args meth c cX4_lowestOther 3 (some .int) RX4 Y) (hh_kq : SH Y kq) (a0 : Int32) (σ : St) (H : Heap) (locs : List Loc) (ls : Array Slot) (hw : WS Y (AD Y) s.heap σ H locs) (hl : lv_has ls 3 [(0, .ref (yA Y kq)), (1, .int a0)]) (h : wX4_lowestOther kq a0 σ Q) : W p l e { frames := 1, cells := 0, slots := 0, locals := 21 } s m args below meth c H locs 0 0 (MQ below (QI Y Q) args s 0 0 (AD Y)) (F0 m 0 ls []) := by
  obtain ⟨hx, hb, hr, hml, hown, hlk, hT, hK, hB⟩ := id M
  unfold wX4_lowestOther at h
  refine lv_iconst (v := 0) hx hb dX4_lowestOther_0 (by decide) ?_
  refine lv_istore_n (lv' := [(2, .int 0), (0, .ref (yA Y kq)), (1, .int a0)]) hx hb dX4_lowestOther_1 rfl hl (by decide) rfl (fun ls hl => ?_)
  obtain ⟨n, h⟩ := h
  exact tlX4_lowestOther_2 M hh_kq n a0 0 σ _ _ _ hw (lv_sub hl [1, 2, 0] rfl) h
set_option maxRecDepth 100000 in
theorem ctX4_lowestOther (l : Launch) {Y : LY} {kq : Nat} (hB : YB Y) (hh_kq : SH Y kq) (a0 : Int32) (σ : St) (Q : Int32 → St → Prop) (h : wX4_lowestOther kq a0 σ Q) : CT l yX4_lowestOther (Cond.code yX4_lowestOther cX4_lowestOther 3 (some .int)) { frames := 1, cells := 0, slots := 0, locals := 21 } Y [.ref (yA Y kq), .int a0] σ (QI Y Q) :=
  q_ent hB (by decide +kernel) (Nat.le_of_ble_eq_true rfl) (fun p e s m below meth c ls M hw hl => tX4_lowestOther_E M hh_kq a0 σ _ _ ls hw hl h)
theorem mbX4_lowestOther : MB RX4 yX4_lowestOther cX4_lowestOther 1 3 (some .int) := ⟨tw_467, tw_468, tw_53, tw_469, by decide +kernel⟩
end
section
variable {p : Program} {l : Launch} {e : Env} {s : State} {m : MethodId} {args : Array Value} {below : List Frame} {meth : Method} {c : Code} {Y : LY}
theorem dX4_mayPlough_0 : decode cX4_mayPlough 0 = .ok (.aload_n 0, 1) := by decide +kernel
theorem dX4_mayPlough_1 : decode cX4_mayPlough 1 = .ok (.getfield 18, 3) := by decide +kernel
theorem dX4_mayPlough_4 : decode cX4_mayPlough 4 = .ok (.iload_n 2, 1) := by decide +kernel
theorem dX4_mayPlough_5 : decode cX4_mayPlough 5 = .ok (.iaload, 1) := by decide +kernel
theorem dX4_mayPlough_6 : decode cX4_mayPlough 6 = .ok (.iload_n 1, 1) := by decide +kernel
theorem dX4_mayPlough_7 : decode cX4_mayPlough 7 = .ok (.if_icmp .eq 18, 3) := by decide +kernel
theorem dX4_mayPlough_10 : decode cX4_mayPlough 10 = .ok (.aload_n 0, 1) := by decide +kernel
theorem dX4_mayPlough_11 : decode cX4_mayPlough 11 = .ok (.getfield 18, 3) := by decide +kernel
theorem dX4_mayPlough_14 : decode cX4_mayPlough 14 = .ok (.iload_n 2, 1) := by decide +kernel
theorem dX4_mayPlough_15 : decode cX4_mayPlough 15 = .ok (.iaload, 1) := by decide +kernel
theorem dX4_mayPlough_16 : decode cX4_mayPlough 16 = .ok (.aload_n 0, 1) := by decide +kernel
theorem dX4_mayPlough_17 : decode cX4_mayPlough 17 = .ok (.getfield 15, 3) := by decide +kernel
theorem dX4_mayPlough_20 : decode cX4_mayPlough 20 = .ok (.iload_n 1, 1) := by decide +kernel
theorem dX4_mayPlough_21 : decode cX4_mayPlough 21 = .ok (.iaload, 1) := by decide +kernel
theorem dX4_mayPlough_22 : decode cX4_mayPlough 22 = .ok (.if_icmp .ne 7, 3) := by decide +kernel
theorem dX4_mayPlough_25 : decode cX4_mayPlough 25 = .ok (.iconst 1, 1) := by decide +kernel
theorem dX4_mayPlough_26 : decode cX4_mayPlough 26 = .ok (.goto 4, 3) := by decide +kernel
theorem dX4_mayPlough_29 : decode cX4_mayPlough 29 = .ok (.iconst 0, 1) := by decide +kernel
theorem dX4_mayPlough_30 : decode cX4_mayPlough 30 = .ok (.istore 4, 2) := by decide +kernel
theorem dX4_mayPlough_32 : decode cX4_mayPlough 32 = .ok (.iload 4, 2) := by decide +kernel
theorem dX4_mayPlough_34 : decode cX4_mayPlough 34 = .ok (.ifCond .eq 47, 3) := by decide +kernel
theorem dX4_mayPlough_37 : decode cX4_mayPlough 37 = .ok (.aload_n 0, 1) := by decide +kernel
theorem dX4_mayPlough_38 : decode cX4_mayPlough 38 = .ok (.iload_n 1, 1) := by decide +kernel
theorem dX4_mayPlough_39 : decode cX4_mayPlough 39 = .ok (.invokevirtual 44, 3) := by decide +kernel
theorem dX4_mayPlough_42 : decode cX4_mayPlough 42 = .ok (.ifCond .eq 39, 3) := by decide +kernel
theorem dX4_mayPlough_45 : decode cX4_mayPlough 45 = .ok (.aload_n 0, 1) := by decide +kernel
theorem dX4_mayPlough_46 : decode cX4_mayPlough 46 = .ok (.iload_n 1, 1) := by decide +kernel
theorem dX4_mayPlough_47 : decode cX4_mayPlough 47 = .ok (.invokevirtual 48, 3) := by decide +kernel
theorem dX4_mayPlough_50 : decode cX4_mayPlough 50 = .ok (.ifCond .ne 31, 3) := by decide +kernel
theorem dX4_mayPlough_53 : decode cX4_mayPlough 53 = .ok (.aload_n 0, 1) := by decide +kernel
theorem dX4_mayPlough_54 : decode cX4_mayPlough 54 = .ok (.getfield 21, 3) := by decide +kernel
theorem dX4_mayPlough_57 : decode cX4_mayPlough 57 = .ok (.iload_n 2, 1) := by decide +kernel
theorem dX4_mayPlough_58 : decode cX4_mayPlough 58 = .ok (.iaload, 1) := by decide +kernel
theorem dX4_mayPlough_59 : decode cX4_mayPlough 59 = .ok (.ifCond .le 22, 3) := by decide +kernel
theorem dX4_mayPlough_62 : decode cX4_mayPlough 62 = .ok (.iload_n 3, 1) := by decide +kernel
theorem dX4_mayPlough_63 : decode cX4_mayPlough 63 = .ok (.iconst 1, 1) := by decide +kernel
theorem dX4_mayPlough_64 : decode cX4_mayPlough 64 = .ok (.if_icmp .lt 17, 3) := by decide +kernel
theorem dX4_mayPlough_67 : decode cX4_mayPlough 67 = .ok (.aload_n 0, 1) := by decide +kernel
theorem dX4_mayPlough_68 : decode cX4_mayPlough 68 = .ok (.getfield 9, 3) := by decide +kernel
theorem dX4_mayPlough_71 : decode cX4_mayPlough 71 = .ok (.iload_n 1, 1) := by decide +kernel
theorem dX4_mayPlough_72 : decode cX4_mayPlough 72 = .ok (.iaload, 1) := by decide +kernel
theorem dX4_mayPlough_73 : decode cX4_mayPlough 73 = .ok (.iload_n 3, 1) := by decide +kernel
theorem dX4_mayPlough_74 : decode cX4_mayPlough 74 = .ok (.if_icmp .lt 7, 3) := by decide +kernel
theorem dX4_mayPlough_77 : decode cX4_mayPlough 77 = .ok (.iconst 1, 1) := by decide +kernel
theorem dX4_mayPlough_78 : decode cX4_mayPlough 78 = .ok (.goto 4, 3) := by decide +kernel
theorem dX4_mayPlough_81 : decode cX4_mayPlough 81 = .ok (.iconst 0, 1) := by decide +kernel
theorem dX4_mayPlough_82 : decode cX4_mayPlough 82 = .ok (.ireturn, 1) := by decide +kernel
def bX4_mayPlough_30 (kq : Nat) (y1 : Int32) (y2 : Int32) (y3 : Int32) (z0 : Int32) (σ : St) (Q : Int32 → St → Prop) : Prop :=
  ((z0 = 0 → Q 0 σ) ∧ (¬ z0 = 0 → wX4_alive kq y1 σ (fun r3 σ2 => ((r3 = 0 → Q 0 σ2) ∧ (¬ r3 = 0 → wX4_hasPloughed kq y1 σ2 (fun r6 σ5 => ((r6 = 0 → (vp_in y2 7 ∧ (((σ5.1 (kq + 4) y2.toNatClampNeg) ≤ 0 → Q 0 σ5) ∧ (¬ (σ5.1 (kq + 4) y2.toNatClampNeg) ≤ 0 → ((y3 < 1 → Q 0 σ5) ∧ (¬ y3 < 1 → (vp_in y1 5 ∧ (((σ5.1 (kq + 1) y1.toNatClampNeg) < y3 → Q 0 σ5) ∧ (¬ (σ5.1 (kq + 1) y1.toNatClampNeg) < y3 → Q 1 σ5))))))))) ∧ (¬ r6 = 0 → Q 0 σ5))))))))
set_option maxHeartbeats 4000000 in
set_option maxRecDepth 100000 in
theorem tX4_mayPlough_30 {kq : Nat} {Q : Int32 → St → Prop} (M : MC p s m args meth c cX4_mayPlough 5 (some .boolean) RX4 Y) (hh_kq : SH Y kq) (y1 : Int32) (y2 : Int32) (y3 : Int32) (z0 : Int32) (σ : St) (H : Heap) (locs : List Loc) (ls : Array Slot) (hw : WS Y (AD Y) s.heap σ H locs) (hl : lv_has ls 5 [(0, .ref (yA Y kq)), (1, .int y1), (2, .int y2), (3, .int y3)]) (h : bX4_mayPlough_30 kq y1 y2 y3 z0 σ Q) : W p l e { frames := 1, cells := 0, slots := 0, locals := 21 } s m args below meth c H locs 0 0 (MQ below (QI Y Q) args s 0 0 (AD Y)) (F0 m 30 ls [.int z0]) := by
  obtain ⟨hx, hb, hr, hml, hown, hlk, hT, hK, hB⟩ := id M
  unfold bX4_mayPlough_30 at h
  refine lv_istore (lv' := [(4, .int z0), (0, .ref (yA Y kq)), (1, .int y1), (2, .int y2), (3, .int y3)]) hx hb dX4_mayPlough_30 hl (by decide) rfl (fun ls hl => ?_)
  refine lv_iload hx hb dX4_mayPlough_32 (lv_at hl 0 rfl) ?_
  refine lv_if_eq (tgt := 81) hx hb dX4_mayPlough_34 (by decide) (fun c1 => ?_) (fun c1 => ?_)
  · have h := h.1 c1
    refine lv_iconst (v := 0) hx hb dX4_mayPlough_81 (by decide) ?_
    exact q_zret M hw (by decide) h dX4_mayPlough_82
  · have h := h.2 c1
    refine lv_aload_n hx hb dX4_mayPlough_37 rfl (lv_at hl 1 rfl) ?_
    refine lv_iload_n hx hb dX4_mayPlough_38 rfl (lv_at hl 2 rfl) ?_
    refine q_goI hw (q_runV (rest := []) M hw (ctX4_alive l hB hh_kq y1 σ _ h) mbX4_alive (sh_ob hh_kq) rfl tw_422 rfl hl.1 rfl (Nat.le_of_ble_eq_true rfl) ⟨Nat.le_of_ble_eq_true rfl, Nat.le_of_ble_eq_true rfl⟩ ⟨Nat.le_refl _, Nat.le_refl _⟩ dX4_mayPlough_39) (fun r3 σ2 H locs h hw => ?_)
    refine lv_if_eq (tgt := 81) hx hb dX4_mayPlough_42 (by decide) (fun c4 => ?_) (fun c4 => ?_)
    · have h := h.1 c4
      refine lv_iconst (v := 0) hx hb dX4_mayPlough_81 (by decide) ?_
      exact q_zret M hw (by decide) h dX4_mayPlough_82
    · have h := h.2 c4
      refine lv_aload_n hx hb dX4_mayPlough_45 rfl (lv_at hl 1 rfl) ?_
      refine lv_iload_n hx hb dX4_mayPlough_46 rfl (lv_at hl 2 rfl) ?_
      refine q_goI hw (q_runV (rest := []) M hw (ctX4_hasPloughed l hB hh_kq y1 σ2 _ h) mbX4_hasPloughed (sh_ob hh_kq) rfl tw_423 rfl hl.1 rfl (Nat.le_of_ble_eq_true rfl) ⟨Nat.le_of_ble_eq_true rfl, Nat.le_of_ble_eq_true rfl⟩ ⟨Nat.le_refl _, Nat.le_refl _⟩ dX4_mayPlough_47) (fun r6 σ5 H locs h hw => ?_)
      refine lv_if_ne (tgt := 81) hx hb dX4_mayPlough_50 (by decide) (fun c7 => ?_) (fun c7 => ?_)
      · have h := h.2 c7
        refine lv_iconst (v := 0) hx hb dX4_mayPlough_81 (by decide) ?_
        exact q_zret M hw (by decide) h dX4_mayPlough_82
      · have h := h.1 c7
        refine lv_aload_n hx hb dX4_mayPlough_53 rfl (lv_at hl 1 rfl) ?_
        refine q_get (v := .ref (yA Y (kq + 4))) M hw (sh_ob hh_kq) rfl inq_4 3 (by decide) tw_191 rfl dX4_mayPlough_54 ?_
        refine lv_iload_n hx hb dX4_mayPlough_57 rfl (lv_at hl 3 rfl) ?_
        have c8 := h.1
        have h := h.2
        refine q_ild M hw (sh_a4 hh_kq) c8 dX4_mayPlough_58 ?_
        refine lv_if_le (tgt := 81) hx hb dX4_mayPlough_59 (by decide) (fun c9 => ?_) (fun c9 => ?_)
        · have h := h.1 c9
          refine lv_iconst (v := 0) hx hb dX4_mayPlough_81 (by decide) ?_
          exact q_zret M hw (by decide) h dX4_mayPlough_82
        · have h := h.2 c9
          refine lv_iload_n hx hb dX4_mayPlough_62 rfl (lv_at hl 4 rfl) ?_
          refine lv_iconst (v := 1) hx hb dX4_mayPlough_63 (by decide) ?_
          refine lv_icmp_lt (tgt := 81) hx hb dX4_mayPlough_64 (by decide) (fun c10 => ?_) (fun c10 => ?_)
          · have h := h.1 c10
            refine lv_iconst (v := 0) hx hb dX4_mayPlough_81 (by decide) ?_
            exact q_zret M hw (by decide) h dX4_mayPlough_82
          · have h := h.2 c10
            refine lv_aload_n hx hb dX4_mayPlough_67 rfl (lv_at hl 1 rfl) ?_
            refine q_get (v := .ref (yA Y (kq + 1))) M hw (sh_ob hh_kq) rfl inq_4 0 (by decide) tw_185 rfl dX4_mayPlough_68 ?_
            refine lv_iload_n hx hb dX4_mayPlough_71 rfl (lv_at hl 2 rfl) ?_
            have c11 := h.1
            have h := h.2
            refine q_ild M hw (sh_a1 hh_kq) c11 dX4_mayPlough_72 ?_
            refine lv_iload_n hx hb dX4_mayPlough_73 rfl (lv_at hl 4 rfl) ?_
            refine lv_icmp_lt (tgt := 81) hx hb dX4_mayPlough_74 (by decide) (fun c12 => ?_) (fun c12 => ?_)
            · have h := h.1 c12
              refine lv_iconst (v := 0) hx hb dX4_mayPlough_81 (by decide) ?_
              exact q_zret M hw (by decide) h dX4_mayPlough_82
            · have h := h.2 c12
              refine lv_iconst (v := 1) hx hb dX4_mayPlough_77 (by decide) ?_
              refine lv_goto (tgt := 82) hx hb dX4_mayPlough_78 (by decide) ?_
              exact q_zret M hw (by decide) h dX4_mayPlough_82
def bX4_mayPlough_25 (kq : Nat) (y1 : Int32) (y2 : Int32) (y3 : Int32) (σ : St) (Q : Int32 → St → Prop) : Prop :=
  bX4_mayPlough_30 kq y1 y2 y3 1 σ Q
set_option maxHeartbeats 4000000 in
set_option maxRecDepth 100000 in
theorem tX4_mayPlough_25 {kq : Nat} {Q : Int32 → St → Prop} (M : MC p s m args meth c cX4_mayPlough 5 (some .boolean) RX4 Y) (hh_kq : SH Y kq) (y1 : Int32) (y2 : Int32) (y3 : Int32) (σ : St) (H : Heap) (locs : List Loc) (ls : Array Slot) (hw : WS Y (AD Y) s.heap σ H locs) (hl : lv_has ls 5 [(0, .ref (yA Y kq)), (1, .int y1), (2, .int y2), (3, .int y3)]) (h : bX4_mayPlough_25 kq y1 y2 y3 σ Q) : W p l e { frames := 1, cells := 0, slots := 0, locals := 21 } s m args below meth c H locs 0 0 (MQ below (QI Y Q) args s 0 0 (AD Y)) (F0 m 25 ls []) := by
  obtain ⟨hx, hb, hr, hml, hown, hlk, hT, hK, hB⟩ := id M
  unfold bX4_mayPlough_25 at h
  refine lv_iconst (v := 1) hx hb dX4_mayPlough_25 (by decide) ?_
  refine lv_goto (tgt := 30) hx hb dX4_mayPlough_26 (by decide) ?_
  exact tX4_mayPlough_30 M hh_kq y1 y2 y3 1 σ _ _ _ hw (lv_sub hl [0, 1, 2, 3] rfl) h
def wX4_mayPlough (kq : Nat) (a0 : Int32) (a1 : Int32) (a2 : Int32) (σ : St) (Q : Int32 → St → Prop) : Prop :=
  (vp_in a1 7 ∧ (((σ.1 (kq + 3) a1.toNatClampNeg) = a0 → bX4_mayPlough_25 kq a0 a1 a2 σ Q) ∧ (¬ (σ.1 (kq + 3) a1.toNatClampNeg) = a0 → (vp_in a1 7 ∧ (vp_in a0 5 ∧ (((σ.1 (kq + 3) a1.toNatClampNeg) = (σ.1 (kq + 2) a0.toNatClampNeg) → bX4_mayPlough_25 kq a0 a1 a2 σ Q) ∧ (¬ (σ.1 (kq + 3) a1.toNatClampNeg) = (σ.1 (kq + 2) a0.toNatClampNeg) → bX4_mayPlough_30 kq a0 a1 a2 0 σ Q)))))))
set_option maxHeartbeats 4000000 in
set_option maxRecDepth 100000 in
theorem tX4_mayPlough_E {kq : Nat} {Q : Int32 → St → Prop} (M : MC p s m args meth c cX4_mayPlough 5 (some .boolean) RX4 Y) (hh_kq : SH Y kq) (a0 : Int32) (a1 : Int32) (a2 : Int32) (σ : St) (H : Heap) (locs : List Loc) (ls : Array Slot) (hw : WS Y (AD Y) s.heap σ H locs) (hl : lv_has ls 5 [(0, .ref (yA Y kq)), (1, .int a0), (2, .int a1), (3, .int a2)]) (h : wX4_mayPlough kq a0 a1 a2 σ Q) : W p l e { frames := 1, cells := 0, slots := 0, locals := 21 } s m args below meth c H locs 0 0 (MQ below (QI Y Q) args s 0 0 (AD Y)) (F0 m 0 ls []) := by
  obtain ⟨hx, hb, hr, hml, hown, hlk, hT, hK, hB⟩ := id M
  unfold wX4_mayPlough at h
  refine lv_aload_n hx hb dX4_mayPlough_0 rfl (lv_at hl 0 rfl) ?_
  refine q_get (v := .ref (yA Y (kq + 3))) M hw (sh_ob hh_kq) rfl inq_4 2 (by decide) tw_189 rfl dX4_mayPlough_1 ?_
  refine lv_iload_n hx hb dX4_mayPlough_4 rfl (lv_at hl 2 rfl) ?_
  have c1 := h.1
  have h := h.2
  refine q_ild M hw (sh_a3 hh_kq) c1 dX4_mayPlough_5 ?_
  refine lv_iload_n hx hb dX4_mayPlough_6 rfl (lv_at hl 1 rfl) ?_
  refine lv_icmp_eq (tgt := 25) hx hb dX4_mayPlough_7 (by decide) (fun c2 => ?_) (fun c2 => ?_)
  · have h := h.1 c2
    exact tX4_mayPlough_25 M hh_kq a0 a1 a2 σ _ _ _ hw (lv_sub hl [0, 1, 2, 3] rfl) h
  · have h := h.2 c2
    refine lv_aload_n hx hb dX4_mayPlough_10 rfl (lv_at hl 0 rfl) ?_
    refine q_get (v := .ref (yA Y (kq + 3))) M hw (sh_ob hh_kq) rfl inq_4 2 (by decide) tw_189 rfl dX4_mayPlough_11 ?_
    refine lv_iload_n hx hb dX4_mayPlough_14 rfl (lv_at hl 2 rfl) ?_
    have c3 := h.1
    have h := h.2
    refine q_ild M hw (sh_a3 hh_kq) c3 dX4_mayPlough_15 ?_
    refine lv_aload_n hx hb dX4_mayPlough_16 rfl (lv_at hl 0 rfl) ?_
    refine q_get (v := .ref (yA Y (kq + 2))) M hw (sh_ob hh_kq) rfl inq_4 1 (by decide) tw_187 rfl dX4_mayPlough_17 ?_
    refine lv_iload_n hx hb dX4_mayPlough_20 rfl (lv_at hl 1 rfl) ?_
    have c4 := h.1
    have h := h.2
    refine q_ild M hw (sh_a2 hh_kq) c4 dX4_mayPlough_21 ?_
    refine lv_icmp_ne (tgt := 29) hx hb dX4_mayPlough_22 (by decide) (fun c5 => ?_) (fun c5 => ?_)
    · have h := h.2 c5
      refine lv_iconst (v := 0) hx hb dX4_mayPlough_29 (by decide) ?_
      exact tX4_mayPlough_30 M hh_kq a0 a1 a2 0 σ _ _ _ hw (lv_sub hl [0, 1, 2, 3] rfl) h
    · have h := h.1 c5
      exact tX4_mayPlough_25 M hh_kq a0 a1 a2 σ _ _ _ hw (lv_sub hl [0, 1, 2, 3] rfl) h
set_option maxRecDepth 100000 in
theorem ctX4_mayPlough (l : Launch) {Y : LY} {kq : Nat} (hB : YB Y) (hh_kq : SH Y kq) (a0 : Int32) (a1 : Int32) (a2 : Int32) (σ : St) (Q : Int32 → St → Prop) (h : wX4_mayPlough kq a0 a1 a2 σ Q) : CT l yX4_mayPlough (Cond.code yX4_mayPlough cX4_mayPlough 5 (some .boolean)) { frames := 1, cells := 0, slots := 0, locals := 21 } Y [.ref (yA Y kq), .int a0, .int a1, .int a2] σ (QI Y Q) :=
  q_ent hB (by decide +kernel) (Nat.le_of_ble_eq_true rfl) (fun p e s m below meth c ls M hw hl => tX4_mayPlough_E M hh_kq a0 a1 a2 σ _ _ ls hw hl h)
theorem mbX4_mayPlough : MB RX4 yX4_mayPlough cX4_mayPlough 3 5 (some .boolean) := ⟨tw_419, tw_420, tw_53, tw_421, by decide +kernel⟩
end
section
variable {p : Program} {l : Launch} {e : Env} {s : State} {m : MethodId} {args : Array Value} {below : List Frame} {meth : Method} {c : Code} {Y : LY}
theorem dX4_plough_0 : decode cX4_plough 0 = .ok (.aload_n 0, 1) := by decide +kernel
theorem dX4_plough_1 : decode cX4_plough 1 = .ok (.getfield 9, 3) := by decide +kernel
theorem dX4_plough_4 : decode cX4_plough 4 = .ok (.iload_n 1, 1) := by decide +kernel
theorem dX4_plough_5 : decode cX4_plough 5 = .ok (.dup2, 1) := by decide +kernel
theorem dX4_plough_6 : decode cX4_plough 6 = .ok (.iaload, 1) := by decide +kernel
theorem dX4_plough_7 : decode cX4_plough 7 = .ok (.iload_n 3, 1) := by decide +kernel
theorem dX4_plough_8 : decode cX4_plough 8 = .ok (.isub, 1) := by decide +kernel
theorem dX4_plough_9 : decode cX4_plough 9 = .ok (.iastore, 1) := by decide +kernel
theorem dX4_plough_10 : decode cX4_plough 10 = .ok (.aload_n 0, 1) := by decide +kernel
theorem dX4_plough_11 : decode cX4_plough 11 = .ok (.getfield 21, 3) := by decide +kernel
theorem dX4_plough_14 : decode cX4_plough 14 = .ok (.iload_n 2, 1) := by decide +kernel
theorem dX4_plough_15 : decode cX4_plough 15 = .ok (.iconst 0, 1) := by decide +kernel
theorem dX4_plough_16 : decode cX4_plough 16 = .ok (.aload_n 0, 1) := by decide +kernel
theorem dX4_plough_17 : decode cX4_plough 17 = .ok (.getfield 21, 3) := by decide +kernel
theorem dX4_plough_20 : decode cX4_plough 20 = .ok (.iload_n 2, 1) := by decide +kernel
theorem dX4_plough_21 : decode cX4_plough 21 = .ok (.iaload, 1) := by decide +kernel
theorem dX4_plough_22 : decode cX4_plough 22 = .ok (.iload 4, 2) := by decide +kernel
theorem dX4_plough_24 : decode cX4_plough 24 = .ok (.isub, 1) := by decide +kernel
theorem dX4_plough_25 : decode cX4_plough 25 = .ok (.invokestatic 51, 3) := by decide +kernel
theorem dX4_plough_28 : decode cX4_plough 28 = .ok (.iastore, 1) := by decide +kernel
theorem dX4_plough_29 : decode cX4_plough 29 = .ok (.aload_n 0, 1) := by decide +kernel
theorem dX4_plough_30 : decode cX4_plough 30 = .ok (.dup, 1) := by decide +kernel
theorem dX4_plough_31 : decode cX4_plough 31 = .ok (.getfield 36, 3) := by decide +kernel
theorem dX4_plough_34 : decode cX4_plough 34 = .ok (.iconst 1, 1) := by decide +kernel
theorem dX4_plough_35 : decode cX4_plough 35 = .ok (.iload_n 1, 1) := by decide +kernel
theorem dX4_plough_36 : decode cX4_plough 36 = .ok (.ishl, 1) := by decide +kernel
theorem dX4_plough_37 : decode cX4_plough 37 = .ok (.ior, 1) := by decide +kernel
theorem dX4_plough_38 : decode cX4_plough 38 = .ok (.putfield 36, 3) := by decide +kernel
theorem dX4_plough_41 : decode cX4_plough 41 = .ok (.return_, 1) := by decide +kernel
def wX4_plough (kq : Nat) (a0 : Int32) (a1 : Int32) (a2 : Int32) (a3 : Int32) (σ : St) (Q : St → Prop) : Prop :=
  (vp_in a0 5 ∧ (vp_in a0 5 ∧ ∀ σ3 : St, σ3 = up σ (kq + 1) a0.toNatClampNeg ((σ.1 (kq + 1) a0.toNatClampNeg) - a2) → (vp_in a1 7 ∧ (∀ x5 : Int32, x5 = (if 0 < ((σ3.1 (kq + 4) a1.toNatClampNeg) - a3) then ((σ3.1 (kq + 4) a1.toNatClampNeg) - a3) else 0) → (vp_in a1 7 ∧ ∀ σ7 : St, σ7 = up σ3 (kq + 4) a1.toNatClampNeg x5 → (∀ σ8 : St, σ8 = up σ7 kq 6 ((σ7.1 kq 6) ||| (1 <<< (a0 &&& 31))) → Q σ8))))))
set_option maxHeartbeats 4000000 in
set_option maxRecDepth 100000 in
theorem tX4_plough_E {kq : Nat} {Q : St → Prop} (M : MC p s m args meth c cX4_plough 5 none RX4 Y) (hh_kq : SH Y kq) (a0 : Int32) (a1 : Int32) (a2 : Int32) (a3 : Int32) (σ : St) (H : Heap) (locs : List Loc) (ls : Array Slot) (hw : WS Y (AD Y) s.heap σ H locs) (hl : lv_has ls 5 [(0, .ref (yA Y kq)), (1, .int a0), (2, .int a1), (3, .int a2), (4, .int a3)]) (h : wX4_plough kq a0 a1 a2 a3 σ Q) : W p l e { frames := 1, cells := 0, slots := 0, locals := 21 } s m args below meth c H locs 0 0 (MQ below (QV Y Q) args s 0 0 (AD Y)) (F0 m 0 ls []) := by
  obtain ⟨hx, hb, hr, hml, hown, hlk, hT, hK, hB⟩ := id M
  unfold wX4_plough at h
  refine lv_aload_n hx hb dX4_plough_0 rfl (lv_at hl 0 rfl) ?_
  refine q_get (v := .ref (yA Y (kq + 1))) M hw (sh_ob hh_kq) rfl inq_4 0 (by decide) tw_185 rfl dX4_plough_1 ?_
  refine lv_iload_n hx hb dX4_plough_4 rfl (lv_at hl 1 rfl) ?_
  refine lv_dup2_11 hx hb dX4_plough_5 rfl rfl ?_
  have c1 := h.1
  have h := h.2
  refine q_ild M hw (sh_a1 hh_kq) c1 dX4_plough_6 ?_
  refine lv_iload_n hx hb dX4_plough_7 rfl (lv_at hl 3 rfl) ?_
  refine lv_isub hx hb dX4_plough_8 ?_
  have c2 := h.1
  refine q_ist M hw (sh_a1 hh_kq) c2 dX4_plough_9 (fun σ3 H locs es hw => ?_)
  have h := h.2 σ3 es
  refine lv_aload_n hx hb dX4_plough_10 rfl (lv_at hl 0 rfl) ?_
  refine q_get (v := .ref (yA Y (kq + 4))) M hw (sh_ob hh_kq) rfl inq_4 3 (by decide) tw_191 rfl dX4_plough_11 ?_
  refine lv_iload_n hx hb dX4_plough_14 rfl (lv_at hl 2 rfl) ?_
  refine lv_iconst (v := 0) hx hb dX4_plough_15 (by decide) ?_
  refine lv_aload_n hx hb dX4_plough_16 rfl (lv_at hl 0 rfl) ?_
  refine q_get (v := .ref (yA Y (kq + 4))) M hw (sh_ob hh_kq) rfl inq_4 3 (by decide) tw_191 rfl dX4_plough_17 ?_
  refine lv_iload_n hx hb dX4_plough_20 rfl (lv_at hl 2 rfl) ?_
  have c4 := h.1
  have h := h.2
  refine q_ild M hw (sh_a4 hh_kq) c4 dX4_plough_21 ?_
  refine lv_iload hx hb dX4_plough_22 (lv_at hl 4 rfl) ?_
  refine lv_isub hx hb dX4_plough_24 ?_
  refine va_mmax hx hb (by rw [hl.1]; exact hml) hown (hT _ tw_439) (hT _ tw_440) (hT _ tw_57) (hT _ tw_441) (Nat.le_of_ble_eq_true rfl) (Nat.le_of_ble_eq_true rfl) (Nat.le_refl _) (Nat.le_refl _) dX4_plough_25 ?_
  refine lv_topi (fun x5 ex5 => ?_)
  have h := h x5 ex5
  have c6 := h.1
  refine q_ist M hw (sh_a4 hh_kq) c6 dX4_plough_28 (fun σ7 H locs es hw => ?_)
  have h := h.2 σ7 es
  refine lv_aload_n hx hb dX4_plough_29 rfl (lv_at hl 0 rfl) ?_
  refine lv_dup hx hb dX4_plough_30 rfl ?_
  refine q_get (v := .int (σ7.1 kq 6)) M hw (sh_ob hh_kq) rfl inq_4 6 (by decide) tw_197 rfl dX4_plough_31 ?_
  refine lv_iconst (v := 1) hx hb dX4_plough_34 (by decide) ?_
  refine lv_iload_n hx hb dX4_plough_35 rfl (lv_at hl 1 rfl) ?_
  refine lv_ishl hx hb dX4_plough_36 ?_
  refine lv_ior hx hb dX4_plough_37 ?_
  refine q_put (v := ((σ7.1 kq 6) ||| (1 <<< (a0 &&& 31)))) M hw (sh_ob hh_kq) rfl inq_4 tyX4 tyX4_ok nmX4 6 (by decide) tw_197 rfl rfl rfl (Nat.le_of_ble_eq_true rfl) (by simp [up, upd, f0]) dX4_plough_38 (fun σ8 H locs es hw => ?_)
  have h := h σ8 es
  exact q_vret M hw h dX4_plough_41
set_option maxRecDepth 100000 in
theorem ctX4_plough (l : Launch) {Y : LY} {kq : Nat} (hB : YB Y) (hh_kq : SH Y kq) (a0 : Int32) (a1 : Int32) (a2 : Int32) (a3 : Int32) (σ : St) (Q : St → Prop) (h : wX4_plough kq a0 a1 a2 a3 σ Q) : CT l yX4_plough (Cond.code yX4_plough cX4_plough 5 none) { frames := 1, cells := 0, slots := 0, locals := 21 } Y [.ref (yA Y kq), .int a0, .int a1, .int a2, .int a3] σ (QV Y Q) :=
  q_ent hB (by decide +kernel) (Nat.le_of_ble_eq_true rfl) (fun p e s m below meth c ls M hw hl => tX4_plough_E M hh_kq a0 a1 a2 a3 σ _ _ ls hw hl h)
theorem mbX4_plough : MB RX4 yX4_plough cX4_plough 4 5 none := ⟨tw_436, tw_437, tw_53, tw_438, by decide +kernel⟩
end
section
variable {p : Program} {l : Launch} {e : Env} {s : State} {m : MethodId} {args : Array Value} {below : List Frame} {meth : Method} {c : Code} {Y : LY}
theorem dX4_bequeath_0 : decode cX4_bequeath 0 = .ok (.aload_n 0, 1) := by decide +kernel
theorem dX4_bequeath_1 : decode cX4_bequeath 1 = .ok (.getfield 9, 3) := by decide +kernel
theorem dX4_bequeath_4 : decode cX4_bequeath 4 = .ok (.iload_n 1, 1) := by decide +kernel
theorem dX4_bequeath_5 : decode cX4_bequeath 5 = .ok (.sipush 999, 3) := by decide +kernel
theorem dX4_bequeath_8 : decode cX4_bequeath 8 = .ok (.aload_n 0, 1) := by decide +kernel
theorem dX4_bequeath_9 : decode cX4_bequeath 9 = .ok (.getfield 9, 3) := by decide +kernel
theorem dX4_bequeath_12 : decode cX4_bequeath 12 = .ok (.iload_n 1, 1) := by decide +kernel
theorem dX4_bequeath_13 : decode cX4_bequeath 13 = .ok (.iaload, 1) := by decide +kernel
theorem dX4_bequeath_14 : decode cX4_bequeath 14 = .ok (.iload_n 2, 1) := by decide +kernel
theorem dX4_bequeath_15 : decode cX4_bequeath 15 = .ok (.iadd, 1) := by decide +kernel
theorem dX4_bequeath_16 : decode cX4_bequeath 16 = .ok (.invokestatic 61, 3) := by decide +kernel
theorem dX4_bequeath_19 : decode cX4_bequeath 19 = .ok (.iastore, 1) := by decide +kernel
theorem dX4_bequeath_20 : decode cX4_bequeath 20 = .ok (.return_, 1) := by decide +kernel
def wX4_bequeath (kq : Nat) (a0 : Int32) (a1 : Int32) (σ : St) (Q : St → Prop) : Prop :=
  (vp_in a0 5 ∧ (∀ x2 : Int32, x2 = (if ((σ.1 (kq + 1) a0.toNatClampNeg) + a1) < 999 then ((σ.1 (kq + 1) a0.toNatClampNeg) + a1) else 999) → (vp_in a0 5 ∧ ∀ σ4 : St, σ4 = up σ (kq + 1) a0.toNatClampNeg x2 → Q σ4)))
set_option maxHeartbeats 4000000 in
set_option maxRecDepth 100000 in
theorem tX4_bequeath_E {kq : Nat} {Q : St → Prop} (M : MC p s m args meth c cX4_bequeath 3 none RX4 Y) (hh_kq : SH Y kq) (a0 : Int32) (a1 : Int32) (σ : St) (H : Heap) (locs : List Loc) (ls : Array Slot) (hw : WS Y (AD Y) s.heap σ H locs) (hl : lv_has ls 3 [(0, .ref (yA Y kq)), (1, .int a0), (2, .int a1)]) (h : wX4_bequeath kq a0 a1 σ Q) : W p l e { frames := 1, cells := 0, slots := 0, locals := 21 } s m args below meth c H locs 0 0 (MQ below (QV Y Q) args s 0 0 (AD Y)) (F0 m 0 ls []) := by
  obtain ⟨hx, hb, hr, hml, hown, hlk, hT, hK, hB⟩ := id M
  unfold wX4_bequeath at h
  refine lv_aload_n hx hb dX4_bequeath_0 rfl (lv_at hl 0 rfl) ?_
  refine q_get (v := .ref (yA Y (kq + 1))) M hw (sh_ob hh_kq) rfl inq_4 0 (by decide) tw_185 rfl dX4_bequeath_1 ?_
  refine lv_iload_n hx hb dX4_bequeath_4 rfl (lv_at hl 1 rfl) ?_
  refine lv_sipush (v := 999) hx hb dX4_bequeath_5 (by decide) ?_
  refine lv_aload_n hx hb dX4_bequeath_8 rfl (lv_at hl 0 rfl) ?_
  refine q_get (v := .ref (yA Y (kq + 1))) M hw (sh_ob hh_kq) rfl inq_4 0 (by decide) tw_185 rfl dX4_bequeath_9 ?_
  refine lv_iload_n hx hb dX4_bequeath_12 rfl (lv_at hl 1 rfl) ?_
  have c1 := h.1
  have h := h.2
  refine q_ild M hw (sh_a1 hh_kq) c1 dX4_bequeath_13 ?_
  refine lv_iload_n hx hb dX4_bequeath_14 rfl (lv_at hl 2 rfl) ?_
  refine lv_iadd hx hb dX4_bequeath_15 ?_
  refine va_mmin hx hb (by rw [hl.1]; exact hml) hown (hT _ tw_478) (hT _ tw_433) (hT _ tw_57) (hT _ tw_434) (Nat.le_of_ble_eq_true rfl) (Nat.le_of_ble_eq_true rfl) (Nat.le_refl _) (Nat.le_refl _) dX4_bequeath_16 ?_
  refine lv_topi (fun x2 ex2 => ?_)
  have h := h x2 ex2
  have c3 := h.1
  refine q_ist M hw (sh_a1 hh_kq) c3 dX4_bequeath_19 (fun σ4 H locs es hw => ?_)
  have h := h.2 σ4 es
  exact q_vret M hw h dX4_bequeath_20
set_option maxRecDepth 100000 in
theorem ctX4_bequeath (l : Launch) {Y : LY} {kq : Nat} (hB : YB Y) (hh_kq : SH Y kq) (a0 : Int32) (a1 : Int32) (σ : St) (Q : St → Prop) (h : wX4_bequeath kq a0 a1 σ Q) : CT l yX4_bequeath (Cond.code yX4_bequeath cX4_bequeath 3 none) { frames := 1, cells := 0, slots := 0, locals := 21 } Y [.ref (yA Y kq), .int a0, .int a1] σ (QV Y Q) :=
  q_ent hB (by decide +kernel) (Nat.le_of_ble_eq_true rfl) (fun p e s m below meth c ls M hw hl => tX4_bequeath_E M hh_kq a0 a1 σ _ _ ls hw hl h)
theorem mbX4_bequeath : MB RX4 yX4_bequeath cX4_bequeath 2 3 none := ⟨tw_476, tw_16, tw_53, tw_477, by decide +kernel⟩
end
section
variable {p : Program} {l : Launch} {e : Env} {s : State} {m : MethodId} {args : Array Value} {below : List Frame} {meth : Method} {c : Code} {Y : LY}
theorem dX4_bury_0 : decode cX4_bury 0 = .ok (.aload_n 0, 1) := by decide +kernel
theorem dX4_bury_1 : decode cX4_bury 1 = .ok (.getfield 9, 3) := by decide +kernel
theorem dX4_bury_4 : decode cX4_bury 4 = .ok (.iload_n 1, 1) := by decide +kernel
theorem dX4_bury_5 : decode cX4_bury 5 = .ok (.iaload, 1) := by decide +kernel
theorem dX4_bury_6 : decode cX4_bury 6 = .ok (.iconst 2, 1) := by decide +kernel
theorem dX4_bury_7 : decode cX4_bury 7 = .ok (.idiv, 1) := by decide +kernel
theorem dX4_bury_8 : decode cX4_bury 8 = .ok (.istore 4, 2) := by decide +kernel
theorem dX4_bury_10 : decode cX4_bury 10 = .ok (.aload_n 0, 1) := by decide +kernel
theorem dX4_bury_11 : decode cX4_bury 11 = .ok (.iload_n 2, 1) := by decide +kernel
theorem dX4_bury_12 : decode cX4_bury 12 = .ok (.iload 4, 2) := by decide +kernel
theorem dX4_bury_14 : decode cX4_bury 14 = .ok (.invokevirtual 57, 3) := by decide +kernel
theorem dX4_bury_17 : decode cX4_bury 17 = .ok (.aload_n 0, 1) := by decide +kernel
theorem dX4_bury_18 : decode cX4_bury 18 = .ok (.iload_n 3, 1) := by decide +kernel
theorem dX4_bury_19 : decode cX4_bury 19 = .ok (.aload_n 0, 1) := by decide +kernel
theorem dX4_bury_20 : decode cX4_bury 20 = .ok (.getfield 9, 3) := by decide +kernel
theorem dX4_bury_23 : decode cX4_bury 23 = .ok (.iload_n 1, 1) := by decide +kernel
theorem dX4_bury_24 : decode cX4_bury 24 = .ok (.iaload, 1) := by decide +kernel
theorem dX4_bury_25 : decode cX4_bury 25 = .ok (.iload 4, 2) := by decide +kernel
theorem dX4_bury_27 : decode cX4_bury 27 = .ok (.isub, 1) := by decide +kernel
theorem dX4_bury_28 : decode cX4_bury 28 = .ok (.invokevirtual 57, 3) := by decide +kernel
theorem dX4_bury_31 : decode cX4_bury 31 = .ok (.aload_n 0, 1) := by decide +kernel
theorem dX4_bury_32 : decode cX4_bury 32 = .ok (.getfield 9, 3) := by decide +kernel
theorem dX4_bury_35 : decode cX4_bury 35 = .ok (.iload_n 1, 1) := by decide +kernel
theorem dX4_bury_36 : decode cX4_bury 36 = .ok (.iconst 0, 1) := by decide +kernel
theorem dX4_bury_37 : decode cX4_bury 37 = .ok (.iastore, 1) := by decide +kernel
theorem dX4_bury_38 : decode cX4_bury 38 = .ok (.iconst 0, 1) := by decide +kernel
theorem dX4_bury_39 : decode cX4_bury 39 = .ok (.istore 5, 2) := by decide +kernel
theorem dX4_bury_41 : decode cX4_bury 41 = .ok (.iload 5, 2) := by decide +kernel
theorem dX4_bury_43 : decode cX4_bury 43 = .ok (.bipush 7, 2) := by decide +kernel
theorem dX4_bury_45 : decode cX4_bury 45 = .ok (.if_icmp .ge 28, 3) := by decide +kernel
theorem dX4_bury_48 : decode cX4_bury 48 = .ok (.aload_n 0, 1) := by decide +kernel
theorem dX4_bury_49 : decode cX4_bury 49 = .ok (.getfield 18, 3) := by decide +kernel
theorem dX4_bury_52 : decode cX4_bury 52 = .ok (.iload 5, 2) := by decide +kernel
theorem dX4_bury_54 : decode cX4_bury 54 = .ok (.iaload, 1) := by decide +kernel
theorem dX4_bury_55 : decode cX4_bury 55 = .ok (.iload_n 1, 1) := by decide +kernel
theorem dX4_bury_56 : decode cX4_bury 56 = .ok (.if_icmp .ne 11, 3) := by decide +kernel
theorem dX4_bury_59 : decode cX4_bury 59 = .ok (.aload_n 0, 1) := by decide +kernel
theorem dX4_bury_60 : decode cX4_bury 60 = .ok (.getfield 18, 3) := by decide +kernel
theorem dX4_bury_63 : decode cX4_bury 63 = .ok (.iload 5, 2) := by decide +kernel
theorem dX4_bury_65 : decode cX4_bury 65 = .ok (.iload_n 3, 1) := by decide +kernel
theorem dX4_bury_66 : decode cX4_bury 66 = .ok (.iastore, 1) := by decide +kernel
theorem dX4_bury_67 : decode cX4_bury 67 = .ok (.iinc 5 1, 3) := by decide +kernel
theorem dX4_bury_70 : decode cX4_bury 70 = .ok (.goto (-29), 3) := by decide +kernel
theorem dX4_bury_73 : decode cX4_bury 73 = .ok (.aload_n 0, 1) := by decide +kernel
theorem dX4_bury_74 : decode cX4_bury 74 = .ok (.getfield 15, 3) := by decide +kernel
theorem dX4_bury_77 : decode cX4_bury 77 = .ok (.iload_n 1, 1) := by decide +kernel
theorem dX4_bury_78 : decode cX4_bury 78 = .ok (.iaload, 1) := by decide +kernel
theorem dX4_bury_79 : decode cX4_bury 79 = .ok (.bipush (-9), 2) := by decide +kernel
theorem dX4_bury_81 : decode cX4_bury 81 = .ok (.if_icmp .eq 19, 3) := by decide +kernel
theorem dX4_bury_84 : decode cX4_bury 84 = .ok (.aload_n 0, 1) := by decide +kernel
theorem dX4_bury_85 : decode cX4_bury 85 = .ok (.getfield 15, 3) := by decide +kernel
theorem dX4_bury_88 : decode cX4_bury 88 = .ok (.iload_n 3, 1) := by decide +kernel
theorem dX4_bury_89 : decode cX4_bury 89 = .ok (.bipush (-9), 2) := by decide +kernel
theorem dX4_bury_91 : decode cX4_bury 91 = .ok (.iastore, 1) := by decide +kernel
theorem dX4_bury_92 : decode cX4_bury 92 = .ok (.aload_n 0, 1) := by decide +kernel
theorem dX4_bury_93 : decode cX4_bury 93 = .ok (.getfield 15, 3) := by decide +kernel
theorem dX4_bury_96 : decode cX4_bury 96 = .ok (.iload_n 1, 1) := by decide +kernel
theorem dX4_bury_97 : decode cX4_bury 97 = .ok (.bipush (-9), 2) := by decide +kernel
theorem dX4_bury_99 : decode cX4_bury 99 = .ok (.iastore, 1) := by decide +kernel
theorem dX4_bury_100 : decode cX4_bury 100 = .ok (.aload_n 0, 1) := by decide +kernel
theorem dX4_bury_101 : decode cX4_bury 101 = .ok (.dup, 1) := by decide +kernel
theorem dX4_bury_102 : decode cX4_bury 102 = .ok (.getfield 33, 3) := by decide +kernel
theorem dX4_bury_105 : decode cX4_bury 105 = .ok (.iconst 1, 1) := by decide +kernel
theorem dX4_bury_106 : decode cX4_bury 106 = .ok (.iload_n 1, 1) := by decide +kernel
theorem dX4_bury_107 : decode cX4_bury 107 = .ok (.ishl, 1) := by decide +kernel
theorem dX4_bury_108 : decode cX4_bury 108 = .ok (.iconst (-1), 1) := by decide +kernel
theorem dX4_bury_109 : decode cX4_bury 109 = .ok (.ixor, 1) := by decide +kernel
theorem dX4_bury_110 : decode cX4_bury 110 = .ok (.iand, 1) := by decide +kernel
theorem dX4_bury_111 : decode cX4_bury 111 = .ok (.putfield 33, 3) := by decide +kernel
theorem dX4_bury_114 : decode cX4_bury 114 = .ok (.return_, 1) := by decide +kernel
def bX4_bury_67 (R_41 : Int32 × Int32 × Int32 × St → Prop) (kq : Nat) (y1 : Int32) (y3 : Int32) (y5 : Int32) (σ : St) (Q : St → Prop) : Prop :=
  (∀ x1 : Int32, x1 = y5 + 1 → R_41 (y1, y3, x1, σ))
set_option maxHeartbeats 4000000 in
set_option maxRecDepth 100000 in
theorem tX4_bury_67 {R_41 : Int32 × Int32 × Int32 × St → Prop} {kq : Nat} {Q : St → Prop} (M : MC p s m args meth c cX4_bury 6 none RX4 Y) (hh_kq : SH Y kq) (hR_41 : ∀ (y1 y3 y5 : Int32) (σ : St) (H : Heap) (locs : List Loc) (ls : Array Slot), WS Y (AD Y) s.heap σ H locs → lv_has ls 6 [(0, .ref (yA Y kq)), (1, .int y1), (3, .int y3), (5, .int y5)] → R_41 (y1, y3, y5, σ) → W p l e { frames := 2, cells := 0, slots := 0, locals := 43 } s m args below meth c H locs 0 0 (MQ below (QV Y Q) args s 0 0 (AD Y)) (F0 m 41 ls [])) (y1 : Int32) (y3 : Int32) (y5 : Int32) (σ : St) (H : Heap) (locs : List Loc) (ls : Array Slot) (hw : WS Y (AD Y) s.heap σ H locs) (hl : lv_has ls 6 [(0, .ref (yA Y kq)), (1, .int y1), (3, .int y3), (5, .int y5)]) (h : bX4_bury_67 R_41 kq y1 y3 y5 σ Q) : W p l e { frames := 2, cells := 0, slots := 0, locals := 43 } s m args below meth c H locs 0 0 (MQ below (QV Y Q) args s 0 0 (AD Y)) (F0 m 67 ls []) := by
  obtain ⟨hx, hb, hr, hml, hown, hlk, hT, hK, hB⟩ := id M
  unfold bX4_bury_67 at h
  obtain ⟨x1, ex1⟩ : ∃ y : Int32, y = y5 + 1 := ⟨_, rfl⟩
  have h := h x1 ex1
  refine lv_iinc (v := x1) (lv' := [(5, .int x1), (0, .ref (yA Y kq)), (1, .int y1), (3, .int y3)]) hx hb dX4_bury_67 hl (k := 3) rfl (by rw [ex1]; rfl) (by decide) rfl (fun ls hl => ?_)
  refine lv_goto (tgt := 41) hx hb dX4_bury_70 (by decide) ?_
  exact hR_41 y1 y3 x1 σ _ _ _ hw (lv_sub hl [1, 2, 3, 0] rfl) h
def bX4_bury_100 (kq : Nat) (y1 : Int32) (σ : St) (Q : St → Prop) : Prop :=
  (∀ σ1 : St, σ1 = up σ kq 5 ((σ.1 kq 5) &&& ((1 <<< (y1 &&& 31)) ^^^ (-1))) → Q σ1)
set_option maxHeartbeats 4000000 in
set_option maxRecDepth 100000 in
theorem tX4_bury_100 {kq : Nat} {Q : St → Prop} (M : MC p s m args meth c cX4_bury 6 none RX4 Y) (hh_kq : SH Y kq) (y1 : Int32) (σ : St) (H : Heap) (locs : List Loc) (ls : Array Slot) (hw : WS Y (AD Y) s.heap σ H locs) (hl : lv_has ls 6 [(0, .ref (yA Y kq)), (1, .int y1)]) (h : bX4_bury_100 kq y1 σ Q) : W p l e { frames := 2, cells := 0, slots := 0, locals := 43 } s m args below meth c H locs 0 0 (MQ below (QV Y Q) args s 0 0 (AD Y)) (F0 m 100 ls []) := by
  obtain ⟨hx, hb, hr, hml, hown, hlk, hT, hK, hB⟩ := id M
  unfold bX4_bury_100 at h
  refine lv_aload_n hx hb dX4_bury_100 rfl (lv_at hl 0 rfl) ?_
  refine lv_dup hx hb dX4_bury_101 rfl ?_
  refine q_get (v := .int (σ.1 kq 5)) M hw (sh_ob hh_kq) rfl inq_4 5 (by decide) tw_195 rfl dX4_bury_102 ?_
  refine lv_iconst (v := 1) hx hb dX4_bury_105 (by decide) ?_
  refine lv_iload_n hx hb dX4_bury_106 rfl (lv_at hl 1 rfl) ?_
  refine lv_ishl hx hb dX4_bury_107 ?_
  refine lv_iconst (v := (-1)) hx hb dX4_bury_108 (by decide) ?_
  refine lv_ixor hx hb dX4_bury_109 ?_
  refine lv_iand hx hb dX4_bury_110 ?_
  refine q_put (v := ((σ.1 kq 5) &&& ((1 <<< (y1 &&& 31)) ^^^ (-1)))) M hw (sh_ob hh_kq) rfl inq_4 tyX4 tyX4_ok nmX4 5 (by decide) tw_195 rfl rfl rfl (Nat.le_of_ble_eq_true rfl) (by simp [up, upd, f0]) dX4_bury_111 (fun σ1 H locs es hw => ?_)
  have h := h σ1 es
  exact q_vret M hw h dX4_bury_114
def bX4_bury_41 (R_41 : Int32 × Int32 × Int32 × St → Prop) (kq : Nat) (y1 : Int32) (y3 : Int32) (y5 : Int32) (σ : St) (Q : St → Prop) : Prop :=
  ((7 ≤ y5 → (vp_in y1 5 ∧ (((σ.1 (kq + 2) y1.toNatClampNeg) = (-9) → bX4_bury_100 kq y1 σ Q) ∧ (¬ (σ.1 (kq + 2) y1.toNatClampNeg) = (-9) → (vp_in y3 5 ∧ ∀ σ5 : St, σ5 = up σ (kq + 2) y3.toNatClampNeg (-9) → (vp_in y1 5 ∧ ∀ σ7 : St, σ7 = up σ5 (kq + 2) y1.toNatClampNeg (-9) → bX4_bury_100 kq y1 σ7 Q)))))) ∧ (¬ 7 ≤ y5 → (vp_in y5 7 ∧ (((σ.1 (kq + 3) y5.toNatClampNeg) = y1 → (vp_in y5 7 ∧ ∀ σ11 : St, σ11 = up σ (kq + 3) y5.toNatClampNeg y3 → bX4_bury_67 R_41 kq y1 y3 y5 σ11 Q)) ∧ (¬ (σ.1 (kq + 3) y5.toNatClampNeg) = y1 → bX4_bury_67 R_41 kq y1 y3 y5 σ Q)))))
set_option maxHeartbeats 4000000 in
set_option maxRecDepth 100000 in
theorem tX4_bury_41 {R_41 : Int32 × Int32 × Int32 × St → Prop} {kq : Nat} {Q : St → Prop} (M : MC p s m args meth c cX4_bury 6 none RX4 Y) (hh_kq : SH Y kq) (hR_41 : ∀ (y1 y3 y5 : Int32) (σ : St) (H : Heap) (locs : List Loc) (ls : Array Slot), WS Y (AD Y) s.heap σ H locs → lv_has ls 6 [(0, .ref (yA Y kq)), (1, .int y1), (3, .int y3), (5, .int y5)] → R_41 (y1, y3, y5, σ) → W p l e { frames := 2, cells := 0, slots := 0, locals := 43 } s m args below meth c H locs 0 0 (MQ below (QV Y Q) args s 0 0 (AD Y)) (F0 m 41 ls [])) (y1 : Int32) (y3 : Int32) (y5 : Int32) (σ : St) (H : Heap) (locs : List Loc) (ls : Array Slot) (hw : WS Y (AD Y) s.heap σ H locs) (hl : lv_has ls 6 [(0, .ref (yA Y kq)), (1, .int y1), (3, .int y3), (5, .int y5)]) (h : bX4_bury_41 R_41 kq y1 y3 y5 σ Q) : W p l e { frames := 2, cells := 0, slots := 0, locals := 43 } s m args below meth c H locs 0 0 (MQ below (QV Y Q) args s 0 0 (AD Y)) (F0 m 41 ls []) := by
  obtain ⟨hx, hb, hr, hml, hown, hlk, hT, hK, hB⟩ := id M
  unfold bX4_bury_41 at h
  refine lv_iload hx hb dX4_bury_41 (lv_at hl 3 rfl) ?_
  refine lv_bipush (v := 7) hx hb dX4_bury_43 (by decide) ?_
  refine lv_icmp_ge (tgt := 73) hx hb dX4_bury_45 (by decide) (fun c1 => ?_) (fun c1 => ?_)
  · have h := h.1 c1
    refine lv_aload_n hx hb dX4_bury_73 rfl (lv_at hl 0 rfl) ?_
    refine q_get (v := .ref (yA Y (kq + 2))) M hw (sh_ob hh_kq) rfl inq_4 1 (by decide) tw_187 rfl dX4_bury_74 ?_
    refine lv_iload_n hx hb dX4_bury_77 rfl (lv_at hl 1 rfl) ?_
    have c2 := h.1
    have h := h.2
    refine q_ild M hw (sh_a2 hh_kq) c2 dX4_bury_78 ?_
    refine lv_bipush (v := (-9)) hx hb dX4_bury_79 (by decide) ?_
    refine lv_icmp_eq (tgt := 100) hx hb dX4_bury_81 (by decide) (fun c3 => ?_) (fun c3 => ?_)
    · have h := h.1 c3
      exact tX4_bury_100 M hh_kq y1 σ _ _ _ hw (lv_sub hl [0, 1] rfl) h
    · have h := h.2 c3
      refine lv_aload_n hx hb dX4_bury_84 rfl (lv_at hl 0 rfl) ?_
      refine q_get (v := .ref (yA Y (kq + 2))) M hw (sh_ob hh_kq) rfl inq_4 1 (by decide) tw_187 rfl dX4_bury_85 ?_
      refine lv_iload_n hx hb dX4_bury_88 rfl (lv_at hl 2 rfl) ?_
      refine lv_bipush (v := (-9)) hx hb dX4_bury_89 (by decide) ?_
      have c4 := h.1
      refine q_ist M hw (sh_a2 hh_kq) c4 dX4_bury_91 (fun σ5 H locs es hw => ?_)
      have h := h.2 σ5 es
      refine lv_aload_n hx hb dX4_bury_92 rfl (lv_at hl 0 rfl) ?_
      refine q_get (v := .ref (yA Y (kq + 2))) M hw (sh_ob hh_kq) rfl inq_4 1 (by decide) tw_187 rfl dX4_bury_93 ?_
      refine lv_iload_n hx hb dX4_bury_96 rfl (lv_at hl 1 rfl) ?_
      refine lv_bipush (v := (-9)) hx hb dX4_bury_97 (by decide) ?_
      have c6 := h.1
      refine q_ist M hw (sh_a2 hh_kq) c6 dX4_bury_99 (fun σ7 H locs es hw => ?_)
      have h := h.2 σ7 es
      exact tX4_bury_100 M hh_kq y1 σ7 _ _ _ hw (lv_sub hl [0, 1] rfl) h
  · have h := h.2 c1
    refine lv_aload_n hx hb dX4_bury_48 rfl (lv_at hl 0 rfl) ?_
    refine q_get (v := .ref (yA Y (kq + 3))) M hw (sh_ob hh_kq) rfl inq_4 2 (by decide) tw_189 rfl dX4_bury_49 ?_
    refine lv_iload hx hb dX4_bury_52 (lv_at hl 3 rfl) ?_
    have c8 := h.1
    have h := h.2
    refine q_ild M hw (sh_a3 hh_kq) c8 dX4_bury_54 ?_
    refine lv_iload_n hx hb dX4_bury_55 rfl (lv_at hl 1 rfl) ?_
    refine lv_icmp_ne (tgt := 67) hx hb dX4_bury_56 (by decide) (fun c9 => ?_) (fun c9 => ?_)
    · have h := h.2 c9
      exact tX4_bury_67 M hh_kq hR_41 y1 y3 y5 σ _ _ _ hw (lv_sub hl [0, 1, 2, 3] rfl) h
    · have h := h.1 c9
      refine lv_aload_n hx hb dX4_bury_59 rfl (lv_at hl 0 rfl) ?_
      refine q_get (v := .ref (yA Y (kq + 3))) M hw (sh_ob hh_kq) rfl inq_4 2 (by decide) tw_189 rfl dX4_bury_60 ?_
      refine lv_iload hx hb dX4_bury_63 (lv_at hl 3 rfl) ?_
      refine lv_iload_n hx hb dX4_bury_65 rfl (lv_at hl 2 rfl) ?_
      have c10 := h.1
      refine q_ist M hw (sh_a3 hh_kq) c10 dX4_bury_66 (fun σ11 H locs es hw => ?_)
      have h := h.2 σ11 es
      exact tX4_bury_67 M hh_kq hR_41 y1 y3 y5 σ11 _ _ _ hw (lv_sub hl [0, 1, 2, 3] rfl) h
def lX4_bury_41 (kq : Nat) (Q : St → Prop) : (Int32 × Int32 × Int32 × St → Prop) → Int32 × Int32 × Int32 × St → Prop := fun R a => bX4_bury_41 R kq a.1 a.2.1 a.2.2.1 a.2.2.2 Q
theorem tlX4_bury_41 {kq : Nat} {Q : St → Prop} (M : MC p s m args meth c cX4_bury 6 none RX4 Y) (hh_kq : SH Y kq) (n : Nat) : ∀ (y1 : Int32) (y3 : Int32) (y5 : Int32) (σ : St) (H : Heap) (locs : List Loc) (ls : Array Slot) (hw : WS Y (AD Y) s.heap σ H locs) (hl : lv_has ls 6 [(0, .ref (yA Y kq)), (1, .int y1), (3, .int y3), (5, .int y5)]) (h : Lp (lX4_bury_41 kq Q) n (y1, y3, y5, σ)), W p l e { frames := 2, cells := 0, slots := 0, locals := 43 } s m args below meth c H locs 0 0 (MQ below (QV Y Q) args s 0 0 (AD Y)) (F0 m 41 ls []) := by
  induction n with
  | zero => intro y1 y3 y5 σ H locs ls hw hl h; exact h.elim
  | succ n ih =>
    intro y1 y3 y5 σ H locs ls hw hl h
    exact tX4_bury_41 M hh_kq ih y1 y3 y5 σ H locs ls hw hl h
def wX4_bury (kq : Nat) (a0 : Int32) (a1 : Int32) (a2 : Int32) (σ : St) (Q : St → Prop) : Prop :=
  (vp_in a0 5 ∧ (∀ x2 : Int32, x2 = ((σ.1 (kq + 1) a0.toNatClampNeg) / 2) → wX4_bequeath kq a1 x2 σ (fun σ3 => (vp_in a0 5 ∧ wX4_bequeath kq a2 ((σ3.1 (kq + 1) a0.toNatClampNeg) - x2) σ3 (fun σ5 => (vp_in a0 5 ∧ ∀ σ7 : St, σ7 = up σ5 (kq + 1) a0.toNatClampNeg 0 → ∃ n : Nat, Lp (lX4_bury_41 kq Q) n (a0, a2, 0, σ7)))))))
set_option maxHeartbeats 4000000 in
set_option maxRecDepth 100000 in
theorem tX4_bury_E {kq : Nat} {Q : St → Prop} (M : MC p s m args meth c cX4_bury 6 none RX4 Y) (hh_kq : SH Y kq) (a0 : Int32) (a1 : Int32) (a2 : Int32) (σ : St) (H : Heap) (locs : List Loc) (ls : Array Slot) (hw : WS Y (AD Y) s.heap σ H locs) (hl : lv_has ls 6 [(0, .ref (yA Y kq)), (1, .int a0), (2, .int a1), (3, .int a2)]) (h : wX4_bury kq a0 a1 a2 σ Q) : W p l e { frames := 2, cells := 0, slots := 0, locals := 43 } s m args below meth c H locs 0 0 (MQ below (QV Y Q) args s 0 0 (AD Y)) (F0 m 0 ls []) := by
  obtain ⟨hx, hb, hr, hml, hown, hlk, hT, hK, hB⟩ := id M
  unfold wX4_bury at h
  refine lv_aload_n hx hb dX4_bury_0 rfl (lv_at hl 0 rfl) ?_
  refine q_get (v := .ref (yA Y (kq + 1))) M hw (sh_ob hh_kq) rfl inq_4 0 (by decide) tw_185 rfl dX4_bury_1 ?_
  refine lv_iload_n hx hb dX4_bury_4 rfl (lv_at hl 1 rfl) ?_
  have c1 := h.1
  have h := h.2
  refine q_ild M hw (sh_a1 hh_kq) c1 dX4_bury_5 ?_
  refine lv_iconst (v := 2) hx hb dX4_bury_6 (by decide) ?_
  refine lv_idiv hx hb dX4_bury_7 (by decide) ?_
  refine lv_topi (fun x2 ex2 => ?_)
  have h := h x2 ex2
  refine lv_istore (lv' := [(4, .int x2), (0, .ref (yA Y kq)), (1, .int a0), (2, .int a1), (3, .int a2)]) hx hb dX4_bury_8 hl (by decide) rfl (fun ls hl => ?_)
  refine lv_aload_n hx hb dX4_bury_10 rfl (lv_at hl 1 rfl) ?_
  refine lv_iload_n hx hb dX4_bury_11 rfl (lv_at hl 3 rfl) ?_
  refine lv_iload hx hb dX4_bury_12 (lv_at hl 0 rfl) ?_
  refine q_goV hw (q_runV (rest := []) M hw (ctX4_bequeath l hB hh_kq a1 x2 σ _ h) mbX4_bequeath (sh_ob hh_kq) rfl tw_474 rfl hl.1 rfl (Nat.le_of_ble_eq_true rfl) ⟨Nat.le_of_ble_eq_true rfl, Nat.le_of_ble_eq_true rfl⟩ ⟨Nat.le_refl _, Nat.le_refl _⟩ dX4_bury_14) (fun σ3 H locs h hw => ?_)
  refine lv_aload_n hx hb dX4_bury_17 rfl (lv_at hl 1 rfl) ?_
  refine lv_iload_n hx hb dX4_bury_18 rfl (lv_at hl 4 rfl) ?_
  refine lv_aload_n hx hb dX4_bury_19 rfl (lv_at hl 1 rfl) ?_
  refine q_get (v := .ref (yA Y (kq + 1))) M hw (sh_ob hh_kq) rfl inq_4 0 (by decide) tw_185 rfl dX4_bury_20 ?_
  refine lv_iload_n hx hb dX4_bury_23 rfl (lv_at hl 2 rfl) ?_
  have c4 := h.1
  have h := h.2
  refine q_ild M hw (sh_a1 hh_kq) c4 dX4_bury_24 ?_
  refine lv_iload hx hb dX4_bury_25 (lv_at hl 0 rfl) ?_
  refine lv_isub hx hb dX4_bury_27 ?_
  refine q_goV hw (q_runV (rest := []) M hw (ctX4_bequeath l hB hh_kq a2 ((σ3.1 (kq + 1) a0.toNatClampNeg) - x2) σ3 _ h) mbX4_bequeath (sh_ob hh_kq) rfl tw_474 rfl hl.1 rfl (Nat.le_of_ble_eq_true rfl) ⟨Nat.le_of_ble_eq_true rfl, Nat.le_of_ble_eq_true rfl⟩ ⟨Nat.le_refl _, Nat.le_refl _⟩ dX4_bury_28) (fun σ5 H locs h hw => ?_)
  refine lv_aload_n hx hb dX4_bury_31 rfl (lv_at hl 1 rfl) ?_
  refine q_get (v := .ref (yA Y (kq + 1))) M hw (sh_ob hh_kq) rfl inq_4 0 (by decide) tw_185 rfl dX4_bury_32 ?_
  refine lv_iload_n hx hb dX4_bury_35 rfl (lv_at hl 2 rfl) ?_
  refine lv_iconst (v := 0) hx hb dX4_bury_36 (by decide) ?_
  have c6 := h.1
  refine q_ist M hw (sh_a1 hh_kq) c6 dX4_bury_37 (fun σ7 H locs es hw => ?_)
  have h := h.2 σ7 es
  refine lv_iconst (v := 0) hx hb dX4_bury_38 (by decide) ?_
  refine lv_istore (lv' := [(5, .int 0), (4, .int x2), (0, .ref (yA Y kq)), (1, .int a0), (2, .int a1), (3, .int a2)]) hx hb dX4_bury_39 hl (by decide) rfl (fun ls hl => ?_)
  obtain ⟨n, h⟩ := h
  exact tlX4_bury_41 M hh_kq n a0 a2 0 σ7 _ _ _ hw (lv_sub hl [2, 3, 5, 0] rfl) h
set_option maxRecDepth 100000 in
theorem ctX4_bury (l : Launch) {Y : LY} {kq : Nat} (hB : YB Y) (hh_kq : SH Y kq) (a0 : Int32) (a1 : Int32) (a2 : Int32) (σ : St) (Q : St → Prop) (h : wX4_bury kq a0 a1 a2 σ Q) : CT l yX4_bury (Cond.code yX4_bury cX4_bury 6 none) { frames := 2, cells := 0, slots := 0, locals := 43 } Y [.ref (yA Y kq), .int a0, .int a1, .int a2] σ (QV Y Q) :=
  q_ent hB (by decide +kernel) (Nat.le_of_ble_eq_true rfl) (fun p e s m below meth c ls M hw hl => tX4_bury_E M hh_kq a0 a1 a2 σ _ _ ls hw hl h)
theorem mbX4_bury : MB RX4 yX4_bury cX4_bury 3 6 none := ⟨tw_471, tw_472, tw_53, tw_473, by decide +kernel⟩
end
section
variable {p : Program} {l : Launch} {e : Env} {s : State} {m : MethodId} {args : Array Value} {below : List Frame} {meth : Method} {c : Code} {Y : LY}
theorem dX5_add_0 : decode cX5_add 0 = .ok (.aload_n 0, 1) := by decide +kernel
theorem dX5_add_1 : decode cX5_add 1 = .ok (.getfield 15, 3) := by decide +kernel
theorem dX5_add_4 : decode cX5_add 4 = .ok (.sipush 200, 3) := by decide +kernel
theorem dX5_add_7 : decode cX5_add 7 = .ok (.if_icmp .lt 5, 3) := by decide +kernel
theorem dX5_add_10 : decode cX5_add 10 = .ok (.iconst 0, 1) := by decide +kernel
theorem dX5_add_11 : decode cX5_add 11 = .ok (.ireturn, 1) := by decide +kernel
theorem dX5_add_12 : decode cX5_add 12 = .ok (.aload_n 0, 1) := by decide +kernel
theorem dX5_add_13 : decode cX5_add 13 = .ok (.getfield 9, 3) := by decide +kernel
theorem dX5_add_16 : decode cX5_add 16 = .ok (.aload_n 0, 1) := by decide +kernel
theorem dX5_add_17 : decode cX5_add 17 = .ok (.getfield 15, 3) := by decide +kernel
theorem dX5_add_20 : decode cX5_add 20 = .ok (.iload_n 1, 1) := by decide +kernel
theorem dX5_add_21 : decode cX5_add 21 = .ok (.castore, 1) := by decide +kernel
theorem dX5_add_22 : decode cX5_add 22 = .ok (.aload_n 0, 1) := by decide +kernel
theorem dX5_add_23 : decode cX5_add 23 = .ok (.dup, 1) := by decide +kernel
theorem dX5_add_24 : decode cX5_add 24 = .ok (.getfield 15, 3) := by decide +kernel
theorem dX5_add_27 : decode cX5_add 27 = .ok (.iconst 1, 1) := by decide +kernel
theorem dX5_add_28 : decode cX5_add 28 = .ok (.iadd, 1) := by decide +kernel
theorem dX5_add_29 : decode cX5_add 29 = .ok (.putfield 15, 3) := by decide +kernel
theorem dX5_add_32 : decode cX5_add 32 = .ok (.iconst 1, 1) := by decide +kernel
theorem dX5_add_33 : decode cX5_add 33 = .ok (.ireturn, 1) := by decide +kernel
def wX5_add (a0 : Int32) (σ : St) (Q : Int32 → St → Prop) : Prop :=
  (((σ.1 2 1) < 200 → (vp_in (σ.1 2 1) 200 ∧ ∀ σ3 : St, σ3 = up σ 1 (σ.1 2 1).toNatClampNeg (vp_nar .char a0) → (∀ σ4 : St, σ4 = up σ3 2 1 ((σ3.1 2 1) + 1) → Q 1 σ4))) ∧ (¬ (σ.1 2 1) < 200 → Q 0 σ))
set_option maxHeartbeats 4000000 in
set_option maxRecDepth 100000 in
theorem tX5_add_E {Q : Int32 → St → Prop} (M : MC p s m args meth c cX5_add 2 (some .boolean) RX5 Y) (hN : yN Y = 108) (a0 : Int32) (σ : St) (H : Heap) (locs : List Loc) (ls : Array Slot) (hw : WS Y (AD Y) s.heap σ H locs) (hl : lv_has ls 2 [(0, .ref (yA Y 2)), (1, .int a0)]) (h : wX5_add a0 σ Q) : W p l e { frames := 0, cells := 0, slots := 0, locals := 0 } s m args below meth c H locs 0 0 (MQ below (QI Y Q) args s 0 0 (AD Y)) (F0 m 0 ls []) := by
  obtain ⟨hx, hb, hr, hml, hown, hlk, hT, hK, hB⟩ := id M
  unfold wX5_add at h
  refine lv_aload_n hx hb dX5_add_0 rfl (lv_at hl 0 rfl) ?_
  refine q_get (v := .int (σ.1 2 1)) M hw (ob_2 hN) rfl inq_5 1 (by decide) tw_73 rfl dX5_add_1 ?_
  refine lv_sipush (v := 200) hx hb dX5_add_4 (by decide) ?_
  refine lv_icmp_lt (tgt := 12) hx hb dX5_add_7 (by decide) (fun c1 => ?_) (fun c1 => ?_)
  · have h := h.1 c1
    refine lv_aload_n hx hb dX5_add_12 rfl (lv_at hl 0 rfl) ?_
    refine q_get (v := .ref (yA Y 1)) M hw (ob_2 hN) rfl inq_5 0 (by decide) tw_72 rfl dX5_add_13 ?_
    refine lv_aload_n hx hb dX5_add_16 rfl (lv_at hl 0 rfl) ?_
    refine q_get (v := .int (σ.1 2 1)) M hw (ob_2 hN) rfl inq_5 1 (by decide) tw_73 rfl dX5_add_17 ?_
    refine lv_iload_n hx hb dX5_add_20 rfl (lv_at hl 1 rfl) ?_
    have c2 := h.1
    refine q_cst M hw (ar_1 hN) c2 dX5_add_21 (fun σ3 H locs es hw => ?_)
    have h := h.2 σ3 es
    refine lv_aload_n hx hb dX5_add_22 rfl (lv_at hl 0 rfl) ?_
    refine lv_dup hx hb dX5_add_23 rfl ?_
    refine q_get (v := .int (σ3.1 2 1)) M hw (ob_2 hN) rfl inq_5 1 (by decide) tw_73 rfl dX5_add_24 ?_
    refine lv_iconst (v := 1) hx hb dX5_add_27 (by decide) ?_
    refine lv_iadd hx hb dX5_add_28 ?_
    refine q_put (v := ((σ3.1 2 1) + 1)) M hw (ob_2 hN) rfl inq_5 tyX5 tyX5_ok nmX5 1 (by decide) tw_73 rfl rfl rfl (Nat.le_of_ble_eq_true rfl) (by simp [up, upd, f0]) dX5_add_29 (fun σ4 H locs es hw => ?_)
    have h := h σ4 es
    refine lv_iconst (v := 1) hx hb dX5_add_32 (by decide) ?_
    exact q_zret M hw (by decide) h dX5_add_33
  · have h := h.2 c1
    refine lv_iconst (v := 0) hx hb dX5_add_10 (by decide) ?_
    exact q_zret M hw (by decide) h dX5_add_11
set_option maxRecDepth 100000 in
theorem ctX5_add (l : Launch) {Y : LY} (hB : YB Y) (hN : yN Y = 108) (a0 : Int32) (σ : St) (Q : Int32 → St → Prop) (h : wX5_add a0 σ Q) : CT l yX5_add (Cond.code yX5_add cX5_add 2 (some .boolean)) { frames := 0, cells := 0, slots := 0, locals := 0 } Y [.ref (yA Y 2), .int a0] σ (QI Y Q) :=
  q_ent hB (by decide +kernel) (Nat.le_of_ble_eq_true rfl) (fun p e s m below meth c ls M hw hl => tX5_add_E M hN a0 σ _ _ ls hw hl h)
theorem mbX5_add : MB RX5 yX5_add cX5_add 1 2 (some .boolean) := ⟨tw_296, tw_297, tw_50, tw_298, by decide +kernel⟩
end
section
variable {p : Program} {l : Launch} {e : Env} {s : State} {m : MethodId} {args : Array Value} {below : List Frame} {meth : Method} {c : Code} {Y : LY}
theorem dX5_scanNumber_0 : decode cX5_scanNumber 0 = .ok (.aload_n 0, 1) := by decide +kernel
theorem dX5_scanNumber_1 : decode cX5_scanNumber 1 = .ok (.iconst 0, 1) := by decide +kernel
theorem dX5_scanNumber_2 : decode cX5_scanNumber 2 = .ok (.putfield 66, 3) := by decide +kernel
theorem dX5_scanNumber_5 : decode cX5_scanNumber 5 = .ok (.aload_n 0, 1) := by decide +kernel
theorem dX5_scanNumber_6 : decode cX5_scanNumber 6 = .ok (.getfield 19, 3) := by decide +kernel
theorem dX5_scanNumber_9 : decode cX5_scanNumber 9 = .ok (.aload_n 0, 1) := by decide +kernel
theorem dX5_scanNumber_10 : decode cX5_scanNumber 10 = .ok (.getfield 15, 3) := by decide +kernel
theorem dX5_scanNumber_13 : decode cX5_scanNumber 13 = .ok (.if_icmp .ge 77, 3) := by decide +kernel
theorem dX5_scanNumber_16 : decode cX5_scanNumber 16 = .ok (.aload_n 0, 1) := by decide +kernel
theorem dX5_scanNumber_17 : decode cX5_scanNumber 17 = .ok (.getfield 9, 3) := by decide +kernel
theorem dX5_scanNumber_20 : decode cX5_scanNumber 20 = .ok (.aload_n 0, 1) := by decide +kernel
theorem dX5_scanNumber_21 : decode cX5_scanNumber 21 = .ok (.getfield 19, 3) := by decide +kernel
theorem dX5_scanNumber_24 : decode cX5_scanNumber 24 = .ok (.caload, 1) := by decide +kernel
theorem dX5_scanNumber_25 : decode cX5_scanNumber 25 = .ok (.bipush 48, 2) := by decide +kernel
theorem dX5_scanNumber_27 : decode cX5_scanNumber 27 = .ok (.if_icmp .lt 63, 3) := by decide +kernel
theorem dX5_scanNumber_30 : decode cX5_scanNumber 30 = .ok (.aload_n 0, 1) := by decide +kernel
theorem dX5_scanNumber_31 : decode cX5_scanNumber 31 = .ok (.getfield 9, 3) := by decide +kernel
theorem dX5_scanNumber_34 : decode cX5_scanNumber 34 = .ok (.aload_n 0, 1) := by decide +kernel
theorem dX5_scanNumber_35 : decode cX5_scanNumber 35 = .ok (.getfield 19, 3) := by decide +kernel
theorem dX5_scanNumber_38 : decode cX5_scanNumber 38 = .ok (.caload, 1) := by decide +kernel
theorem dX5_scanNumber_39 : decode cX5_scanNumber 39 = .ok (.bipush 57, 2) := by decide +kernel
theorem dX5_scanNumber_41 : decode cX5_scanNumber 41 = .ok (.if_icmp .gt 49, 3) := by decide +kernel
theorem dX5_scanNumber_44 : decode cX5_scanNumber 44 = .ok (.aload_n 0, 1) := by decide +kernel
theorem dX5_scanNumber_45 : decode cX5_scanNumber 45 = .ok (.getfield 66, 3) := by decide +kernel
theorem dX5_scanNumber_48 : decode cX5_scanNumber 48 = .ok (.bipush 99, 2) := by decide +kernel
theorem dX5_scanNumber_50 : decode cX5_scanNumber 50 = .ok (.if_icmp .gt 27, 3) := by decide +kernel
theorem dX5_scanNumber_53 : decode cX5_scanNumber 53 = .ok (.aload_n 0, 1) := by decide +kernel
theorem dX5_scanNumber_54 : decode cX5_scanNumber 54 = .ok (.aload_n 0, 1) := by decide +kernel
theorem dX5_scanNumber_55 : decode cX5_scanNumber 55 = .ok (.getfield 66, 3) := by decide +kernel
theorem dX5_scanNumber_58 : decode cX5_scanNumber 58 = .ok (.bipush 10, 2) := by decide +kernel
theorem dX5_scanNumber_60 : decode cX5_scanNumber 60 = .ok (.imul, 1) := by decide +kernel
theorem dX5_scanNumber_61 : decode cX5_scanNumber 61 = .ok (.aload_n 0, 1) := by decide +kernel
theorem dX5_scanNumber_62 : decode cX5_scanNumber 62 = .ok (.getfield 9, 3) := by decide +kernel
theorem dX5_scanNumber_65 : decode cX5_scanNumber 65 = .ok (.aload_n 0, 1) := by decide +kernel
theorem dX5_scanNumber_66 : decode cX5_scanNumber 66 = .ok (.getfield 19, 3) := by decide +kernel
theorem dX5_scanNumber_69 : decode cX5_scanNumber 69 = .ok (.caload, 1) := by decide +kernel
theorem dX5_scanNumber_70 : decode cX5_scanNumber 70 = .ok (.iadd, 1) := by decide +kernel
theorem dX5_scanNumber_71 : decode cX5_scanNumber 71 = .ok (.bipush 48, 2) := by decide +kernel
theorem dX5_scanNumber_73 : decode cX5_scanNumber 73 = .ok (.isub, 1) := by decide +kernel
theorem dX5_scanNumber_74 : decode cX5_scanNumber 74 = .ok (.putfield 66, 3) := by decide +kernel
theorem dX5_scanNumber_77 : decode cX5_scanNumber 77 = .ok (.aload_n 0, 1) := by decide +kernel
theorem dX5_scanNumber_78 : decode cX5_scanNumber 78 = .ok (.dup, 1) := by decide +kernel
theorem dX5_scanNumber_79 : decode cX5_scanNumber 79 = .ok (.getfield 19, 3) := by decide +kernel
theorem dX5_scanNumber_82 : decode cX5_scanNumber 82 = .ok (.iconst 1, 1) := by decide +kernel
theorem dX5_scanNumber_83 : decode cX5_scanNumber 83 = .ok (.iadd, 1) := by decide +kernel
theorem dX5_scanNumber_84 : decode cX5_scanNumber 84 = .ok (.putfield 19, 3) := by decide +kernel
theorem dX5_scanNumber_87 : decode cX5_scanNumber 87 = .ok (.goto (-82), 3) := by decide +kernel
theorem dX5_scanNumber_90 : decode cX5_scanNumber 90 = .ok (.aload_n 0, 1) := by decide +kernel
theorem dX5_scanNumber_91 : decode cX5_scanNumber 91 = .ok (.getfield 9, 3) := by decide +kernel
theorem dX5_scanNumber_94 : decode cX5_scanNumber 94 = .ok (.aload_n 0, 1) := by decide +kernel
theorem dX5_scanNumber_95 : decode cX5_scanNumber 95 = .ok (.getfield 37, 3) := by decide +kernel
theorem dX5_scanNumber_98 : decode cX5_scanNumber 98 = .ok (.caload, 1) := by decide +kernel
theorem dX5_scanNumber_99 : decode cX5_scanNumber 99 = .ok (.bipush 48, 2) := by decide +kernel
theorem dX5_scanNumber_101 : decode cX5_scanNumber 101 = .ok (.if_icmp .ne 20, 3) := by decide +kernel
theorem dX5_scanNumber_104 : decode cX5_scanNumber 104 = .ok (.aload_n 0, 1) := by decide +kernel
theorem dX5_scanNumber_105 : decode cX5_scanNumber 105 = .ok (.getfield 19, 3) := by decide +kernel
theorem dX5_scanNumber_108 : decode cX5_scanNumber 108 = .ok (.aload_n 0, 1) := by decide +kernel
theorem dX5_scanNumber_109 : decode cX5_scanNumber 109 = .ok (.getfield 37, 3) := by decide +kernel
theorem dX5_scanNumber_112 : decode cX5_scanNumber 112 = .ok (.isub, 1) := by decide +kernel
theorem dX5_scanNumber_113 : decode cX5_scanNumber 113 = .ok (.iconst 1, 1) := by decide +kernel
theorem dX5_scanNumber_114 : decode cX5_scanNumber 114 = .ok (.if_icmp .le 7, 3) := by decide +kernel
theorem dX5_scanNumber_117 : decode cX5_scanNumber 117 = .ok (.iconst 1, 1) := by decide +kernel
theorem dX5_scanNumber_118 : decode cX5_scanNumber 118 = .ok (.goto 4, 3) := by decide +kernel
theorem dX5_scanNumber_121 : decode cX5_scanNumber 121 = .ok (.iconst 0, 1) := by decide +kernel
theorem dX5_scanNumber_122 : decode cX5_scanNumber 122 = .ok (.istore_n 1, 1) := by decide +kernel
theorem dX5_scanNumber_123 : decode cX5_scanNumber 123 = .ok (.aload_n 0, 1) := by decide +kernel
theorem dX5_scanNumber_124 : decode cX5_scanNumber 124 = .ok (.iload_n 1, 1) := by decide +kernel
theorem dX5_scanNumber_125 : decode cX5_scanNumber 125 = .ok (.ifCond .ne 12, 3) := by decide +kernel
theorem dX5_scanNumber_128 : decode cX5_scanNumber 128 = .ok (.aload_n 0, 1) := by decide +kernel
theorem dX5_scanNumber_129 : decode cX5_scanNumber 129 = .ok (.getfield 66, 3) := by decide +kernel
theorem dX5_scanNumber_132 : decode cX5_scanNumber 132 = .ok (.bipush 99, 2) := by decide +kernel
theorem dX5_scanNumber_134 : decode cX5_scanNumber 134 = .ok (.if_icmp .le 8, 3) := by decide +kernel
theorem dX5_scanNumber_137 : decode cX5_scanNumber 137 = .ok (.bipush (-3), 2) := by decide +kernel
theorem dX5_scanNumber_139 : decode cX5_scanNumber 139 = .ok (.goto 5, 3) := by decide +kernel
theorem dX5_scanNumber_142 : decode cX5_scanNumber 142 = .ok (.bipush (-2), 2) := by decide +kernel
theorem dX5_scanNumber_144 : decode cX5_scanNumber 144 = .ok (.putfield 30, 3) := by decide +kernel
theorem dX5_scanNumber_147 : decode cX5_scanNumber 147 = .ok (.return_, 1) := by decide +kernel
def bX5_scanNumber_77 (R_5 : St → Prop) (σ : St) (Q : St → Prop) : Prop :=
  (∀ σ1 : St, σ1 = up σ 2 2 ((σ.1 2 2) + 1) → R_5 σ1)
set_option maxHeartbeats 4000000 in
set_option maxRecDepth 100000 in
theorem tX5_scanNumber_77 {R_5 : St → Prop} {Q : St → Prop} (M : MC p s m args meth c cX5_scanNumber 2 none RX5 Y) (hN : yN Y = 108) (hR_5 : ∀ (σ : St) (H : Heap) (locs : List Loc) (ls : Array Slot), WS Y (AD Y) s.heap σ H locs → lv_has ls 2 [(0, .ref (yA Y 2))] → R_5 σ → W p l e { frames := 0, cells := 0, slots := 0, locals := 0 } s m args below meth c H locs 0 0 (MQ below (QV Y Q) args s 0 0 (AD Y)) (F0 m 5 ls []))  (σ : St) (H : Heap) (locs : List Loc) (ls : Array Slot) (hw : WS Y (AD Y) s.heap σ H locs) (hl : lv_has ls 2 [(0, .ref (yA Y 2))]) (h : bX5_scanNumber_77 R_5 σ Q) : W p l e { frames := 0, cells := 0, slots := 0, locals := 0 } s m args below meth c H locs 0 0 (MQ below (QV Y Q) args s 0 0 (AD Y)) (F0 m 77 ls []) := by
  obtain ⟨hx, hb, hr, hml, hown, hlk, hT, hK, hB⟩ := id M
  unfold bX5_scanNumber_77 at h
  refine lv_aload_n hx hb dX5_scanNumber_77 rfl (lv_at hl 0 rfl) ?_
  refine lv_dup hx hb dX5_scanNumber_78 rfl ?_
  refine q_get (v := .int (σ.1 2 2)) M hw (ob_2 hN) rfl inq_5 2 (by decide) tw_75 rfl dX5_scanNumber_79 ?_
  refine lv_iconst (v := 1) hx hb dX5_scanNumber_82 (by decide) ?_
  refine lv_iadd hx hb dX5_scanNumber_83 ?_
  refine q_put (v := ((σ.1 2 2) + 1)) M hw (ob_2 hN) rfl inq_5 tyX5 tyX5_ok nmX5 2 (by decide) tw_75 rfl rfl rfl (Nat.le_of_ble_eq_true rfl) (by simp [up, upd, f0]) dX5_scanNumber_84 (fun σ1 H locs es hw => ?_)
  have h := h σ1 es
  refine lv_goto (tgt := 5) hx hb dX5_scanNumber_87 (by decide) ?_
  exact hR_5 σ1 _ _ _ hw (lv_sub hl [0] rfl) h
def bX5_scanNumber_144 (z0 : Int32) (σ : St) (Q : St → Prop) : Prop :=
  (∀ σ1 : St, σ1 = up σ 2 3 z0 → Q σ1)
set_option maxHeartbeats 4000000 in
set_option maxRecDepth 100000 in
theorem tX5_scanNumber_144 {Q : St → Prop} (M : MC p s m args meth c cX5_scanNumber 2 none RX5 Y) (hN : yN Y = 108) (z0 : Int32) (σ : St) (H : Heap) (locs : List Loc) (ls : Array Slot) (hw : WS Y (AD Y) s.heap σ H locs) (hl : lv_has ls 2 []) (h : bX5_scanNumber_144 z0 σ Q) : W p l e { frames := 0, cells := 0, slots := 0, locals := 0 } s m args below meth c H locs 0 0 (MQ below (QV Y Q) args s 0 0 (AD Y)) (F0 m 144 ls [.int z0, .ref (yA Y 2)]) := by
  obtain ⟨hx, hb, hr, hml, hown, hlk, hT, hK, hB⟩ := id M
  unfold bX5_scanNumber_144 at h
  refine q_put (v := z0) M hw (ob_2 hN) rfl inq_5 tyX5 tyX5_ok nmX5 3 (by decide) tw_76 rfl rfl rfl (Nat.le_of_ble_eq_true rfl) (by simp [up, upd, f0]) dX5_scanNumber_144 (fun σ1 H locs es hw => ?_)
  have h := h σ1 es
  exact q_vret M hw h dX5_scanNumber_147
def bX5_scanNumber_137 (σ : St) (Q : St → Prop) : Prop :=
  bX5_scanNumber_144 (-3) σ Q
set_option maxHeartbeats 4000000 in
set_option maxRecDepth 100000 in
theorem tX5_scanNumber_137 {Q : St → Prop} (M : MC p s m args meth c cX5_scanNumber 2 none RX5 Y) (hN : yN Y = 108)  (σ : St) (H : Heap) (locs : List Loc) (ls : Array Slot) (hw : WS Y (AD Y) s.heap σ H locs) (hl : lv_has ls 2 []) (h : bX5_scanNumber_137 σ Q) : W p l e { frames := 0, cells := 0, slots := 0, locals := 0 } s m args below meth c H locs 0 0 (MQ below (QV Y Q) args s 0 0 (AD Y)) (F0 m 137 ls [.ref (yA Y 2)]) := by
  obtain ⟨hx, hb, hr, hml, hown, hlk, hT, hK, hB⟩ := id M
  unfold bX5_scanNumber_137 at h
  refine lv_bipush (v := (-3)) hx hb dX5_scanNumber_137 (by decide) ?_
  refine lv_goto (tgt := 144) hx hb dX5_scanNumber_139 (by decide) ?_
  exact tX5_scanNumber_144 M hN (-3) σ _ _ _ hw (lv_sub hl [] rfl) h
def bX5_scanNumber_122 (z0 : Int32) (σ : St) (Q : St → Prop) : Prop :=
  ((z0 = 0 → (((σ.1 2 5) ≤ 99 → bX5_scanNumber_144 (-2) σ Q) ∧ (¬ (σ.1 2 5) ≤ 99 → bX5_scanNumber_137 σ Q))) ∧ (¬ z0 = 0 → bX5_scanNumber_137 σ Q))
set_option maxHeartbeats 4000000 in
set_option maxRecDepth 100000 in
theorem tX5_scanNumber_122 {Q : St → Prop} (M : MC p s m args meth c cX5_scanNumber 2 none RX5 Y) (hN : yN Y = 108) (z0 : Int32) (σ : St) (H : Heap) (locs : List Loc) (ls : Array Slot) (hw : WS Y (AD Y) s.heap σ H locs) (hl : lv_has ls 2 [(0, .ref (yA Y 2))]) (h : bX5_scanNumber_122 z0 σ Q) : W p l e { frames := 0, cells := 0, slots := 0, locals := 0 } s m args below meth c H locs 0 0 (MQ below (QV Y Q) args s 0 0 (AD Y)) (F0 m 122 ls [.int z0]) := by
  obtain ⟨hx, hb, hr, hml, hown, hlk, hT, hK, hB⟩ := id M
  unfold bX5_scanNumber_122 at h
  refine lv_istore_n (lv' := [(1, .int z0), (0, .ref (yA Y 2))]) hx hb dX5_scanNumber_122 rfl hl (by decide) rfl (fun ls hl => ?_)
  refine lv_aload_n hx hb dX5_scanNumber_123 rfl (lv_at hl 1 rfl) ?_
  refine lv_iload_n hx hb dX5_scanNumber_124 rfl (lv_at hl 0 rfl) ?_
  refine lv_if_ne (tgt := 137) hx hb dX5_scanNumber_125 (by decide) (fun c1 => ?_) (fun c1 => ?_)
  · have h := h.2 c1
    exact tX5_scanNumber_137 M hN σ _ _ _ hw (lv_sub hl [] rfl) h
  · have h := h.1 c1
    refine lv_aload_n hx hb dX5_scanNumber_128 rfl (lv_at hl 1 rfl) ?_
    refine q_get (v := .int (σ.1 2 5)) M hw (ob_2 hN) rfl inq_5 5 (by decide) tw_78 rfl dX5_scanNumber_129 ?_
    refine lv_bipush (v := 99) hx hb dX5_scanNumber_132 (by decide) ?_
    refine lv_icmp_le (tgt := 142) hx hb dX5_scanNumber_134 (by decide) (fun c2 => ?_) (fun c2 => ?_)
    · have h := h.1 c2
      refine lv_bipush (v := (-2)) hx hb dX5_scanNumber_142 (by decide) ?_
      exact tX5_scanNumber_144 M hN (-2) σ _ _ _ hw (lv_sub hl [] rfl) h
    · have h := h.2 c2
      exact tX5_scanNumber_137 M hN σ _ _ _ hw (lv_sub hl [] rfl) h
def bX5_scanNumber_121 (σ : St) (Q : St → Prop) : Prop :=
  bX5_scanNumber_122 0 σ Q
set_option maxHeartbeats 4000000 in
set_option maxRecDepth 100000 in
theorem tX5_scanNumber_121 {Q : St → Prop} (M : MC p s m args meth c cX5_scanNumber 2 none RX5 Y) (hN : yN Y = 108)  (σ : St) (H : Heap) (locs : List Loc) (ls : Array Slot) (hw : WS Y (AD Y) s.heap σ H locs) (hl : lv_has ls 2 [(0, .ref (yA Y 2))]) (h : bX5_scanNumber_121 σ Q) : W p l e { frames := 0, cells := 0, slots := 0, locals := 0 } s m args below meth c H locs 0 0 (MQ below (QV Y Q) args s 0 0 (AD Y)) (F0 m 121 ls []) := by
  obtain ⟨hx, hb, hr, hml, hown, hlk, hT, hK, hB⟩ := id M
  unfold bX5_scanNumber_121 at h
  refine lv_iconst (v := 0) hx hb dX5_scanNumber_121 (by decide) ?_
  exact tX5_scanNumber_122 M hN 0 σ _ _ _ hw (lv_sub hl [0] rfl) h
def bX5_scanNumber_90 (σ : St) (Q : St → Prop) : Prop :=
  (vp_in (σ.1 2 4) 200 ∧ (((σ.1 1 (σ.1 2 4).toNatClampNeg) = 48 → ((((σ.1 2 2) - (σ.1 2 4)) ≤ 1 → bX5_scanNumber_121 σ Q) ∧ (¬ ((σ.1 2 2) - (σ.1 2 4)) ≤ 1 → bX5_scanNumber_122 1 σ Q))) ∧ (¬ (σ.1 1 (σ.1 2 4).toNatClampNeg) = 48 → bX5_scanNumber_121 σ Q)))
set_option maxHeartbeats 4000000 in
set_option maxRecDepth 100000 in
theorem tX5_scanNumber_90 {Q : St → Prop} (M : MC p s m args meth c cX5_scanNumber 2 none RX5 Y) (hN : yN Y = 108)  (σ : St) (H : Heap) (locs : List Loc) (ls : Array Slot) (hw : WS Y (AD Y) s.heap σ H locs) (hl : lv_has ls 2 [(0, .ref (yA Y 2))]) (h : bX5_scanNumber_90 σ Q) : W p l e { frames := 0, cells := 0, slots := 0, locals := 0 } s m args below meth c H locs 0 0 (MQ below (QV Y Q) args s 0 0 (AD Y)) (F0 m 90 ls []) := by
  obtain ⟨hx, hb, hr, hml, hown, hlk, hT, hK, hB⟩ := id M
  unfold bX5_scanNumber_90 at h
  refine lv_aload_n hx hb dX5_scanNumber_90 rfl (lv_at hl 0 rfl) ?_
  refine q_get (v := .ref (yA Y 1)) M hw (ob_2 hN) rfl inq_5 0 (by decide) tw_72 rfl dX5_scanNumber_91 ?_
  refine lv_aload_n hx hb dX5_scanNumber_94 rfl (lv_at hl 0 rfl) ?_
  refine q_get (v := .int (σ.1 2 4)) M hw (ob_2 hN) rfl inq_5 4 (by decide) tw_77 rfl dX5_scanNumber_95 ?_
  have c1 := h.1
  have h := h.2
  refine q_cld M hw (ar_1 hN) c1 dX5_scanNumber_98 ?_
  refine lv_bipush (v := 48) hx hb dX5_scanNumber_99 (by decide) ?_
  refine lv_icmp_ne (tgt := 121) hx hb dX5_scanNumber_101 (by decide) (fun c2 => ?_) (fun c2 => ?_)
  · have h := h.2 c2
    exact tX5_scanNumber_121 M hN σ _ _ _ hw (lv_sub hl [0] rfl) h
  · have h := h.1 c2
    refine lv_aload_n hx hb dX5_scanNumber_104 rfl (lv_at hl 0 rfl) ?_
    refine q_get (v := .int (σ.1 2 2)) M hw (ob_2 hN) rfl inq_5 2 (by decide) tw_75 rfl dX5_scanNumber_105 ?_
    refine lv_aload_n hx hb dX5_scanNumber_108 rfl (lv_at hl 0 rfl) ?_
    refine q_get (v := .int (σ.1 2 4)) M hw (ob_2 hN) rfl inq_5 4 (by decide) tw_77 rfl dX5_scanNumber_109 ?_
    refine lv_isub hx hb dX5_scanNumber_112 ?_
    refine lv_iconst (v := 1) hx hb dX5_scanNumber_113 (by decide) ?_
    refine lv_icmp_le (tgt := 121) hx hb dX5_scanNumber_114 (by decide) (fun c3 => ?_) (fun c3 => ?_)
    · have h := h.1 c3
      exact tX5_scanNumber_121 M hN σ _ _ _ hw (lv_sub hl [0] rfl) h
    · have h := h.2 c3
      refine lv_iconst (v := 1) hx hb dX5_scanNumber_117 (by decide) ?_
      refine lv_goto (tgt := 122) hx hb dX5_scanNumber_118 (by decide) ?_
      exact tX5_scanNumber_122 M hN 1 σ _ _ _ hw (lv_sub hl [0] rfl) h
def bX5_scanNumber_5 (R_5 : St → Prop) (σ : St) (Q : St → Prop) : Prop :=
  (((σ.1 2 1) ≤ (σ.1 2 2) → bX5_scanNumber_90 σ Q) ∧ (¬ (σ.1 2 1) ≤ (σ.1 2 2) → (vp_in (σ.1 2 2) 200 ∧ (((σ.1 1 (σ.1 2 2).toNatClampNeg) < 48 → bX5_scanNumber_90 σ Q) ∧ (¬ (σ.1 1 (σ.1 2 2).toNatClampNeg) < 48 → (vp_in (σ.1 2 2) 200 ∧ ((57 < (σ.1 1 (σ.1 2 2).toNatClampNeg) → bX5_scanNumber_90 σ Q) ∧ (¬ 57 < (σ.1 1 (σ.1 2 2).toNatClampNeg) → ((99 < (σ.1 2 5) → bX5_scanNumber_77 R_5 σ Q) ∧ (¬ 99 < (σ.1 2 5) → (vp_in (σ.1 2 2) 200 ∧ (∀ σ8 : St, σ8 = up σ 2 5 ((((σ.1 2 5) * 10) + (σ.1 1 (σ.1 2 2).toNatClampNeg)) - 48) → bX5_scanNumber_77 R_5 σ8 Q))))))))))))
set_option maxHeartbeats 4000000 in
set_option maxRecDepth 100000 in
theorem tX5_scanNumber_5 {R_5 : St → Prop} {Q : St → Prop} (M : MC p s m args meth c cX5_scanNumber 2 none RX5 Y) (hN : yN Y = 108) (hR_5 : ∀ (σ : St) (H : Heap) (locs : List Loc) (ls : Array Slot), WS Y (AD Y) s.heap σ H locs → lv_has ls 2 [(0, .ref (yA Y 2))] → R_5 σ → W p l e { frames := 0, cells := 0, slots := 0, locals := 0 } s m args below meth c H locs 0 0 (MQ below (QV Y Q) args s 0 0 (AD Y)) (F0 m 5 ls []))  (σ : St) (H : Heap) (locs : List Loc) (ls : Array Slot) (hw : WS Y (AD Y) s.heap σ H locs) (hl : lv_has ls 2 [(0, .ref (yA Y 2))]) (h : bX5_scanNumber_5 R_5 σ Q) : W p l e { frames := 0, cells := 0, slots := 0, locals := 0 } s m args below meth c H locs 0 0 (MQ below (QV Y Q) args s 0 0 (AD Y)) (F0 m 5 ls []) := by
  obtain ⟨hx, hb, hr, hml, hown, hlk, hT, hK, hB⟩ := id M
  unfold bX5_scanNumber_5 at h
  refine lv_aload_n hx hb dX5_scanNumber_5 rfl (lv_at hl 0 rfl) ?_
  refine q_get (v := .int (σ.1 2 2)) M hw (ob_2 hN) rfl inq_5 2 (by decide) tw_75 rfl dX5_scanNumber_6 ?_
  refine lv_aload_n hx hb dX5_scanNumber_9 rfl (lv_at hl 0 rfl) ?_
  refine q_get (v := .int (σ.1 2 1)) M hw (ob_2 hN) rfl inq_5 1 (by decide) tw_73 rfl dX5_scanNumber_10 ?_
  refine lv_icmp_ge (tgt := 90) hx hb dX5_scanNumber_13 (by decide) (fun c1 => ?_) (fun c1 => ?_)
  · have h := h.1 c1
    exact tX5_scanNumber_90 M hN σ _ _ _ hw (lv_sub hl [0] rfl) h
  · have h := h.2 c1
    refine lv_aload_n hx hb dX5_scanNumber_16 rfl (lv_at hl 0 rfl) ?_
    refine q_get (v := .ref (yA Y 1)) M hw (ob_2 hN) rfl inq_5 0 (by decide) tw_72 rfl dX5_scanNumber_17 ?_
    refine lv_aload_n hx hb dX5_scanNumber_20 rfl (lv_at hl 0 rfl) ?_
    refine q_get (v := .int (σ.1 2 2)) M hw (ob_2 hN) rfl inq_5 2 (by decide) tw_75 rfl dX5_scanNumber_21 ?_
    have c2 := h.1
    have h := h.2
    refine q_cld M hw (ar_1 hN) c2 dX5_scanNumber_24 ?_
    refine lv_bipush (v := 48) hx hb dX5_scanNumber_25 (by decide) ?_
    refine lv_icmp_lt (tgt := 90) hx hb dX5_scanNumber_27 (by decide) (fun c3 => ?_) (fun c3 => ?_)
    · have h := h.1 c3
      exact tX5_scanNumber_90 M hN σ _ _ _ hw (lv_sub hl [0] rfl) h
    · have h := h.2 c3
      refine lv_aload_n hx hb dX5_scanNumber_30 rfl (lv_at hl 0 rfl) ?_
      refine q_get (v := .ref (yA Y 1)) M hw (ob_2 hN) rfl inq_5 0 (by decide) tw_72 rfl dX5_scanNumber_31 ?_
      refine lv_aload_n hx hb dX5_scanNumber_34 rfl (lv_at hl 0 rfl) ?_
      refine q_get (v := .int (σ.1 2 2)) M hw (ob_2 hN) rfl inq_5 2 (by decide) tw_75 rfl dX5_scanNumber_35 ?_
      have c4 := h.1
      have h := h.2
      refine q_cld M hw (ar_1 hN) c4 dX5_scanNumber_38 ?_
      refine lv_bipush (v := 57) hx hb dX5_scanNumber_39 (by decide) ?_
      refine lv_icmp_gt (tgt := 90) hx hb dX5_scanNumber_41 (by decide) (fun c5 => ?_) (fun c5 => ?_)
      · have h := h.1 c5
        exact tX5_scanNumber_90 M hN σ _ _ _ hw (lv_sub hl [0] rfl) h
      · have h := h.2 c5
        refine lv_aload_n hx hb dX5_scanNumber_44 rfl (lv_at hl 0 rfl) ?_
        refine q_get (v := .int (σ.1 2 5)) M hw (ob_2 hN) rfl inq_5 5 (by decide) tw_78 rfl dX5_scanNumber_45 ?_
        refine lv_bipush (v := 99) hx hb dX5_scanNumber_48 (by decide) ?_
        refine lv_icmp_gt (tgt := 77) hx hb dX5_scanNumber_50 (by decide) (fun c6 => ?_) (fun c6 => ?_)
        · have h := h.1 c6
          exact tX5_scanNumber_77 M hN hR_5 σ _ _ _ hw (lv_sub hl [0] rfl) h
        · have h := h.2 c6
          refine lv_aload_n hx hb dX5_scanNumber_53 rfl (lv_at hl 0 rfl) ?_
          refine lv_aload_n hx hb dX5_scanNumber_54 rfl (lv_at hl 0 rfl) ?_
          refine q_get (v := .int (σ.1 2 5)) M hw (ob_2 hN) rfl inq_5 5 (by decide) tw_78 rfl dX5_scanNumber_55 ?_
          refine lv_bipush (v := 10) hx hb dX5_scanNumber_58 (by decide) ?_
          refine lv_imul hx hb dX5_scanNumber_60 ?_
          refine lv_aload_n hx hb dX5_scanNumber_61 rfl (lv_at hl 0 rfl) ?_
          refine q_get (v := .ref (yA Y 1)) M hw (ob_2 hN) rfl inq_5 0 (by decide) tw_72 rfl dX5_scanNumber_62 ?_
          refine lv_aload_n hx hb dX5_scanNumber_65 rfl (lv_at hl 0 rfl) ?_
          refine q_get (v := .int (σ.1 2 2)) M hw (ob_2 hN) rfl inq_5 2 (by decide) tw_75 rfl dX5_scanNumber_66 ?_
          have c7 := h.1
          have h := h.2
          refine q_cld M hw (ar_1 hN) c7 dX5_scanNumber_69 ?_
          refine lv_iadd hx hb dX5_scanNumber_70 ?_
          refine lv_bipush (v := 48) hx hb dX5_scanNumber_71 (by decide) ?_
          refine lv_isub hx hb dX5_scanNumber_73 ?_
          refine q_put (v := ((((σ.1 2 5) * 10) + (σ.1 1 (σ.1 2 2).toNatClampNeg)) - 48)) M hw (ob_2 hN) rfl inq_5 tyX5 tyX5_ok nmX5 5 (by decide) tw_78 rfl rfl rfl (Nat.le_of_ble_eq_true rfl) (by simp [up, upd, f0]) dX5_scanNumber_74 (fun σ8 H locs es hw => ?_)
          have h := h σ8 es
          exact tX5_scanNumber_77 M hN hR_5 σ8 _ _ _ hw (lv_sub hl [0] rfl) h
def lX5_scanNumber_5 (Q : St → Prop) : (St → Prop) → St → Prop := fun R a => bX5_scanNumber_5 R a Q
theorem tlX5_scanNumber_5 {Q : St → Prop} (M : MC p s m args meth c cX5_scanNumber 2 none RX5 Y) (hN : yN Y = 108) (n : Nat) : ∀  (σ : St) (H : Heap) (locs : List Loc) (ls : Array Slot) (hw : WS Y (AD Y) s.heap σ H locs) (hl : lv_has ls 2 [(0, .ref (yA Y 2))]) (h : Lp (lX5_scanNumber_5 Q) n σ), W p l e { frames := 0, cells := 0, slots := 0, locals := 0 } s m args below meth c H locs 0 0 (MQ below (QV Y Q) args s 0 0 (AD Y)) (F0 m 5 ls []) := by
  induction n with
  | zero => intro  σ H locs ls hw hl h; exact h.elim
  | succ n ih =>
    intro  σ H locs ls hw hl h
    exact tX5_scanNumber_5 M hN ih  σ H locs ls hw hl h
def wX5_scanNumber (σ : St) (Q : St → Prop) : Prop :=
  (∀ σ1 : St, σ1 = up σ 2 5 0 → ∃ n : Nat, Lp (lX5_scanNumber_5 Q) n σ1)
set_option maxHeartbeats 4000000 in
set_option maxRecDepth 100000 in
theorem tX5_scanNumber_E {Q : St → Prop} (M : MC p s m args meth c cX5_scanNumber 2 none RX5 Y) (hN : yN Y = 108)  (σ : St) (H : Heap) (locs : List Loc) (ls : Array Slot) (hw : WS Y (AD Y) s.heap σ H locs) (hl : lv_has ls 2 [(0, .ref (yA Y 2))]) (h : wX5_scanNumber σ Q) : W p l e { frames := 0, cells := 0, slots := 0, locals := 0 } s m args below meth c H locs 0 0 (MQ below (QV Y Q) args s 0 0 (AD Y)) (F0 m 0 ls []) := by
  obtain ⟨hx, hb, hr, hml, hown, hlk, hT, hK, hB⟩ := id M
  unfold wX5_scanNumber at h
  refine lv_aload_n hx hb dX5_scanNumber_0 rfl (lv_at hl 0 rfl) ?_
  refine lv_iconst (v := 0) hx hb dX5_scanNumber_1 (by decide) ?_
  refine q_put (v := 0) M hw (ob_2 hN) rfl inq_5 tyX5 tyX5_ok nmX5 5 (by decide) tw_78 rfl rfl rfl (Nat.le_of_ble_eq_true rfl) (by simp [up, upd, f0]) dX5_scanNumber_2 (fun σ1 H locs es hw => ?_)
  have h := h σ1 es
  obtain ⟨n, h⟩ := h
  exact tlX5_scanNumber_5 M hN n σ1 _ _ _ hw (lv_sub hl [0] rfl) h
set_option maxRecDepth 100000 in
theorem ctX5_scanNumber (l : Launch) {Y : LY} (hB : YB Y) (hN : yN Y = 108) (σ : St) (Q : St → Prop) (h : wX5_scanNumber σ Q) : CT l yX5_scanNumber (Cond.code yX5_scanNumber cX5_scanNumber 2 none) { frames := 0, cells := 0, slots := 0, locals := 0 } Y [.ref (yA Y 2)] σ (QV Y Q) :=
  q_ent hB (by decide +kernel) (Nat.le_of_ble_eq_true rfl) (fun p e s m below meth c ls M hw hl => tX5_scanNumber_E M hN σ _ _ ls hw hl h)
theorem mbX5_scanNumber : MB RX5 yX5_scanNumber cX5_scanNumber 0 2 none := ⟨tw_321, tw_1, tw_50, tw_322, by decide +kernel⟩
end
section
variable {p : Program} {l : Launch} {e : Env} {s : State} {m : MethodId} {args : Array Value} {below : List Frame} {meth : Method} {c : Code} {Y : LY}
theorem dX5_advance_0 : decode cX5_advance 0 = .ok (.aload_n 0, 1) := by decide +kernel
theorem dX5_advance_1 : decode cX5_advance 1 = .ok (.getfield 19, 3) := by decide +kernel
theorem dX5_advance_4 : decode cX5_advance 4 = .ok (.aload_n 0, 1) := by decide +kernel
theorem dX5_advance_5 : decode cX5_advance 5 = .ok (.getfield 15, 3) := by decide +kernel
theorem dX5_advance_8 : decode cX5_advance 8 = .ok (.if_icmp .ge 30, 3) := by decide +kernel
theorem dX5_advance_11 : decode cX5_advance 11 = .ok (.aload_n 0, 1) := by decide +kernel
theorem dX5_advance_12 : decode cX5_advance 12 = .ok (.getfield 9, 3) := by decide +kernel
theorem dX5_advance_15 : decode cX5_advance 15 = .ok (.aload_n 0, 1) := by decide +kernel
theorem dX5_advance_16 : decode cX5_advance 16 = .ok (.getfield 19, 3) := by decide +kernel
theorem dX5_advance_19 : decode cX5_advance 19 = .ok (.caload, 1) := by decide +kernel
theorem dX5_advance_20 : decode cX5_advance 20 = .ok (.bipush 32, 2) := by decide +kernel
theorem dX5_advance_22 : decode cX5_advance 22 = .ok (.if_icmp .ne 16, 3) := by decide +kernel
theorem dX5_advance_25 : decode cX5_advance 25 = .ok (.aload_n 0, 1) := by decide +kernel
theorem dX5_advance_26 : decode cX5_advance 26 = .ok (.dup, 1) := by decide +kernel
theorem dX5_advance_27 : decode cX5_advance 27 = .ok (.getfield 19, 3) := by decide +kernel
theorem dX5_advance_30 : decode cX5_advance 30 = .ok (.iconst 1, 1) := by decide +kernel
theorem dX5_advance_31 : decode cX5_advance 31 = .ok (.iadd, 1) := by decide +kernel
theorem dX5_advance_32 : decode cX5_advance 32 = .ok (.putfield 19, 3) := by decide +kernel
theorem dX5_advance_35 : decode cX5_advance 35 = .ok (.goto (-35), 3) := by decide +kernel
theorem dX5_advance_38 : decode cX5_advance 38 = .ok (.aload_n 0, 1) := by decide +kernel
theorem dX5_advance_39 : decode cX5_advance 39 = .ok (.aload_n 0, 1) := by decide +kernel
theorem dX5_advance_40 : decode cX5_advance 40 = .ok (.getfield 19, 3) := by decide +kernel
theorem dX5_advance_43 : decode cX5_advance 43 = .ok (.putfield 37, 3) := by decide +kernel
theorem dX5_advance_46 : decode cX5_advance 46 = .ok (.aload_n 0, 1) := by decide +kernel
theorem dX5_advance_47 : decode cX5_advance 47 = .ok (.getfield 19, 3) := by decide +kernel
theorem dX5_advance_50 : decode cX5_advance 50 = .ok (.aload_n 0, 1) := by decide +kernel
theorem dX5_advance_51 : decode cX5_advance 51 = .ok (.getfield 15, 3) := by decide +kernel
theorem dX5_advance_54 : decode cX5_advance 54 = .ok (.if_icmp .lt 11, 3) := by decide +kernel
theorem dX5_advance_57 : decode cX5_advance 57 = .ok (.aload_n 0, 1) := by decide +kernel
theorem dX5_advance_58 : decode cX5_advance 58 = .ok (.iconst (-1), 1) := by decide +kernel
theorem dX5_advance_59 : decode cX5_advance 59 = .ok (.putfield 30, 3) := by decide +kernel
theorem dX5_advance_62 : decode cX5_advance 62 = .ok (.goto 61, 3) := by decide +kernel
theorem dX5_advance_65 : decode cX5_advance 65 = .ok (.aload_n 0, 1) := by decide +kernel
theorem dX5_advance_66 : decode cX5_advance 66 = .ok (.getfield 9, 3) := by decide +kernel
theorem dX5_advance_69 : decode cX5_advance 69 = .ok (.aload_n 0, 1) := by decide +kernel
theorem dX5_advance_70 : decode cX5_advance 70 = .ok (.getfield 19, 3) := by decide +kernel
theorem dX5_advance_73 : decode cX5_advance 73 = .ok (.caload, 1) := by decide +kernel
theorem dX5_advance_74 : decode cX5_advance 74 = .ok (.bipush 48, 2) := by decide +kernel
theorem dX5_advance_76 : decode cX5_advance 76 = .ok (.if_icmp .lt 24, 3) := by decide +kernel
theorem dX5_advance_79 : decode cX5_advance 79 = .ok (.aload_n 0, 1) := by decide +kernel
theorem dX5_advance_80 : decode cX5_advance 80 = .ok (.getfield 9, 3) := by decide +kernel
theorem dX5_advance_83 : decode cX5_advance 83 = .ok (.aload_n 0, 1) := by decide +kernel
theorem dX5_advance_84 : decode cX5_advance 84 = .ok (.getfield 19, 3) := by decide +kernel
theorem dX5_advance_87 : decode cX5_advance 87 = .ok (.caload, 1) := by decide +kernel
theorem dX5_advance_88 : decode cX5_advance 88 = .ok (.bipush 57, 2) := by decide +kernel
theorem dX5_advance_90 : decode cX5_advance 90 = .ok (.if_icmp .gt 10, 3) := by decide +kernel
theorem dX5_advance_93 : decode cX5_advance 93 = .ok (.aload_n 0, 1) := by decide +kernel
theorem dX5_advance_94 : decode cX5_advance 94 = .ok (.invokevirtual 102, 3) := by decide +kernel
theorem dX5_advance_97 : decode cX5_advance 97 = .ok (.goto 26, 3) := by decide +kernel
theorem dX5_advance_100 : decode cX5_advance 100 = .ok (.aload_n 0, 1) := by decide +kernel
theorem dX5_advance_101 : decode cX5_advance 101 = .ok (.aload_n 0, 1) := by decide +kernel
theorem dX5_advance_102 : decode cX5_advance 102 = .ok (.getfield 9, 3) := by decide +kernel
theorem dX5_advance_105 : decode cX5_advance 105 = .ok (.aload_n 0, 1) := by decide +kernel
theorem dX5_advance_106 : decode cX5_advance 106 = .ok (.getfield 19, 3) := by decide +kernel
theorem dX5_advance_109 : decode cX5_advance 109 = .ok (.caload, 1) := by decide +kernel
theorem dX5_advance_110 : decode cX5_advance 110 = .ok (.putfield 30, 3) := by decide +kernel
theorem dX5_advance_113 : decode cX5_advance 113 = .ok (.aload_n 0, 1) := by decide +kernel
theorem dX5_advance_114 : decode cX5_advance 114 = .ok (.dup, 1) := by decide +kernel
theorem dX5_advance_115 : decode cX5_advance 115 = .ok (.getfield 19, 3) := by decide +kernel
theorem dX5_advance_118 : decode cX5_advance 118 = .ok (.iconst 1, 1) := by decide +kernel
theorem dX5_advance_119 : decode cX5_advance 119 = .ok (.iadd, 1) := by decide +kernel
theorem dX5_advance_120 : decode cX5_advance 120 = .ok (.putfield 19, 3) := by decide +kernel
theorem dX5_advance_123 : decode cX5_advance 123 = .ok (.return_, 1) := by decide +kernel
def bX5_advance_100 (σ : St) (Q : St → Prop) : Prop :=
  (vp_in (σ.1 2 2) 200 ∧ (∀ σ2 : St, σ2 = up σ 2 3 (σ.1 1 (σ.1 2 2).toNatClampNeg) → (∀ σ3 : St, σ3 = up σ2 2 2 ((σ2.1 2 2) + 1) → Q σ3)))
set_option maxHeartbeats 4000000 in
set_option maxRecDepth 100000 in
theorem tX5_advance_100 {Q : St → Prop} (M : MC p s m args meth c cX5_advance 1 none RX5 Y) (hN : yN Y = 108)  (σ : St) (H : Heap) (locs : List Loc) (ls : Array Slot) (hw : WS Y (AD Y) s.heap σ H locs) (hl : lv_has ls 1 [(0, .ref (yA Y 2))]) (h : bX5_advance_100 σ Q) : W p l e { frames := 1, cells := 0, slots := 0, locals := 21 } s m args below meth c H locs 0 0 (MQ below (QV Y Q) args s 0 0 (AD Y)) (F0 m 100 ls []) := by
  obtain ⟨hx, hb, hr, hml, hown, hlk, hT, hK, hB⟩ := id M
  unfold bX5_advance_100 at h
  refine lv_aload_n hx hb dX5_advance_100 rfl (lv_at hl 0 rfl) ?_
  refine lv_aload_n hx hb dX5_advance_101 rfl (lv_at hl 0 rfl) ?_
  refine q_get (v := .ref (yA Y 1)) M hw (ob_2 hN) rfl inq_5 0 (by decide) tw_72 rfl dX5_advance_102 ?_
  refine lv_aload_n hx hb dX5_advance_105 rfl (lv_at hl 0 rfl) ?_
  refine q_get (v := .int (σ.1 2 2)) M hw (ob_2 hN) rfl inq_5 2 (by decide) tw_75 rfl dX5_advance_106 ?_
  have c1 := h.1
  have h := h.2
  refine q_cld M hw (ar_1 hN) c1 dX5_advance_109 ?_
  refine q_put (v := (σ.1 1 (σ.1 2 2).toNatClampNeg)) M hw (ob_2 hN) rfl inq_5 tyX5 tyX5_ok nmX5 3 (by decide) tw_76 rfl rfl rfl (Nat.le_of_ble_eq_true rfl) (by simp [up, upd, f0]) dX5_advance_110 (fun σ2 H locs es hw => ?_)
  have h := h σ2 es
  refine lv_aload_n hx hb dX5_advance_113 rfl (lv_at hl 0 rfl) ?_
  refine lv_dup hx hb dX5_advance_114 rfl ?_
  refine q_get (v := .int (σ2.1 2 2)) M hw (ob_2 hN) rfl inq_5 2 (by decide) tw_75 rfl dX5_advance_115 ?_
  refine lv_iconst (v := 1) hx hb dX5_advance_118 (by decide) ?_
  refine lv_iadd hx hb dX5_advance_119 ?_
  refine q_put (v := ((σ2.1 2 2) + 1)) M hw (ob_2 hN) rfl inq_5 tyX5 tyX5_ok nmX5 2 (by decide) tw_75 rfl rfl rfl (Nat.le_of_ble_eq_true rfl) (by simp [up, upd, f0]) dX5_advance_120 (fun σ3 H locs es hw => ?_)
  have h := h σ3 es
  exact q_vret M hw h dX5_advance_123
def bX5_advance_38 (σ : St) (Q : St → Prop) : Prop :=
  (∀ σ1 : St, σ1 = up σ 2 4 (σ.1 2 2) → (((σ1.1 2 2) < (σ1.1 2 1) → (vp_in (σ1.1 2 2) 200 ∧ (((σ1.1 1 (σ1.1 2 2).toNatClampNeg) < 48 → bX5_advance_100 σ1 Q) ∧ (¬ (σ1.1 1 (σ1.1 2 2).toNatClampNeg) < 48 → (vp_in (σ1.1 2 2) 200 ∧ ((57 < (σ1.1 1 (σ1.1 2 2).toNatClampNeg) → bX5_advance_100 σ1 Q) ∧ (¬ 57 < (σ1.1 1 (σ1.1 2 2).toNatClampNeg) → wX5_scanNumber σ1 (fun σ7 => Q σ7)))))))) ∧ (¬ (σ1.1 2 2) < (σ1.1 2 1) → (∀ σ8 : St, σ8 = up σ1 2 3 (-1) → Q σ8))))
set_option maxHeartbeats 4000000 in
set_option maxRecDepth 100000 in
theorem tX5_advance_38 {Q : St → Prop} (M : MC p s m args meth c cX5_advance 1 none RX5 Y) (hN : yN Y = 108)  (σ : St) (H : Heap) (locs : List Loc) (ls : Array Slot) (hw : WS Y (AD Y) s.heap σ H locs) (hl : lv_has ls 1 [(0, .ref (yA Y 2))]) (h : bX5_advance_38 σ Q) : W p l e { frames := 1, cells := 0, slots := 0, locals := 21 } s m args below meth c H locs 0 0 (MQ below (QV Y Q) args s 0 0 (AD Y)) (F0 m 38 ls []) := by
  obtain ⟨hx, hb, hr, hml, hown, hlk, hT, hK, hB⟩ := id M
  unfold bX5_advance_38 at h
  refine lv_aload_n hx hb dX5_advance_38 rfl (lv_at hl 0 rfl) ?_
  refine lv_aload_n hx hb dX5_advance_39 rfl (lv_at hl 0 rfl) ?_
  refine q_get (v := .int (σ.1 2 2)) M hw (ob_2 hN) rfl inq_5 2 (by decide) tw_75 rfl dX5_advance_40 ?_
  refine q_put (v := (σ.1 2 2)) M hw (ob_2 hN) rfl inq_5 tyX5 tyX5_ok nmX5 4 (by decide) tw_77 rfl rfl rfl (Nat.le_of_ble_eq_true rfl) (by simp [up, upd, f0]) dX5_advance_43 (fun σ1 H locs es hw => ?_)
  have h := h σ1 es
  refine lv_aload_n hx hb dX5_advance_46 rfl (lv_at hl 0 rfl) ?_
  refine q_get (v := .int (σ1.1 2 2)) M hw (ob_2 hN) rfl inq_5 2 (by decide) tw_75 rfl dX5_advance_47 ?_
  refine lv_aload_n hx hb dX5_advance_50 rfl (lv_at hl 0 rfl) ?_
  refine q_get (v := .int (σ1.1 2 1)) M hw (ob_2 hN) rfl inq_5 1 (by decide) tw_73 rfl dX5_advance_51 ?_
  refine lv_icmp_lt (tgt := 65) hx hb dX5_advance_54 (by decide) (fun c2 => ?_) (fun c2 => ?_)
  · have h := h.1 c2
    refine lv_aload_n hx hb dX5_advance_65 rfl (lv_at hl 0 rfl) ?_
    refine q_get (v := .ref (yA Y 1)) M hw (ob_2 hN) rfl inq_5 0 (by decide) tw_72 rfl dX5_advance_66 ?_
    refine lv_aload_n hx hb dX5_advance_69 rfl (lv_at hl 0 rfl) ?_
    refine q_get (v := .int (σ1.1 2 2)) M hw (ob_2 hN) rfl inq_5 2 (by decide) tw_75 rfl dX5_advance_70 ?_
    have c3 := h.1
    have h := h.2
    refine q_cld M hw (ar_1 hN) c3 dX5_advance_73 ?_
    refine lv_bipush (v := 48) hx hb dX5_advance_74 (by decide) ?_
    refine lv_icmp_lt (tgt := 100) hx hb dX5_advance_76 (by decide) (fun c4 => ?_) (fun c4 => ?_)
    · have h := h.1 c4
      exact tX5_advance_100 M hN σ1 _ _ _ hw (lv_sub hl [0] rfl) h
    · have h := h.2 c4
      refine lv_aload_n hx hb dX5_advance_79 rfl (lv_at hl 0 rfl) ?_
      refine q_get (v := .ref (yA Y 1)) M hw (ob_2 hN) rfl inq_5 0 (by decide) tw_72 rfl dX5_advance_80 ?_
      refine lv_aload_n hx hb dX5_advance_83 rfl (lv_at hl 0 rfl) ?_
      refine q_get (v := .int (σ1.1 2 2)) M hw (ob_2 hN) rfl inq_5 2 (by decide) tw_75 rfl dX5_advance_84 ?_
      have c5 := h.1
      have h := h.2
      refine q_cld M hw (ar_1 hN) c5 dX5_advance_87 ?_
      refine lv_bipush (v := 57) hx hb dX5_advance_88 (by decide) ?_
      refine lv_icmp_gt (tgt := 100) hx hb dX5_advance_90 (by decide) (fun c6 => ?_) (fun c6 => ?_)
      · have h := h.1 c6
        exact tX5_advance_100 M hN σ1 _ _ _ hw (lv_sub hl [0] rfl) h
      · have h := h.2 c6
        refine lv_aload_n hx hb dX5_advance_93 rfl (lv_at hl 0 rfl) ?_
        refine q_goV hw (q_runV (rest := []) M hw (ctX5_scanNumber l hB hN σ1 _ h) mbX5_scanNumber (ob_2 hN) rfl tw_319 rfl hl.1 rfl (Nat.le_of_ble_eq_true rfl) ⟨Nat.le_of_ble_eq_true rfl, Nat.le_of_ble_eq_true rfl⟩ ⟨Nat.le_refl _, Nat.le_refl _⟩ dX5_advance_94) (fun σ7 H locs h hw => ?_)
        refine lv_goto (tgt := 123) hx hb dX5_advance_97 (by decide) ?_
        exact q_vret M hw h dX5_advance_123
  · have h := h.2 c2
    refine lv_aload_n hx hb dX5_advance_57 rfl (lv_at hl 0 rfl) ?_
    refine lv_iconst (v := (-1)) hx hb dX5_advance_58 (by decide) ?_
    refine q_put (v := (-1)) M hw (ob_2 hN) rfl inq_5 tyX5 tyX5_ok nmX5 3 (by decide) tw_76 rfl rfl rfl (Nat.le_of_ble_eq_true rfl) (by simp [up, upd, f0]) dX5_advance_59 (fun σ8 H locs es hw => ?_)
    have h := h σ8 es
    refine lv_goto (tgt := 123) hx hb dX5_advance_62 (by decide) ?_
    exact q_vret M hw h dX5_advance_123
def bX5_advance_0 (R_0 : St → Prop) (σ : St) (Q : St → Prop) : Prop :=
  (((σ.1 2 1) ≤ (σ.1 2 2) → bX5_advance_38 σ Q) ∧ (¬ (σ.1 2 1) ≤ (σ.1 2 2) → (vp_in (σ.1 2 2) 200 ∧ (((σ.1 1 (σ.1 2 2).toNatClampNeg) = 32 → (∀ σ4 : St, σ4 = up σ 2 2 ((σ.1 2 2) + 1) → R_0 σ4)) ∧ (¬ (σ.1 1 (σ.1 2 2).toNatClampNeg) = 32 → bX5_advance_38 σ Q)))))
set_option maxHeartbeats 4000000 in
set_option maxRecDepth 100000 in
theorem tX5_advance_0 {R_0 : St → Prop} {Q : St → Prop} (M : MC p s m args meth c cX5_advance 1 none RX5 Y) (hN : yN Y = 108) (hR_0 : ∀ (σ : St) (H : Heap) (locs : List Loc) (ls : Array Slot), WS Y (AD Y) s.heap σ H locs → lv_has ls 1 [(0, .ref (yA Y 2))] → R_0 σ → W p l e { frames := 1, cells := 0, slots := 0, locals := 21 } s m args below meth c H locs 0 0 (MQ below (QV Y Q) args s 0 0 (AD Y)) (F0 m 0 ls []))  (σ : St) (H : Heap) (locs : List Loc) (ls : Array Slot) (hw : WS Y (AD Y) s.heap σ H locs) (hl : lv_has ls 1 [(0, .ref (yA Y 2))]) (h : bX5_advance_0 R_0 σ Q) : W p l e { frames := 1, cells := 0, slots := 0, locals := 21 } s m args below meth c H locs 0 0 (MQ below (QV Y Q) args s 0 0 (AD Y)) (F0 m 0 ls []) := by
  obtain ⟨hx, hb, hr, hml, hown, hlk, hT, hK, hB⟩ := id M
  unfold bX5_advance_0 at h
  refine lv_aload_n hx hb dX5_advance_0 rfl (lv_at hl 0 rfl) ?_
  refine q_get (v := .int (σ.1 2 2)) M hw (ob_2 hN) rfl inq_5 2 (by decide) tw_75 rfl dX5_advance_1 ?_
  refine lv_aload_n hx hb dX5_advance_4 rfl (lv_at hl 0 rfl) ?_
  refine q_get (v := .int (σ.1 2 1)) M hw (ob_2 hN) rfl inq_5 1 (by decide) tw_73 rfl dX5_advance_5 ?_
  refine lv_icmp_ge (tgt := 38) hx hb dX5_advance_8 (by decide) (fun c1 => ?_) (fun c1 => ?_)
  · have h := h.1 c1
    exact tX5_advance_38 M hN σ _ _ _ hw (lv_sub hl [0] rfl) h
  · have h := h.2 c1
    refine lv_aload_n hx hb dX5_advance_11 rfl (lv_at hl 0 rfl) ?_
    refine q_get (v := .ref (yA Y 1)) M hw (ob_2 hN) rfl inq_5 0 (by decide) tw_72 rfl dX5_advance_12 ?_
    refine lv_aload_n hx hb dX5_advance_15 rfl (lv_at hl 0 rfl) ?_
    refine q_get (v := .int (σ.1 2 2)) M hw (ob_2 hN) rfl inq_5 2 (by decide) tw_75 rfl dX5_advance_16 ?_
    have c2 := h.1
    have h := h.2
    refine q_cld M hw (ar_1 hN) c2 dX5_advance_19 ?_
    refine lv_bipush (v := 32) hx hb dX5_advance_20 (by decide) ?_
    refine lv_icmp_ne (tgt := 38) hx hb dX5_advance_22 (by decide) (fun c3 => ?_) (fun c3 => ?_)
    · have h := h.2 c3
      exact tX5_advance_38 M hN σ _ _ _ hw (lv_sub hl [0] rfl) h
    · have h := h.1 c3
      refine lv_aload_n hx hb dX5_advance_25 rfl (lv_at hl 0 rfl) ?_
      refine lv_dup hx hb dX5_advance_26 rfl ?_
      refine q_get (v := .int (σ.1 2 2)) M hw (ob_2 hN) rfl inq_5 2 (by decide) tw_75 rfl dX5_advance_27 ?_
      refine lv_iconst (v := 1) hx hb dX5_advance_30 (by decide) ?_
      refine lv_iadd hx hb dX5_advance_31 ?_
      refine q_put (v := ((σ.1 2 2) + 1)) M hw (ob_2 hN) rfl inq_5 tyX5 tyX5_ok nmX5 2 (by decide) tw_75 rfl rfl rfl (Nat.le_of_ble_eq_true rfl) (by simp [up, upd, f0]) dX5_advance_32 (fun σ4 H locs es hw => ?_)
      have h := h σ4 es
      refine lv_goto (tgt := 0) hx hb dX5_advance_35 (by decide) ?_
      exact hR_0 σ4 _ _ _ hw (lv_sub hl [0] rfl) h
def lX5_advance_0 (Q : St → Prop) : (St → Prop) → St → Prop := fun R a => bX5_advance_0 R a Q
theorem tlX5_advance_0 {Q : St → Prop} (M : MC p s m args meth c cX5_advance 1 none RX5 Y) (hN : yN Y = 108) (n : Nat) : ∀  (σ : St) (H : Heap) (locs : List Loc) (ls : Array Slot) (hw : WS Y (AD Y) s.heap σ H locs) (hl : lv_has ls 1 [(0, .ref (yA Y 2))]) (h : Lp (lX5_advance_0 Q) n σ), W p l e { frames := 1, cells := 0, slots := 0, locals := 21 } s m args below meth c H locs 0 0 (MQ below (QV Y Q) args s 0 0 (AD Y)) (F0 m 0 ls []) := by
  induction n with
  | zero => intro  σ H locs ls hw hl h; exact h.elim
  | succ n ih =>
    intro  σ H locs ls hw hl h
    exact tX5_advance_0 M hN ih  σ H locs ls hw hl h
def wX5_advance (σ : St) (Q : St → Prop) : Prop :=
  ∃ n : Nat, Lp (lX5_advance_0 Q) n σ
set_option maxHeartbeats 4000000 in
set_option maxRecDepth 100000 in
theorem tX5_advance_E {Q : St → Prop} (M : MC p s m args meth c cX5_advance 1 none RX5 Y) (hN : yN Y = 108)  (σ : St) (H : Heap) (locs : List Loc) (ls : Array Slot) (hw : WS Y (AD Y) s.heap σ H locs) (hl : lv_has ls 1 [(0, .ref (yA Y 2))]) (h : wX5_advance σ Q) : W p l e { frames := 1, cells := 0, slots := 0, locals := 21 } s m args below meth c H locs 0 0 (MQ below (QV Y Q) args s 0 0 (AD Y)) (F0 m 0 ls []) := by
  obtain ⟨hx, hb, hr, hml, hown, hlk, hT, hK, hB⟩ := id M
  unfold wX5_advance at h
  obtain ⟨n, h⟩ := h
  exact tlX5_advance_0 M hN n σ _ _ _ hw (lv_sub hl [0] rfl) h
set_option maxRecDepth 100000 in
theorem ctX5_advance (l : Launch) {Y : LY} (hB : YB Y) (hN : yN Y = 108) (σ : St) (Q : St → Prop) (h : wX5_advance σ Q) : CT l yX5_advance (Cond.code yX5_advance cX5_advance 1 none) { frames := 1, cells := 0, slots := 0, locals := 21 } Y [.ref (yA Y 2)] σ (QV Y Q) :=
  q_ent hB (by decide +kernel) (Nat.le_of_ble_eq_true rfl) (fun p e s m below meth c ls M hw hl => tX5_advance_E M hN σ _ _ ls hw hl h)
theorem mbX5_advance : MB RX5 yX5_advance cX5_advance 0 1 none := ⟨tw_317, tw_0, tw_50, tw_318, by decide +kernel⟩
end
section
variable {p : Program} {l : Launch} {e : Env} {s : State} {m : MethodId} {args : Array Value} {below : List Frame} {meth : Method} {c : Code} {Y : LY}
theorem dX5_readItemEnd_0 : decode cX5_readItemEnd 0 = .ok (.aload_n 0, 1) := by decide +kernel
theorem dX5_readItemEnd_1 : decode cX5_readItemEnd 1 = .ok (.invokevirtual 27, 3) := by decide +kernel
theorem dX5_readItemEnd_4 : decode cX5_readItemEnd 4 = .ok (.aload_n 0, 1) := by decide +kernel
theorem dX5_readItemEnd_5 : decode cX5_readItemEnd 5 = .ok (.getfield 30, 3) := by decide +kernel
theorem dX5_readItemEnd_8 : decode cX5_readItemEnd 8 = .ok (.bipush 59, 2) := by decide +kernel
theorem dX5_readItemEnd_10 : decode cX5_readItemEnd 10 = .ok (.if_icmp .eq 5, 3) := by decide +kernel
theorem dX5_readItemEnd_13 : decode cX5_readItemEnd 13 = .ok (.iconst 0, 1) := by decide +kernel
theorem dX5_readItemEnd_14 : decode cX5_readItemEnd 14 = .ok (.ireturn, 1) := by decide +kernel
theorem dX5_readItemEnd_15 : decode cX5_readItemEnd 15 = .ok (.aload_n 0, 1) := by decide +kernel
theorem dX5_readItemEnd_16 : decode cX5_readItemEnd 16 = .ok (.invokevirtual 27, 3) := by decide +kernel
theorem dX5_readItemEnd_19 : decode cX5_readItemEnd 19 = .ok (.iconst 1, 1) := by decide +kernel
theorem dX5_readItemEnd_20 : decode cX5_readItemEnd 20 = .ok (.ireturn, 1) := by decide +kernel
def wX5_readItemEnd (σ : St) (Q : Int32 → St → Prop) : Prop :=
  wX5_advance σ (fun σ1 => (((σ1.1 2 3) = 59 → wX5_advance σ1 (fun σ3 => Q 1 σ3)) ∧ (¬ (σ1.1 2 3) = 59 → Q 0 σ1)))
set_option maxHeartbeats 4000000 in
set_option maxRecDepth 100000 in
theorem tX5_readItemEnd_E {Q : Int32 → St → Prop} (M : MC p s m args meth c cX5_readItemEnd 1 (some .boolean) RX5 Y) (hN : yN Y = 108)  (σ : St) (H : Heap) (locs : List Loc) (ls : Array Slot) (hw : WS Y (AD Y) s.heap σ H locs) (hl : lv_has ls 1 [(0, .ref (yA Y 2))]) (h : wX5_readItemEnd σ Q) : W p l e { frames := 2, cells := 0, slots := 0, locals := 41 } s m args below meth c H locs 0 0 (MQ below (QI Y Q) args s 0 0 (AD Y)) (F0 m 0 ls []) := by
  obtain ⟨hx, hb, hr, hml, hown, hlk, hT, hK, hB⟩ := id M
  unfold wX5_readItemEnd at h
  refine lv_aload_n hx hb dX5_readItemEnd_0 rfl (lv_at hl 0 rfl) ?_
  refine q_goV hw (q_runV (rest := []) M hw (ctX5_advance l hB hN σ _ h) mbX5_advance (ob_2 hN) rfl tw_315 rfl hl.1 rfl (Nat.le_of_ble_eq_true rfl) ⟨Nat.le_of_ble_eq_true rfl, Nat.le_of_ble_eq_true rfl⟩ ⟨Nat.le_refl _, Nat.le_refl _⟩ dX5_readItemEnd_1) (fun σ1 H locs h hw => ?_)
  refine lv_aload_n hx hb dX5_readItemEnd_4 rfl (lv_at hl 0 rfl) ?_
  refine q_get (v := .int (σ1.1 2 3)) M hw (ob_2 hN) rfl inq_5 3 (by decide) tw_76 rfl dX5_readItemEnd_5 ?_
  refine lv_bipush (v := 59) hx hb dX5_readItemEnd_8 (by decide) ?_
  refine lv_icmp_eq (tgt := 15) hx hb dX5_readItemEnd_10 (by decide) (fun c2 => ?_) (fun c2 => ?_)
  · have h := h.1 c2
    refine lv_aload_n hx hb dX5_readItemEnd_15 rfl (lv_at hl 0 rfl) ?_
    refine q_goV hw (q_runV (rest := []) M hw (ctX5_advance l hB hN σ1 _ h) mbX5_advance (ob_2 hN) rfl tw_315 rfl hl.1 rfl (Nat.le_of_ble_eq_true rfl) ⟨Nat.le_of_ble_eq_true rfl, Nat.le_of_ble_eq_true rfl⟩ ⟨Nat.le_refl _, Nat.le_refl _⟩ dX5_readItemEnd_16) (fun σ3 H locs h hw => ?_)
    refine lv_iconst (v := 1) hx hb dX5_readItemEnd_19 (by decide) ?_
    exact q_zret M hw (by decide) h dX5_readItemEnd_20
  · have h := h.2 c2
    refine lv_iconst (v := 0) hx hb dX5_readItemEnd_13 (by decide) ?_
    exact q_zret M hw (by decide) h dX5_readItemEnd_14
set_option maxRecDepth 100000 in
theorem ctX5_readItemEnd (l : Launch) {Y : LY} (hB : YB Y) (hN : yN Y = 108) (σ : St) (Q : Int32 → St → Prop) (h : wX5_readItemEnd σ Q) : CT l yX5_readItemEnd (Cond.code yX5_readItemEnd cX5_readItemEnd 1 (some .boolean)) { frames := 2, cells := 0, slots := 0, locals := 41 } Y [.ref (yA Y 2)] σ (QI Y Q) :=
  q_ent hB (by decide +kernel) (Nat.le_of_ble_eq_true rfl) (fun p e s m below meth c ls M hw hl => tX5_readItemEnd_E M hN σ _ _ ls hw hl h)
theorem mbX5_readItemEnd : MB RX5 yX5_readItemEnd cX5_readItemEnd 0 1 (some .boolean) := ⟨tw_337, tw_5, tw_50, tw_338, by decide +kernel⟩
end
section
variable {p : Program} {l : Launch} {e : Env} {s : State} {m : MethodId} {args : Array Value} {below : List Frame} {meth : Method} {c : Code} {Y : LY}
theorem dX5_readNumber_0 : decode cX5_readNumber 0 = .ok (.aload_n 0, 1) := by decide +kernel
theorem dX5_readNumber_1 : decode cX5_readNumber 1 = .ok (.getfield 30, 3) := by decide +kernel
theorem dX5_readNumber_4 : decode cX5_readNumber 4 = .ok (.bipush (-2), 2) := by decide +kernel
theorem dX5_readNumber_6 : decode cX5_readNumber 6 = .ok (.if_icmp .ne 23, 3) := by decide +kernel
theorem dX5_readNumber_9 : decode cX5_readNumber 9 = .ok (.aload_n 0, 1) := by decide +kernel
theorem dX5_readNumber_10 : decode cX5_readNumber 10 = .ok (.getfield 66, 3) := by decide +kernel
theorem dX5_readNumber_13 : decode cX5_readNumber 13 = .ok (.iload_n 1, 1) := by decide +kernel
theorem dX5_readNumber_14 : decode cX5_readNumber 14 = .ok (.if_icmp .lt 15, 3) := by decide +kernel
theorem dX5_readNumber_17 : decode cX5_readNumber 17 = .ok (.aload_n 0, 1) := by decide +kernel
theorem dX5_readNumber_18 : decode cX5_readNumber 18 = .ok (.getfield 66, 3) := by decide +kernel
theorem dX5_readNumber_21 : decode cX5_readNumber 21 = .ok (.iload_n 2, 1) := by decide +kernel
theorem dX5_readNumber_22 : decode cX5_readNumber 22 = .ok (.if_icmp .gt 7, 3) := by decide +kernel
theorem dX5_readNumber_25 : decode cX5_readNumber 25 = .ok (.iconst 1, 1) := by decide +kernel
theorem dX5_readNumber_26 : decode cX5_readNumber 26 = .ok (.goto 4, 3) := by decide +kernel
theorem dX5_readNumber_29 : decode cX5_readNumber 29 = .ok (.iconst 0, 1) := by decide +kernel
theorem dX5_readNumber_30 : decode cX5_readNumber 30 = .ok (.ireturn, 1) := by decide +kernel
def wX5_readNumber (a0 : Int32) (a1 : Int32) (σ : St) (Q : Int32 → St → Prop) : Prop :=
  (((σ.1 2 3) = (-2) → (((σ.1 2 5) < a0 → Q 0 σ) ∧ (¬ (σ.1 2 5) < a0 → ((a1 < (σ.1 2 5) → Q 0 σ) ∧ (¬ a1 < (σ.1 2 5) → Q 1 σ))))) ∧ (¬ (σ.1 2 3) = (-2) → Q 0 σ))
set_option maxHeartbeats 4000000 in
set_option maxRecDepth 100000 in
theorem tX5_readNumber_E {Q : Int32 → St → Prop} (M : MC p s m args meth c cX5_readNumber 3 (some .boolean) RX5 Y) (hN : yN Y = 108) (a0 : Int32) (a1 : Int32) (σ : St) (H : Heap) (locs : List Loc) (ls : Array Slot) (hw : WS Y (AD Y) s.heap σ H locs) (hl : lv_has ls 3 [(0, .ref (yA Y 2)), (1, .int a0), (2, .int a1)]) (h : wX5_readNumber a0 a1 σ Q) : W p l e { frames := 0, cells := 0, slots := 0, locals := 0 } s m args below meth c H locs 0 0 (MQ below (QI Y Q) args s 0 0 (AD Y)) (F0 m 0 ls []) := by
  obtain ⟨hx, hb, hr, hml, hown, hlk, hT, hK, hB⟩ := id M
  unfold wX5_readNumber at h
  refine lv_aload_n hx hb dX5_readNumber_0 rfl (lv_at hl 0 rfl) ?_
  refine q_get (v := .int (σ.1 2 3)) M hw (ob_2 hN) rfl inq_5 3 (by decide) tw_76 rfl dX5_readNumber_1 ?_
  refine lv_bipush (v := (-2)) hx hb dX5_readNumber_4 (by decide) ?_
  refine lv_icmp_ne (tgt := 29) hx hb dX5_readNumber_6 (by decide) (fun c1 => ?_) (fun c1 => ?_)
  · have h := h.2 c1
    refine lv_iconst (v := 0) hx hb dX5_readNumber_29 (by decide) ?_
    exact q_zret M hw (by decide) h dX5_readNumber_30
  · have h := h.1 c1
    refine lv_aload_n hx hb dX5_readNumber_9 rfl (lv_at hl 0 rfl) ?_
    refine q_get (v := .int (σ.1 2 5)) M hw (ob_2 hN) rfl inq_5 5 (by decide) tw_78 rfl dX5_readNumber_10 ?_
    refine lv_iload_n hx hb dX5_readNumber_13 rfl (lv_at hl 1 rfl) ?_
    refine lv_icmp_lt (tgt := 29) hx hb dX5_readNumber_14 (by decide) (fun c2 => ?_) (fun c2 => ?_)
    · have h := h.1 c2
      refine lv_iconst (v := 0) hx hb dX5_readNumber_29 (by decide) ?_
      exact q_zret M hw (by decide) h dX5_readNumber_30
    · have h := h.2 c2
      refine lv_aload_n hx hb dX5_readNumber_17 rfl (lv_at hl 0 rfl) ?_
      refine q_get (v := .int (σ.1 2 5)) M hw (ob_2 hN) rfl inq_5 5 (by decide) tw_78 rfl dX5_readNumber_18 ?_
      refine lv_iload_n hx hb dX5_readNumber_21 rfl (lv_at hl 2 rfl) ?_
      refine lv_icmp_gt (tgt := 29) hx hb dX5_readNumber_22 (by decide) (fun c3 => ?_) (fun c3 => ?_)
      · have h := h.1 c3
        refine lv_iconst (v := 0) hx hb dX5_readNumber_29 (by decide) ?_
        exact q_zret M hw (by decide) h dX5_readNumber_30
      · have h := h.2 c3
        refine lv_iconst (v := 1) hx hb dX5_readNumber_25 (by decide) ?_
        refine lv_goto (tgt := 30) hx hb dX5_readNumber_26 (by decide) ?_
        exact q_zret M hw (by decide) h dX5_readNumber_30
set_option maxRecDepth 100000 in
theorem ctX5_readNumber (l : Launch) {Y : LY} (hB : YB Y) (hN : yN Y = 108) (a0 : Int32) (a1 : Int32) (σ : St) (Q : Int32 → St → Prop) (h : wX5_readNumber a0 a1 σ Q) : CT l yX5_readNumber (Cond.code yX5_readNumber cX5_readNumber 3 (some .boolean)) { frames := 0, cells := 0, slots := 0, locals := 0 } Y [.ref (yA Y 2), .int a0, .int a1] σ (QI Y Q) :=
  q_ent hB (by decide +kernel) (Nat.le_of_ble_eq_true rfl) (fun p e s m below meth c ls M hw hl => tX5_readNumber_E M hN a0 a1 σ _ _ ls hw hl h)
theorem mbX5_readNumber : MB RX5 yX5_readNumber cX5_readNumber 2 3 (some .boolean) := ⟨tw_333, tw_4, tw_50, tw_334, by decide +kernel⟩
end
section
variable {p : Program} {l : Launch} {e : Env} {s : State} {m : MethodId} {args : Array Value} {below : List Frame} {meth : Method} {c : Code} {Y : LY}
theorem dX5_readCloud_0 : decode cX5_readCloud 0 = .ok (.aload_n 0, 1) := by decide +kernel
theorem dX5_readCloud_1 : decode cX5_readCloud 1 = .ok (.invokevirtual 27, 3) := by decide +kernel
theorem dX5_readCloud_4 : decode cX5_readCloud 4 = .ok (.aload_n 0, 1) := by decide +kernel
theorem dX5_readCloud_5 : decode cX5_readCloud 5 = .ok (.iconst 0, 1) := by decide +kernel
theorem dX5_readCloud_6 : decode cX5_readCloud 6 = .ok (.bipush 99, 2) := by decide +kernel
theorem dX5_readCloud_8 : decode cX5_readCloud 8 = .ok (.invokevirtual 58, 3) := by decide +kernel
theorem dX5_readCloud_11 : decode cX5_readCloud 11 = .ok (.ifCond .ne 5, 3) := by decide +kernel
theorem dX5_readCloud_14 : decode cX5_readCloud 14 = .ok (.iconst 0, 1) := by decide +kernel
theorem dX5_readCloud_15 : decode cX5_readCloud 15 = .ok (.ireturn, 1) := by decide +kernel
theorem dX5_readCloud_16 : decode cX5_readCloud 16 = .ok (.aload_n 1, 1) := by decide +kernel
theorem dX5_readCloud_17 : decode cX5_readCloud 17 = .ok (.getfield 85, 3) := by decide +kernel
theorem dX5_readCloud_20 : decode cX5_readCloud 20 = .ok (.aload_n 0, 1) := by decide +kernel
theorem dX5_readCloud_21 : decode cX5_readCloud 21 = .ok (.getfield 66, 3) := by decide +kernel
theorem dX5_readCloud_24 : decode cX5_readCloud 24 = .ok (.iconst 1, 1) := by decide +kernel
theorem dX5_readCloud_25 : decode cX5_readCloud 25 = .ok (.bastore, 1) := by decide +kernel
theorem dX5_readCloud_26 : decode cX5_readCloud 26 = .ok (.aload_n 0, 1) := by decide +kernel
theorem dX5_readCloud_27 : decode cX5_readCloud 27 = .ok (.invokevirtual 72, 3) := by decide +kernel
theorem dX5_readCloud_30 : decode cX5_readCloud 30 = .ok (.ireturn, 1) := by decide +kernel
def wX5_readCloud (σ : St) (Q : Int32 → St → Prop) : Prop :=
  wX5_advance σ (fun σ1 => wX5_readNumber 0 99 σ1 (fun r3 σ2 => ((r3 = 0 → Q 0 σ2) ∧ (¬ r3 = 0 → (vp_in (σ2.1 2 5) 100 ∧ ∀ σ6 : St, σ6 = up σ2 14 (σ2.1 2 5).toNatClampNeg (vp_nar .boolean 1) → wX5_readItemEnd σ6 (fun r8 σ7 => ((r8 = 0 ∨ r8 = 1) ∧ Q r8 σ7)))))))
set_option maxHeartbeats 4000000 in
set_option maxRecDepth 100000 in
theorem tX5_readCloud_E {Q : Int32 → St → Prop} (M : MC p s m args meth c cX5_readCloud 2 (some .boolean) RX5 Y) (hN : yN Y = 108)  (σ : St) (H : Heap) (locs : List Loc) (ls : Array Slot) (hw : WS Y (AD Y) s.heap σ H locs) (hl : lv_has ls 2 [(0, .ref (yA Y 2)), (1, .ref (yA Y 9))]) (h : wX5_readCloud σ Q) : W p l e { frames := 3, cells := 0, slots := 0, locals := 61 } s m args below meth c H locs 0 0 (MQ below (QI Y Q) args s 0 0 (AD Y)) (F0 m 0 ls []) := by
  obtain ⟨hx, hb, hr, hml, hown, hlk, hT, hK, hB⟩ := id M
  unfold wX5_readCloud at h
  refine lv_aload_n hx hb dX5_readCloud_0 rfl (lv_at hl 0 rfl) ?_
  refine q_goV hw (q_runV (rest := []) M hw (ctX5_advance l hB hN σ _ h) mbX5_advance (ob_2 hN) rfl tw_315 rfl hl.1 rfl (Nat.le_of_ble_eq_true rfl) ⟨Nat.le_of_ble_eq_true rfl, Nat.le_of_ble_eq_true rfl⟩ ⟨Nat.le_refl _, Nat.le_refl _⟩ dX5_readCloud_1) (fun σ1 H locs h hw => ?_)
  refine lv_aload_n hx hb dX5_readCloud_4 rfl (lv_at hl 0 rfl) ?_
  refine lv_iconst (v := 0) hx hb dX5_readCloud_5 (by decide) ?_
  refine lv_bipush (v := 99) hx hb dX5_readCloud_6 (by decide) ?_
  refine q_goI hw (q_runV (rest := []) M hw (ctX5_readNumber l hB hN 0 99 σ1 _ h) mbX5_readNumber (ob_2 hN) rfl tw_331 rfl hl.1 rfl (Nat.le_of_ble_eq_true rfl) ⟨Nat.le_of_ble_eq_true rfl, Nat.le_of_ble_eq_true rfl⟩ ⟨Nat.le_refl _, Nat.le_refl _⟩ dX5_readCloud_8) (fun r3 σ2 H locs h hw => ?_)
  refine lv_if_ne (tgt := 16) hx hb dX5_readCloud_11 (by decide) (fun c4 => ?_) (fun c4 => ?_)
  · have h := h.2 c4
    refine lv_aload_n hx hb dX5_readCloud_16 rfl (lv_at hl 1 rfl) ?_
    refine q_get (v := .ref (yA Y 14)) M hw (ph_ob (ph_9 hN)) rfl inq_3 4 (by decide) tw_114 rfl dX5_readCloud_17 ?_
    refine lv_aload_n hx hb dX5_readCloud_20 rfl (lv_at hl 0 rfl) ?_
    refine q_get (v := .int (σ2.1 2 5)) M hw (ob_2 hN) rfl inq_5 5 (by decide) tw_78 rfl dX5_readCloud_21 ?_
    refine lv_iconst (v := 1) hx hb dX5_readCloud_24 (by decide) ?_
    have c5 := h.1
    refine q_zst M hw (ar_14 hN) c5 dX5_readCloud_25 (fun σ6 H locs es hw => ?_)
    have h := h.2 σ6 es
    refine lv_aload_n hx hb dX5_readCloud_26 rfl (lv_at hl 0 rfl) ?_
    refine q_goI hw (q_runV (rest := []) M hw (ctX5_readItemEnd l hB hN σ6 _ h) mbX5_readItemEnd (ob_2 hN) rfl tw_335 rfl hl.1 rfl (Nat.le_of_ble_eq_true rfl) ⟨Nat.le_of_ble_eq_true rfl, Nat.le_of_ble_eq_true rfl⟩ ⟨Nat.le_refl _, Nat.le_refl _⟩ dX5_readCloud_27) (fun r8 σ7 H locs h hw => ?_)
    exact q_zret M hw (nar01 h.1) h.2 dX5_readCloud_30
  · have h := h.1 c4
    refine lv_iconst (v := 0) hx hb dX5_readCloud_14 (by decide) ?_
    exact q_zret M hw (by decide) h dX5_readCloud_15
set_option maxRecDepth 100000 in
theorem ctX5_readCloud (l : Launch) {Y : LY} (hB : YB Y) (hN : yN Y = 108) (σ : St) (Q : Int32 → St → Prop) (h : wX5_readCloud σ Q) : CT l yX5_readCloud (Cond.code yX5_readCloud cX5_readCloud 2 (some .boolean)) { frames := 3, cells := 0, slots := 0, locals := 61 } Y [.ref (yA Y 2), .ref (yA Y 9)] σ (QI Y Q) :=
  q_ent hB (by decide +kernel) (Nat.le_of_ble_eq_true rfl) (fun p e s m below meth c ls M hw hl => tX5_readCloud_E M hN σ _ _ ls hw hl h)
theorem mbX5_readCloud : MB RX5 yX5_readCloud cX5_readCloud 1 2 (some .boolean) := ⟨tw_345, tw_7, tw_50, tw_346, by decide +kernel⟩
end
section
variable {p : Program} {l : Launch} {e : Env} {s : State} {m : MethodId} {args : Array Value} {below : List Frame} {meth : Method} {c : Code} {Y : LY}
theorem dX5_readEaster_0 : decode cX5_readEaster 0 = .ok (.aload_n 1, 1) := by decide +kernel
theorem dX5_readEaster_1 : decode cX5_readEaster 1 = .ok (.getfield 96, 3) := by decide +kernel
theorem dX5_readEaster_4 : decode cX5_readEaster 4 = .ok (.ifCond .eq 5, 3) := by decide +kernel
theorem dX5_readEaster_7 : decode cX5_readEaster 7 = .ok (.iconst 0, 1) := by decide +kernel
theorem dX5_readEaster_8 : decode cX5_readEaster 8 = .ok (.ireturn, 1) := by decide +kernel
theorem dX5_readEaster_9 : decode cX5_readEaster 9 = .ok (.aload_n 0, 1) := by decide +kernel
theorem dX5_readEaster_10 : decode cX5_readEaster 10 = .ok (.invokevirtual 27, 3) := by decide +kernel
theorem dX5_readEaster_13 : decode cX5_readEaster 13 = .ok (.aload_n 0, 1) := by decide +kernel
theorem dX5_readEaster_14 : decode cX5_readEaster 14 = .ok (.iconst 1, 1) := by decide +kernel
theorem dX5_readEaster_15 : decode cX5_readEaster 15 = .ok (.bipush 60, 2) := by decide +kernel
theorem dX5_readEaster_17 : decode cX5_readEaster 17 = .ok (.invokevirtual 58, 3) := by decide +kernel
theorem dX5_readEaster_20 : decode cX5_readEaster 20 = .ok (.ifCond .ne 5, 3) := by decide +kernel
theorem dX5_readEaster_23 : decode cX5_readEaster 23 = .ok (.iconst 0, 1) := by decide +kernel
theorem dX5_readEaster_24 : decode cX5_readEaster 24 = .ok (.ireturn, 1) := by decide +kernel
theorem dX5_readEaster_25 : decode cX5_readEaster 25 = .ok (.aload_n 1, 1) := by decide +kernel
theorem dX5_readEaster_26 : decode cX5_readEaster 26 = .ok (.aload_n 0, 1) := by decide +kernel
theorem dX5_readEaster_27 : decode cX5_readEaster 27 = .ok (.getfield 66, 3) := by decide +kernel
theorem dX5_readEaster_30 : decode cX5_readEaster 30 = .ok (.putfield 99, 3) := by decide +kernel
theorem dX5_readEaster_33 : decode cX5_readEaster 33 = .ok (.aload_n 1, 1) := by decide +kernel
theorem dX5_readEaster_34 : decode cX5_readEaster 34 = .ok (.iconst 1, 1) := by decide +kernel
theorem dX5_readEaster_35 : decode cX5_readEaster 35 = .ok (.putfield 96, 3) := by decide +kernel
theorem dX5_readEaster_38 : decode cX5_readEaster 38 = .ok (.aload_n 0, 1) := by decide +kernel
theorem dX5_readEaster_39 : decode cX5_readEaster 39 = .ok (.invokevirtual 72, 3) := by decide +kernel
theorem dX5_readEaster_42 : decode cX5_readEaster 42 = .ok (.ireturn, 1) := by decide +kernel
def wX5_readEaster (σ : St) (Q : Int32 → St → Prop) : Prop :=
  (((σ.1 9 10) = 0 → wX5_advance σ (fun σ2 => wX5_readNumber 1 60 σ2 (fun r4 σ3 => ((r4 = 0 → Q 0 σ3) ∧ (¬ r4 = 0 → (∀ σ6 : St, σ6 = up σ3 9 8 (σ3.1 2 5) → (∀ σ7 : St, σ7 = up σ6 9 10 1 → wX5_readItemEnd σ7 (fun r9 σ8 => ((r9 = 0 ∨ r9 = 1) ∧ Q r9 σ8))))))))) ∧ (¬ (σ.1 9 10) = 0 → Q 0 σ))
set_option maxHeartbeats 4000000 in
set_option maxRecDepth 100000 in
theorem tX5_readEaster_E {Q : Int32 → St → Prop} (M : MC p s m args meth c cX5_readEaster 2 (some .boolean) RX5 Y) (hN : yN Y = 108)  (σ : St) (H : Heap) (locs : List Loc) (ls : Array Slot) (hw : WS Y (AD Y) s.heap σ H locs) (hl : lv_has ls 2 [(0, .ref (yA Y 2)), (1, .ref (yA Y 9))]) (h : wX5_readEaster σ Q) : W p l e { frames := 3, cells := 0, slots := 0, locals := 61 } s m args below meth c H locs 0 0 (MQ below (QI Y Q) args s 0 0 (AD Y)) (F0 m 0 ls []) := by
  obtain ⟨hx, hb, hr, hml, hown, hlk, hT, hK, hB⟩ := id M
  unfold wX5_readEaster at h
  refine lv_aload_n hx hb dX5_readEaster_0 rfl (lv_at hl 1 rfl) ?_
  refine q_get (v := .int (σ.1 9 10)) M hw (ph_ob (ph_9 hN)) rfl inq_3 10 (by decide) tw_133 rfl dX5_readEaster_1 ?_
  refine lv_if_eq (tgt := 9) hx hb dX5_readEaster_4 (by decide) (fun c1 => ?_) (fun c1 => ?_)
  · have h := h.1 c1
    refine lv_aload_n hx hb dX5_readEaster_9 rfl (lv_at hl 0 rfl) ?_
    refine q_goV hw (q_runV (rest := []) M hw (ctX5_advance l hB hN σ _ h) mbX5_advance (ob_2 hN) rfl tw_315 rfl hl.1 rfl (Nat.le_of_ble_eq_true rfl) ⟨Nat.le_of_ble_eq_true rfl, Nat.le_of_ble_eq_true rfl⟩ ⟨Nat.le_refl _, Nat.le_refl _⟩ dX5_readEaster_10) (fun σ2 H locs h hw => ?_)
    refine lv_aload_n hx hb dX5_readEaster_13 rfl (lv_at hl 0 rfl) ?_
    refine lv_iconst (v := 1) hx hb dX5_readEaster_14 (by decide) ?_
    refine lv_bipush (v := 60) hx hb dX5_readEaster_15 (by decide) ?_
    refine q_goI hw (q_runV (rest := []) M hw (ctX5_readNumber l hB hN 1 60 σ2 _ h) mbX5_readNumber (ob_2 hN) rfl tw_331 rfl hl.1 rfl (Nat.le_of_ble_eq_true rfl) ⟨Nat.le_of_ble_eq_true rfl, Nat.le_of_ble_eq_true rfl⟩ ⟨Nat.le_refl _, Nat.le_refl _⟩ dX5_readEaster_17) (fun r4 σ3 H locs h hw => ?_)
    refine lv_if_ne (tgt := 25) hx hb dX5_readEaster_20 (by decide) (fun c5 => ?_) (fun c5 => ?_)
    · have h := h.2 c5
      refine lv_aload_n hx hb dX5_readEaster_25 rfl (lv_at hl 1 rfl) ?_
      refine lv_aload_n hx hb dX5_readEaster_26 rfl (lv_at hl 0 rfl) ?_
      refine q_get (v := .int (σ3.1 2 5)) M hw (ob_2 hN) rfl inq_5 5 (by decide) tw_78 rfl dX5_readEaster_27 ?_
      refine q_put (v := (σ3.1 2 5)) M hw (ph_ob (ph_9 hN)) rfl inq_3 tyX3 tyX3_ok nmX3 8 (by decide) tw_128 rfl rfl rfl (Nat.le_of_ble_eq_true rfl) (by simp [up, upd, f0]) dX5_readEaster_30 (fun σ6 H locs es hw => ?_)
      have h := h σ6 es
      refine lv_aload_n hx hb dX5_readEaster_33 rfl (lv_at hl 1 rfl) ?_
      refine lv_iconst (v := 1) hx hb dX5_readEaster_34 (by decide) ?_
      refine q_put (v := 1) M hw (ph_ob (ph_9 hN)) rfl inq_3 tyX3 tyX3_ok nmX3 10 (by decide) tw_133 rfl (by decide) rfl (Nat.le_of_ble_eq_true rfl) (by simp [up, upd, f0]) dX5_readEaster_35 (fun σ7 H locs es hw => ?_)
      have h := h σ7 es
      refine lv_aload_n hx hb dX5_readEaster_38 rfl (lv_at hl 0 rfl) ?_
      refine q_goI hw (q_runV (rest := []) M hw (ctX5_readItemEnd l hB hN σ7 _ h) mbX5_readItemEnd (ob_2 hN) rfl tw_335 rfl hl.1 rfl (Nat.le_of_ble_eq_true rfl) ⟨Nat.le_of_ble_eq_true rfl, Nat.le_of_ble_eq_true rfl⟩ ⟨Nat.le_refl _, Nat.le_refl _⟩ dX5_readEaster_39) (fun r9 σ8 H locs h hw => ?_)
      exact q_zret M hw (nar01 h.1) h.2 dX5_readEaster_42
    · have h := h.1 c5
      refine lv_iconst (v := 0) hx hb dX5_readEaster_23 (by decide) ?_
      exact q_zret M hw (by decide) h dX5_readEaster_24
  · have h := h.2 c1
    refine lv_iconst (v := 0) hx hb dX5_readEaster_7 (by decide) ?_
    exact q_zret M hw (by decide) h dX5_readEaster_8
set_option maxRecDepth 100000 in
theorem ctX5_readEaster (l : Launch) {Y : LY} (hB : YB Y) (hN : yN Y = 108) (σ : St) (Q : Int32 → St → Prop) (h : wX5_readEaster σ Q) : CT l yX5_readEaster (Cond.code yX5_readEaster cX5_readEaster 2 (some .boolean)) { frames := 3, cells := 0, slots := 0, locals := 61 } Y [.ref (yA Y 2), .ref (yA Y 9)] σ (QI Y Q) :=
  q_ent hB (by decide +kernel) (Nat.le_of_ble_eq_true rfl) (fun p e s m below meth c ls M hw hl => tX5_readEaster_E M hN σ _ _ ls hw hl h)
theorem mbX5_readEaster : MB RX5 yX5_readEaster cX5_readEaster 1 2 (some .boolean) := ⟨tw_353, tw_9, tw_50, tw_354, by decide +kernel⟩
end
section
variable {p : Program} {l : Launch} {e : Env} {s : State} {m : MethodId} {args : Array Value} {below : List Frame} {meth : Method} {c : Code} {Y : LY}
theorem dX5_readFarmer_0 : decode cX5_readFarmer 0 = .ok (.aload_n 1, 1) := by decide +kernel
theorem dX5_readFarmer_1 : decode cX5_readFarmer 1 = .ok (.getfield 55, 3) := by decide +kernel
theorem dX5_readFarmer_4 : decode cX5_readFarmer 4 = .ok (.istore_n 2, 1) := by decide +kernel
theorem dX5_readFarmer_5 : decode cX5_readFarmer 5 = .ok (.iload_n 2, 1) := by decide +kernel
theorem dX5_readFarmer_6 : decode cX5_readFarmer 6 = .ok (.iconst 5, 1) := by decide +kernel
theorem dX5_readFarmer_7 : decode cX5_readFarmer 7 = .ok (.if_icmp .lt 5, 3) := by decide +kernel
theorem dX5_readFarmer_10 : decode cX5_readFarmer 10 = .ok (.iconst 0, 1) := by decide +kernel
theorem dX5_readFarmer_11 : decode cX5_readFarmer 11 = .ok (.ireturn, 1) := by decide +kernel
theorem dX5_readFarmer_12 : decode cX5_readFarmer 12 = .ok (.aload_n 0, 1) := by decide +kernel
theorem dX5_readFarmer_13 : decode cX5_readFarmer 13 = .ok (.invokevirtual 27, 3) := by decide +kernel
theorem dX5_readFarmer_16 : decode cX5_readFarmer 16 = .ok (.aload_n 0, 1) := by decide +kernel
theorem dX5_readFarmer_17 : decode cX5_readFarmer 17 = .ok (.iconst 0, 1) := by decide +kernel
theorem dX5_readFarmer_18 : decode cX5_readFarmer 18 = .ok (.bipush 99, 2) := by decide +kernel
theorem dX5_readFarmer_20 : decode cX5_readFarmer 20 = .ok (.invokevirtual 58, 3) := by decide +kernel
theorem dX5_readFarmer_23 : decode cX5_readFarmer 23 = .ok (.ifCond .ne 5, 3) := by decide +kernel
theorem dX5_readFarmer_26 : decode cX5_readFarmer 26 = .ok (.iconst 0, 1) := by decide +kernel
theorem dX5_readFarmer_27 : decode cX5_readFarmer 27 = .ok (.ireturn, 1) := by decide +kernel
theorem dX5_readFarmer_28 : decode cX5_readFarmer 28 = .ok (.aload_n 1, 1) := by decide +kernel
theorem dX5_readFarmer_29 : decode cX5_readFarmer 29 = .ok (.getfield 62, 3) := by decide +kernel
theorem dX5_readFarmer_32 : decode cX5_readFarmer 32 = .ok (.iload_n 2, 1) := by decide +kernel
theorem dX5_readFarmer_33 : decode cX5_readFarmer 33 = .ok (.aload_n 0, 1) := by decide +kernel
theorem dX5_readFarmer_34 : decode cX5_readFarmer 34 = .ok (.getfield 66, 3) := by decide +kernel
theorem dX5_readFarmer_37 : decode cX5_readFarmer 37 = .ok (.iastore, 1) := by decide +kernel
theorem dX5_readFarmer_38 : decode cX5_readFarmer 38 = .ok (.aload_n 0, 1) := by decide +kernel
theorem dX5_readFarmer_39 : decode cX5_readFarmer 39 = .ok (.invokevirtual 27, 3) := by decide +kernel
theorem dX5_readFarmer_42 : decode cX5_readFarmer 42 = .ok (.aload_n 0, 1) := by decide +kernel
theorem dX5_readFarmer_43 : decode cX5_readFarmer 43 = .ok (.iconst 1, 1) := by decide +kernel
theorem dX5_readFarmer_44 : decode cX5_readFarmer 44 = .ok (.iconst 4, 1) := by decide +kernel
theorem dX5_readFarmer_45 : decode cX5_readFarmer 45 = .ok (.invokevirtual 58, 3) := by decide +kernel
theorem dX5_readFarmer_48 : decode cX5_readFarmer 48 = .ok (.ifCond .ne 5, 3) := by decide +kernel
theorem dX5_readFarmer_51 : decode cX5_readFarmer 51 = .ok (.iconst 0, 1) := by decide +kernel
theorem dX5_readFarmer_52 : decode cX5_readFarmer 52 = .ok (.ireturn, 1) := by decide +kernel
theorem dX5_readFarmer_53 : decode cX5_readFarmer 53 = .ok (.aload_n 1, 1) := by decide +kernel
theorem dX5_readFarmer_54 : decode cX5_readFarmer 54 = .ok (.getfield 69, 3) := by decide +kernel
theorem dX5_readFarmer_57 : decode cX5_readFarmer 57 = .ok (.iload_n 2, 1) := by decide +kernel
theorem dX5_readFarmer_58 : decode cX5_readFarmer 58 = .ok (.aload_n 0, 1) := by decide +kernel
theorem dX5_readFarmer_59 : decode cX5_readFarmer 59 = .ok (.getfield 66, 3) := by decide +kernel
theorem dX5_readFarmer_62 : decode cX5_readFarmer 62 = .ok (.iastore, 1) := by decide +kernel
theorem dX5_readFarmer_63 : decode cX5_readFarmer 63 = .ok (.aload_n 1, 1) := by decide +kernel
theorem dX5_readFarmer_64 : decode cX5_readFarmer 64 = .ok (.dup, 1) := by decide +kernel
theorem dX5_readFarmer_65 : decode cX5_readFarmer 65 = .ok (.getfield 55, 3) := by decide +kernel
theorem dX5_readFarmer_68 : decode cX5_readFarmer 68 = .ok (.iconst 1, 1) := by decide +kernel
theorem dX5_readFarmer_69 : decode cX5_readFarmer 69 = .ok (.iadd, 1) := by decide +kernel
theorem dX5_readFarmer_70 : decode cX5_readFarmer 70 = .ok (.putfield 55, 3) := by decide +kernel
theorem dX5_readFarmer_73 : decode cX5_readFarmer 73 = .ok (.aload_n 0, 1) := by decide +kernel
theorem dX5_readFarmer_74 : decode cX5_readFarmer 74 = .ok (.invokevirtual 72, 3) := by decide +kernel
theorem dX5_readFarmer_77 : decode cX5_readFarmer 77 = .ok (.ireturn, 1) := by decide +kernel
def wX5_readFarmer (σ : St) (Q : Int32 → St → Prop) : Prop :=
  (∀ x1 : Int32, x1 = (σ.1 9 5) → ((x1 < 5 → wX5_advance σ (fun σ3 => wX5_readNumber 0 99 σ3 (fun r5 σ4 => ((r5 = 0 → Q 0 σ4) ∧ (¬ r5 = 0 → (vp_in x1 5 ∧ ∀ σ8 : St, σ8 = up σ4 10 x1.toNatClampNeg (σ4.1 2 5) → wX5_advance σ8 (fun σ9 => wX5_readNumber 1 4 σ9 (fun r11 σ10 => ((r11 = 0 → Q 0 σ10) ∧ (¬ r11 = 0 → (vp_in x1 5 ∧ ∀ σ14 : St, σ14 = up σ10 11 x1.toNatClampNeg (σ10.1 2 5) → (∀ σ15 : St, σ15 = up σ14 9 5 ((σ14.1 9 5) + 1) → wX5_readItemEnd σ15 (fun r17 σ16 => ((r17 = 0 ∨ r17 = 1) ∧ Q r17 σ16)))))))))))))) ∧ (¬ x1 < 5 → Q 0 σ)))
set_option maxHeartbeats 4000000 in
set_option maxRecDepth 100000 in
theorem tX5_readFarmer_E {Q : Int32 → St → Prop} (M : MC p s m args meth c cX5_readFarmer 3 (some .boolean) RX5 Y) (hN : yN Y = 108)  (σ : St) (H : Heap) (locs : List Loc) (ls : Array Slot) (hw : WS Y (AD Y) s.heap σ H locs) (hl : lv_has ls 3 [(0, .ref (yA Y 2)), (1, .ref (yA Y 9))]) (h : wX5_readFarmer σ Q) : W p l e { frames := 3, cells := 0, slots := 0, locals := 61 } s m args below meth c H locs 0 0 (MQ below (QI Y Q) args s 0 0 (AD Y)) (F0 m 0 ls []) := by
  obtain ⟨hx, hb, hr, hml, hown, hlk, hT, hK, hB⟩ := id M
  unfold wX5_readFarmer at h
  refine lv_aload_n hx hb dX5_readFarmer_0 rfl (lv_at hl 1 rfl) ?_
  refine q_get (v := .int (σ.1 9 5)) M hw (ph_ob (ph_9 hN)) rfl inq_3 5 (by decide) tw_118 rfl dX5_readFarmer_1 ?_
  refine lv_topi (fun x1 ex1 => ?_)
  have h := h x1 ex1
  refine lv_istore_n (lv' := [(2, .int x1), (0, .ref (yA Y 2)), (1, .ref (yA Y 9))]) hx hb dX5_readFarmer_4 rfl hl (by decide) rfl (fun ls hl => ?_)
  refine lv_iload_n hx hb dX5_readFarmer_5 rfl (lv_at hl 0 rfl) ?_
  refine lv_iconst (v := 5) hx hb dX5_readFarmer_6 (by decide) ?_
  refine lv_icmp_lt (tgt := 12) hx hb dX5_readFarmer_7 (by decide) (fun c2 => ?_) (fun c2 => ?_)
  · have h := h.1 c2
    refine lv_aload_n hx hb dX5_readFarmer_12 rfl (lv_at hl 1 rfl) ?_
    refine q_goV hw (q_runV (rest := []) M hw (ctX5_advance l hB hN σ _ h) mbX5_advance (ob_2 hN) rfl tw_315 rfl hl.1 rfl (Nat.le_of_ble_eq_true rfl) ⟨Nat.le_of_ble_eq_true rfl, Nat.le_of_ble_eq_true rfl⟩ ⟨Nat.le_refl _, Nat.le_refl _⟩ dX5_readFarmer_13) (fun σ3 H locs h hw => ?_)
    refine lv_aload_n hx hb dX5_readFarmer_16 rfl (lv_at hl 1 rfl) ?_
    refine lv_iconst (v := 0) hx hb dX5_readFarmer_17 (by decide) ?_
    refine lv_bipush (v := 99) hx hb dX5_readFarmer_18 (by decide) ?_
    refine q_goI hw (q_runV (rest := []) M hw (ctX5_readNumber l hB hN 0 99 σ3 _ h) mbX5_readNumber (ob_2 hN) rfl tw_331 rfl hl.1 rfl (Nat.le_of_ble_eq_true rfl) ⟨Nat.le_of_ble_eq_true rfl, Nat.le_of_ble_eq_true rfl⟩ ⟨Nat.le_refl _, Nat.le_refl _⟩ dX5_readFarmer_20) (fun r5 σ4 H locs h hw => ?_)
    refine lv_if_ne (tgt := 28) hx hb dX5_readFarmer_23 (by decide) (fun c6 => ?_) (fun c6 => ?_)
    · have h := h.2 c6
      refine lv_aload_n hx hb dX5_readFarmer_28 rfl (lv_at hl 2 rfl) ?_
      refine q_get (v := .ref (yA Y 10)) M hw (ph_ob (ph_9 hN)) rfl inq_3 0 (by decide) tw_101 rfl dX5_readFarmer_29 ?_
      refine lv_iload_n hx hb dX5_readFarmer_32 rfl (lv_at hl 0 rfl) ?_
      refine lv_aload_n hx hb dX5_readFarmer_33 rfl (lv_at hl 1 rfl) ?_
      refine q_get (v := .int (σ4.1 2 5)) M hw (ob_2 hN) rfl inq_5 5 (by decide) tw_78 rfl dX5_readFarmer_34 ?_
      have c7 := h.1
      refine q_ist M hw (ar_10 hN) c7 dX5_readFarmer_37 (fun σ8 H locs es hw => ?_)
      have h := h.2 σ8 es
      refine lv_aload_n hx hb dX5_readFarmer_38 rfl (lv_at hl 1 rfl) ?_
      refine q_goV hw (q_runV (rest := []) M hw (ctX5_advance l hB hN σ8 _ h) mbX5_advance (ob_2 hN) rfl tw_315 rfl hl.1 rfl (Nat.le_of_ble_eq_true rfl) ⟨Nat.le_of_ble_eq_true rfl, Nat.le_of_ble_eq_true rfl⟩ ⟨Nat.le_refl _, Nat.le_refl _⟩ dX5_readFarmer_39) (fun σ9 H locs h hw => ?_)
      refine lv_aload_n hx hb dX5_readFarmer_42 rfl (lv_at hl 1 rfl) ?_
      refine lv_iconst (v := 1) hx hb dX5_readFarmer_43 (by decide) ?_
      refine lv_iconst (v := 4) hx hb dX5_readFarmer_44 (by decide) ?_
      refine q_goI hw (q_runV (rest := []) M hw (ctX5_readNumber l hB hN 1 4 σ9 _ h) mbX5_readNumber (ob_2 hN) rfl tw_331 rfl hl.1 rfl (Nat.le_of_ble_eq_true rfl) ⟨Nat.le_of_ble_eq_true rfl, Nat.le_of_ble_eq_true rfl⟩ ⟨Nat.le_refl _, Nat.le_refl _⟩ dX5_readFarmer_45) (fun r11 σ10 H locs h hw => ?_)
      refine lv_if_ne (tgt := 53) hx hb dX5_readFarmer_48 (by decide) (fun c12 => ?_) (fun c12 => ?_)
      · have h := h.2 c12
        refine lv_aload_n hx hb dX5_readFarmer_53 rfl (lv_at hl 2 rfl) ?_
        refine q_get (v := .ref (yA Y 11)) M hw (ph_ob (ph_9 hN)) rfl inq_3 1 (by decide) tw_103 rfl dX5_readFarmer_54 ?_
        refine lv_iload_n hx hb dX5_readFarmer_57 rfl (lv_at hl 0 rfl) ?_
        refine lv_aload_n hx hb dX5_readFarmer_58 rfl (lv_at hl 1 rfl) ?_
        refine q_get (v := .int (σ10.1 2 5)) M hw (ob_2 hN) rfl inq_5 5 (by decide) tw_78 rfl dX5_readFarmer_59 ?_
        have c13 := h.1
        refine q_ist M hw (ar_11 hN) c13 dX5_readFarmer_62 (fun σ14 H locs es hw => ?_)
        have h := h.2 σ14 es
        refine lv_aload_n hx hb dX5_readFarmer_63 rfl (lv_at hl 2 rfl) ?_
        refine lv_dup hx hb dX5_readFarmer_64 rfl ?_
        refine q_get (v := .int (σ14.1 9 5)) M hw (ph_ob (ph_9 hN)) rfl inq_3 5 (by decide) tw_118 rfl dX5_readFarmer_65 ?_
        refine lv_iconst (v := 1) hx hb dX5_readFarmer_68 (by decide) ?_
        refine lv_iadd hx hb dX5_readFarmer_69 ?_
        refine q_put (v := ((σ14.1 9 5) + 1)) M hw (ph_ob (ph_9 hN)) rfl inq_3 tyX3 tyX3_ok nmX3 5 (by decide) tw_118 rfl rfl rfl (Nat.le_of_ble_eq_true rfl) (by simp [up, upd, f0]) dX5_readFarmer_70 (fun σ15 H locs es hw => ?_)
        have h := h σ15 es
        refine lv_aload_n hx hb dX5_readFarmer_73 rfl (lv_at hl 1 rfl) ?_
        refine q_goI hw (q_runV (rest := []) M hw (ctX5_readItemEnd l hB hN σ15 _ h) mbX5_readItemEnd (ob_2 hN) rfl tw_335 rfl hl.1 rfl (Nat.le_of_ble_eq_true rfl) ⟨Nat.le_of_ble_eq_true rfl, Nat.le_of_ble_eq_true rfl⟩ ⟨Nat.le_refl _, Nat.le_refl _⟩ dX5_readFarmer_74) (fun r17 σ16 H locs h hw => ?_)
        exact q_zret M hw (nar01 h.1) h.2 dX5_readFarmer_77
      · have h := h.1 c12
        refine lv_iconst (v := 0) hx hb dX5_readFarmer_51 (by decide) ?_
        exact q_zret M hw (by decide) h dX5_readFarmer_52
    · have h := h.1 c6
      refine lv_iconst (v := 0) hx hb dX5_readFarmer_26 (by decide) ?_
      exact q_zret M hw (by decide) h dX5_readFarmer_27
  · have h := h.2 c2
    refine lv_iconst (v := 0) hx hb dX5_readFarmer_10 (by decide) ?_
    exact q_zret M hw (by decide) h dX5_readFarmer_11
set_option maxRecDepth 100000 in
theorem ctX5_readFarmer (l : Launch) {Y : LY} (hB : YB Y) (hN : yN Y = 108) (σ : St) (Q : Int32 → St → Prop) (h : wX5_readFarmer σ Q) : CT l yX5_readFarmer (Cond.code yX5_readFarmer cX5_readFarmer 3 (some .boolean)) { frames := 3, cells := 0, slots := 0, locals := 61 } Y [.ref (yA Y 2), .ref (yA Y 9)] σ (QI Y Q) :=
  q_ent hB (by decide +kernel) (Nat.le_of_ble_eq_true rfl) (fun p e s m below meth c ls M hw hl => tX5_readFarmer_E M hN σ _ _ ls hw hl h)
theorem mbX5_readFarmer : MB RX5 yX5_readFarmer cX5_readFarmer 1 3 (some .boolean) := ⟨tw_329, tw_3, tw_50, tw_330, by decide +kernel⟩
end
section
variable {p : Program} {l : Launch} {e : Env} {s : State} {m : MethodId} {args : Array Value} {below : List Frame} {meth : Method} {c : Code} {Y : LY}
theorem dX5_readPhase_0 : decode cX5_readPhase 0 = .ok (.aload_n 1, 1) := by decide +kernel
theorem dX5_readPhase_1 : decode cX5_readPhase 1 = .ok (.getfield 89, 3) := by decide +kernel
theorem dX5_readPhase_4 : decode cX5_readPhase 4 = .ok (.ifCond .eq 5, 3) := by decide +kernel
theorem dX5_readPhase_7 : decode cX5_readPhase 7 = .ok (.iconst 0, 1) := by decide +kernel
theorem dX5_readPhase_8 : decode cX5_readPhase 8 = .ok (.ireturn, 1) := by decide +kernel
theorem dX5_readPhase_9 : decode cX5_readPhase 9 = .ok (.aload_n 0, 1) := by decide +kernel
theorem dX5_readPhase_10 : decode cX5_readPhase 10 = .ok (.invokevirtual 27, 3) := by decide +kernel
theorem dX5_readPhase_13 : decode cX5_readPhase 13 = .ok (.aload_n 0, 1) := by decide +kernel
theorem dX5_readPhase_14 : decode cX5_readPhase 14 = .ok (.iconst 0, 1) := by decide +kernel
theorem dX5_readPhase_15 : decode cX5_readPhase 15 = .ok (.bipush 15, 2) := by decide +kernel
theorem dX5_readPhase_17 : decode cX5_readPhase 17 = .ok (.invokevirtual 58, 3) := by decide +kernel
theorem dX5_readPhase_20 : decode cX5_readPhase 20 = .ok (.ifCond .ne 5, 3) := by decide +kernel
theorem dX5_readPhase_23 : decode cX5_readPhase 23 = .ok (.iconst 0, 1) := by decide +kernel
theorem dX5_readPhase_24 : decode cX5_readPhase 24 = .ok (.ireturn, 1) := by decide +kernel
theorem dX5_readPhase_25 : decode cX5_readPhase 25 = .ok (.aload_n 1, 1) := by decide +kernel
theorem dX5_readPhase_26 : decode cX5_readPhase 26 = .ok (.aload_n 0, 1) := by decide +kernel
theorem dX5_readPhase_27 : decode cX5_readPhase 27 = .ok (.getfield 66, 3) := by decide +kernel
theorem dX5_readPhase_30 : decode cX5_readPhase 30 = .ok (.putfield 93, 3) := by decide +kernel
theorem dX5_readPhase_33 : decode cX5_readPhase 33 = .ok (.aload_n 1, 1) := by decide +kernel
theorem dX5_readPhase_34 : decode cX5_readPhase 34 = .ok (.iconst 1, 1) := by decide +kernel
theorem dX5_readPhase_35 : decode cX5_readPhase 35 = .ok (.putfield 89, 3) := by decide +kernel
theorem dX5_readPhase_38 : decode cX5_readPhase 38 = .ok (.aload_n 0, 1) := by decide +kernel
theorem dX5_readPhase_39 : decode cX5_readPhase 39 = .ok (.invokevirtual 72, 3) := by decide +kernel
theorem dX5_readPhase_42 : decode cX5_readPhase 42 = .ok (.ireturn, 1) := by decide +kernel
def wX5_readPhase (σ : St) (Q : Int32 → St → Prop) : Prop :=
  (((σ.1 9 9) = 0 → wX5_advance σ (fun σ2 => wX5_readNumber 0 15 σ2 (fun r4 σ3 => ((r4 = 0 → Q 0 σ3) ∧ (¬ r4 = 0 → (∀ σ6 : St, σ6 = up σ3 9 7 (σ3.1 2 5) → (∀ σ7 : St, σ7 = up σ6 9 9 1 → wX5_readItemEnd σ7 (fun r9 σ8 => ((r9 = 0 ∨ r9 = 1) ∧ Q r9 σ8))))))))) ∧ (¬ (σ.1 9 9) = 0 → Q 0 σ))
set_option maxHeartbeats 4000000 in
set_option maxRecDepth 100000 in
theorem tX5_readPhase_E {Q : Int32 → St → Prop} (M : MC p s m args meth c cX5_readPhase 2 (some .boolean) RX5 Y) (hN : yN Y = 108)  (σ : St) (H : Heap) (locs : List Loc) (ls : Array Slot) (hw : WS Y (AD Y) s.heap σ H locs) (hl : lv_has ls 2 [(0, .ref (yA Y 2)), (1, .ref (yA Y 9))]) (h : wX5_readPhase σ Q) : W p l e { frames := 3, cells := 0, slots := 0, locals := 61 } s m args below meth c H locs 0 0 (MQ below (QI Y Q) args s 0 0 (AD Y)) (F0 m 0 ls []) := by
  obtain ⟨hx, hb, hr, hml, hown, hlk, hT, hK, hB⟩ := id M
  unfold wX5_readPhase at h
  refine lv_aload_n hx hb dX5_readPhase_0 rfl (lv_at hl 1 rfl) ?_
  refine q_get (v := .int (σ.1 9 9)) M hw (ph_ob (ph_9 hN)) rfl inq_3 9 (by decide) tw_131 rfl dX5_readPhase_1 ?_
  refine lv_if_eq (tgt := 9) hx hb dX5_readPhase_4 (by decide) (fun c1 => ?_) (fun c1 => ?_)
  · have h := h.1 c1
    refine lv_aload_n hx hb dX5_readPhase_9 rfl (lv_at hl 0 rfl) ?_
    refine q_goV hw (q_runV (rest := []) M hw (ctX5_advance l hB hN σ _ h) mbX5_advance (ob_2 hN) rfl tw_315 rfl hl.1 rfl (Nat.le_of_ble_eq_true rfl) ⟨Nat.le_of_ble_eq_true rfl, Nat.le_of_ble_eq_true rfl⟩ ⟨Nat.le_refl _, Nat.le_refl _⟩ dX5_readPhase_10) (fun σ2 H locs h hw => ?_)
    refine lv_aload_n hx hb dX5_readPhase_13 rfl (lv_at hl 0 rfl) ?_
    refine lv_iconst (v := 0) hx hb dX5_readPhase_14 (by decide) ?_
    refine lv_bipush (v := 15) hx hb dX5_readPhase_15 (by decide) ?_
    refine q_goI hw (q_runV (rest := []) M hw (ctX5_readNumber l hB hN 0 15 σ2 _ h) mbX5_readNumber (ob_2 hN) rfl tw_331 rfl hl.1 rfl (Nat.le_of_ble_eq_true rfl) ⟨Nat.le_of_ble_eq_true rfl, Nat.le_of_ble_eq_true rfl⟩ ⟨Nat.le_refl _, Nat.le_refl _⟩ dX5_readPhase_17) (fun r4 σ3 H locs h hw => ?_)
    refine lv_if_ne (tgt := 25) hx hb dX5_readPhase_20 (by decide) (fun c5 => ?_) (fun c5 => ?_)
    · have h := h.2 c5
      refine lv_aload_n hx hb dX5_readPhase_25 rfl (lv_at hl 1 rfl) ?_
      refine lv_aload_n hx hb dX5_readPhase_26 rfl (lv_at hl 0 rfl) ?_
      refine q_get (v := .int (σ3.1 2 5)) M hw (ob_2 hN) rfl inq_5 5 (by decide) tw_78 rfl dX5_readPhase_27 ?_
      refine q_put (v := (σ3.1 2 5)) M hw (ph_ob (ph_9 hN)) rfl inq_3 tyX3 tyX3_ok nmX3 7 (by decide) tw_124 rfl rfl rfl (Nat.le_of_ble_eq_true rfl) (by simp [up, upd, f0]) dX5_readPhase_30 (fun σ6 H locs es hw => ?_)
      have h := h σ6 es
      refine lv_aload_n hx hb dX5_readPhase_33 rfl (lv_at hl 1 rfl) ?_
      refine lv_iconst (v := 1) hx hb dX5_readPhase_34 (by decide) ?_
      refine q_put (v := 1) M hw (ph_ob (ph_9 hN)) rfl inq_3 tyX3 tyX3_ok nmX3 9 (by decide) tw_131 rfl (by decide) rfl (Nat.le_of_ble_eq_true rfl) (by simp [up, upd, f0]) dX5_readPhase_35 (fun σ7 H locs es hw => ?_)
      have h := h σ7 es
      refine lv_aload_n hx hb dX5_readPhase_38 rfl (lv_at hl 0 rfl) ?_
      refine q_goI hw (q_runV (rest := []) M hw (ctX5_readItemEnd l hB hN σ7 _ h) mbX5_readItemEnd (ob_2 hN) rfl tw_335 rfl hl.1 rfl (Nat.le_of_ble_eq_true rfl) ⟨Nat.le_of_ble_eq_true rfl, Nat.le_of_ble_eq_true rfl⟩ ⟨Nat.le_refl _, Nat.le_refl _⟩ dX5_readPhase_39) (fun r9 σ8 H locs h hw => ?_)
      exact q_zret M hw (nar01 h.1) h.2 dX5_readPhase_42
    · have h := h.1 c5
      refine lv_iconst (v := 0) hx hb dX5_readPhase_23 (by decide) ?_
      exact q_zret M hw (by decide) h dX5_readPhase_24
  · have h := h.2 c1
    refine lv_iconst (v := 0) hx hb dX5_readPhase_7 (by decide) ?_
    exact q_zret M hw (by decide) h dX5_readPhase_8
set_option maxRecDepth 100000 in
theorem ctX5_readPhase (l : Launch) {Y : LY} (hB : YB Y) (hN : yN Y = 108) (σ : St) (Q : Int32 → St → Prop) (h : wX5_readPhase σ Q) : CT l yX5_readPhase (Cond.code yX5_readPhase cX5_readPhase 2 (some .boolean)) { frames := 3, cells := 0, slots := 0, locals := 61 } Y [.ref (yA Y 2), .ref (yA Y 9)] σ (QI Y Q) :=
  q_ent hB (by decide +kernel) (Nat.le_of_ble_eq_true rfl) (fun p e s m below meth c ls M hw hl => tX5_readPhase_E M hN σ _ _ ls hw hl h)
theorem mbX5_readPhase : MB RX5 yX5_readPhase cX5_readPhase 1 2 (some .boolean) := ⟨tw_349, tw_8, tw_50, tw_350, by decide +kernel⟩
end
section
variable {p : Program} {l : Launch} {e : Env} {s : State} {m : MethodId} {args : Array Value} {below : List Frame} {meth : Method} {c : Code} {Y : LY}
theorem dX5_readStrip_0 : decode cX5_readStrip 0 = .ok (.aload_n 1, 1) := by decide +kernel
theorem dX5_readStrip_1 : decode cX5_readStrip 1 = .ok (.getfield 76, 3) := by decide +kernel
theorem dX5_readStrip_4 : decode cX5_readStrip 4 = .ok (.istore_n 2, 1) := by decide +kernel
theorem dX5_readStrip_5 : decode cX5_readStrip 5 = .ok (.iload_n 2, 1) := by decide +kernel
theorem dX5_readStrip_6 : decode cX5_readStrip 6 = .ok (.bipush 7, 2) := by decide +kernel
theorem dX5_readStrip_8 : decode cX5_readStrip 8 = .ok (.if_icmp .lt 5, 3) := by decide +kernel
theorem dX5_readStrip_11 : decode cX5_readStrip 11 = .ok (.iconst 0, 1) := by decide +kernel
theorem dX5_readStrip_12 : decode cX5_readStrip 12 = .ok (.ireturn, 1) := by decide +kernel
theorem dX5_readStrip_13 : decode cX5_readStrip 13 = .ok (.aload_n 0, 1) := by decide +kernel
theorem dX5_readStrip_14 : decode cX5_readStrip 14 = .ok (.invokevirtual 27, 3) := by decide +kernel
theorem dX5_readStrip_17 : decode cX5_readStrip 17 = .ok (.aload_n 0, 1) := by decide +kernel
theorem dX5_readStrip_18 : decode cX5_readStrip 18 = .ok (.iconst 0, 1) := by decide +kernel
theorem dX5_readStrip_19 : decode cX5_readStrip 19 = .ok (.aload_n 1, 1) := by decide +kernel
theorem dX5_readStrip_20 : decode cX5_readStrip 20 = .ok (.getfield 55, 3) := by decide +kernel
theorem dX5_readStrip_23 : decode cX5_readStrip 23 = .ok (.iconst 1, 1) := by decide +kernel
theorem dX5_readStrip_24 : decode cX5_readStrip 24 = .ok (.isub, 1) := by decide +kernel
theorem dX5_readStrip_25 : decode cX5_readStrip 25 = .ok (.invokevirtual 58, 3) := by decide +kernel
theorem dX5_readStrip_28 : decode cX5_readStrip 28 = .ok (.ifCond .ne 5, 3) := by decide +kernel
theorem dX5_readStrip_31 : decode cX5_readStrip 31 = .ok (.iconst 0, 1) := by decide +kernel
theorem dX5_readStrip_32 : decode cX5_readStrip 32 = .ok (.ireturn, 1) := by decide +kernel
theorem dX5_readStrip_33 : decode cX5_readStrip 33 = .ok (.aload_n 1, 1) := by decide +kernel
theorem dX5_readStrip_34 : decode cX5_readStrip 34 = .ok (.getfield 79, 3) := by decide +kernel
theorem dX5_readStrip_37 : decode cX5_readStrip 37 = .ok (.iload_n 2, 1) := by decide +kernel
theorem dX5_readStrip_38 : decode cX5_readStrip 38 = .ok (.aload_n 0, 1) := by decide +kernel
theorem dX5_readStrip_39 : decode cX5_readStrip 39 = .ok (.getfield 66, 3) := by decide +kernel
theorem dX5_readStrip_42 : decode cX5_readStrip 42 = .ok (.iastore, 1) := by decide +kernel
theorem dX5_readStrip_43 : decode cX5_readStrip 43 = .ok (.aload_n 0, 1) := by decide +kernel
theorem dX5_readStrip_44 : decode cX5_readStrip 44 = .ok (.invokevirtual 27, 3) := by decide +kernel
theorem dX5_readStrip_47 : decode cX5_readStrip 47 = .ok (.aload_n 0, 1) := by decide +kernel
theorem dX5_readStrip_48 : decode cX5_readStrip 48 = .ok (.iconst 1, 1) := by decide +kernel
theorem dX5_readStrip_49 : decode cX5_readStrip 49 = .ok (.bipush 60, 2) := by decide +kernel
theorem dX5_readStrip_51 : decode cX5_readStrip 51 = .ok (.invokevirtual 58, 3) := by decide +kernel
theorem dX5_readStrip_54 : decode cX5_readStrip 54 = .ok (.ifCond .ne 5, 3) := by decide +kernel
theorem dX5_readStrip_57 : decode cX5_readStrip 57 = .ok (.iconst 0, 1) := by decide +kernel
theorem dX5_readStrip_58 : decode cX5_readStrip 58 = .ok (.ireturn, 1) := by decide +kernel
theorem dX5_readStrip_59 : decode cX5_readStrip 59 = .ok (.aload_n 1, 1) := by decide +kernel
theorem dX5_readStrip_60 : decode cX5_readStrip 60 = .ok (.getfield 82, 3) := by decide +kernel
theorem dX5_readStrip_63 : decode cX5_readStrip 63 = .ok (.iload_n 2, 1) := by decide +kernel
theorem dX5_readStrip_64 : decode cX5_readStrip 64 = .ok (.aload_n 0, 1) := by decide +kernel
theorem dX5_readStrip_65 : decode cX5_readStrip 65 = .ok (.getfield 66, 3) := by decide +kernel
theorem dX5_readStrip_68 : decode cX5_readStrip 68 = .ok (.iastore, 1) := by decide +kernel
theorem dX5_readStrip_69 : decode cX5_readStrip 69 = .ok (.aload_n 1, 1) := by decide +kernel
theorem dX5_readStrip_70 : decode cX5_readStrip 70 = .ok (.dup, 1) := by decide +kernel
theorem dX5_readStrip_71 : decode cX5_readStrip 71 = .ok (.getfield 76, 3) := by decide +kernel
theorem dX5_readStrip_74 : decode cX5_readStrip 74 = .ok (.iconst 1, 1) := by decide +kernel
theorem dX5_readStrip_75 : decode cX5_readStrip 75 = .ok (.iadd, 1) := by decide +kernel
theorem dX5_readStrip_76 : decode cX5_readStrip 76 = .ok (.putfield 76, 3) := by decide +kernel
theorem dX5_readStrip_79 : decode cX5_readStrip 79 = .ok (.aload_n 0, 1) := by decide +kernel
theorem dX5_readStrip_80 : decode cX5_readStrip 80 = .ok (.invokevirtual 72, 3) := by decide +kernel
theorem dX5_readStrip_83 : decode cX5_readStrip 83 = .ok (.ireturn, 1) := by decide +kernel
def wX5_readStrip (σ : St) (Q : Int32 → St → Prop) : Prop :=
  (∀ x1 : Int32, x1 = (σ.1 9 6) → ((x1 < 7 → wX5_advance σ (fun σ3 => wX5_readNumber 0 ((σ3.1 9 5) - 1) σ3 (fun r5 σ4 => ((r5 = 0 → Q 0 σ4) ∧ (¬ r5 = 0 → (vp_in x1 7 ∧ ∀ σ8 : St, σ8 = up σ4 12 x1.toNatClampNeg (σ4.1 2 5) → wX5_advance σ8 (fun σ9 => wX5_readNumber 1 60 σ9 (fun r11 σ10 => ((r11 = 0 → Q 0 σ10) ∧ (¬ r11 = 0 → (vp_in x1 7 ∧ ∀ σ14 : St, σ14 = up σ10 13 x1.toNatClampNeg (σ10.1 2 5) → (∀ σ15 : St, σ15 = up σ14 9 6 ((σ14.1 9 6) + 1) → wX5_readItemEnd σ15 (fun r17 σ16 => ((r17 = 0 ∨ r17 = 1) ∧ Q r17 σ16)))))))))))))) ∧ (¬ x1 < 7 → Q 0 σ)))
set_option maxHeartbeats 4000000 in
set_option maxRecDepth 100000 in
theorem tX5_readStrip_E {Q : Int32 → St → Prop} (M : MC p s m args meth c cX5_readStrip 3 (some .boolean) RX5 Y) (hN : yN Y = 108)  (σ : St) (H : Heap) (locs : List Loc) (ls : Array Slot) (hw : WS Y (AD Y) s.heap σ H locs) (hl : lv_has ls 3 [(0, .ref (yA Y 2)), (1, .ref (yA Y 9))]) (h : wX5_readStrip σ Q) : W p l e { frames := 3, cells := 0, slots := 0, locals := 61 } s m args below meth c H locs 0 0 (MQ below (QI Y Q) args s 0 0 (AD Y)) (F0 m 0 ls []) := by
  obtain ⟨hx, hb, hr, hml, hown, hlk, hT, hK, hB⟩ := id M
  unfold wX5_readStrip at h
  refine lv_aload_n hx hb dX5_readStrip_0 rfl (lv_at hl 1 rfl) ?_
  refine q_get (v := .int (σ.1 9 6)) M hw (ph_ob (ph_9 hN)) rfl inq_3 6 (by decide) tw_121 rfl dX5_readStrip_1 ?_
  refine lv_topi (fun x1 ex1 => ?_)
  have h := h x1 ex1
  refine lv_istore_n (lv' := [(2, .int x1), (0, .ref (yA Y 2)), (1, .ref (yA Y 9))]) hx hb dX5_readStrip_4 rfl hl (by decide) rfl (fun ls hl => ?_)
  refine lv_iload_n hx hb dX5_readStrip_5 rfl (lv_at hl 0 rfl) ?_
  refine lv_bipush (v := 7) hx hb dX5_readStrip_6 (by decide) ?_
  refine lv_icmp_lt (tgt := 13) hx hb dX5_readStrip_8 (by decide) (fun c2 => ?_) (fun c2 => ?_)
  · have h := h.1 c2
    refine lv_aload_n hx hb dX5_readStrip_13 rfl (lv_at hl 1 rfl) ?_
    refine q_goV hw (q_runV (rest := []) M hw (ctX5_advance l hB hN σ _ h) mbX5_advance (ob_2 hN) rfl tw_315 rfl hl.1 rfl (Nat.le_of_ble_eq_true rfl) ⟨Nat.le_of_ble_eq_true rfl, Nat.le_of_ble_eq_true rfl⟩ ⟨Nat.le_refl _, Nat.le_refl _⟩ dX5_readStrip_14) (fun σ3 H locs h hw => ?_)
    refine lv_aload_n hx hb dX5_readStrip_17 rfl (lv_at hl 1 rfl) ?_
    refine lv_iconst (v := 0) hx hb dX5_readStrip_18 (by decide) ?_
    refine lv_aload_n hx hb dX5_readStrip_19 rfl (lv_at hl 2 rfl) ?_
    refine q_get (v := .int (σ3.1 9 5)) M hw (ph_ob (ph_9 hN)) rfl inq_3 5 (by decide) tw_118 rfl dX5_readStrip_20 ?_
    refine lv_iconst (v := 1) hx hb dX5_readStrip_23 (by decide) ?_
    refine lv_isub hx hb dX5_readStrip_24 ?_
    refine q_goI hw (q_runV (rest := []) M hw (ctX5_readNumber l hB hN 0 ((σ3.1 9 5) - 1) σ3 _ h) mbX5_readNumber (ob_2 hN) rfl tw_331 rfl hl.1 rfl (Nat.le_of_ble_eq_true rfl) ⟨Nat.le_of_ble_eq_true rfl, Nat.le_of_ble_eq_true rfl⟩ ⟨Nat.le_refl _, Nat.le_refl _⟩ dX5_readStrip_25) (fun r5 σ4 H locs h hw => ?_)
    refine lv_if_ne (tgt := 33) hx hb dX5_readStrip_28 (by decide) (fun c6 => ?_) (fun c6 => ?_)
    · have h := h.2 c6
      refine lv_aload_n hx hb dX5_readStrip_33 rfl (lv_at hl 2 rfl) ?_
      refine q_get (v := .ref (yA Y 12)) M hw (ph_ob (ph_9 hN)) rfl inq_3 2 (by decide) tw_107 rfl dX5_readStrip_34 ?_
      refine lv_iload_n hx hb dX5_readStrip_37 rfl (lv_at hl 0 rfl) ?_
      refine lv_aload_n hx hb dX5_readStrip_38 rfl (lv_at hl 1 rfl) ?_
      refine q_get (v := .int (σ4.1 2 5)) M hw (ob_2 hN) rfl inq_5 5 (by decide) tw_78 rfl dX5_readStrip_39 ?_
      have c7 := h.1
      refine q_ist M hw (ar_12 hN) c7 dX5_readStrip_42 (fun σ8 H locs es hw => ?_)
      have h := h.2 σ8 es
      refine lv_aload_n hx hb dX5_readStrip_43 rfl (lv_at hl 1 rfl) ?_
      refine q_goV hw (q_runV (rest := []) M hw (ctX5_advance l hB hN σ8 _ h) mbX5_advance (ob_2 hN) rfl tw_315 rfl hl.1 rfl (Nat.le_of_ble_eq_true rfl) ⟨Nat.le_of_ble_eq_true rfl, Nat.le_of_ble_eq_true rfl⟩ ⟨Nat.le_refl _, Nat.le_refl _⟩ dX5_readStrip_44) (fun σ9 H locs h hw => ?_)
      refine lv_aload_n hx hb dX5_readStrip_47 rfl (lv_at hl 1 rfl) ?_
      refine lv_iconst (v := 1) hx hb dX5_readStrip_48 (by decide) ?_
      refine lv_bipush (v := 60) hx hb dX5_readStrip_49 (by decide) ?_
      refine q_goI hw (q_runV (rest := []) M hw (ctX5_readNumber l hB hN 1 60 σ9 _ h) mbX5_readNumber (ob_2 hN) rfl tw_331 rfl hl.1 rfl (Nat.le_of_ble_eq_true rfl) ⟨Nat.le_of_ble_eq_true rfl, Nat.le_of_ble_eq_true rfl⟩ ⟨Nat.le_refl _, Nat.le_refl _⟩ dX5_readStrip_51) (fun r11 σ10 H locs h hw => ?_)
      refine lv_if_ne (tgt := 59) hx hb dX5_readStrip_54 (by decide) (fun c12 => ?_) (fun c12 => ?_)
      · have h := h.2 c12
        refine lv_aload_n hx hb dX5_readStrip_59 rfl (lv_at hl 2 rfl) ?_
        refine q_get (v := .ref (yA Y 13)) M hw (ph_ob (ph_9 hN)) rfl inq_3 3 (by decide) tw_110 rfl dX5_readStrip_60 ?_
        refine lv_iload_n hx hb dX5_readStrip_63 rfl (lv_at hl 0 rfl) ?_
        refine lv_aload_n hx hb dX5_readStrip_64 rfl (lv_at hl 1 rfl) ?_
        refine q_get (v := .int (σ10.1 2 5)) M hw (ob_2 hN) rfl inq_5 5 (by decide) tw_78 rfl dX5_readStrip_65 ?_
        have c13 := h.1
        refine q_ist M hw (ar_13 hN) c13 dX5_readStrip_68 (fun σ14 H locs es hw => ?_)
        have h := h.2 σ14 es
        refine lv_aload_n hx hb dX5_readStrip_69 rfl (lv_at hl 2 rfl) ?_
        refine lv_dup hx hb dX5_readStrip_70 rfl ?_
        refine q_get (v := .int (σ14.1 9 6)) M hw (ph_ob (ph_9 hN)) rfl inq_3 6 (by decide) tw_121 rfl dX5_readStrip_71 ?_
        refine lv_iconst (v := 1) hx hb dX5_readStrip_74 (by decide) ?_
        refine lv_iadd hx hb dX5_readStrip_75 ?_
        refine q_put (v := ((σ14.1 9 6) + 1)) M hw (ph_ob (ph_9 hN)) rfl inq_3 tyX3 tyX3_ok nmX3 6 (by decide) tw_121 rfl rfl rfl (Nat.le_of_ble_eq_true rfl) (by simp [up, upd, f0]) dX5_readStrip_76 (fun σ15 H locs es hw => ?_)
        have h := h σ15 es
        refine lv_aload_n hx hb dX5_readStrip_79 rfl (lv_at hl 1 rfl) ?_
        refine q_goI hw (q_runV (rest := []) M hw (ctX5_readItemEnd l hB hN σ15 _ h) mbX5_readItemEnd (ob_2 hN) rfl tw_335 rfl hl.1 rfl (Nat.le_of_ble_eq_true rfl) ⟨Nat.le_of_ble_eq_true rfl, Nat.le_of_ble_eq_true rfl⟩ ⟨Nat.le_refl _, Nat.le_refl _⟩ dX5_readStrip_80) (fun r17 σ16 H locs h hw => ?_)
        exact q_zret M hw (nar01 h.1) h.2 dX5_readStrip_83
      · have h := h.1 c12
        refine lv_iconst (v := 0) hx hb dX5_readStrip_57 (by decide) ?_
        exact q_zret M hw (by decide) h dX5_readStrip_58
    · have h := h.1 c6
      refine lv_iconst (v := 0) hx hb dX5_readStrip_31 (by decide) ?_
      exact q_zret M hw (by decide) h dX5_readStrip_32
  · have h := h.2 c2
    refine lv_iconst (v := 0) hx hb dX5_readStrip_11 (by decide) ?_
    exact q_zret M hw (by decide) h dX5_readStrip_12
set_option maxRecDepth 100000 in
theorem ctX5_readStrip (l : Launch) {Y : LY} (hB : YB Y) (hN : yN Y = 108) (σ : St) (Q : Int32 → St → Prop) (h : wX5_readStrip σ Q) : CT l yX5_readStrip (Cond.code yX5_readStrip cX5_readStrip 3 (some .boolean)) { frames := 3, cells := 0, slots := 0, locals := 61 } Y [.ref (yA Y 2), .ref (yA Y 9)] σ (QI Y Q) :=
  q_ent hB (by decide +kernel) (Nat.le_of_ble_eq_true rfl) (fun p e s m below meth c ls M hw hl => tX5_readStrip_E M hN σ _ _ ls hw hl h)
theorem mbX5_readStrip : MB RX5 yX5_readStrip cX5_readStrip 1 3 (some .boolean) := ⟨tw_341, tw_6, tw_50, tw_342, by decide +kernel⟩
end
section
variable {p : Program} {l : Launch} {e : Env} {s : State} {m : MethodId} {args : Array Value} {below : List Frame} {meth : Method} {c : Code} {Y : LY}
theorem dX5_readItem_0 : decode cX5_readItem 0 = .ok (.aload_n 0, 1) := by decide +kernel
theorem dX5_readItem_1 : decode cX5_readItem 1 = .ok (.getfield 30, 3) := by decide +kernel
theorem dX5_readItem_4 : decode cX5_readItem 4 = .ok (.lookupswitch 82 #[(99, 64), (101, 76), (102, 52), (109, 70), (115, 58)], 52) := by decide +kernel
theorem dX5_readItem_56 : decode cX5_readItem 56 = .ok (.aload_n 0, 1) := by decide +kernel
theorem dX5_readItem_57 : decode cX5_readItem 57 = .ok (.aload_n 1, 1) := by decide +kernel
theorem dX5_readItem_58 : decode cX5_readItem 58 = .ok (.invokevirtual 40, 3) := by decide +kernel
theorem dX5_readItem_61 : decode cX5_readItem 61 = .ok (.ireturn, 1) := by decide +kernel
theorem dX5_readItem_62 : decode cX5_readItem 62 = .ok (.aload_n 0, 1) := by decide +kernel
theorem dX5_readItem_63 : decode cX5_readItem 63 = .ok (.aload_n 1, 1) := by decide +kernel
theorem dX5_readItem_64 : decode cX5_readItem 64 = .ok (.invokevirtual 43, 3) := by decide +kernel
theorem dX5_readItem_67 : decode cX5_readItem 67 = .ok (.ireturn, 1) := by decide +kernel
theorem dX5_readItem_68 : decode cX5_readItem 68 = .ok (.aload_n 0, 1) := by decide +kernel
theorem dX5_readItem_69 : decode cX5_readItem 69 = .ok (.aload_n 1, 1) := by decide +kernel
theorem dX5_readItem_70 : decode cX5_readItem 70 = .ok (.invokevirtual 46, 3) := by decide +kernel
theorem dX5_readItem_73 : decode cX5_readItem 73 = .ok (.ireturn, 1) := by decide +kernel
theorem dX5_readItem_74 : decode cX5_readItem 74 = .ok (.aload_n 0, 1) := by decide +kernel
theorem dX5_readItem_75 : decode cX5_readItem 75 = .ok (.aload_n 1, 1) := by decide +kernel
theorem dX5_readItem_76 : decode cX5_readItem 76 = .ok (.invokevirtual 49, 3) := by decide +kernel
theorem dX5_readItem_79 : decode cX5_readItem 79 = .ok (.ireturn, 1) := by decide +kernel
theorem dX5_readItem_80 : decode cX5_readItem 80 = .ok (.aload_n 0, 1) := by decide +kernel
theorem dX5_readItem_81 : decode cX5_readItem 81 = .ok (.aload_n 1, 1) := by decide +kernel
theorem dX5_readItem_82 : decode cX5_readItem 82 = .ok (.invokevirtual 52, 3) := by decide +kernel
theorem dX5_readItem_85 : decode cX5_readItem 85 = .ok (.ireturn, 1) := by decide +kernel
theorem dX5_readItem_86 : decode cX5_readItem 86 = .ok (.iconst 0, 1) := by decide +kernel
theorem dX5_readItem_87 : decode cX5_readItem 87 = .ok (.ireturn, 1) := by decide +kernel
def wX5_readItem (σ : St) (Q : Int32 → St → Prop) : Prop :=
  (∀ x1 : Int32, x1 = (σ.1 2 3) → ((x1 = 99 → wX5_readCloud σ (fun r4 σ3 => ((r4 = 0 ∨ r4 = 1) ∧ Q r4 σ3))) ∧ (¬ x1 = 99 → ((x1 = 101 → wX5_readEaster σ (fun r7 σ6 => ((r7 = 0 ∨ r7 = 1) ∧ Q r7 σ6))) ∧ (¬ x1 = 101 → ((x1 = 102 → wX5_readFarmer σ (fun r10 σ9 => ((r10 = 0 ∨ r10 = 1) ∧ Q r10 σ9))) ∧ (¬ x1 = 102 → ((x1 = 109 → wX5_readPhase σ (fun r13 σ12 => ((r13 = 0 ∨ r13 = 1) ∧ Q r13 σ12))) ∧ (¬ x1 = 109 → ((x1 = 115 → wX5_readStrip σ (fun r16 σ15 => ((r16 = 0 ∨ r16 = 1) ∧ Q r16 σ15))) ∧ (¬ x1 = 115 → Q 0 σ)))))))))))
set_option maxHeartbeats 4000000 in
set_option maxRecDepth 100000 in
theorem tX5_readItem_E {Q : Int32 → St → Prop} (M : MC p s m args meth c cX5_readItem 2 (some .boolean) RX5 Y) (hN : yN Y = 108)  (σ : St) (H : Heap) (locs : List Loc) (ls : Array Slot) (hw : WS Y (AD Y) s.heap σ H locs) (hl : lv_has ls 2 [(0, .ref (yA Y 2)), (1, .ref (yA Y 9))]) (h : wX5_readItem σ Q) : W p l e { frames := 4, cells := 0, slots := 0, locals := 83 } s m args below meth c H locs 0 0 (MQ below (QI Y Q) args s 0 0 (AD Y)) (F0 m 0 ls []) := by
  obtain ⟨hx, hb, hr, hml, hown, hlk, hT, hK, hB⟩ := id M
  unfold wX5_readItem at h
  refine lv_aload_n hx hb dX5_readItem_0 rfl (lv_at hl 0 rfl) ?_
  refine q_get (v := .int (σ.1 2 3)) M hw (ob_2 hN) rfl inq_5 3 (by decide) tw_76 rfl dX5_readItem_1 ?_
  refine lv_topi (fun x1 ex1 => ?_)
  have h := h x1 ex1
  by_cases c2 : x1 = 99
  · have h := h.1 c2
    refine lv_lookup (tgt := 68) hx hb dX5_readItem_4 (by decide) (by rw [c2]; first | done | rfl) (by decide) ?_
    refine lv_aload_n hx hb dX5_readItem_68 rfl (lv_at hl 0 rfl) ?_
    refine lv_aload_n hx hb dX5_readItem_69 rfl (lv_at hl 1 rfl) ?_
    refine q_goI hw (q_runV (rest := []) M hw (ctX5_readCloud l hB hN σ _ h) mbX5_readCloud (ob_2 hN) rfl tw_343 rfl hl.1 rfl (Nat.le_of_ble_eq_true rfl) ⟨Nat.le_of_ble_eq_true rfl, Nat.le_of_ble_eq_true rfl⟩ ⟨Nat.le_refl _, Nat.le_refl _⟩ dX5_readItem_70) (fun r4 σ3 H locs h hw => ?_)
    exact q_zret M hw (nar01 h.1) h.2 dX5_readItem_73
  · have h := h.2 c2
    by_cases c5 : x1 = 101
    · have h := h.1 c5
      refine lv_lookup (tgt := 80) hx hb dX5_readItem_4 (by decide) (by rw [c5]; first | done | rfl) (by decide) ?_
      refine lv_aload_n hx hb dX5_readItem_80 rfl (lv_at hl 0 rfl) ?_
      refine lv_aload_n hx hb dX5_readItem_81 rfl (lv_at hl 1 rfl) ?_
      refine q_goI hw (q_runV (rest := []) M hw (ctX5_readEaster l hB hN σ _ h) mbX5_readEaster (ob_2 hN) rfl tw_351 rfl hl.1 rfl (Nat.le_of_ble_eq_true rfl) ⟨Nat.le_of_ble_eq_true rfl, Nat.le_of_ble_eq_true rfl⟩ ⟨Nat.le_refl _, Nat.le_refl _⟩ dX5_readItem_82) (fun r7 σ6 H locs h hw => ?_)
      exact q_zret M hw (nar01 h.1) h.2 dX5_readItem_85
    · have h := h.2 c5
      by_cases c8 : x1 = 102
      · have h := h.1 c8
        refine lv_lookup (tgt := 56) hx hb dX5_readItem_4 (by decide) (by rw [c8]; first | done | rfl) (by decide) ?_
        refine lv_aload_n hx hb dX5_readItem_56 rfl (lv_at hl 0 rfl) ?_
        refine lv_aload_n hx hb dX5_readItem_57 rfl (lv_at hl 1 rfl) ?_
        refine q_goI hw (q_runV (rest := []) M hw (ctX5_readFarmer l hB hN σ _ h) mbX5_readFarmer (ob_2 hN) rfl tw_327 rfl hl.1 rfl (Nat.le_of_ble_eq_true rfl) ⟨Nat.le_of_ble_eq_true rfl, Nat.le_of_ble_eq_true rfl⟩ ⟨Nat.le_refl _, Nat.le_refl _⟩ dX5_readItem_58) (fun r10 σ9 H locs h hw => ?_)
        exact q_zret M hw (nar01 h.1) h.2 dX5_readItem_61
      · have h := h.2 c8
        by_cases c11 : x1 = 109
        · have h := h.1 c11
          refine lv_lookup (tgt := 74) hx hb dX5_readItem_4 (by decide) (by rw [c11]; first | done | rfl) (by decide) ?_
          refine lv_aload_n hx hb dX5_readItem_74 rfl (lv_at hl 0 rfl) ?_
          refine lv_aload_n hx hb dX5_readItem_75 rfl (lv_at hl 1 rfl) ?_
          refine q_goI hw (q_runV (rest := []) M hw (ctX5_readPhase l hB hN σ _ h) mbX5_readPhase (ob_2 hN) rfl tw_347 rfl hl.1 rfl (Nat.le_of_ble_eq_true rfl) ⟨Nat.le_of_ble_eq_true rfl, Nat.le_of_ble_eq_true rfl⟩ ⟨Nat.le_refl _, Nat.le_refl _⟩ dX5_readItem_76) (fun r13 σ12 H locs h hw => ?_)
          exact q_zret M hw (nar01 h.1) h.2 dX5_readItem_79
        · have h := h.2 c11
          by_cases c14 : x1 = 115
          · have h := h.1 c14
            refine lv_lookup (tgt := 62) hx hb dX5_readItem_4 (by decide) (by rw [c14]; first | done | rfl) (by decide) ?_
            refine lv_aload_n hx hb dX5_readItem_62 rfl (lv_at hl 0 rfl) ?_
            refine lv_aload_n hx hb dX5_readItem_63 rfl (lv_at hl 1 rfl) ?_
            refine q_goI hw (q_runV (rest := []) M hw (ctX5_readStrip l hB hN σ _ h) mbX5_readStrip (ob_2 hN) rfl tw_339 rfl hl.1 rfl (Nat.le_of_ble_eq_true rfl) ⟨Nat.le_of_ble_eq_true rfl, Nat.le_of_ble_eq_true rfl⟩ ⟨Nat.le_refl _, Nat.le_refl _⟩ dX5_readItem_64) (fun r16 σ15 H locs h hw => ?_)
            exact q_zret M hw (nar01 h.1) h.2 dX5_readItem_67
          · have h := h.2 c14
            refine lv_lookup (tgt := 86) hx hb dX5_readItem_4 (by decide) (off := 82) (by show Op.lookupswitch.offset [(99, 64), (101, 76), (102, 52), (109, 70), (115, 58)] 82 x1.toInt = 82; rw [lv_osw (k := 99) c2 (by decide), lv_osw (k := 101) c5 (by decide), lv_osw (k := 102) c8 (by decide), lv_osw (k := 109) c11 (by decide), lv_osw (k := 115) c14 (by decide)]; first | done | rfl) (by decide) ?_
            refine lv_iconst (v := 0) hx hb dX5_readItem_86 (by decide) ?_
            exact q_zret M hw (by decide) h dX5_readItem_87
set_option maxRecDepth 100000 in
theorem ctX5_readItem (l : Launch) {Y : LY} (hB : YB Y) (hN : yN Y = 108) (σ : St) (Q : Int32 → St → Prop) (h : wX5_readItem σ Q) : CT l yX5_readItem (Cond.code yX5_readItem cX5_readItem 2 (some .boolean)) { frames := 4, cells := 0, slots := 0, locals := 83 } Y [.ref (yA Y 2), .ref (yA Y 9)] σ (QI Y Q) :=
  q_ent hB (by decide +kernel) (Nat.le_of_ble_eq_true rfl) (fun p e s m below meth c ls M hw hl => tX5_readItem_E M hN σ _ _ ls hw hl h)
theorem mbX5_readItem : MB RX5 yX5_readItem cX5_readItem 1 2 (some .boolean) := ⟨tw_325, tw_2, tw_50, tw_326, by decide +kernel⟩
end
section
variable {p : Program} {l : Launch} {e : Env} {s : State} {m : MethodId} {args : Array Value} {below : List Frame} {meth : Method} {c : Code} {Y : LY}
theorem dX5_read_0 : decode cX5_read 0 = .ok (.aload_n 0, 1) := by decide +kernel
theorem dX5_read_1 : decode cX5_read 1 = .ok (.iconst 0, 1) := by decide +kernel
theorem dX5_read_2 : decode cX5_read 2 = .ok (.putfield 19, 3) := by decide +kernel
theorem dX5_read_5 : decode cX5_read 5 = .ok (.aload_n 1, 1) := by decide +kernel
theorem dX5_read_6 : decode cX5_read 6 = .ok (.invokevirtual 22, 3) := by decide +kernel
theorem dX5_read_9 : decode cX5_read 9 = .ok (.aload_n 0, 1) := by decide +kernel
theorem dX5_read_10 : decode cX5_read 10 = .ok (.invokevirtual 27, 3) := by decide +kernel
theorem dX5_read_13 : decode cX5_read 13 = .ok (.iconst 0, 1) := by decide +kernel
theorem dX5_read_14 : decode cX5_read 14 = .ok (.istore_n 2, 1) := by decide +kernel
theorem dX5_read_15 : decode cX5_read 15 = .ok (.iload_n 2, 1) := by decide +kernel
theorem dX5_read_16 : decode cX5_read 16 = .ok (.aload_n 0, 1) := by decide +kernel
theorem dX5_read_17 : decode cX5_read 17 = .ok (.getfield 15, 3) := by decide +kernel
theorem dX5_read_20 : decode cX5_read 20 = .ok (.if_icmp .gt 33, 3) := by decide +kernel
theorem dX5_read_23 : decode cX5_read 23 = .ok (.aload_n 0, 1) := by decide +kernel
theorem dX5_read_24 : decode cX5_read 24 = .ok (.getfield 30, 3) := by decide +kernel
theorem dX5_read_27 : decode cX5_read 27 = .ok (.iconst (-1), 1) := by decide +kernel
theorem dX5_read_28 : decode cX5_read 28 = .ok (.if_icmp .eq 25, 3) := by decide +kernel
theorem dX5_read_31 : decode cX5_read 31 = .ok (.aload_n 0, 1) := by decide +kernel
theorem dX5_read_32 : decode cX5_read 32 = .ok (.aload_n 1, 1) := by decide +kernel
theorem dX5_read_33 : decode cX5_read 33 = .ok (.invokevirtual 33, 3) := by decide +kernel
theorem dX5_read_36 : decode cX5_read 36 = .ok (.ifCond .ne 11, 3) := by decide +kernel
theorem dX5_read_39 : decode cX5_read 39 = .ok (.bipush (-10), 2) := by decide +kernel
theorem dX5_read_41 : decode cX5_read 41 = .ok (.aload_n 0, 1) := by decide +kernel
theorem dX5_read_42 : decode cX5_read 42 = .ok (.getfield 37, 3) := by decide +kernel
theorem dX5_read_45 : decode cX5_read 45 = .ok (.isub, 1) := by decide +kernel
theorem dX5_read_46 : decode cX5_read 46 = .ok (.ireturn, 1) := by decide +kernel
theorem dX5_read_47 : decode cX5_read 47 = .ok (.iinc 2 1, 3) := by decide +kernel
theorem dX5_read_50 : decode cX5_read 50 = .ok (.goto (-35), 3) := by decide +kernel
theorem dX5_read_53 : decode cX5_read 53 = .ok (.iload_n 2, 1) := by decide +kernel
theorem dX5_read_54 : decode cX5_read 54 = .ok (.ireturn, 1) := by decide +kernel
def bX5_read_15 (R_15 : Int32 × St → Prop) (y2 : Int32) (σ : St) (Q : Int32 → St → Prop) : Prop :=
  (((σ.1 2 1) < y2 → Q y2 σ) ∧ (¬ (σ.1 2 1) < y2 → (((σ.1 2 3) = (-1) → Q y2 σ) ∧ (¬ (σ.1 2 3) = (-1) → wX5_readItem σ (fun r4 σ3 => ((r4 = 0 → Q ((-10) - (σ3.1 2 4)) σ3) ∧ (¬ r4 = 0 → (∀ x6 : Int32, x6 = y2 + 1 → R_15 (x6, σ3)))))))))
set_option maxHeartbeats 4000000 in
set_option maxRecDepth 100000 in
theorem tX5_read_15 {R_15 : Int32 × St → Prop} {Q : Int32 → St → Prop} (M : MC p s m args meth c cX5_read 3 (some .int) RX5 Y) (hN : yN Y = 108) (hR_15 : ∀ (y2 : Int32) (σ : St) (H : Heap) (locs : List Loc) (ls : Array Slot), WS Y (AD Y) s.heap σ H locs → lv_has ls 3 [(0, .ref (yA Y 2)), (1, .ref (yA Y 9)), (2, .int y2)] → R_15 (y2, σ) → W p l e { frames := 5, cells := 0, slots := 0, locals := 104 } s m args below meth c H locs 0 0 (MQ below (QI Y Q) args s 0 0 (AD Y)) (F0 m 15 ls [])) (y2 : Int32) (σ : St) (H : Heap) (locs : List Loc) (ls : Array Slot) (hw : WS Y (AD Y) s.heap σ H locs) (hl : lv_has ls 3 [(0, .ref (yA Y 2)), (1, .ref (yA Y 9)), (2, .int y2)]) (h : bX5_read_15 R_15 y2 σ Q) : W p l e { frames := 5, cells := 0, slots := 0, locals := 104 } s m args below meth c H locs 0 0 (MQ below (QI Y Q) args s 0 0 (AD Y)) (F0 m 15 ls []) := by
  obtain ⟨hx, hb, hr, hml, hown, hlk, hT, hK, hB⟩ := id M
  unfold bX5_read_15 at h
  refine lv_iload_n hx hb dX5_read_15 rfl (lv_at hl 2 rfl) ?_
  refine lv_aload_n hx hb dX5_read_16 rfl (lv_at hl 0 rfl) ?_
  refine q_get (v := .int (σ.1 2 1)) M hw (ob_2 hN) rfl inq_5 1 (by decide) tw_73 rfl dX5_read_17 ?_
  refine lv_icmp_gt (tgt := 53) hx hb dX5_read_20 (by decide) (fun c1 => ?_) (fun c1 => ?_)
  · have h := h.1 c1
    refine lv_iload_n hx hb dX5_read_53 rfl (lv_at hl 2 rfl) ?_
    exact q_iret M hw h dX5_read_54
  · have h := h.2 c1
    refine lv_aload_n hx hb dX5_read_23 rfl (lv_at hl 0 rfl) ?_
    refine q_get (v := .int (σ.1 2 3)) M hw (ob_2 hN) rfl inq_5 3 (by decide) tw_76 rfl dX5_read_24 ?_
    refine lv_iconst (v := (-1)) hx hb dX5_read_27 (by decide) ?_
    refine lv_icmp_eq (tgt := 53) hx hb dX5_read_28 (by decide) (fun c2 => ?_) (fun c2 => ?_)
    · have h := h.1 c2
      refine lv_iload_n hx hb dX5_read_53 rfl (lv_at hl 2 rfl) ?_
      exact q_iret M hw h dX5_read_54
    · have h := h.2 c2
      refine lv_aload_n hx hb dX5_read_31 rfl (lv_at hl 0 rfl) ?_
      refine lv_aload_n hx hb dX5_read_32 rfl (lv_at hl 1 rfl) ?_
      refine q_goI hw (q_runV (rest := []) M hw (ctX5_readItem l hB hN σ _ h) mbX5_readItem (ob_2 hN) rfl tw_323 rfl hl.1 rfl (Nat.le_of_ble_eq_true rfl) ⟨Nat.le_of_ble_eq_true rfl, Nat.le_of_ble_eq_true rfl⟩ ⟨Nat.le_refl _, Nat.le_refl _⟩ dX5_read_33) (fun r4 σ3 H locs h hw => ?_)
      refine lv_if_ne (tgt := 47) hx hb dX5_read_36 (by decide) (fun c5 => ?_) (fun c5 => ?_)
      · have h := h.2 c5
        obtain ⟨x6, ex6⟩ : ∃ y : Int32, y = y2 + 1 := ⟨_, rfl⟩
        have h := h x6 ex6
        refine lv_iinc (v := x6) (lv' := [(2, .int x6), (0, .ref (yA Y 2)), (1, .ref (yA Y 9))]) hx hb dX5_read_47 hl (k := 2) rfl (by rw [ex6]; rfl) (by decide) rfl (fun ls hl => ?_)
        refine lv_goto (tgt := 15) hx hb dX5_read_50 (by decide) ?_
        exact hR_15 x6 σ3 _ _ _ hw (lv_sub hl [1, 2, 0] rfl) h
      · have h := h.1 c5
        refine lv_bipush (v := (-10)) hx hb dX5_read_39 (by decide) ?_
        refine lv_aload_n hx hb dX5_read_41 rfl (lv_at hl 0 rfl) ?_
        refine q_get (v := .int (σ3.1 2 4)) M hw (ob_2 hN) rfl inq_5 4 (by decide) tw_77 rfl dX5_read_42 ?_
        refine lv_isub hx hb dX5_read_45 ?_
        exact q_iret M hw h dX5_read_46
def lX5_read_15 (Q : Int32 → St → Prop) : (Int32 × St → Prop) → Int32 × St → Prop := fun R a => bX5_read_15 R a.1 a.2 Q
theorem tlX5_read_15 {Q : Int32 → St → Prop} (M : MC p s m args meth c cX5_read 3 (some .int) RX5 Y) (hN : yN Y = 108) (n : Nat) : ∀ (y2 : Int32) (σ : St) (H : Heap) (locs : List Loc) (ls : Array Slot) (hw : WS Y (AD Y) s.heap σ H locs) (hl : lv_has ls 3 [(0, .ref (yA Y 2)), (1, .ref (yA Y 9)), (2, .int y2)]) (h : Lp (lX5_read_15 Q) n (y2, σ)), W p l e { frames := 5, cells := 0, slots := 0, locals := 104 } s m args below meth c H locs 0 0 (MQ below (QI Y Q) args s 0 0 (AD Y)) (F0 m 15 ls []) := by
  induction n with
  | zero => intro y2 σ H locs ls hw hl h; exact h.elim
  | succ n ih =>
    intro y2 σ H locs ls hw hl h
    exact tX5_read_15 M hN ih y2 σ H locs ls hw hl h
def wX5_read (σ : St) (Q : Int32 → St → Prop) : Prop :=
  (∀ σ1 : St, σ1 = up σ 2 2 0 → wX3_empty 9 σ1 (fun σ2 => wX5_advance σ2 (fun σ3 => ∃ n : Nat, Lp (lX5_read_15 Q) n (0, σ3))))
set_option maxHeartbeats 4000000 in
set_option maxRecDepth 100000 in
theorem tX5_read_E {Q : Int32 → St → Prop} (M : MC p s m args meth c cX5_read 3 (some .int) RX5 Y) (hN : yN Y = 108)  (σ : St) (H : Heap) (locs : List Loc) (ls : Array Slot) (hw : WS Y (AD Y) s.heap σ H locs) (hl : lv_has ls 3 [(0, .ref (yA Y 2)), (1, .ref (yA Y 9))]) (h : wX5_read σ Q) : W p l e { frames := 5, cells := 0, slots := 0, locals := 104 } s m args below meth c H locs 0 0 (MQ below (QI Y Q) args s 0 0 (AD Y)) (F0 m 0 ls []) := by
  obtain ⟨hx, hb, hr, hml, hown, hlk, hT, hK, hB⟩ := id M
  unfold wX5_read at h
  refine lv_aload_n hx hb dX5_read_0 rfl (lv_at hl 0 rfl) ?_
  refine lv_iconst (v := 0) hx hb dX5_read_1 (by decide) ?_
  refine q_put (v := 0) M hw (ob_2 hN) rfl inq_5 tyX5 tyX5_ok nmX5 2 (by decide) tw_75 rfl rfl rfl (Nat.le_of_ble_eq_true rfl) (by simp [up, upd, f0]) dX5_read_2 (fun σ1 H locs es hw => ?_)
  have h := h σ1 es
  refine lv_aload_n hx hb dX5_read_5 rfl (lv_at hl 1 rfl) ?_
  refine q_goV hw (q_runV (rest := []) M hw (ctX3_empty l hB (ph_9 hN) σ1 _ h) mbX3_empty (ph_ob (ph_9 hN)) rfl tw_311 rfl hl.1 rfl (Nat.le_of_ble_eq_true rfl) ⟨Nat.le_of_ble_eq_true rfl, Nat.le_of_ble_eq_true rfl⟩ ⟨Nat.le_refl _, Nat.le_refl _⟩ dX5_read_6) (fun σ2 H locs h hw => ?_)
  refine lv_aload_n hx hb dX5_read_9 rfl (lv_at hl 0 rfl) ?_
  refine q_goV hw (q_runV (rest := []) M hw (ctX5_advance l hB hN σ2 _ h) mbX5_advance (ob_2 hN) rfl tw_315 rfl hl.1 rfl (Nat.le_of_ble_eq_true rfl) ⟨Nat.le_of_ble_eq_true rfl, Nat.le_of_ble_eq_true rfl⟩ ⟨Nat.le_refl _, Nat.le_refl _⟩ dX5_read_10) (fun σ3 H locs h hw => ?_)
  refine lv_iconst (v := 0) hx hb dX5_read_13 (by decide) ?_
  refine lv_istore_n (lv' := [(2, .int 0), (0, .ref (yA Y 2)), (1, .ref (yA Y 9))]) hx hb dX5_read_14 rfl hl (by decide) rfl (fun ls hl => ?_)
  obtain ⟨n, h⟩ := h
  exact tlX5_read_15 M hN n 0 σ3 _ _ _ hw (lv_sub hl [1, 2, 0] rfl) h
set_option maxRecDepth 100000 in
theorem ctX5_read (l : Launch) {Y : LY} (hB : YB Y) (hN : yN Y = 108) (σ : St) (Q : Int32 → St → Prop) (h : wX5_read σ Q) : CT l yX5_read (Cond.code yX5_read cX5_read 3 (some .int)) { frames := 5, cells := 0, slots := 0, locals := 104 } Y [.ref (yA Y 2), .ref (yA Y 9)] σ (QI Y Q) :=
  q_ent hB (by decide +kernel) (Nat.le_of_ble_eq_true rfl) (fun p e s m below meth c ls M hw hl => tX5_read_E M hN σ _ _ ls hw hl h)
theorem mbX5_read : MB RX5 yX5_read cX5_read 1 3 (some .int) := ⟨tw_308, tw_309, tw_50, tw_310, by decide +kernel⟩
end
