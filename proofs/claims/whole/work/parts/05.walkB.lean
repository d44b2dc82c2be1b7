section
variable {p : Program} {l : Launch} {e : Env} {s : State} {m : MethodId} {args : Array Value} {below : List Frame} {meth : Method} {c : Code} {Y : LY}
theorem dX6_type_0 : decode cX6_type 0 = .ok (.iload_n 1, 1) := by decide +kernel
theorem dX6_type_1 : decode cX6_type 1 = .ok (.ifCond .lt 10, 3) := by decide +kernel
theorem dX6_type_4 : decode cX6_type 4 = .ok (.iload_n 1, 1) := by decide +kernel
theorem dX6_type_5 : decode cX6_type 5 = .ok (.sipush 255, 3) := by decide +kernel
theorem dX6_type_8 : decode cX6_type 8 = .ok (.if_icmp .le 5, 3) := by decide +kernel
theorem dX6_type_11 : decode cX6_type 11 = .ok (.iconst (-1), 1) := by decide +kernel
theorem dX6_type_12 : decode cX6_type 12 = .ok (.ireturn, 1) := by decide +kernel
theorem dX6_type_13 : decode cX6_type 13 = .ok (.aload_n 0, 1) := by decide +kernel
theorem dX6_type_14 : decode cX6_type 14 = .ok (.getfield 10, 3) := by decide +kernel
theorem dX6_type_17 : decode cX6_type 17 = .ok (.iload_n 1, 1) := by decide +kernel
theorem dX6_type_18 : decode cX6_type 18 = .ok (.i2c, 1) := by decide +kernel
theorem dX6_type_19 : decode cX6_type 19 = .ok (.invokevirtual 66, 3) := by decide +kernel
theorem dX6_type_22 : decode cX6_type 22 = .ok (.ifCond .eq 13, 3) := by decide +kernel
theorem dX6_type_25 : decode cX6_type 25 = .ok (.aload_n 0, 1) := by decide +kernel
theorem dX6_type_26 : decode cX6_type 26 = .ok (.getfield 10, 3) := by decide +kernel
theorem dX6_type_29 : decode cX6_type 29 = .ok (.getfield 70, 3) := by decide +kernel
theorem dX6_type_32 : decode cX6_type 32 = .ok (.goto 5, 3) := by decide +kernel
theorem dX6_type_35 : decode cX6_type 35 = .ok (.bipush (-3), 2) := by decide +kernel
theorem dX6_type_37 : decode cX6_type 37 = .ok (.ireturn, 1) := by decide +kernel
def wX6_type (a0 : Int32) (σ : St) (Q : Int32 → St → Prop) : Prop :=
  ((a0 < 0 → Q (-1) σ) ∧ (¬ a0 < 0 → ((a0 ≤ 255 → wX5_add ((a0.toUInt32 % 65536).toInt32) σ (fun r4 σ3 => ((r4 = 0 → Q (-3) σ3) ∧ (¬ r4 = 0 → Q (σ3.1 2 1) σ3)))) ∧ (¬ a0 ≤ 255 → Q (-1) σ))))
set_option maxHeartbeats 4000000 in
set_option maxRecDepth 100000 in
theorem tX6_type_E {Q : Int32 → St → Prop} (M : MC p s m args meth c cX6_type 2 (some .int) RX6 Y) (hN : yN Y = 108) (h0 : c0s Y 3 9) (a0 : Int32) (σ : St) (H : Heap) (locs : List Loc) (ls : Array Slot) (hw : WS Y (AD Y) s.heap σ H locs) (hl : lv_has ls 2 [(0, .ref (yA Y 0)), (1, .int a0)]) (h : wX6_type a0 σ Q) : W p l e { frames := 1, cells := 0, slots := 0, locals := 21 } s m args below meth c H locs 0 0 (MQ below (QI Y Q) args s 0 0 (AD Y)) (F0 m 0 ls []) := by
  obtain ⟨hx, hb, hr, hml, hown, hlk, hT, hK, hB⟩ := id M
  unfold wX6_type at h
  refine lv_iload_n hx hb dX6_type_0 rfl (lv_at hl 1 rfl) ?_
  refine lv_if_lt (tgt := 11) hx hb dX6_type_1 (by decide) (fun c1 => ?_) (fun c1 => ?_)
  · have h := h.1 c1
    refine lv_iconst (v := (-1)) hx hb dX6_type_11 (by decide) ?_
    exact q_iret M hw h dX6_type_12
  · have h := h.2 c1
    refine lv_iload_n hx hb dX6_type_4 rfl (lv_at hl 1 rfl) ?_
    refine lv_sipush (v := 255) hx hb dX6_type_5 (by decide) ?_
    refine lv_icmp_le (tgt := 13) hx hb dX6_type_8 (by decide) (fun c2 => ?_) (fun c2 => ?_)
    · have h := h.1 c2
      refine lv_aload_n hx hb dX6_type_13 rfl (lv_at hl 0 rfl) ?_
      refine q_get (v := .ref (yA Y 2)) M hw (ob_0 hN h0) rfl inq_6 0 (by decide) tw_257 rfl dX6_type_14 ?_
      refine lv_iload_n hx hb dX6_type_17 rfl (lv_at hl 1 rfl) ?_
      refine lv_i2c (v := (a0.toUInt32 % 65536).toInt32) hx hb dX6_type_18 rfl ?_
      refine q_goI hw (q_runV (rest := []) M hw (ctX5_add l hB hN ((a0.toUInt32 % 65536).toInt32) σ _ h) mbX5_add (ob_2 hN) rfl tw_295 rfl hl.1 rfl (Nat.le_of_ble_eq_true rfl) ⟨Nat.le_of_ble_eq_true rfl, Nat.le_of_ble_eq_true rfl⟩ ⟨Nat.le_refl _, Nat.le_refl _⟩ dX6_type_19) (fun r4 σ3 H locs h hw => ?_)
      refine lv_if_eq (tgt := 35) hx hb dX6_type_22 (by decide) (fun c5 => ?_) (fun c5 => ?_)
      · have h := h.1 c5
        refine lv_bipush (v := (-3)) hx hb dX6_type_35 (by decide) ?_
        exact q_iret M hw h dX6_type_37
      · have h := h.2 c5
        refine lv_aload_n hx hb dX6_type_25 rfl (lv_at hl 0 rfl) ?_
        refine q_get (v := .ref (yA Y 2)) M hw (ob_0 hN h0) rfl inq_6 0 (by decide) tw_257 rfl dX6_type_26 ?_
        refine q_get (v := .int (σ3.1 2 1)) M hw (ob_2 hN) rfl inq_5 1 (by decide) tw_74 rfl dX6_type_29 ?_
        refine lv_goto (tgt := 37) hx hb dX6_type_32 (by decide) ?_
        exact q_iret M hw h dX6_type_37
    · have h := h.2 c2
      refine lv_iconst (v := (-1)) hx hb dX6_type_11 (by decide) ?_
      exact q_iret M hw h dX6_type_12
set_option maxRecDepth 100000 in
theorem ctX6_type (l : Launch) {Y : LY} (hB : YB Y) (hN : yN Y = 108) (h0 : c0s Y 3 9) (a0 : Int32) (σ : St) (Q : Int32 → St → Prop) (h : wX6_type a0 σ Q) : CT l yX6_type (Cond.code yX6_type cX6_type 2 (some .int)) { frames := 1, cells := 0, slots := 0, locals := 21 } Y [.ref (yA Y 0), .int a0] σ (QI Y Q) :=
  q_ent hB (by decide +kernel) (Nat.le_of_ble_eq_true rfl) (fun p e s m below meth c ls M hw hl => tX6_type_E M hN h0 a0 σ _ _ ls hw hl h)
theorem mbX6_type : MB RX6 yX6_type cX6_type 1 2 (some .int) := ⟨tw_292, tw_293, tw_49, tw_294, by decide +kernel⟩
end
section
variable {p : Program} {l : Launch} {e : Env} {s : State} {m : MethodId} {args : Array Value} {below : List Frame} {meth : Method} {c : Code} {Y : LY}
theorem dX6_clear_0 : decode cX6_clear 0 = .ok (.aload_n 0, 1) := by decide +kernel
theorem dX6_clear_1 : decode cX6_clear 1 = .ok (.getfield 10, 3) := by decide +kernel
theorem dX6_clear_4 : decode cX6_clear 4 = .ok (.getfield 70, 3) := by decide +kernel
theorem dX6_clear_7 : decode cX6_clear 7 = .ok (.istore_n 1, 1) := by decide +kernel
theorem dX6_clear_8 : decode cX6_clear 8 = .ok (.aload_n 0, 1) := by decide +kernel
theorem dX6_clear_9 : decode cX6_clear 9 = .ok (.getfield 10, 3) := by decide +kernel
theorem dX6_clear_12 : decode cX6_clear 12 = .ok (.iconst 0, 1) := by decide +kernel
theorem dX6_clear_13 : decode cX6_clear 13 = .ok (.putfield 70, 3) := by decide +kernel
theorem dX6_clear_16 : decode cX6_clear 16 = .ok (.iload_n 1, 1) := by decide +kernel
theorem dX6_clear_17 : decode cX6_clear 17 = .ok (.ireturn, 1) := by decide +kernel
def wX6_clear (σ : St) (Q : Int32 → St → Prop) : Prop :=
  (∀ x1 : Int32, x1 = (σ.1 2 1) → (∀ σ2 : St, σ2 = up σ 2 1 0 → Q x1 σ2))
set_option maxHeartbeats 4000000 in
set_option maxRecDepth 100000 in
theorem tX6_clear_E {Q : Int32 → St → Prop} (M : MC p s m args meth c cX6_clear 2 (some .int) RX6 Y) (hN : yN Y = 108) (h0 : c0s Y 3 9)  (σ : St) (H : Heap) (locs : List Loc) (ls : Array Slot) (hw : WS Y (AD Y) s.heap σ H locs) (hl : lv_has ls 2 [(0, .ref (yA Y 0))]) (h : wX6_clear σ Q) : W p l e { frames := 0, cells := 0, slots := 0, locals := 0 } s m args below meth c H locs 0 0 (MQ below (QI Y Q) args s 0 0 (AD Y)) (F0 m 0 ls []) := by
  obtain ⟨hx, hb, hr, hml, hown, hlk, hT, hK, hB⟩ := id M
  unfold wX6_clear at h
  refine lv_aload_n hx hb dX6_clear_0 rfl (lv_at hl 0 rfl) ?_
  refine q_get (v := .ref (yA Y 2)) M hw (ob_0 hN h0) rfl inq_6 0 (by decide) tw_257 rfl dX6_clear_1 ?_
  refine q_get (v := .int (σ.1 2 1)) M hw (ob_2 hN) rfl inq_5 1 (by decide) tw_74 rfl dX6_clear_4 ?_
  refine lv_topi (fun x1 ex1 => ?_)
  have h := h x1 ex1
  refine lv_istore_n (lv' := [(1, .int x1), (0, .ref (yA Y 0))]) hx hb dX6_clear_7 rfl hl (by decide) rfl (fun ls hl => ?_)
  refine lv_aload_n hx hb dX6_clear_8 rfl (lv_at hl 1 rfl) ?_
  refine q_get (v := .ref (yA Y 2)) M hw (ob_0 hN h0) rfl inq_6 0 (by decide) tw_257 rfl dX6_clear_9 ?_
  refine lv_iconst (v := 0) hx hb dX6_clear_12 (by decide) ?_
  refine q_put (v := 0) M hw (ob_2 hN) rfl inq_5 tyX5 tyX5_ok nmX5 1 (by decide) tw_74 rfl rfl rfl (Nat.le_of_ble_eq_true rfl) (by simp [up, upd, f0]) dX6_clear_13 (fun σ2 H locs es hw => ?_)
  have h := h σ2 es
  refine lv_iload_n hx hb dX6_clear_16 rfl (lv_at hl 0 rfl) ?_
  exact q_iret M hw h dX6_clear_17
set_option maxRecDepth 100000 in
theorem ctX6_clear (l : Launch) {Y : LY} (hB : YB Y) (hN : yN Y = 108) (h0 : c0s Y 3 9) (σ : St) (Q : Int32 → St → Prop) (h : wX6_clear σ Q) : CT l yX6_clear (Cond.code yX6_clear cX6_clear 2 (some .int)) { frames := 0, cells := 0, slots := 0, locals := 0 } Y [.ref (yA Y 0)] σ (QI Y Q) :=
  q_ent hB (by decide +kernel) (Nat.le_of_ble_eq_true rfl) (fun p e s m below meth c ls M hw hl => tX6_clear_E M hN h0 σ _ _ ls hw hl h)
theorem mbX6_clear : MB RX6 yX6_clear cX6_clear 0 2 (some .int) := ⟨tw_300, tw_301, tw_49, tw_302, by decide +kernel⟩
end
section
variable {p : Program} {l : Launch} {e : Env} {s : State} {m : MethodId} {args : Array Value} {below : List Frame} {meth : Method} {c : Code} {Y : LY}
theorem dX6_isFarmer_0 : decode cX6_isFarmer 0 = .ok (.iload_n 1, 1) := by decide +kernel
theorem dX6_isFarmer_1 : decode cX6_isFarmer 1 = .ok (.ifCond .lt 18, 3) := by decide +kernel
theorem dX6_isFarmer_4 : decode cX6_isFarmer 4 = .ok (.iload_n 1, 1) := by decide +kernel
theorem dX6_isFarmer_5 : decode cX6_isFarmer 5 = .ok (.aload_n 0, 1) := by decide +kernel
theorem dX6_isFarmer_6 : decode cX6_isFarmer 6 = .ok (.getfield 19, 3) := by decide +kernel
theorem dX6_isFarmer_9 : decode cX6_isFarmer 9 = .ok (.getfield 207, 3) := by decide +kernel
theorem dX6_isFarmer_12 : decode cX6_isFarmer 12 = .ok (.if_icmp .ge 7, 3) := by decide +kernel
theorem dX6_isFarmer_15 : decode cX6_isFarmer 15 = .ok (.iconst 1, 1) := by decide +kernel
theorem dX6_isFarmer_16 : decode cX6_isFarmer 16 = .ok (.goto 4, 3) := by decide +kernel
theorem dX6_isFarmer_19 : decode cX6_isFarmer 19 = .ok (.iconst 0, 1) := by decide +kernel
theorem dX6_isFarmer_20 : decode cX6_isFarmer 20 = .ok (.ireturn, 1) := by decide +kernel
def wX6_isFarmer (a0 : Int32) (σ : St) (Q : Int32 → St → Prop) : Prop :=
  ((a0 < 0 → Q 0 σ) ∧ (¬ a0 < 0 → (((σ.1 3 5) ≤ a0 → Q 0 σ) ∧ (¬ (σ.1 3 5) ≤ a0 → Q 1 σ))))
set_option maxHeartbeats 4000000 in
set_option maxRecDepth 100000 in
theorem tX6_isFarmer_E {Q : Int32 → St → Prop} (M : MC p s m args meth c cX6_isFarmer 2 (some .boolean) RX6 Y) (hN : yN Y = 108) (h0 : c0s Y 3 9) (a0 : Int32) (σ : St) (H : Heap) (locs : List Loc) (ls : Array Slot) (hw : WS Y (AD Y) s.heap σ H locs) (hl : lv_has ls 2 [(0, .ref (yA Y 0)), (1, .int a0)]) (h : wX6_isFarmer a0 σ Q) : W p l e { frames := 0, cells := 0, slots := 0, locals := 0 } s m args below meth c H locs 0 0 (MQ below (QI Y Q) args s 0 0 (AD Y)) (F0 m 0 ls []) := by
  obtain ⟨hx, hb, hr, hml, hown, hlk, hT, hK, hB⟩ := id M
  unfold wX6_isFarmer at h
  refine lv_iload_n hx hb dX6_isFarmer_0 rfl (lv_at hl 1 rfl) ?_
  refine lv_if_lt (tgt := 19) hx hb dX6_isFarmer_1 (by decide) (fun c1 => ?_) (fun c1 => ?_)
  · have h := h.1 c1
    refine lv_iconst (v := 0) hx hb dX6_isFarmer_19 (by decide) ?_
    exact q_zret M hw (by decide) h dX6_isFarmer_20
  · have h := h.2 c1
    refine lv_iload_n hx hb dX6_isFarmer_4 rfl (lv_at hl 1 rfl) ?_
    refine lv_aload_n hx hb dX6_isFarmer_5 rfl (lv_at hl 0 rfl) ?_
    refine q_get (v := .ref (yA Y 3)) M hw (ob_0 hN h0) rfl inq_6 1 (by decide) tw_258 rfl dX6_isFarmer_6 ?_
    refine q_get (v := .int (σ.1 3 5)) M hw (ph_ob (ph_3 hN)) rfl inq_3 5 (by decide) tw_119 rfl dX6_isFarmer_9 ?_
    refine lv_icmp_ge (tgt := 19) hx hb dX6_isFarmer_12 (by decide) (fun c2 => ?_) (fun c2 => ?_)
    · have h := h.1 c2
      refine lv_iconst (v := 0) hx hb dX6_isFarmer_19 (by decide) ?_
      exact q_zret M hw (by decide) h dX6_isFarmer_20
    · have h := h.2 c2
      refine lv_iconst (v := 1) hx hb dX6_isFarmer_15 (by decide) ?_
      refine lv_goto (tgt := 20) hx hb dX6_isFarmer_16 (by decide) ?_
      exact q_zret M hw (by decide) h dX6_isFarmer_20
set_option maxRecDepth 100000 in
theorem ctX6_isFarmer (l : Launch) {Y : LY} (hB : YB Y) (hN : yN Y = 108) (h0 : c0s Y 3 9) (a0 : Int32) (σ : St) (Q : Int32 → St → Prop) (h : wX6_isFarmer a0 σ Q) : CT l yX6_isFarmer (Cond.code yX6_isFarmer cX6_isFarmer 2 (some .boolean)) { frames := 0, cells := 0, slots := 0, locals := 0 } Y [.ref (yA Y 0), .int a0] σ (QI Y Q) :=
  q_ent hB (by decide +kernel) (Nat.le_of_ble_eq_true rfl) (fun p e s m below meth c ls M hw hl => tX6_isFarmer_E M hN h0 a0 σ _ _ ls hw hl h)
theorem mbX6_isFarmer : MB RX6 yX6_isFarmer cX6_isFarmer 1 2 (some .boolean) := ⟨tw_369, tw_10, tw_49, tw_370, by decide +kernel⟩
end
section
variable {p : Program} {l : Launch} {e : Env} {s : State} {m : MethodId} {args : Array Value} {below : List Frame} {meth : Method} {c : Code} {Y : LY}
theorem dX6_farmer_0 : decode cX6_farmer 0 = .ok (.aload_n 0, 1) := by decide +kernel
theorem dX6_farmer_1 : decode cX6_farmer 1 = .ok (.iload_n 1, 1) := by decide +kernel
theorem dX6_farmer_2 : decode cX6_farmer 2 = .ok (.invokevirtual 92, 3) := by decide +kernel
theorem dX6_farmer_5 : decode cX6_farmer 5 = .ok (.ifCond .ne 5, 3) := by decide +kernel
theorem dX6_farmer_8 : decode cX6_farmer 8 = .ok (.iconst (-1), 1) := by decide +kernel
theorem dX6_farmer_9 : decode cX6_farmer 9 = .ok (.ireturn, 1) := by decide +kernel
theorem dX6_farmer_10 : decode cX6_farmer 10 = .ok (.iload_n 2, 1) := by decide +kernel
theorem dX6_farmer_11 : decode cX6_farmer 11 = .ok (.tableswitch 97 0 4 #[33, 43, 53, 70, 80], 33) := by decide +kernel
theorem dX6_farmer_44 : decode cX6_farmer 44 = .ok (.aload_n 0, 1) := by decide +kernel
theorem dX6_farmer_45 : decode cX6_farmer 45 = .ok (.getfield 36, 3) := by decide +kernel
theorem dX6_farmer_48 : decode cX6_farmer 48 = .ok (.getfield 96, 3) := by decide +kernel
theorem dX6_farmer_51 : decode cX6_farmer 51 = .ok (.iload_n 1, 1) := by decide +kernel
theorem dX6_farmer_52 : decode cX6_farmer 52 = .ok (.iaload, 1) := by decide +kernel
theorem dX6_farmer_53 : decode cX6_farmer 53 = .ok (.ireturn, 1) := by decide +kernel
theorem dX6_farmer_54 : decode cX6_farmer 54 = .ok (.aload_n 0, 1) := by decide +kernel
theorem dX6_farmer_55 : decode cX6_farmer 55 = .ok (.getfield 19, 3) := by decide +kernel
theorem dX6_farmer_58 : decode cX6_farmer 58 = .ok (.getfield 99, 3) := by decide +kernel
theorem dX6_farmer_61 : decode cX6_farmer 61 = .ok (.iload_n 1, 1) := by decide +kernel
theorem dX6_farmer_62 : decode cX6_farmer 62 = .ok (.iaload, 1) := by decide +kernel
theorem dX6_farmer_63 : decode cX6_farmer 63 = .ok (.ireturn, 1) := by decide +kernel
theorem dX6_farmer_64 : decode cX6_farmer 64 = .ok (.aload_n 0, 1) := by decide +kernel
theorem dX6_farmer_65 : decode cX6_farmer 65 = .ok (.getfield 36, 3) := by decide +kernel
theorem dX6_farmer_68 : decode cX6_farmer 68 = .ok (.iload_n 1, 1) := by decide +kernel
theorem dX6_farmer_69 : decode cX6_farmer 69 = .ok (.invokevirtual 102, 3) := by decide +kernel
theorem dX6_farmer_72 : decode cX6_farmer 72 = .ok (.ifCond .eq 7, 3) := by decide +kernel
theorem dX6_farmer_75 : decode cX6_farmer 75 = .ok (.iconst 1, 1) := by decide +kernel
theorem dX6_farmer_76 : decode cX6_farmer 76 = .ok (.goto 4, 3) := by decide +kernel
theorem dX6_farmer_79 : decode cX6_farmer 79 = .ok (.iconst 0, 1) := by decide +kernel
theorem dX6_farmer_80 : decode cX6_farmer 80 = .ok (.ireturn, 1) := by decide +kernel
theorem dX6_farmer_81 : decode cX6_farmer 81 = .ok (.aload_n 0, 1) := by decide +kernel
theorem dX6_farmer_82 : decode cX6_farmer 82 = .ok (.getfield 36, 3) := by decide +kernel
theorem dX6_farmer_85 : decode cX6_farmer 85 = .ok (.getfield 105, 3) := by decide +kernel
theorem dX6_farmer_88 : decode cX6_farmer 88 = .ok (.iload_n 1, 1) := by decide +kernel
theorem dX6_farmer_89 : decode cX6_farmer 89 = .ok (.iaload, 1) := by decide +kernel
theorem dX6_farmer_90 : decode cX6_farmer 90 = .ok (.ireturn, 1) := by decide +kernel
theorem dX6_farmer_91 : decode cX6_farmer 91 = .ok (.aload_n 0, 1) := by decide +kernel
theorem dX6_farmer_92 : decode cX6_farmer 92 = .ok (.getfield 36, 3) := by decide +kernel
theorem dX6_farmer_95 : decode cX6_farmer 95 = .ok (.iload_n 1, 1) := by decide +kernel
theorem dX6_farmer_96 : decode cX6_farmer 96 = .ok (.invokevirtual 108, 3) := by decide +kernel
theorem dX6_farmer_99 : decode cX6_farmer 99 = .ok (.ifCond .eq 7, 3) := by decide +kernel
theorem dX6_farmer_102 : decode cX6_farmer 102 = .ok (.iconst 1, 1) := by decide +kernel
theorem dX6_farmer_103 : decode cX6_farmer 103 = .ok (.goto 4, 3) := by decide +kernel
theorem dX6_farmer_106 : decode cX6_farmer 106 = .ok (.iconst 0, 1) := by decide +kernel
theorem dX6_farmer_107 : decode cX6_farmer 107 = .ok (.ireturn, 1) := by decide +kernel
theorem dX6_farmer_108 : decode cX6_farmer 108 = .ok (.iconst (-1), 1) := by decide +kernel
theorem dX6_farmer_109 : decode cX6_farmer 109 = .ok (.ireturn, 1) := by decide +kernel
def wX6_farmer (a0 : Int32) (a1 : Int32) (σ : St) (Q : Int32 → St → Prop) : Prop :=
  wX6_isFarmer a0 σ (fun r2 σ1 => ((r2 = 0 → Q (-1) σ1) ∧ (¬ r2 = 0 → ((a1 = 0 → (vp_in a0 5 ∧ Q (σ1.1 19 a0.toNatClampNeg) σ1)) ∧ (¬ a1 = 0 → ((a1 = 1 → (vp_in a0 5 ∧ Q (σ1.1 5 a0.toNatClampNeg) σ1)) ∧ (¬ a1 = 1 → ((a1 = 2 → wX4_alive 18 a0 σ1 (fun r10 σ9 => ((r10 = 0 → Q 0 σ9) ∧ (¬ r10 = 0 → Q 1 σ9)))) ∧ (¬ a1 = 2 → ((a1 = 3 → (vp_in a0 5 ∧ Q (σ1.1 20 a0.toNatClampNeg) σ1)) ∧ (¬ a1 = 3 → ((a1 = 4 → wX4_hasPloughed 18 a0 σ1 (fun r16 σ15 => ((r16 = 0 → Q 0 σ15) ∧ (¬ r16 = 0 → Q 1 σ15)))) ∧ (¬ a1 = 4 → Q (-1) σ1)))))))))))))
set_option maxHeartbeats 4000000 in
set_option maxRecDepth 100000 in
theorem tX6_farmer_E {Q : Int32 → St → Prop} (M : MC p s m args meth c cX6_farmer 3 (some .int) RX6 Y) (hN : yN Y = 108) (h0 : c0s Y 3 9) (a0 : Int32) (a1 : Int32) (σ : St) (H : Heap) (locs : List Loc) (ls : Array Slot) (hw : WS Y (AD Y) s.heap σ H locs) (hl : lv_has ls 3 [(0, .ref (yA Y 0)), (1, .int a0), (2, .int a1)]) (h : wX6_farmer a0 a1 σ Q) : W p l e { frames := 1, cells := 0, slots := 0, locals := 21 } s m args below meth c H locs 0 0 (MQ below (QI Y Q) args s 0 0 (AD Y)) (F0 m 0 ls []) := by
  obtain ⟨hx, hb, hr, hml, hown, hlk, hT, hK, hB⟩ := id M
  unfold wX6_farmer at h
  refine lv_aload_n hx hb dX6_farmer_0 rfl (lv_at hl 0 rfl) ?_
  refine lv_iload_n hx hb dX6_farmer_1 rfl (lv_at hl 1 rfl) ?_
  refine q_goI hw (q_runV (rest := []) M hw (ctX6_isFarmer l hB hN h0 a0 σ _ h) mbX6_isFarmer (ob_0 hN h0) rfl tw_367 rfl hl.1 rfl (Nat.le_of_ble_eq_true rfl) ⟨Nat.le_of_ble_eq_true rfl, Nat.le_of_ble_eq_true rfl⟩ ⟨Nat.le_refl _, Nat.le_refl _⟩ dX6_farmer_2) (fun r2 σ1 H locs h hw => ?_)
  refine lv_if_ne (tgt := 10) hx hb dX6_farmer_5 (by decide) (fun c3 => ?_) (fun c3 => ?_)
  · have h := h.2 c3
    refine lv_iload_n hx hb dX6_farmer_10 rfl (lv_at hl 2 rfl) ?_
    by_cases c4 : a1 = 0
    · have h := h.1 c4
      refine lv_tableIn (tgt := 44) hx hb dX6_farmer_11 (by rw [c4]; decide) (by rw [c4]; decide) (by rw [c4]; first | done | rfl) (by decide) ?_
      refine lv_aload_n hx hb dX6_farmer_44 rfl (lv_at hl 0 rfl) ?_
      refine q_get (v := .ref (yA Y 18)) M hw (ob_0 hN h0) rfl inq_6 4 (by decide) tw_261 rfl dX6_farmer_45 ?_
      refine q_get (v := .ref (yA Y 19)) M hw (sh_ob (sh_18 hN)) rfl inq_4 0 (by decide) tw_186 rfl dX6_farmer_48 ?_
      refine lv_iload_n hx hb dX6_farmer_51 rfl (lv_at hl 1 rfl) ?_
      have c5 := h.1
      have h := h.2
      refine q_ild M hw (ar_19 hN) c5 dX6_farmer_52 ?_
      exact q_iret M hw h dX6_farmer_53
    · have h := h.2 c4
      by_cases c6 : a1 = 1
      · have h := h.1 c6
        refine lv_tableIn (tgt := 54) hx hb dX6_farmer_11 (by rw [c6]; decide) (by rw [c6]; decide) (by rw [c6]; first | done | rfl) (by decide) ?_
        refine lv_aload_n hx hb dX6_farmer_54 rfl (lv_at hl 0 rfl) ?_
        refine q_get (v := .ref (yA Y 3)) M hw (ob_0 hN h0) rfl inq_6 1 (by decide) tw_258 rfl dX6_farmer_55 ?_
        refine q_get (v := .ref (yA Y 5)) M hw (ph_ob (ph_3 hN)) rfl inq_3 1 (by decide) tw_104 rfl dX6_farmer_58 ?_
        refine lv_iload_n hx hb dX6_farmer_61 rfl (lv_at hl 1 rfl) ?_
        have c7 := h.1
        have h := h.2
        refine q_ild M hw (ar_5 hN) c7 dX6_farmer_62 ?_
        exact q_iret M hw h dX6_farmer_63
      · have h := h.2 c6
        by_cases c8 : a1 = 2
        · have h := h.1 c8
          refine lv_tableIn (tgt := 64) hx hb dX6_farmer_11 (by rw [c8]; decide) (by rw [c8]; decide) (by rw [c8]; first | done | rfl) (by decide) ?_
          refine lv_aload_n hx hb dX6_farmer_64 rfl (lv_at hl 0 rfl) ?_
          refine q_get (v := .ref (yA Y 18)) M hw (ob_0 hN h0) rfl inq_6 4 (by decide) tw_261 rfl dX6_farmer_65 ?_
          refine lv_iload_n hx hb dX6_farmer_68 rfl (lv_at hl 1 rfl) ?_
          refine q_goI hw (q_runV (rest := []) M hw (ctX4_alive l hB (sh_18 hN) a0 σ1 _ h) mbX4_alive (sh_ob (sh_18 hN)) rfl tw_371 rfl hl.1 rfl (Nat.le_of_ble_eq_true rfl) ⟨Nat.le_of_ble_eq_true rfl, Nat.le_of_ble_eq_true rfl⟩ ⟨Nat.le_refl _, Nat.le_refl _⟩ dX6_farmer_69) (fun r10 σ9 H locs h hw => ?_)
          refine lv_if_eq (tgt := 79) hx hb dX6_farmer_72 (by decide) (fun c11 => ?_) (fun c11 => ?_)
          · have h := h.1 c11
            refine lv_iconst (v := 0) hx hb dX6_farmer_79 (by decide) ?_
            exact q_iret M hw h dX6_farmer_80
          · have h := h.2 c11
            refine lv_iconst (v := 1) hx hb dX6_farmer_75 (by decide) ?_
            refine lv_goto (tgt := 80) hx hb dX6_farmer_76 (by decide) ?_
            exact q_iret M hw h dX6_farmer_80
        · have h := h.2 c8
          by_cases c12 : a1 = 3
          · have h := h.1 c12
            refine lv_tableIn (tgt := 81) hx hb dX6_farmer_11 (by rw [c12]; decide) (by rw [c12]; decide) (by rw [c12]; first | done | rfl) (by decide) ?_
            refine lv_aload_n hx hb dX6_farmer_81 rfl (lv_at hl 0 rfl) ?_
            refine q_get (v := .ref (yA Y 18)) M hw (ob_0 hN h0) rfl inq_6 4 (by decide) tw_261 rfl dX6_farmer_82 ?_
            refine q_get (v := .ref (yA Y 20)) M hw (sh_ob (sh_18 hN)) rfl inq_4 1 (by decide) tw_188 rfl dX6_farmer_85 ?_
            refine lv_iload_n hx hb dX6_farmer_88 rfl (lv_at hl 1 rfl) ?_
            have c13 := h.1
            have h := h.2
            refine q_ild M hw (ar_20 hN) c13 dX6_farmer_89 ?_
            exact q_iret M hw h dX6_farmer_90
          · have h := h.2 c12
            by_cases c14 : a1 = 4
            · have h := h.1 c14
              refine lv_tableIn (tgt := 91) hx hb dX6_farmer_11 (by rw [c14]; decide) (by rw [c14]; decide) (by rw [c14]; first | done | rfl) (by decide) ?_
              refine lv_aload_n hx hb dX6_farmer_91 rfl (lv_at hl 0 rfl) ?_
              refine q_get (v := .ref (yA Y 18)) M hw (ob_0 hN h0) rfl inq_6 4 (by decide) tw_261 rfl dX6_farmer_92 ?_
              refine lv_iload_n hx hb dX6_farmer_95 rfl (lv_at hl 1 rfl) ?_
              refine q_goI hw (q_runV (rest := []) M hw (ctX4_hasPloughed l hB (sh_18 hN) a0 σ1 _ h) mbX4_hasPloughed (sh_ob (sh_18 hN)) rfl tw_375 rfl hl.1 rfl (Nat.le_of_ble_eq_true rfl) ⟨Nat.le_of_ble_eq_true rfl, Nat.le_of_ble_eq_true rfl⟩ ⟨Nat.le_refl _, Nat.le_refl _⟩ dX6_farmer_96) (fun r16 σ15 H locs h hw => ?_)
              refine lv_if_eq (tgt := 106) hx hb dX6_farmer_99 (by decide) (fun c17 => ?_) (fun c17 => ?_)
              · have h := h.1 c17
                refine lv_iconst (v := 0) hx hb dX6_farmer_106 (by decide) ?_
                exact q_iret M hw h dX6_farmer_107
              · have h := h.2 c17
                refine lv_iconst (v := 1) hx hb dX6_farmer_102 (by decide) ?_
                refine lv_goto (tgt := 107) hx hb dX6_farmer_103 (by decide) ?_
                exact q_iret M hw h dX6_farmer_107
            · have h := h.2 c14
              refine lv_tableOut (tgt := 108) hx hb dX6_farmer_11 (sw_out 4 (by decide) (fun k hk => ?_)) (by decide) ?_
              · rcases (by omega : k = 0 ∨ k = 1 ∨ k = 2 ∨ k = 3 ∨ k = 4) with rfl | rfl | rfl | rfl | rfl
                · exact c4
                · exact c6
                · exact c8
                · exact c12
                · exact c14
              · refine lv_iconst (v := (-1)) hx hb dX6_farmer_108 (by decide) ?_
                exact q_iret M hw h dX6_farmer_109
  · have h := h.1 c3
    refine lv_iconst (v := (-1)) hx hb dX6_farmer_8 (by decide) ?_
    exact q_iret M hw h dX6_farmer_9
set_option maxRecDepth 100000 in
theorem ctX6_farmer (l : Launch) {Y : LY} (hB : YB Y) (hN : yN Y = 108) (h0 : c0s Y 3 9) (a0 : Int32) (a1 : Int32) (σ : St) (Q : Int32 → St → Prop) (h : wX6_farmer a0 a1 σ Q) : CT l yX6_farmer (Cond.code yX6_farmer cX6_farmer 3 (some .int)) { frames := 1, cells := 0, slots := 0, locals := 21 } Y [.ref (yA Y 0), .int a0, .int a1] σ (QI Y Q) :=
  q_ent hB (by decide +kernel) (Nat.le_of_ble_eq_true rfl) (fun p e s m below meth c ls M hw hl => tX6_farmer_E M hN h0 a0 a1 σ _ _ ls hw hl h)
theorem mbX6_farmer : MB RX6 yX6_farmer cX6_farmer 2 3 (some .int) := ⟨tw_364, tw_365, tw_49, tw_366, by decide +kernel⟩
end
section
variable {p : Program} {l : Launch} {e : Env} {s : State} {m : MethodId} {args : Array Value} {below : List Frame} {meth : Method} {c : Code} {Y : LY}
theorem dX6_isStrip_0 : decode cX6_isStrip 0 = .ok (.iload_n 1, 1) := by decide +kernel
theorem dX6_isStrip_1 : decode cX6_isStrip 1 = .ok (.ifCond .lt 18, 3) := by decide +kernel
theorem dX6_isStrip_4 : decode cX6_isStrip 4 = .ok (.iload_n 1, 1) := by decide +kernel
theorem dX6_isStrip_5 : decode cX6_isStrip 5 = .ok (.aload_n 0, 1) := by decide +kernel
theorem dX6_isStrip_6 : decode cX6_isStrip 6 = .ok (.getfield 19, 3) := by decide +kernel
theorem dX6_isStrip_9 : decode cX6_isStrip 9 = .ok (.getfield 252, 3) := by decide +kernel
theorem dX6_isStrip_12 : decode cX6_isStrip 12 = .ok (.if_icmp .ge 7, 3) := by decide +kernel
theorem dX6_isStrip_15 : decode cX6_isStrip 15 = .ok (.iconst 1, 1) := by decide +kernel
theorem dX6_isStrip_16 : decode cX6_isStrip 16 = .ok (.goto 4, 3) := by decide +kernel
theorem dX6_isStrip_19 : decode cX6_isStrip 19 = .ok (.iconst 0, 1) := by decide +kernel
theorem dX6_isStrip_20 : decode cX6_isStrip 20 = .ok (.ireturn, 1) := by decide +kernel
def wX6_isStrip (a0 : Int32) (σ : St) (Q : Int32 → St → Prop) : Prop :=
  ((a0 < 0 → Q 0 σ) ∧ (¬ a0 < 0 → (((σ.1 3 6) ≤ a0 → Q 0 σ) ∧ (¬ (σ.1 3 6) ≤ a0 → Q 1 σ))))
set_option maxHeartbeats 4000000 in
set_option maxRecDepth 100000 in
theorem tX6_isStrip_E {Q : Int32 → St → Prop} (M : MC p s m args meth c cX6_isStrip 2 (some .boolean) RX6 Y) (hN : yN Y = 108) (h0 : c0s Y 3 9) (a0 : Int32) (σ : St) (H : Heap) (locs : List Loc) (ls : Array Slot) (hw : WS Y (AD Y) s.heap σ H locs) (hl : lv_has ls 2 [(0, .ref (yA Y 0)), (1, .int a0)]) (h : wX6_isStrip a0 σ Q) : W p l e { frames := 0, cells := 0, slots := 0, locals := 0 } s m args below meth c H locs 0 0 (MQ below (QI Y Q) args s 0 0 (AD Y)) (F0 m 0 ls []) := by
  obtain ⟨hx, hb, hr, hml, hown, hlk, hT, hK, hB⟩ := id M
  unfold wX6_isStrip at h
  refine lv_iload_n hx hb dX6_isStrip_0 rfl (lv_at hl 1 rfl) ?_
  refine lv_if_lt (tgt := 19) hx hb dX6_isStrip_1 (by decide) (fun c1 => ?_) (fun c1 => ?_)
  · have h := h.1 c1
    refine lv_iconst (v := 0) hx hb dX6_isStrip_19 (by decide) ?_
    exact q_zret M hw (by decide) h dX6_isStrip_20
  · have h := h.2 c1
    refine lv_iload_n hx hb dX6_isStrip_4 rfl (lv_at hl 1 rfl) ?_
    refine lv_aload_n hx hb dX6_isStrip_5 rfl (lv_at hl 0 rfl) ?_
    refine q_get (v := .ref (yA Y 3)) M hw (ob_0 hN h0) rfl inq_6 1 (by decide) tw_258 rfl dX6_isStrip_6 ?_
    refine q_get (v := .int (σ.1 3 6)) M hw (ph_ob (ph_3 hN)) rfl inq_3 6 (by decide) tw_122 rfl dX6_isStrip_9 ?_
    refine lv_icmp_ge (tgt := 19) hx hb dX6_isStrip_12 (by decide) (fun c2 => ?_) (fun c2 => ?_)
    · have h := h.1 c2
      refine lv_iconst (v := 0) hx hb dX6_isStrip_19 (by decide) ?_
      exact q_zret M hw (by decide) h dX6_isStrip_20
    · have h := h.2 c2
      refine lv_iconst (v := 1) hx hb dX6_isStrip_15 (by decide) ?_
      refine lv_goto (tgt := 20) hx hb dX6_isStrip_16 (by decide) ?_
      exact q_zret M hw (by decide) h dX6_isStrip_20
set_option maxRecDepth 100000 in
theorem ctX6_isStrip (l : Launch) {Y : LY} (hB : YB Y) (hN : yN Y = 108) (h0 : c0s Y 3 9) (a0 : Int32) (σ : St) (Q : Int32 → St → Prop) (h : wX6_isStrip a0 σ Q) : CT l yX6_isStrip (Cond.code yX6_isStrip cX6_isStrip 2 (some .boolean)) { frames := 0, cells := 0, slots := 0, locals := 0 } Y [.ref (yA Y 0), .int a0] σ (QI Y Q) :=
  q_ent hB (by decide +kernel) (Nat.le_of_ble_eq_true rfl) (fun p e s m below meth c ls M hw hl => tX6_isStrip_E M hN h0 a0 σ _ _ ls hw hl h)
theorem mbX6_isStrip : MB RX6 yX6_isStrip cX6_isStrip 1 2 (some .boolean) := ⟨tw_385, tw_11, tw_49, tw_386, by decide +kernel⟩
end
section
variable {p : Program} {l : Launch} {e : Env} {s : State} {m : MethodId} {args : Array Value} {below : List Frame} {meth : Method} {c : Code} {Y : LY}
theorem dX6_strip_0 : decode cX6_strip 0 = .ok (.aload_n 0, 1) := by decide +kernel
theorem dX6_strip_1 : decode cX6_strip 1 = .ok (.iload_n 1, 1) := by decide +kernel
theorem dX6_strip_2 : decode cX6_strip 2 = .ok (.invokevirtual 111, 3) := by decide +kernel
theorem dX6_strip_5 : decode cX6_strip 5 = .ok (.ifCond .ne 5, 3) := by decide +kernel
theorem dX6_strip_8 : decode cX6_strip 8 = .ok (.iconst (-1), 1) := by decide +kernel
theorem dX6_strip_9 : decode cX6_strip 9 = .ok (.ireturn, 1) := by decide +kernel
theorem dX6_strip_10 : decode cX6_strip 10 = .ok (.iload_n 2, 1) := by decide +kernel
theorem dX6_strip_11 : decode cX6_strip 11 = .ok (.tableswitch 55 0 2 #[25, 35, 45], 25) := by decide +kernel
theorem dX6_strip_36 : decode cX6_strip 36 = .ok (.aload_n 0, 1) := by decide +kernel
theorem dX6_strip_37 : decode cX6_strip 37 = .ok (.getfield 36, 3) := by decide +kernel
theorem dX6_strip_40 : decode cX6_strip 40 = .ok (.getfield 114, 3) := by decide +kernel
theorem dX6_strip_43 : decode cX6_strip 43 = .ok (.iload_n 1, 1) := by decide +kernel
theorem dX6_strip_44 : decode cX6_strip 44 = .ok (.iaload, 1) := by decide +kernel
theorem dX6_strip_45 : decode cX6_strip 45 = .ok (.ireturn, 1) := by decide +kernel
theorem dX6_strip_46 : decode cX6_strip 46 = .ok (.aload_n 0, 1) := by decide +kernel
theorem dX6_strip_47 : decode cX6_strip 47 = .ok (.getfield 36, 3) := by decide +kernel
theorem dX6_strip_50 : decode cX6_strip 50 = .ok (.getfield 117, 3) := by decide +kernel
theorem dX6_strip_53 : decode cX6_strip 53 = .ok (.iload_n 1, 1) := by decide +kernel
theorem dX6_strip_54 : decode cX6_strip 54 = .ok (.iaload, 1) := by decide +kernel
theorem dX6_strip_55 : decode cX6_strip 55 = .ok (.ireturn, 1) := by decide +kernel
theorem dX6_strip_56 : decode cX6_strip 56 = .ok (.aload_n 0, 1) := by decide +kernel
theorem dX6_strip_57 : decode cX6_strip 57 = .ok (.getfield 19, 3) := by decide +kernel
theorem dX6_strip_60 : decode cX6_strip 60 = .ok (.getfield 120, 3) := by decide +kernel
theorem dX6_strip_63 : decode cX6_strip 63 = .ok (.iload_n 1, 1) := by decide +kernel
theorem dX6_strip_64 : decode cX6_strip 64 = .ok (.iaload, 1) := by decide +kernel
theorem dX6_strip_65 : decode cX6_strip 65 = .ok (.ireturn, 1) := by decide +kernel
theorem dX6_strip_66 : decode cX6_strip 66 = .ok (.iconst (-1), 1) := by decide +kernel
theorem dX6_strip_67 : decode cX6_strip 67 = .ok (.ireturn, 1) := by decide +kernel
def wX6_strip (a0 : Int32) (a1 : Int32) (σ : St) (Q : Int32 → St → Prop) : Prop :=
  wX6_isStrip a0 σ (fun r2 σ1 => ((r2 = 0 → Q (-1) σ1) ∧ (¬ r2 = 0 → ((a1 = 0 → (vp_in a0 7 ∧ Q (σ1.1 21 a0.toNatClampNeg) σ1)) ∧ (¬ a1 = 0 → ((a1 = 1 → (vp_in a0 7 ∧ Q (σ1.1 22 a0.toNatClampNeg) σ1)) ∧ (¬ a1 = 1 → ((a1 = 2 → (vp_in a0 7 ∧ Q (σ1.1 7 a0.toNatClampNeg) σ1)) ∧ (¬ a1 = 2 → Q (-1) σ1)))))))))
set_option maxHeartbeats 4000000 in
set_option maxRecDepth 100000 in
theorem tX6_strip_E {Q : Int32 → St → Prop} (M : MC p s m args meth c cX6_strip 3 (some .int) RX6 Y) (hN : yN Y = 108) (h0 : c0s Y 3 9) (a0 : Int32) (a1 : Int32) (σ : St) (H : Heap) (locs : List Loc) (ls : Array Slot) (hw : WS Y (AD Y) s.heap σ H locs) (hl : lv_has ls 3 [(0, .ref (yA Y 0)), (1, .int a0), (2, .int a1)]) (h : wX6_strip a0 a1 σ Q) : W p l e { frames := 1, cells := 0, slots := 0, locals := 21 } s m args below meth c H locs 0 0 (MQ below (QI Y Q) args s 0 0 (AD Y)) (F0 m 0 ls []) := by
  obtain ⟨hx, hb, hr, hml, hown, hlk, hT, hK, hB⟩ := id M
  unfold wX6_strip at h
  refine lv_aload_n hx hb dX6_strip_0 rfl (lv_at hl 0 rfl) ?_
  refine lv_iload_n hx hb dX6_strip_1 rfl (lv_at hl 1 rfl) ?_
  refine q_goI hw (q_runV (rest := []) M hw (ctX6_isStrip l hB hN h0 a0 σ _ h) mbX6_isStrip (ob_0 hN h0) rfl tw_383 rfl hl.1 rfl (Nat.le_of_ble_eq_true rfl) ⟨Nat.le_of_ble_eq_true rfl, Nat.le_of_ble_eq_true rfl⟩ ⟨Nat.le_refl _, Nat.le_refl _⟩ dX6_strip_2) (fun r2 σ1 H locs h hw => ?_)
  refine lv_if_ne (tgt := 10) hx hb dX6_strip_5 (by decide) (fun c3 => ?_) (fun c3 => ?_)
  · have h := h.2 c3
    refine lv_iload_n hx hb dX6_strip_10 rfl (lv_at hl 2 rfl) ?_
    by_cases c4 : a1 = 0
    · have h := h.1 c4
      refine lv_tableIn (tgt := 36) hx hb dX6_strip_11 (by rw [c4]; decide) (by rw [c4]; decide) (by rw [c4]; first | done | rfl) (by decide) ?_
      refine lv_aload_n hx hb dX6_strip_36 rfl (lv_at hl 0 rfl) ?_
      refine q_get (v := .ref (yA Y 18)) M hw (ob_0 hN h0) rfl inq_6 4 (by decide) tw_261 rfl dX6_strip_37 ?_
      refine q_get (v := .ref (yA Y 21)) M hw (sh_ob (sh_18 hN)) rfl inq_4 2 (by decide) tw_190 rfl dX6_strip_40 ?_
      refine lv_iload_n hx hb dX6_strip_43 rfl (lv_at hl 1 rfl) ?_
      have c5 := h.1
      have h := h.2
      refine q_ild M hw (ar_21 hN) c5 dX6_strip_44 ?_
      exact q_iret M hw h dX6_strip_45
    · have h := h.2 c4
      by_cases c6 : a1 = 1
      · have h := h.1 c6
        refine lv_tableIn (tgt := 46) hx hb dX6_strip_11 (by rw [c6]; decide) (by rw [c6]; decide) (by rw [c6]; first | done | rfl) (by decide) ?_
        refine lv_aload_n hx hb dX6_strip_46 rfl (lv_at hl 0 rfl) ?_
        refine q_get (v := .ref (yA Y 18)) M hw (ob_0 hN h0) rfl inq_6 4 (by decide) tw_261 rfl dX6_strip_47 ?_
        refine q_get (v := .ref (yA Y 22)) M hw (sh_ob (sh_18 hN)) rfl inq_4 3 (by decide) tw_192 rfl dX6_strip_50 ?_
        refine lv_iload_n hx hb dX6_strip_53 rfl (lv_at hl 1 rfl) ?_
        have c7 := h.1
        have h := h.2
        refine q_ild M hw (ar_22 hN) c7 dX6_strip_54 ?_
        exact q_iret M hw h dX6_strip_55
      · have h := h.2 c6
        by_cases c8 : a1 = 2
        · have h := h.1 c8
          refine lv_tableIn (tgt := 56) hx hb dX6_strip_11 (by rw [c8]; decide) (by rw [c8]; decide) (by rw [c8]; first | done | rfl) (by decide) ?_
          refine lv_aload_n hx hb dX6_strip_56 rfl (lv_at hl 0 rfl) ?_
          refine q_get (v := .ref (yA Y 3)) M hw (ob_0 hN h0) rfl inq_6 1 (by decide) tw_258 rfl dX6_strip_57 ?_
          refine q_get (v := .ref (yA Y 7)) M hw (ph_ob (ph_3 hN)) rfl inq_3 3 (by decide) tw_111 rfl dX6_strip_60 ?_
          refine lv_iload_n hx hb dX6_strip_63 rfl (lv_at hl 1 rfl) ?_
          have c9 := h.1
          have h := h.2
          refine q_ild M hw (ar_7 hN) c9 dX6_strip_64 ?_
          exact q_iret M hw h dX6_strip_65
        · have h := h.2 c8
          refine lv_tableOut (tgt := 66) hx hb dX6_strip_11 (sw_out 2 (by decide) (fun k hk => ?_)) (by decide) ?_
          · rcases (by omega : k = 0 ∨ k = 1 ∨ k = 2) with rfl | rfl | rfl
            · exact c4
            · exact c6
            · exact c8
          · refine lv_iconst (v := (-1)) hx hb dX6_strip_66 (by decide) ?_
            exact q_iret M hw h dX6_strip_67
  · have h := h.1 c3
    refine lv_iconst (v := (-1)) hx hb dX6_strip_8 (by decide) ?_
    exact q_iret M hw h dX6_strip_9
set_option maxRecDepth 100000 in
theorem ctX6_strip (l : Launch) {Y : LY} (hB : YB Y) (hN : yN Y = 108) (h0 : c0s Y 3 9) (a0 : Int32) (a1 : Int32) (σ : St) (Q : Int32 → St → Prop) (h : wX6_strip a0 a1 σ Q) : CT l yX6_strip (Cond.code yX6_strip cX6_strip 3 (some .int)) { frames := 1, cells := 0, slots := 0, locals := 21 } Y [.ref (yA Y 0), .int a0, .int a1] σ (QI Y Q) :=
  q_ent hB (by decide +kernel) (Nat.le_of_ble_eq_true rfl) (fun p e s m below meth c ls M hw hl => tX6_strip_E M hN h0 a0 a1 σ _ _ ls hw hl h)
theorem mbX6_strip : MB RX6 yX6_strip cX6_strip 2 3 (some .int) := ⟨tw_380, tw_381, tw_49, tw_382, by decide +kernel⟩
end
section
variable {p : Program} {l : Launch} {e : Env} {s : State} {m : MethodId} {args : Array Value} {below : List Frame} {meth : Method} {c : Code} {Y : LY}
theorem dX6_isNight_0 : decode cX6_isNight 0 = .ok (.iload_n 0, 1) := by decide +kernel
theorem dX6_isNight_1 : decode cX6_isNight 1 = .ok (.ifCond .lt 13, 3) := by decide +kernel
theorem dX6_isNight_4 : decode cX6_isNight 4 = .ok (.iload_n 0, 1) := by decide +kernel
theorem dX6_isNight_5 : decode cX6_isNight 5 = .ok (.bipush 99, 2) := by decide +kernel
theorem dX6_isNight_7 : decode cX6_isNight 7 = .ok (.if_icmp .gt 7, 3) := by decide +kernel
theorem dX6_isNight_10 : decode cX6_isNight 10 = .ok (.iconst 1, 1) := by decide +kernel
theorem dX6_isNight_11 : decode cX6_isNight 11 = .ok (.goto 4, 3) := by decide +kernel
theorem dX6_isNight_14 : decode cX6_isNight 14 = .ok (.iconst 0, 1) := by decide +kernel
theorem dX6_isNight_15 : decode cX6_isNight 15 = .ok (.ireturn, 1) := by decide +kernel
def wX6_isNight (a0 : Int32) (σ : St) (Q : Int32 → St → Prop) : Prop :=
  ((a0 < 0 → Q 0 σ) ∧ (¬ a0 < 0 → ((99 < a0 → Q 0 σ) ∧ (¬ 99 < a0 → Q 1 σ))))
set_option maxHeartbeats 4000000 in
set_option maxRecDepth 100000 in
theorem tX6_isNight_E {Q : Int32 → St → Prop} (M : MC p s m args meth c cX6_isNight 1 (some .boolean) RX6 Y)  (a0 : Int32) (σ : St) (H : Heap) (locs : List Loc) (ls : Array Slot) (hw : WS Y (AD Y) s.heap σ H locs) (hl : lv_has ls 1 [(0, .int a0)]) (h : wX6_isNight a0 σ Q) : W p l e { frames := 0, cells := 0, slots := 0, locals := 0 } s m args below meth c H locs 0 0 (MQ below (QI Y Q) args s 0 0 (AD Y)) (F0 m 0 ls []) := by
  obtain ⟨hx, hb, hr, hml, hown, hlk, hT, hK, hB⟩ := id M
  unfold wX6_isNight at h
  refine lv_iload_n hx hb dX6_isNight_0 rfl (lv_at hl 0 rfl) ?_
  refine lv_if_lt (tgt := 14) hx hb dX6_isNight_1 (by decide) (fun c1 => ?_) (fun c1 => ?_)
  · have h := h.1 c1
    refine lv_iconst (v := 0) hx hb dX6_isNight_14 (by decide) ?_
    exact q_zret M hw (by decide) h dX6_isNight_15
  · have h := h.2 c1
    refine lv_iload_n hx hb dX6_isNight_4 rfl (lv_at hl 0 rfl) ?_
    refine lv_bipush (v := 99) hx hb dX6_isNight_5 (by decide) ?_
    refine lv_icmp_gt (tgt := 14) hx hb dX6_isNight_7 (by decide) (fun c2 => ?_) (fun c2 => ?_)
    · have h := h.1 c2
      refine lv_iconst (v := 0) hx hb dX6_isNight_14 (by decide) ?_
      exact q_zret M hw (by decide) h dX6_isNight_15
    · have h := h.2 c2
      refine lv_iconst (v := 1) hx hb dX6_isNight_10 (by decide) ?_
      refine lv_goto (tgt := 15) hx hb dX6_isNight_11 (by decide) ?_
      exact q_zret M hw (by decide) h dX6_isNight_15
set_option maxRecDepth 100000 in
theorem ctX6_isNight (l : Launch) {Y : LY} (hB : YB Y) (a0 : Int32) (σ : St) (Q : Int32 → St → Prop) (h : wX6_isNight a0 σ Q) : CT l yX6_isNight (Cond.code yX6_isNight cX6_isNight 1 (some .boolean)) { frames := 0, cells := 0, slots := 0, locals := 0 } Y [.int a0] σ (QI Y Q) :=
  q_ent hB (by decide +kernel) (Nat.le_of_ble_eq_true rfl) (fun p e s m below meth c ls M hw hl => tX6_isNight_E M a0 σ _ _ ls hw hl h)
theorem mbX6_isNight : MBS yX6_isNight cX6_isNight 1 1 (some .boolean) := ⟨tw_392, tw_49, tw_393, by decide +kernel⟩
end
section
variable {p : Program} {l : Launch} {e : Env} {s : State} {m : MethodId} {args : Array Value} {below : List Frame} {meth : Method} {c : Code} {Y : LY}
theorem dX6_night_0 : decode cX6_night 0 = .ok (.iload_n 1, 1) := by decide +kernel
theorem dX6_night_1 : decode cX6_night 1 = .ok (.invokestatic 123, 3) := by decide +kernel
theorem dX6_night_4 : decode cX6_night 4 = .ok (.ifCond .ne 5, 3) := by decide +kernel
theorem dX6_night_7 : decode cX6_night 7 = .ok (.iconst (-1), 1) := by decide +kernel
theorem dX6_night_8 : decode cX6_night 8 = .ok (.ireturn, 1) := by decide +kernel
theorem dX6_night_9 : decode cX6_night 9 = .ok (.iload_n 2, 1) := by decide +kernel
theorem dX6_night_10 : decode cX6_night 10 = .ok (.lookupswitch 53 #[(0, 26), (1, 35)], 26) := by decide +kernel
theorem dX6_night_36 : decode cX6_night 36 = .ok (.aload_n 0, 1) := by decide +kernel
theorem dX6_night_37 : decode cX6_night 37 = .ok (.getfield 19, 3) := by decide +kernel
theorem dX6_night_40 : decode cX6_night 40 = .ok (.iload_n 1, 1) := by decide +kernel
theorem dX6_night_41 : decode cX6_night 41 = .ok (.invokevirtual 126, 3) := by decide +kernel
theorem dX6_night_44 : decode cX6_night 44 = .ok (.ireturn, 1) := by decide +kernel
theorem dX6_night_45 : decode cX6_night 45 = .ok (.aload_n 0, 1) := by decide +kernel
theorem dX6_night_46 : decode cX6_night 46 = .ok (.getfield 19, 3) := by decide +kernel
theorem dX6_night_49 : decode cX6_night 49 = .ok (.getfield 130, 3) := by decide +kernel
theorem dX6_night_52 : decode cX6_night 52 = .ok (.iload_n 1, 1) := by decide +kernel
theorem dX6_night_53 : decode cX6_night 53 = .ok (.baload, 1) := by decide +kernel
theorem dX6_night_54 : decode cX6_night 54 = .ok (.ifCond .eq 7, 3) := by decide +kernel
theorem dX6_night_57 : decode cX6_night 57 = .ok (.iconst 1, 1) := by decide +kernel
theorem dX6_night_58 : decode cX6_night 58 = .ok (.goto 4, 3) := by decide +kernel
theorem dX6_night_61 : decode cX6_night 61 = .ok (.iconst 0, 1) := by decide +kernel
theorem dX6_night_62 : decode cX6_night 62 = .ok (.ireturn, 1) := by decide +kernel
theorem dX6_night_63 : decode cX6_night 63 = .ok (.iconst (-1), 1) := by decide +kernel
theorem dX6_night_64 : decode cX6_night 64 = .ok (.ireturn, 1) := by decide +kernel
def wX6_night (a0 : Int32) (a1 : Int32) (σ : St) (Q : Int32 → St → Prop) : Prop :=
  wX6_isNight a0 σ (fun r2 σ1 => ((r2 = 0 → Q (-1) σ1) ∧ (¬ r2 = 0 → ((a1 = 0 → wX3_moon 3 a0 σ1 (fun r6 σ5 => Q r6 σ5)) ∧ (¬ a1 = 0 → ((a1 = 1 → (vp_in a0 100 ∧ (((σ1.1 8 a0.toNatClampNeg) = 0 → Q 0 σ1) ∧ (¬ (σ1.1 8 a0.toNatClampNeg) = 0 → Q 1 σ1)))) ∧ (¬ a1 = 1 → Q (-1) σ1)))))))
set_option maxHeartbeats 4000000 in
set_option maxRecDepth 100000 in
theorem tX6_night_E {Q : Int32 → St → Prop} (M : MC p s m args meth c cX6_night 3 (some .int) RX6 Y) (hN : yN Y = 108) (h0 : c0s Y 3 9) (a0 : Int32) (a1 : Int32) (σ : St) (H : Heap) (locs : List Loc) (ls : Array Slot) (hw : WS Y (AD Y) s.heap σ H locs) (hl : lv_has ls 3 [(0, .ref (yA Y 0)), (1, .int a0), (2, .int a1)]) (h : wX6_night a0 a1 σ Q) : W p l e { frames := 1, cells := 0, slots := 0, locals := 22 } s m args below meth c H locs 0 0 (MQ below (QI Y Q) args s 0 0 (AD Y)) (F0 m 0 ls []) := by
  obtain ⟨hx, hb, hr, hml, hown, hlk, hT, hK, hB⟩ := id M
  unfold wX6_night at h
  refine lv_iload_n hx hb dX6_night_0 rfl (lv_at hl 1 rfl) ?_
  refine q_goI hw (q_runS (rest := []) M hw (ctX6_isNight l hB a0 σ _ h) mbX6_isNight tw_391 rfl hl.1 rfl (Nat.le_of_ble_eq_true rfl) ⟨Nat.le_of_ble_eq_true rfl, Nat.le_of_ble_eq_true rfl⟩ ⟨Nat.le_refl _, Nat.le_refl _⟩ dX6_night_1) (fun r2 σ1 H locs h hw => ?_)
  refine lv_if_ne (tgt := 9) hx hb dX6_night_4 (by decide) (fun c3 => ?_) (fun c3 => ?_)
  · have h := h.2 c3
    refine lv_iload_n hx hb dX6_night_9 rfl (lv_at hl 2 rfl) ?_
    by_cases c4 : a1 = 0
    · have h := h.1 c4
      refine lv_lookup (tgt := 36) hx hb dX6_night_10 (by decide) (by rw [c4]; first | done | rfl) (by decide) ?_
      refine lv_aload_n hx hb dX6_night_36 rfl (lv_at hl 0 rfl) ?_
      refine q_get (v := .ref (yA Y 3)) M hw (ob_0 hN h0) rfl inq_6 1 (by decide) tw_258 rfl dX6_night_37 ?_
      refine lv_iload_n hx hb dX6_night_40 rfl (lv_at hl 1 rfl) ?_
      refine q_goI hw (q_runV (rest := []) M hw (ctX3_moon l hB (ph_3 hN) a0 σ1 _ h) mbX3_moon (ph_ob (ph_3 hN)) rfl tw_394 rfl hl.1 rfl (Nat.le_of_ble_eq_true rfl) ⟨Nat.le_of_ble_eq_true rfl, Nat.le_of_ble_eq_true rfl⟩ ⟨Nat.le_refl _, Nat.le_refl _⟩ dX6_night_41) (fun r6 σ5 H locs h hw => ?_)
      exact q_iret M hw h dX6_night_44
    · have h := h.2 c4
      by_cases c7 : a1 = 1
      · have h := h.1 c7
        refine lv_lookup (tgt := 45) hx hb dX6_night_10 (by decide) (by rw [c7]; first | done | rfl) (by decide) ?_
        refine lv_aload_n hx hb dX6_night_45 rfl (lv_at hl 0 rfl) ?_
        refine q_get (v := .ref (yA Y 3)) M hw (ob_0 hN h0) rfl inq_6 1 (by decide) tw_258 rfl dX6_night_46 ?_
        refine q_get (v := .ref (yA Y 8)) M hw (ph_ob (ph_3 hN)) rfl inq_3 4 (by decide) tw_115 rfl dX6_night_49 ?_
        refine lv_iload_n hx hb dX6_night_52 rfl (lv_at hl 1 rfl) ?_
        have c8 := h.1
        have h := h.2
        refine q_zld M hw (ar_8 hN) c8 dX6_night_53 ?_
        refine lv_if_eq (tgt := 61) hx hb dX6_night_54 (by decide) (fun c9 => ?_) (fun c9 => ?_)
        · have h := h.1 c9
          refine lv_iconst (v := 0) hx hb dX6_night_61 (by decide) ?_
          exact q_iret M hw h dX6_night_62
        · have h := h.2 c9
          refine lv_iconst (v := 1) hx hb dX6_night_57 (by decide) ?_
          refine lv_goto (tgt := 62) hx hb dX6_night_58 (by decide) ?_
          exact q_iret M hw h dX6_night_62
      · have h := h.2 c7
        refine lv_lookup (tgt := 63) hx hb dX6_night_10 (by decide) (off := 53) (by show Op.lookupswitch.offset [(0, 26), (1, 35)] 53 a1.toInt = 53; rw [lv_osw (k := 0) c4 (by decide), lv_osw (k := 1) c7 (by decide)]; first | done | rfl) (by decide) ?_
        refine lv_iconst (v := (-1)) hx hb dX6_night_63 (by decide) ?_
        exact q_iret M hw h dX6_night_64
  · have h := h.1 c3
    refine lv_iconst (v := (-1)) hx hb dX6_night_7 (by decide) ?_
    exact q_iret M hw h dX6_night_8
set_option maxRecDepth 100000 in
theorem ctX6_night (l : Launch) {Y : LY} (hB : YB Y) (hN : yN Y = 108) (h0 : c0s Y 3 9) (a0 : Int32) (a1 : Int32) (σ : St) (Q : Int32 → St → Prop) (h : wX6_night a0 a1 σ Q) : CT l yX6_night (Cond.code yX6_night cX6_night 3 (some .int)) { frames := 1, cells := 0, slots := 0, locals := 22 } Y [.ref (yA Y 0), .int a0, .int a1] σ (QI Y Q) :=
  q_ent hB (by decide +kernel) (Nat.le_of_ble_eq_true rfl) (fun p e s m below meth c ls M hw hl => tX6_night_E M hN h0 a0 a1 σ _ _ ls hw hl h)
theorem mbX6_night : MB RX6 yX6_night cX6_night 2 3 (some .int) := ⟨tw_388, tw_389, tw_49, tw_390, by decide +kernel⟩
end
section
variable {p : Program} {l : Launch} {e : Env} {s : State} {m : MethodId} {args : Array Value} {below : List Frame} {meth : Method} {c : Code} {Y : LY}
theorem dX6_doneStrips_0 : decode cX6_doneStrips 0 = .ok (.iconst 0, 1) := by decide +kernel
theorem dX6_doneStrips_1 : decode cX6_doneStrips 1 = .ok (.istore_n 1, 1) := by decide +kernel
theorem dX6_doneStrips_2 : decode cX6_doneStrips 2 = .ok (.iconst 0, 1) := by decide +kernel
theorem dX6_doneStrips_3 : decode cX6_doneStrips 3 = .ok (.istore_n 2, 1) := by decide +kernel
theorem dX6_doneStrips_4 : decode cX6_doneStrips 4 = .ok (.iload_n 2, 1) := by decide +kernel
theorem dX6_doneStrips_5 : decode cX6_doneStrips 5 = .ok (.aload_n 0, 1) := by decide +kernel
theorem dX6_doneStrips_6 : decode cX6_doneStrips 6 = .ok (.getfield 19, 3) := by decide +kernel
theorem dX6_doneStrips_9 : decode cX6_doneStrips 9 = .ok (.getfield 252, 3) := by decide +kernel
theorem dX6_doneStrips_12 : decode cX6_doneStrips 12 = .ok (.if_icmp .ge 27, 3) := by decide +kernel
theorem dX6_doneStrips_15 : decode cX6_doneStrips 15 = .ok (.aload_n 0, 1) := by decide +kernel
theorem dX6_doneStrips_16 : decode cX6_doneStrips 16 = .ok (.getfield 36, 3) := by decide +kernel
theorem dX6_doneStrips_19 : decode cX6_doneStrips 19 = .ok (.getfield 117, 3) := by decide +kernel
theorem dX6_doneStrips_22 : decode cX6_doneStrips 22 = .ok (.iload_n 2, 1) := by decide +kernel
theorem dX6_doneStrips_23 : decode cX6_doneStrips 23 = .ok (.iaload, 1) := by decide +kernel
theorem dX6_doneStrips_24 : decode cX6_doneStrips 24 = .ok (.ifCond .ne 9, 3) := by decide +kernel
theorem dX6_doneStrips_27 : decode cX6_doneStrips 27 = .ok (.iload_n 1, 1) := by decide +kernel
theorem dX6_doneStrips_28 : decode cX6_doneStrips 28 = .ok (.iconst 1, 1) := by decide +kernel
theorem dX6_doneStrips_29 : decode cX6_doneStrips 29 = .ok (.iload_n 2, 1) := by decide +kernel
theorem dX6_doneStrips_30 : decode cX6_doneStrips 30 = .ok (.ishl, 1) := by decide +kernel
theorem dX6_doneStrips_31 : decode cX6_doneStrips 31 = .ok (.ior, 1) := by decide +kernel
theorem dX6_doneStrips_32 : decode cX6_doneStrips 32 = .ok (.istore_n 1, 1) := by decide +kernel
theorem dX6_doneStrips_33 : decode cX6_doneStrips 33 = .ok (.iinc 2 1, 3) := by decide +kernel
theorem dX6_doneStrips_36 : decode cX6_doneStrips 36 = .ok (.goto (-32), 3) := by decide +kernel
theorem dX6_doneStrips_39 : decode cX6_doneStrips 39 = .ok (.iload_n 1, 1) := by decide +kernel
theorem dX6_doneStrips_40 : decode cX6_doneStrips 40 = .ok (.ireturn, 1) := by decide +kernel
def bX6_doneStrips_33 (R_4 : Int32 × Int32 × St → Prop) (y1 : Int32) (y2 : Int32) (σ : St) (Q : Int32 → St → Prop) : Prop :=
  (∀ x1 : Int32, x1 = y2 + 1 → R_4 (y1, x1, σ))
set_option maxHeartbeats 4000000 in
set_option maxRecDepth 100000 in
theorem tX6_doneStrips_33 {R_4 : Int32 × Int32 × St → Prop} {Q : Int32 → St → Prop} (M : MC p s m args meth c cX6_doneStrips 3 (some .int) RX6 Y) (hN : yN Y = 108) (h0 : c0s Y 3 9) (hR_4 : ∀ (y1 y2 : Int32) (σ : St) (H : Heap) (locs : List Loc) (ls : Array Slot), WS Y (AD Y) s.heap σ H locs → lv_has ls 3 [(0, .ref (yA Y 0)), (1, .int y1), (2, .int y2)] → R_4 (y1, y2, σ) → W p l e { frames := 0, cells := 0, slots := 0, locals := 0 } s m args below meth c H locs 0 0 (MQ below (QI Y Q) args s 0 0 (AD Y)) (F0 m 4 ls [])) (y1 : Int32) (y2 : Int32) (σ : St) (H : Heap) (locs : List Loc) (ls : Array Slot) (hw : WS Y (AD Y) s.heap σ H locs) (hl : lv_has ls 3 [(0, .ref (yA Y 0)), (1, .int y1), (2, .int y2)]) (h : bX6_doneStrips_33 R_4 y1 y2 σ Q) : W p l e { frames := 0, cells := 0, slots := 0, locals := 0 } s m args below meth c H locs 0 0 (MQ below (QI Y Q) args s 0 0 (AD Y)) (F0 m 33 ls []) := by
  obtain ⟨hx, hb, hr, hml, hown, hlk, hT, hK, hB⟩ := id M
  unfold bX6_doneStrips_33 at h
  obtain ⟨x1, ex1⟩ : ∃ y : Int32, y = y2 + 1 := ⟨_, rfl⟩
  have h := h x1 ex1
  refine lv_iinc (v := x1) (lv' := [(2, .int x1), (0, .ref (yA Y 0)), (1, .int y1)]) hx hb dX6_doneStrips_33 hl (k := 2) rfl (by rw [ex1]; rfl) (by decide) rfl (fun ls hl => ?_)
  refine lv_goto (tgt := 4) hx hb dX6_doneStrips_36 (by decide) ?_
  exact hR_4 y1 x1 σ _ _ _ hw (lv_sub hl [1, 2, 0] rfl) h
def bX6_doneStrips_4 (R_4 : Int32 × Int32 × St → Prop) (y1 : Int32) (y2 : Int32) (σ : St) (Q : Int32 → St → Prop) : Prop :=
  (((σ.1 3 6) ≤ y2 → Q y1 σ) ∧ (¬ (σ.1 3 6) ≤ y2 → (vp_in y2 7 ∧ (((σ.1 22 y2.toNatClampNeg) = 0 → (∀ x4 : Int32, x4 = (y1 ||| (1 <<< (y2 &&& 31))) → bX6_doneStrips_33 R_4 x4 y2 σ Q)) ∧ (¬ (σ.1 22 y2.toNatClampNeg) = 0 → bX6_doneStrips_33 R_4 y1 y2 σ Q)))))
set_option maxHeartbeats 4000000 in
set_option maxRecDepth 100000 in
theorem tX6_doneStrips_4 {R_4 : Int32 × Int32 × St → Prop} {Q : Int32 → St → Prop} (M : MC p s m args meth c cX6_doneStrips 3 (some .int) RX6 Y) (hN : yN Y = 108) (h0 : c0s Y 3 9) (hR_4 : ∀ (y1 y2 : Int32) (σ : St) (H : Heap) (locs : List Loc) (ls : Array Slot), WS Y (AD Y) s.heap σ H locs → lv_has ls 3 [(0, .ref (yA Y 0)), (1, .int y1), (2, .int y2)] → R_4 (y1, y2, σ) → W p l e { frames := 0, cells := 0, slots := 0, locals := 0 } s m args below meth c H locs 0 0 (MQ below (QI Y Q) args s 0 0 (AD Y)) (F0 m 4 ls [])) (y1 : Int32) (y2 : Int32) (σ : St) (H : Heap) (locs : List Loc) (ls : Array Slot) (hw : WS Y (AD Y) s.heap σ H locs) (hl : lv_has ls 3 [(0, .ref (yA Y 0)), (1, .int y1), (2, .int y2)]) (h : bX6_doneStrips_4 R_4 y1 y2 σ Q) : W p l e { frames := 0, cells := 0, slots := 0, locals := 0 } s m args below meth c H locs 0 0 (MQ below (QI Y Q) args s 0 0 (AD Y)) (F0 m 4 ls []) := by
  obtain ⟨hx, hb, hr, hml, hown, hlk, hT, hK, hB⟩ := id M
  unfold bX6_doneStrips_4 at h
  refine lv_iload_n hx hb dX6_doneStrips_4 rfl (lv_at hl 2 rfl) ?_
  refine lv_aload_n hx hb dX6_doneStrips_5 rfl (lv_at hl 0 rfl) ?_
  refine q_get (v := .ref (yA Y 3)) M hw (ob_0 hN h0) rfl inq_6 1 (by decide) tw_258 rfl dX6_doneStrips_6 ?_
  refine q_get (v := .int (σ.1 3 6)) M hw (ph_ob (ph_3 hN)) rfl inq_3 6 (by decide) tw_122 rfl dX6_doneStrips_9 ?_
  refine lv_icmp_ge (tgt := 39) hx hb dX6_doneStrips_12 (by decide) (fun c1 => ?_) (fun c1 => ?_)
  · have h := h.1 c1
    refine lv_iload_n hx hb dX6_doneStrips_39 rfl (lv_at hl 1 rfl) ?_
    exact q_iret M hw h dX6_doneStrips_40
  · have h := h.2 c1
    refine lv_aload_n hx hb dX6_doneStrips_15 rfl (lv_at hl 0 rfl) ?_
    refine q_get (v := .ref (yA Y 18)) M hw (ob_0 hN h0) rfl inq_6 4 (by decide) tw_261 rfl dX6_doneStrips_16 ?_
    refine q_get (v := .ref (yA Y 22)) M hw (sh_ob (sh_18 hN)) rfl inq_4 3 (by decide) tw_192 rfl dX6_doneStrips_19 ?_
    refine lv_iload_n hx hb dX6_doneStrips_22 rfl (lv_at hl 2 rfl) ?_
    have c2 := h.1
    have h := h.2
    refine q_ild M hw (ar_22 hN) c2 dX6_doneStrips_23 ?_
    refine lv_if_ne (tgt := 33) hx hb dX6_doneStrips_24 (by decide) (fun c3 => ?_) (fun c3 => ?_)
    · have h := h.2 c3
      exact tX6_doneStrips_33 M hN h0 hR_4 y1 y2 σ _ _ _ hw (lv_sub hl [0, 1, 2] rfl) h
    · have h := h.1 c3
      refine lv_iload_n hx hb dX6_doneStrips_27 rfl (lv_at hl 1 rfl) ?_
      refine lv_iconst (v := 1) hx hb dX6_doneStrips_28 (by decide) ?_
      refine lv_iload_n hx hb dX6_doneStrips_29 rfl (lv_at hl 2 rfl) ?_
      refine lv_ishl hx hb dX6_doneStrips_30 ?_
      refine lv_ior hx hb dX6_doneStrips_31 ?_
      refine lv_topi (fun x4 ex4 => ?_)
      have h := h x4 ex4
      refine lv_istore_n (lv' := [(1, .int x4), (0, .ref (yA Y 0)), (2, .int y2)]) hx hb dX6_doneStrips_32 rfl hl (by decide) rfl (fun ls hl => ?_)
      exact tX6_doneStrips_33 M hN h0 hR_4 x4 y2 σ _ _ _ hw (lv_sub hl [1, 0, 2] rfl) h
def lX6_doneStrips_4 (Q : Int32 → St → Prop) : (Int32 × Int32 × St → Prop) → Int32 × Int32 × St → Prop := fun R a => bX6_doneStrips_4 R a.1 a.2.1 a.2.2 Q
theorem tlX6_doneStrips_4 {Q : Int32 → St → Prop} (M : MC p s m args meth c cX6_doneStrips 3 (some .int) RX6 Y) (hN : yN Y = 108) (h0 : c0s Y 3 9) (n : Nat) : ∀ (y1 : Int32) (y2 : Int32) (σ : St) (H : Heap) (locs : List Loc) (ls : Array Slot) (hw : WS Y (AD Y) s.heap σ H locs) (hl : lv_has ls 3 [(0, .ref (yA Y 0)), (1, .int y1), (2, .int y2)]) (h : Lp (lX6_doneStrips_4 Q) n (y1, y2, σ)), W p l e { frames := 0, cells := 0, slots := 0, locals := 0 } s m args below meth c H locs 0 0 (MQ below (QI Y Q) args s 0 0 (AD Y)) (F0 m 4 ls []) := by
  induction n with
  | zero => intro y1 y2 σ H locs ls hw hl h; exact h.elim
  | succ n ih =>
    intro y1 y2 σ H locs ls hw hl h
    exact tX6_doneStrips_4 M hN h0 ih y1 y2 σ H locs ls hw hl h
def wX6_doneStrips (σ : St) (Q : Int32 → St → Prop) : Prop :=
  ∃ n : Nat, Lp (lX6_doneStrips_4 Q) n (0, 0, σ)
set_option maxHeartbeats 4000000 in
set_option maxRecDepth 100000 in
theorem tX6_doneStrips_E {Q : Int32 → St → Prop} (M : MC p s m args meth c cX6_doneStrips 3 (some .int) RX6 Y) (hN : yN Y = 108) (h0 : c0s Y 3 9)  (σ : St) (H : Heap) (locs : List Loc) (ls : Array Slot) (hw : WS Y (AD Y) s.heap σ H locs) (hl : lv_has ls 3 [(0, .ref (yA Y 0))]) (h : wX6_doneStrips σ Q) : W p l e { frames := 0, cells := 0, slots := 0, locals := 0 } s m args below meth c H locs 0 0 (MQ below (QI Y Q) args s 0 0 (AD Y)) (F0 m 0 ls []) := by
  obtain ⟨hx, hb, hr, hml, hown, hlk, hT, hK, hB⟩ := id M
  unfold wX6_doneStrips at h
  refine lv_iconst (v := 0) hx hb dX6_doneStrips_0 (by decide) ?_
  refine lv_istore_n (lv' := [(1, .int 0), (0, .ref (yA Y 0))]) hx hb dX6_doneStrips_1 rfl hl (by decide) rfl (fun ls hl => ?_)
  refine lv_iconst (v := 0) hx hb dX6_doneStrips_2 (by decide) ?_
  refine lv_istore_n (lv' := [(2, .int 0), (1, .int 0), (0, .ref (yA Y 0))]) hx hb dX6_doneStrips_3 rfl hl (by decide) rfl (fun ls hl => ?_)
  obtain ⟨n, h⟩ := h
  exact tlX6_doneStrips_4 M hN h0 n 0 0 σ _ _ _ hw (lv_sub hl [2, 1, 0] rfl) h
set_option maxRecDepth 100000 in
theorem ctX6_doneStrips (l : Launch) {Y : LY} (hB : YB Y) (hN : yN Y = 108) (h0 : c0s Y 3 9) (σ : St) (Q : Int32 → St → Prop) (h : wX6_doneStrips σ Q) : CT l yX6_doneStrips (Cond.code yX6_doneStrips cX6_doneStrips 3 (some .int)) { frames := 0, cells := 0, slots := 0, locals := 0 } Y [.ref (yA Y 0)] σ (QI Y Q) :=
  q_ent hB (by decide +kernel) (Nat.le_of_ble_eq_true rfl) (fun p e s m below meth c ls M hw hl => tX6_doneStrips_E M hN h0 σ _ _ ls hw hl h)
theorem mbX6_doneStrips : MB RX6 yX6_doneStrips cX6_doneStrips 0 3 (some .int) := ⟨tw_404, tw_12, tw_49, tw_405, by decide +kernel⟩
end
section
variable {p : Program} {l : Launch} {e : Env} {s : State} {m : MethodId} {args : Array Value} {below : List Frame} {meth : Method} {c : Code} {Y : LY}
theorem dX6_fullNights_0 : decode cX6_fullNights 0 = .ok (.iconst 0, 1) := by decide +kernel
theorem dX6_fullNights_1 : decode cX6_fullNights 1 = .ok (.istore_n 1, 1) := by decide +kernel
theorem dX6_fullNights_2 : decode cX6_fullNights 2 = .ok (.aload_n 0, 1) := by decide +kernel
theorem dX6_fullNights_3 : decode cX6_fullNights 3 = .ok (.getfield 36, 3) := by decide +kernel
theorem dX6_fullNights_6 : decode cX6_fullNights 6 = .ok (.getfield 133, 3) := by decide +kernel
theorem dX6_fullNights_9 : decode cX6_fullNights 9 = .ok (.istore_n 2, 1) := by decide +kernel
theorem dX6_fullNights_10 : decode cX6_fullNights 10 = .ok (.iload_n 2, 1) := by decide +kernel
theorem dX6_fullNights_11 : decode cX6_fullNights 11 = .ok (.aload_n 0, 1) := by decide +kernel
theorem dX6_fullNights_12 : decode cX6_fullNights 12 = .ok (.getfield 19, 3) := by decide +kernel
theorem dX6_fullNights_15 : decode cX6_fullNights 15 = .ok (.getfield 221, 3) := by decide +kernel
theorem dX6_fullNights_18 : decode cX6_fullNights 18 = .ok (.if_icmp .ge 36, 3) := by decide +kernel
theorem dX6_fullNights_21 : decode cX6_fullNights 21 = .ok (.aload_n 0, 1) := by decide +kernel
theorem dX6_fullNights_22 : decode cX6_fullNights 22 = .ok (.getfield 19, 3) := by decide +kernel
theorem dX6_fullNights_25 : decode cX6_fullNights 25 = .ok (.getfield 130, 3) := by decide +kernel
theorem dX6_fullNights_28 : decode cX6_fullNights 28 = .ok (.iload_n 2, 1) := by decide +kernel
theorem dX6_fullNights_29 : decode cX6_fullNights 29 = .ok (.baload, 1) := by decide +kernel
theorem dX6_fullNights_30 : decode cX6_fullNights 30 = .ok (.ifCond .ne 18, 3) := by decide +kernel
theorem dX6_fullNights_33 : decode cX6_fullNights 33 = .ok (.aload_n 0, 1) := by decide +kernel
theorem dX6_fullNights_34 : decode cX6_fullNights 34 = .ok (.getfield 19, 3) := by decide +kernel
theorem dX6_fullNights_37 : decode cX6_fullNights 37 = .ok (.iload_n 2, 1) := by decide +kernel
theorem dX6_fullNights_38 : decode cX6_fullNights 38 = .ok (.invokevirtual 126, 3) := by decide +kernel
theorem dX6_fullNights_41 : decode cX6_fullNights 41 = .ok (.iconst 4, 1) := by decide +kernel
theorem dX6_fullNights_42 : decode cX6_fullNights 42 = .ok (.if_icmp .ne 6, 3) := by decide +kernel
theorem dX6_fullNights_45 : decode cX6_fullNights 45 = .ok (.iinc 1 1, 3) := by decide +kernel
theorem dX6_fullNights_48 : decode cX6_fullNights 48 = .ok (.iinc 2 1, 3) := by decide +kernel
theorem dX6_fullNights_51 : decode cX6_fullNights 51 = .ok (.goto (-41), 3) := by decide +kernel
theorem dX6_fullNights_54 : decode cX6_fullNights 54 = .ok (.iload_n 1, 1) := by decide +kernel
theorem dX6_fullNights_55 : decode cX6_fullNights 55 = .ok (.ireturn, 1) := by decide +kernel
def bX6_fullNights_48 (R_10 : Int32 × Int32 × St → Prop) (y1 : Int32) (y2 : Int32) (σ : St) (Q : Int32 → St → Prop) : Prop :=
  (∀ x1 : Int32, x1 = y2 + 1 → R_10 (y1, x1, σ))
set_option maxHeartbeats 4000000 in
set_option maxRecDepth 100000 in
theorem tX6_fullNights_48 {R_10 : Int32 × Int32 × St → Prop} {Q : Int32 → St → Prop} (M : MC p s m args meth c cX6_fullNights 3 (some .int) RX6 Y) (hN : yN Y = 108) (h0 : c0s Y 3 9) (hR_10 : ∀ (y1 y2 : Int32) (σ : St) (H : Heap) (locs : List Loc) (ls : Array Slot), WS Y (AD Y) s.heap σ H locs → lv_has ls 3 [(0, .ref (yA Y 0)), (1, .int y1), (2, .int y2)] → R_10 (y1, y2, σ) → W p l e { frames := 1, cells := 0, slots := 0, locals := 22 } s m args below meth c H locs 0 0 (MQ below (QI Y Q) args s 0 0 (AD Y)) (F0 m 10 ls [])) (y1 : Int32) (y2 : Int32) (σ : St) (H : Heap) (locs : List Loc) (ls : Array Slot) (hw : WS Y (AD Y) s.heap σ H locs) (hl : lv_has ls 3 [(0, .ref (yA Y 0)), (1, .int y1), (2, .int y2)]) (h : bX6_fullNights_48 R_10 y1 y2 σ Q) : W p l e { frames := 1, cells := 0, slots := 0, locals := 22 } s m args below meth c H locs 0 0 (MQ below (QI Y Q) args s 0 0 (AD Y)) (F0 m 48 ls []) := by
  obtain ⟨hx, hb, hr, hml, hown, hlk, hT, hK, hB⟩ := id M
  unfold bX6_fullNights_48 at h
  obtain ⟨x1, ex1⟩ : ∃ y : Int32, y = y2 + 1 := ⟨_, rfl⟩
  have h := h x1 ex1
  refine lv_iinc (v := x1) (lv' := [(2, .int x1), (0, .ref (yA Y 0)), (1, .int y1)]) hx hb dX6_fullNights_48 hl (k := 2) rfl (by rw [ex1]; rfl) (by decide) rfl (fun ls hl => ?_)
  refine lv_goto (tgt := 10) hx hb dX6_fullNights_51 (by decide) ?_
  exact hR_10 y1 x1 σ _ _ _ hw (lv_sub hl [1, 2, 0] rfl) h
def bX6_fullNights_10 (R_10 : Int32 × Int32 × St → Prop) (y1 : Int32) (y2 : Int32) (σ : St) (Q : Int32 → St → Prop) : Prop :=
  (((σ.1 3 8) ≤ y2 → Q y1 σ) ∧ (¬ (σ.1 3 8) ≤ y2 → (vp_in y2 100 ∧ (((σ.1 8 y2.toNatClampNeg) = 0 → wX3_moon 3 y2 σ (fun r5 σ4 => ((r5 = 4 → (∀ x7 : Int32, x7 = y1 + 1 → bX6_fullNights_48 R_10 x7 y2 σ4 Q)) ∧ (¬ r5 = 4 → bX6_fullNights_48 R_10 y1 y2 σ4 Q)))) ∧ (¬ (σ.1 8 y2.toNatClampNeg) = 0 → bX6_fullNights_48 R_10 y1 y2 σ Q)))))
set_option maxHeartbeats 4000000 in
set_option maxRecDepth 100000 in
theorem tX6_fullNights_10 {R_10 : Int32 × Int32 × St → Prop} {Q : Int32 → St → Prop} (M : MC p s m args meth c cX6_fullNights 3 (some .int) RX6 Y) (hN : yN Y = 108) (h0 : c0s Y 3 9) (hR_10 : ∀ (y1 y2 : Int32) (σ : St) (H : Heap) (locs : List Loc) (ls : Array Slot), WS Y (AD Y) s.heap σ H locs → lv_has ls 3 [(0, .ref (yA Y 0)), (1, .int y1), (2, .int y2)] → R_10 (y1, y2, σ) → W p l e { frames := 1, cells := 0, slots := 0, locals := 22 } s m args below meth c H locs 0 0 (MQ below (QI Y Q) args s 0 0 (AD Y)) (F0 m 10 ls [])) (y1 : Int32) (y2 : Int32) (σ : St) (H : Heap) (locs : List Loc) (ls : Array Slot) (hw : WS Y (AD Y) s.heap σ H locs) (hl : lv_has ls 3 [(0, .ref (yA Y 0)), (1, .int y1), (2, .int y2)]) (h : bX6_fullNights_10 R_10 y1 y2 σ Q) : W p l e { frames := 1, cells := 0, slots := 0, locals := 22 } s m args below meth c H locs 0 0 (MQ below (QI Y Q) args s 0 0 (AD Y)) (F0 m 10 ls []) := by
  obtain ⟨hx, hb, hr, hml, hown, hlk, hT, hK, hB⟩ := id M
  unfold bX6_fullNights_10 at h
  refine lv_iload_n hx hb dX6_fullNights_10 rfl (lv_at hl 2 rfl) ?_
  refine lv_aload_n hx hb dX6_fullNights_11 rfl (lv_at hl 0 rfl) ?_
  refine q_get (v := .ref (yA Y 3)) M hw (ob_0 hN h0) rfl inq_6 1 (by decide) tw_258 rfl dX6_fullNights_12 ?_
  refine q_get (v := .int (σ.1 3 8)) M hw (ph_ob (ph_3 hN)) rfl inq_3 8 (by decide) tw_129 rfl dX6_fullNights_15 ?_
  refine lv_icmp_ge (tgt := 54) hx hb dX6_fullNights_18 (by decide) (fun c1 => ?_) (fun c1 => ?_)
  · have h := h.1 c1
    refine lv_iload_n hx hb dX6_fullNights_54 rfl (lv_at hl 1 rfl) ?_
    exact q_iret M hw h dX6_fullNights_55
  · have h := h.2 c1
    refine lv_aload_n hx hb dX6_fullNights_21 rfl (lv_at hl 0 rfl) ?_
    refine q_get (v := .ref (yA Y 3)) M hw (ob_0 hN h0) rfl inq_6 1 (by decide) tw_258 rfl dX6_fullNights_22 ?_
    refine q_get (v := .ref (yA Y 8)) M hw (ph_ob (ph_3 hN)) rfl inq_3 4 (by decide) tw_115 rfl dX6_fullNights_25 ?_
    refine lv_iload_n hx hb dX6_fullNights_28 rfl (lv_at hl 2 rfl) ?_
    have c2 := h.1
    have h := h.2
    refine q_zld M hw (ar_8 hN) c2 dX6_fullNights_29 ?_
    refine lv_if_ne (tgt := 48) hx hb dX6_fullNights_30 (by decide) (fun c3 => ?_) (fun c3 => ?_)
    · have h := h.2 c3
      exact tX6_fullNights_48 M hN h0 hR_10 y1 y2 σ _ _ _ hw (lv_sub hl [0, 1, 2] rfl) h
    · have h := h.1 c3
      refine lv_aload_n hx hb dX6_fullNights_33 rfl (lv_at hl 0 rfl) ?_
      refine q_get (v := .ref (yA Y 3)) M hw (ob_0 hN h0) rfl inq_6 1 (by decide) tw_258 rfl dX6_fullNights_34 ?_
      refine lv_iload_n hx hb dX6_fullNights_37 rfl (lv_at hl 2 rfl) ?_
      refine q_goI hw (q_runV (rest := []) M hw (ctX3_moon l hB (ph_3 hN) y2 σ _ h) mbX3_moon (ph_ob (ph_3 hN)) rfl tw_394 rfl hl.1 rfl (Nat.le_of_ble_eq_true rfl) ⟨Nat.le_of_ble_eq_true rfl, Nat.le_of_ble_eq_true rfl⟩ ⟨Nat.le_refl _, Nat.le_refl _⟩ dX6_fullNights_38) (fun r5 σ4 H locs h hw => ?_)
      refine lv_iconst (v := 4) hx hb dX6_fullNights_41 (by decide) ?_
      refine lv_icmp_ne (tgt := 48) hx hb dX6_fullNights_42 (by decide) (fun c6 => ?_) (fun c6 => ?_)
      · have h := h.2 c6
        exact tX6_fullNights_48 M hN h0 hR_10 y1 y2 σ4 _ _ _ hw (lv_sub hl [0, 1, 2] rfl) h
      · have h := h.1 c6
        obtain ⟨x7, ex7⟩ : ∃ y : Int32, y = y1 + 1 := ⟨_, rfl⟩
        have h := h x7 ex7
        refine lv_iinc (v := x7) (lv' := [(1, .int x7), (0, .ref (yA Y 0)), (2, .int y2)]) hx hb dX6_fullNights_45 hl (k := 1) rfl (by rw [ex7]; rfl) (by decide) rfl (fun ls hl => ?_)
        exact tX6_fullNights_48 M hN h0 hR_10 x7 y2 σ4 _ _ _ hw (lv_sub hl [1, 0, 2] rfl) h
def lX6_fullNights_10 (Q : Int32 → St → Prop) : (Int32 × Int32 × St → Prop) → Int32 × Int32 × St → Prop := fun R a => bX6_fullNights_10 R a.1 a.2.1 a.2.2 Q
theorem tlX6_fullNights_10 {Q : Int32 → St → Prop} (M : MC p s m args meth c cX6_fullNights 3 (some .int) RX6 Y) (hN : yN Y = 108) (h0 : c0s Y 3 9) (n : Nat) : ∀ (y1 : Int32) (y2 : Int32) (σ : St) (H : Heap) (locs : List Loc) (ls : Array Slot) (hw : WS Y (AD Y) s.heap σ H locs) (hl : lv_has ls 3 [(0, .ref (yA Y 0)), (1, .int y1), (2, .int y2)]) (h : Lp (lX6_fullNights_10 Q) n (y1, y2, σ)), W p l e { frames := 1, cells := 0, slots := 0, locals := 22 } s m args below meth c H locs 0 0 (MQ below (QI Y Q) args s 0 0 (AD Y)) (F0 m 10 ls []) := by
  induction n with
  | zero => intro y1 y2 σ H locs ls hw hl h; exact h.elim
  | succ n ih =>
    intro y1 y2 σ H locs ls hw hl h
    exact tX6_fullNights_10 M hN h0 ih y1 y2 σ H locs ls hw hl h
def wX6_fullNights (σ : St) (Q : Int32 → St → Prop) : Prop :=
  (∀ x1 : Int32, x1 = (σ.1 18 4) → ∃ n : Nat, Lp (lX6_fullNights_10 Q) n (0, x1, σ))
set_option maxHeartbeats 4000000 in
set_option maxRecDepth 100000 in
theorem tX6_fullNights_E {Q : Int32 → St → Prop} (M : MC p s m args meth c cX6_fullNights 3 (some .int) RX6 Y) (hN : yN Y = 108) (h0 : c0s Y 3 9)  (σ : St) (H : Heap) (locs : List Loc) (ls : Array Slot) (hw : WS Y (AD Y) s.heap σ H locs) (hl : lv_has ls 3 [(0, .ref (yA Y 0))]) (h : wX6_fullNights σ Q) : W p l e { frames := 1, cells := 0, slots := 0, locals := 22 } s m args below meth c H locs 0 0 (MQ below (QI Y Q) args s 0 0 (AD Y)) (F0 m 0 ls []) := by
  obtain ⟨hx, hb, hr, hml, hown, hlk, hT, hK, hB⟩ := id M
  unfold wX6_fullNights at h
  refine lv_iconst (v := 0) hx hb dX6_fullNights_0 (by decide) ?_
  refine lv_istore_n (lv' := [(1, .int 0), (0, .ref (yA Y 0))]) hx hb dX6_fullNights_1 rfl hl (by decide) rfl (fun ls hl => ?_)
  refine lv_aload_n hx hb dX6_fullNights_2 rfl (lv_at hl 1 rfl) ?_
  refine q_get (v := .ref (yA Y 18)) M hw (ob_0 hN h0) rfl inq_6 4 (by decide) tw_261 rfl dX6_fullNights_3 ?_
  refine q_get (v := .int (σ.1 18 4)) M hw (sh_ob (sh_18 hN)) rfl inq_4 4 (by decide) tw_194 rfl dX6_fullNights_6 ?_
  refine lv_topi (fun x1 ex1 => ?_)
  have h := h x1 ex1
  refine lv_istore_n (lv' := [(2, .int x1), (1, .int 0), (0, .ref (yA Y 0))]) hx hb dX6_fullNights_9 rfl hl (by decide) rfl (fun ls hl => ?_)
  obtain ⟨n, h⟩ := h
  exact tlX6_fullNights_10 M hN h0 n 0 x1 σ _ _ _ hw (lv_sub hl [2, 1, 0] rfl) h
set_option maxRecDepth 100000 in
theorem ctX6_fullNights (l : Launch) {Y : LY} (hB : YB Y) (hN : yN Y = 108) (h0 : c0s Y 3 9) (σ : St) (Q : Int32 → St → Prop) (h : wX6_fullNights σ Q) : CT l yX6_fullNights (Cond.code yX6_fullNights cX6_fullNights 3 (some .int)) { frames := 1, cells := 0, slots := 0, locals := 22 } Y [.ref (yA Y 0)] σ (QI Y Q) :=
  q_ent hB (by decide +kernel) (Nat.le_of_ble_eq_true rfl) (fun p e s m below meth c ls M hw hl => tX6_fullNights_E M hN h0 σ _ _ ls hw hl h)
theorem mbX6_fullNights : MB RX6 yX6_fullNights cX6_fullNights 0 3 (some .int) := ⟨tw_412, tw_14, tw_49, tw_413, by decide +kernel⟩
end
section
variable {p : Program} {l : Launch} {e : Env} {s : State} {m : MethodId} {args : Array Value} {below : List Frame} {meth : Method} {c : Code} {Y : LY}
theorem dX6_quartersOfAll_0 : decode cX6_quartersOfAll 0 = .ok (.iconst 0, 1) := by decide +kernel
theorem dX6_quartersOfAll_1 : decode cX6_quartersOfAll 1 = .ok (.istore_n 1, 1) := by decide +kernel
theorem dX6_quartersOfAll_2 : decode cX6_quartersOfAll 2 = .ok (.iconst 0, 1) := by decide +kernel
theorem dX6_quartersOfAll_3 : decode cX6_quartersOfAll 3 = .ok (.istore_n 2, 1) := by decide +kernel
theorem dX6_quartersOfAll_4 : decode cX6_quartersOfAll 4 = .ok (.iload_n 2, 1) := by decide +kernel
theorem dX6_quartersOfAll_5 : decode cX6_quartersOfAll 5 = .ok (.aload_n 0, 1) := by decide +kernel
theorem dX6_quartersOfAll_6 : decode cX6_quartersOfAll 6 = .ok (.getfield 19, 3) := by decide +kernel
theorem dX6_quartersOfAll_9 : decode cX6_quartersOfAll 9 = .ok (.getfield 207, 3) := by decide +kernel
theorem dX6_quartersOfAll_12 : decode cX6_quartersOfAll 12 = .ok (.if_icmp .ge 21, 3) := by decide +kernel
theorem dX6_quartersOfAll_15 : decode cX6_quartersOfAll 15 = .ok (.iload_n 1, 1) := by decide +kernel
theorem dX6_quartersOfAll_16 : decode cX6_quartersOfAll 16 = .ok (.aload_n 0, 1) := by decide +kernel
theorem dX6_quartersOfAll_17 : decode cX6_quartersOfAll 17 = .ok (.getfield 36, 3) := by decide +kernel
theorem dX6_quartersOfAll_20 : decode cX6_quartersOfAll 20 = .ok (.getfield 96, 3) := by decide +kernel
theorem dX6_quartersOfAll_23 : decode cX6_quartersOfAll 23 = .ok (.iload_n 2, 1) := by decide +kernel
theorem dX6_quartersOfAll_24 : decode cX6_quartersOfAll 24 = .ok (.iaload, 1) := by decide +kernel
theorem dX6_quartersOfAll_25 : decode cX6_quartersOfAll 25 = .ok (.iadd, 1) := by decide +kernel
theorem dX6_quartersOfAll_26 : decode cX6_quartersOfAll 26 = .ok (.istore_n 1, 1) := by decide +kernel
theorem dX6_quartersOfAll_27 : decode cX6_quartersOfAll 27 = .ok (.iinc 2 1, 3) := by decide +kernel
theorem dX6_quartersOfAll_30 : decode cX6_quartersOfAll 30 = .ok (.goto (-26), 3) := by decide +kernel
theorem dX6_quartersOfAll_33 : decode cX6_quartersOfAll 33 = .ok (.iload_n 1, 1) := by decide +kernel
theorem dX6_quartersOfAll_34 : decode cX6_quartersOfAll 34 = .ok (.ireturn, 1) := by decide +kernel
def bX6_quartersOfAll_4 (R_4 : Int32 × Int32 × St → Prop) (y1 : Int32) (y2 : Int32) (σ : St) (Q : Int32 → St → Prop) : Prop :=
  (((σ.1 3 5) ≤ y2 → Q y1 σ) ∧ (¬ (σ.1 3 5) ≤ y2 → (vp_in y2 5 ∧ (∀ x3 : Int32, x3 = (y1 + (σ.1 19 y2.toNatClampNeg)) → (∀ x4 : Int32, x4 = y2 + 1 → R_4 (x3, x4, σ))))))
set_option maxHeartbeats 4000000 in
set_option maxRecDepth 100000 in
theorem tX6_quartersOfAll_4 {R_4 : Int32 × Int32 × St → Prop} {Q : Int32 → St → Prop} (M : MC p s m args meth c cX6_quartersOfAll 3 (some .int) RX6 Y) (hN : yN Y = 108) (h0 : c0s Y 3 9) (hR_4 : ∀ (y1 y2 : Int32) (σ : St) (H : Heap) (locs : List Loc) (ls : Array Slot), WS Y (AD Y) s.heap σ H locs → lv_has ls 3 [(0, .ref (yA Y 0)), (1, .int y1), (2, .int y2)] → R_4 (y1, y2, σ) → W p l e { frames := 0, cells := 0, slots := 0, locals := 0 } s m args below meth c H locs 0 0 (MQ below (QI Y Q) args s 0 0 (AD Y)) (F0 m 4 ls [])) (y1 : Int32) (y2 : Int32) (σ : St) (H : Heap) (locs : List Loc) (ls : Array Slot) (hw : WS Y (AD Y) s.heap σ H locs) (hl : lv_has ls 3 [(0, .ref (yA Y 0)), (1, .int y1), (2, .int y2)]) (h : bX6_quartersOfAll_4 R_4 y1 y2 σ Q) : W p l e { frames := 0, cells := 0, slots := 0, locals := 0 } s m args below meth c H locs 0 0 (MQ below (QI Y Q) args s 0 0 (AD Y)) (F0 m 4 ls []) := by
  obtain ⟨hx, hb, hr, hml, hown, hlk, hT, hK, hB⟩ := id M
  unfold bX6_quartersOfAll_4 at h
  refine lv_iload_n hx hb dX6_quartersOfAll_4 rfl (lv_at hl 2 rfl) ?_
  refine lv_aload_n hx hb dX6_quartersOfAll_5 rfl (lv_at hl 0 rfl) ?_
  refine q_get (v := .ref (yA Y 3)) M hw (ob_0 hN h0) rfl inq_6 1 (by decide) tw_258 rfl dX6_quartersOfAll_6 ?_
  refine q_get (v := .int (σ.1 3 5)) M hw (ph_ob (ph_3 hN)) rfl inq_3 5 (by decide) tw_119 rfl dX6_quartersOfAll_9 ?_
  refine lv_icmp_ge (tgt := 33) hx hb dX6_quartersOfAll_12 (by decide) (fun c1 => ?_) (fun c1 => ?_)
  · have h := h.1 c1
    refine lv_iload_n hx hb dX6_quartersOfAll_33 rfl (lv_at hl 1 rfl) ?_
    exact q_iret M hw h dX6_quartersOfAll_34
  · have h := h.2 c1
    refine lv_iload_n hx hb dX6_quartersOfAll_15 rfl (lv_at hl 1 rfl) ?_
    refine lv_aload_n hx hb dX6_quartersOfAll_16 rfl (lv_at hl 0 rfl) ?_
    refine q_get (v := .ref (yA Y 18)) M hw (ob_0 hN h0) rfl inq_6 4 (by decide) tw_261 rfl dX6_quartersOfAll_17 ?_
    refine q_get (v := .ref (yA Y 19)) M hw (sh_ob (sh_18 hN)) rfl inq_4 0 (by decide) tw_186 rfl dX6_quartersOfAll_20 ?_
    refine lv_iload_n hx hb dX6_quartersOfAll_23 rfl (lv_at hl 2 rfl) ?_
    have c2 := h.1
    have h := h.2
    refine q_ild M hw (ar_19 hN) c2 dX6_quartersOfAll_24 ?_
    refine lv_iadd hx hb dX6_quartersOfAll_25 ?_
    refine lv_topi (fun x3 ex3 => ?_)
    have h := h x3 ex3
    refine lv_istore_n (lv' := [(1, .int x3), (0, .ref (yA Y 0)), (2, .int y2)]) hx hb dX6_quartersOfAll_26 rfl hl (by decide) rfl (fun ls hl => ?_)
    obtain ⟨x4, ex4⟩ : ∃ y : Int32, y = y2 + 1 := ⟨_, rfl⟩
    have h := h x4 ex4
    refine lv_iinc (v := x4) (lv' := [(2, .int x4), (1, .int x3), (0, .ref (yA Y 0))]) hx hb dX6_quartersOfAll_27 hl (k := 2) rfl (by rw [ex4]; rfl) (by decide) rfl (fun ls hl => ?_)
    refine lv_goto (tgt := 4) hx hb dX6_quartersOfAll_30 (by decide) ?_
    exact hR_4 x3 x4 σ _ _ _ hw (lv_sub hl [2, 1, 0] rfl) h
def lX6_quartersOfAll_4 (Q : Int32 → St → Prop) : (Int32 × Int32 × St → Prop) → Int32 × Int32 × St → Prop := fun R a => bX6_quartersOfAll_4 R a.1 a.2.1 a.2.2 Q
theorem tlX6_quartersOfAll_4 {Q : Int32 → St → Prop} (M : MC p s m args meth c cX6_quartersOfAll 3 (some .int) RX6 Y) (hN : yN Y = 108) (h0 : c0s Y 3 9) (n : Nat) : ∀ (y1 : Int32) (y2 : Int32) (σ : St) (H : Heap) (locs : List Loc) (ls : Array Slot) (hw : WS Y (AD Y) s.heap σ H locs) (hl : lv_has ls 3 [(0, .ref (yA Y 0)), (1, .int y1), (2, .int y2)]) (h : Lp (lX6_quartersOfAll_4 Q) n (y1, y2, σ)), W p l e { frames := 0, cells := 0, slots := 0, locals := 0 } s m args below meth c H locs 0 0 (MQ below (QI Y Q) args s 0 0 (AD Y)) (F0 m 4 ls []) := by
  induction n with
  | zero => intro y1 y2 σ H locs ls hw hl h; exact h.elim
  | succ n ih =>
    intro y1 y2 σ H locs ls hw hl h
    exact tX6_quartersOfAll_4 M hN h0 ih y1 y2 σ H locs ls hw hl h
def wX6_quartersOfAll (σ : St) (Q : Int32 → St → Prop) : Prop :=
  ∃ n : Nat, Lp (lX6_quartersOfAll_4 Q) n (0, 0, σ)
set_option maxHeartbeats 4000000 in
set_option maxRecDepth 100000 in
theorem tX6_quartersOfAll_E {Q : Int32 → St → Prop} (M : MC p s m args meth c cX6_quartersOfAll 3 (some .int) RX6 Y) (hN : yN Y = 108) (h0 : c0s Y 3 9)  (σ : St) (H : Heap) (locs : List Loc) (ls : Array Slot) (hw : WS Y (AD Y) s.heap σ H locs) (hl : lv_has ls 3 [(0, .ref (yA Y 0))]) (h : wX6_quartersOfAll σ Q) : W p l e { frames := 0, cells := 0, slots := 0, locals := 0 } s m args below meth c H locs 0 0 (MQ below (QI Y Q) args s 0 0 (AD Y)) (F0 m 0 ls []) := by
  obtain ⟨hx, hb, hr, hml, hown, hlk, hT, hK, hB⟩ := id M
  unfold wX6_quartersOfAll at h
  refine lv_iconst (v := 0) hx hb dX6_quartersOfAll_0 (by decide) ?_
  refine lv_istore_n (lv' := [(1, .int 0), (0, .ref (yA Y 0))]) hx hb dX6_quartersOfAll_1 rfl hl (by decide) rfl (fun ls hl => ?_)
  refine lv_iconst (v := 0) hx hb dX6_quartersOfAll_2 (by decide) ?_
  refine lv_istore_n (lv' := [(2, .int 0), (1, .int 0), (0, .ref (yA Y 0))]) hx hb dX6_quartersOfAll_3 rfl hl (by decide) rfl (fun ls hl => ?_)
  obtain ⟨n, h⟩ := h
  exact tlX6_quartersOfAll_4 M hN h0 n 0 0 σ _ _ _ hw (lv_sub hl [2, 1, 0] rfl) h
set_option maxRecDepth 100000 in
theorem ctX6_quartersOfAll (l : Launch) {Y : LY} (hB : YB Y) (hN : yN Y = 108) (h0 : c0s Y 3 9) (σ : St) (Q : Int32 → St → Prop) (h : wX6_quartersOfAll σ Q) : CT l yX6_quartersOfAll (Cond.code yX6_quartersOfAll cX6_quartersOfAll 3 (some .int)) { frames := 0, cells := 0, slots := 0, locals := 0 } Y [.ref (yA Y 0)] σ (QI Y Q) :=
  q_ent hB (by decide +kernel) (Nat.le_of_ble_eq_true rfl) (fun p e s m below meth c ls M hw hl => tX6_quartersOfAll_E M hN h0 σ _ _ ls hw hl h)
theorem mbX6_quartersOfAll : MB RX6 yX6_quartersOfAll cX6_quartersOfAll 0 3 (some .int) := ⟨tw_408, tw_13, tw_49, tw_409, by decide +kernel⟩
end
section
variable {p : Program} {l : Launch} {e : Env} {s : State} {m : MethodId} {args : Array Value} {below : List Frame} {meth : Method} {c : Code} {Y : LY}
theorem dX6_now_0 : decode cX6_now 0 = .ok (.iload_n 1, 1) := by decide +kernel
theorem dX6_now_1 : decode cX6_now 1 = .ok (.tableswitch 78 0 5 #[39, 47, 52, 60, 65, 70], 39) := by decide +kernel
theorem dX6_now_40 : decode cX6_now 40 = .ok (.aload_n 0, 1) := by decide +kernel
theorem dX6_now_41 : decode cX6_now 41 = .ok (.getfield 36, 3) := by decide +kernel
theorem dX6_now_44 : decode cX6_now 44 = .ok (.getfield 133, 3) := by decide +kernel
theorem dX6_now_47 : decode cX6_now 47 = .ok (.ireturn, 1) := by decide +kernel
theorem dX6_now_48 : decode cX6_now 48 = .ok (.aload_n 0, 1) := by decide +kernel
theorem dX6_now_49 : decode cX6_now 49 = .ok (.invokevirtual 136, 3) := by decide +kernel
theorem dX6_now_52 : decode cX6_now 52 = .ok (.ireturn, 1) := by decide +kernel
theorem dX6_now_53 : decode cX6_now 53 = .ok (.aload_n 0, 1) := by decide +kernel
theorem dX6_now_54 : decode cX6_now 54 = .ok (.getfield 36, 3) := by decide +kernel
theorem dX6_now_57 : decode cX6_now 57 = .ok (.getfield 140, 3) := by decide +kernel
theorem dX6_now_60 : decode cX6_now 60 = .ok (.ireturn, 1) := by decide +kernel
theorem dX6_now_61 : decode cX6_now 61 = .ok (.aload_n 0, 1) := by decide +kernel
theorem dX6_now_62 : decode cX6_now 62 = .ok (.invokevirtual 143, 3) := by decide +kernel
theorem dX6_now_65 : decode cX6_now 65 = .ok (.ireturn, 1) := by decide +kernel
theorem dX6_now_66 : decode cX6_now 66 = .ok (.aload_n 0, 1) := by decide +kernel
theorem dX6_now_67 : decode cX6_now 67 = .ok (.invokevirtual 146, 3) := by decide +kernel
theorem dX6_now_70 : decode cX6_now 70 = .ok (.ireturn, 1) := by decide +kernel
theorem dX6_now_71 : decode cX6_now 71 = .ok (.aload_n 0, 1) := by decide +kernel
theorem dX6_now_72 : decode cX6_now 72 = .ok (.getfield 43, 3) := by decide +kernel
theorem dX6_now_75 : decode cX6_now 75 = .ok (.getfield 149, 3) := by decide +kernel
theorem dX6_now_78 : decode cX6_now 78 = .ok (.ireturn, 1) := by decide +kernel
theorem dX6_now_79 : decode cX6_now 79 = .ok (.iconst (-1), 1) := by decide +kernel
theorem dX6_now_80 : decode cX6_now 80 = .ok (.ireturn, 1) := by decide +kernel
def wX6_now (a0 : Int32) (σ : St) (Q : Int32 → St → Prop) : Prop :=
  ((a0 = 0 → Q (σ.1 18 4) σ) ∧ (¬ a0 = 0 → ((a0 = 1 → wX6_doneStrips σ (fun r4 σ3 => Q r4 σ3)) ∧ (¬ a0 = 1 → ((a0 = 2 → Q (σ.1 18 5) σ) ∧ (¬ a0 = 2 → ((a0 = 3 → wX6_quartersOfAll σ (fun r8 σ7 => Q r8 σ7)) ∧ (¬ a0 = 3 → ((a0 = 4 → wX6_fullNights σ (fun r11 σ10 => Q r11 σ10)) ∧ (¬ a0 = 4 → ((a0 = 5 → Q (σ.1 23 2) σ) ∧ (¬ a0 = 5 → Q (-1) σ))))))))))))
set_option maxHeartbeats 4000000 in
set_option maxRecDepth 100000 in
theorem tX6_now_E {Q : Int32 → St → Prop} (M : MC p s m args meth c cX6_now 2 (some .int) RX6 Y) (hN : yN Y = 108) (h0 : c0s Y 3 9) (a0 : Int32) (σ : St) (H : Heap) (locs : List Loc) (ls : Array Slot) (hw : WS Y (AD Y) s.heap σ H locs) (hl : lv_has ls 2 [(0, .ref (yA Y 0)), (1, .int a0)]) (h : wX6_now a0 σ Q) : W p l e { frames := 2, cells := 0, slots := 0, locals := 44 } s m args below meth c H locs 0 0 (MQ below (QI Y Q) args s 0 0 (AD Y)) (F0 m 0 ls []) := by
  obtain ⟨hx, hb, hr, hml, hown, hlk, hT, hK, hB⟩ := id M
  unfold wX6_now at h
  refine lv_iload_n hx hb dX6_now_0 rfl (lv_at hl 1 rfl) ?_
  by_cases c1 : a0 = 0
  · have h := h.1 c1
    refine lv_tableIn (tgt := 40) hx hb dX6_now_1 (by rw [c1]; decide) (by rw [c1]; decide) (by rw [c1]; first | done | rfl) (by decide) ?_
    refine lv_aload_n hx hb dX6_now_40 rfl (lv_at hl 0 rfl) ?_
    refine q_get (v := .ref (yA Y 18)) M hw (ob_0 hN h0) rfl inq_6 4 (by decide) tw_261 rfl dX6_now_41 ?_
    refine q_get (v := .int (σ.1 18 4)) M hw (sh_ob (sh_18 hN)) rfl inq_4 4 (by decide) tw_194 rfl dX6_now_44 ?_
    exact q_iret M hw h dX6_now_47
  · have h := h.2 c1
    by_cases c2 : a0 = 1
    · have h := h.1 c2
      refine lv_tableIn (tgt := 48) hx hb dX6_now_1 (by rw [c2]; decide) (by rw [c2]; decide) (by rw [c2]; first | done | rfl) (by decide) ?_
      refine lv_aload_n hx hb dX6_now_48 rfl (lv_at hl 0 rfl) ?_
      refine q_goI hw (q_runV (rest := []) M hw (ctX6_doneStrips l hB hN h0 σ _ h) mbX6_doneStrips (ob_0 hN h0) rfl tw_402 rfl hl.1 rfl (Nat.le_of_ble_eq_true rfl) ⟨Nat.le_of_ble_eq_true rfl, Nat.le_of_ble_eq_true rfl⟩ ⟨Nat.le_refl _, Nat.le_refl _⟩ dX6_now_49) (fun r4 σ3 H locs h hw => ?_)
      exact q_iret M hw h dX6_now_52
    · have h := h.2 c2
      by_cases c5 : a0 = 2
      · have h := h.1 c5
        refine lv_tableIn (tgt := 53) hx hb dX6_now_1 (by rw [c5]; decide) (by rw [c5]; decide) (by rw [c5]; first | done | rfl) (by decide) ?_
        refine lv_aload_n hx hb dX6_now_53 rfl (lv_at hl 0 rfl) ?_
        refine q_get (v := .ref (yA Y 18)) M hw (ob_0 hN h0) rfl inq_6 4 (by decide) tw_261 rfl dX6_now_54 ?_
        refine q_get (v := .int (σ.1 18 5)) M hw (sh_ob (sh_18 hN)) rfl inq_4 5 (by decide) tw_196 rfl dX6_now_57 ?_
        exact q_iret M hw h dX6_now_60
      · have h := h.2 c5
        by_cases c6 : a0 = 3
        · have h := h.1 c6
          refine lv_tableIn (tgt := 61) hx hb dX6_now_1 (by rw [c6]; decide) (by rw [c6]; decide) (by rw [c6]; first | done | rfl) (by decide) ?_
          refine lv_aload_n hx hb dX6_now_61 rfl (lv_at hl 0 rfl) ?_
          refine q_goI hw (q_runV (rest := []) M hw (ctX6_quartersOfAll l hB hN h0 σ _ h) mbX6_quartersOfAll (ob_0 hN h0) rfl tw_406 rfl hl.1 rfl (Nat.le_of_ble_eq_true rfl) ⟨Nat.le_of_ble_eq_true rfl, Nat.le_of_ble_eq_true rfl⟩ ⟨Nat.le_refl _, Nat.le_refl _⟩ dX6_now_62) (fun r8 σ7 H locs h hw => ?_)
          exact q_iret M hw h dX6_now_65
        · have h := h.2 c6
          by_cases c9 : a0 = 4
          · have h := h.1 c9
            refine lv_tableIn (tgt := 66) hx hb dX6_now_1 (by rw [c9]; decide) (by rw [c9]; decide) (by rw [c9]; first | done | rfl) (by decide) ?_
            refine lv_aload_n hx hb dX6_now_66 rfl (lv_at hl 0 rfl) ?_
            refine q_goI hw (q_runV (rest := []) M hw (ctX6_fullNights l hB hN h0 σ _ h) mbX6_fullNights (ob_0 hN h0) rfl tw_410 rfl hl.1 rfl (Nat.le_of_ble_eq_true rfl) ⟨Nat.le_of_ble_eq_true rfl, Nat.le_of_ble_eq_true rfl⟩ ⟨Nat.le_refl _, Nat.le_refl _⟩ dX6_now_67) (fun r11 σ10 H locs h hw => ?_)
            exact q_iret M hw h dX6_now_70
          · have h := h.2 c9
            by_cases c12 : a0 = 5
            · have h := h.1 c12
              refine lv_tableIn (tgt := 71) hx hb dX6_now_1 (by rw [c12]; decide) (by rw [c12]; decide) (by rw [c12]; first | done | rfl) (by decide) ?_
              refine lv_aload_n hx hb dX6_now_71 rfl (lv_at hl 0 rfl) ?_
              refine q_get (v := .ref (yA Y 23)) M hw (ob_0 hN h0) rfl inq_6 5 (by decide) tw_262 rfl dX6_now_72 ?_
              refine q_get (v := .int (σ.1 23 2)) M hw (ob_23 hN) rfl inq_2 2 (by decide) tw_226 rfl dX6_now_75 ?_
              exact q_iret M hw h dX6_now_78
            · have h := h.2 c12
              refine lv_tableOut (tgt := 79) hx hb dX6_now_1 (sw_out 5 (by decide) (fun k hk => ?_)) (by decide) ?_
              · rcases (by omega : k = 0 ∨ k = 1 ∨ k = 2 ∨ k = 3 ∨ k = 4 ∨ k = 5) with rfl | rfl | rfl | rfl | rfl | rfl
                · exact c1
                · exact c2
                · exact c5
                · exact c6
                · exact c9
                · exact c12
              · refine lv_iconst (v := (-1)) hx hb dX6_now_79 (by decide) ?_
                exact q_iret M hw h dX6_now_80
set_option maxRecDepth 100000 in
theorem ctX6_now (l : Launch) {Y : LY} (hB : YB Y) (hN : yN Y = 108) (h0 : c0s Y 3 9) (a0 : Int32) (σ : St) (Q : Int32 → St → Prop) (h : wX6_now a0 σ Q) : CT l yX6_now (Cond.code yX6_now cX6_now 2 (some .int)) { frames := 2, cells := 0, slots := 0, locals := 44 } Y [.ref (yA Y 0), .int a0] σ (QI Y Q) :=
  q_ent hB (by decide +kernel) (Nat.le_of_ble_eq_true rfl) (fun p e s m below meth c ls M hw hl => tX6_now_E M hN h0 a0 σ _ _ ls hw hl h)
theorem mbX6_now : MB RX6 yX6_now cX6_now 1 2 (some .int) := ⟨tw_399, tw_400, tw_49, tw_401, by decide +kernel⟩
end
section
variable {p : Program} {l : Launch} {e : Env} {s : State} {m : MethodId} {args : Array Value} {below : List Frame} {meth : Method} {c : Code} {Y : LY}
theorem dX6_ploughs_0 : decode cX6_ploughs 0 = .ok (.aload_n 0, 1) := by decide +kernel
theorem dX6_ploughs_1 : decode cX6_ploughs 1 = .ok (.iload_n 1, 1) := by decide +kernel
theorem dX6_ploughs_2 : decode cX6_ploughs 2 = .ok (.invokevirtual 92, 3) := by decide +kernel
theorem dX6_ploughs_5 : decode cX6_ploughs 5 = .ok (.ifCond .eq 11, 3) := by decide +kernel
theorem dX6_ploughs_8 : decode cX6_ploughs 8 = .ok (.aload_n 0, 1) := by decide +kernel
theorem dX6_ploughs_9 : decode cX6_ploughs 9 = .ok (.iload_n 2, 1) := by decide +kernel
theorem dX6_ploughs_10 : decode cX6_ploughs 10 = .ok (.invokevirtual 111, 3) := by decide +kernel
theorem dX6_ploughs_13 : decode cX6_ploughs 13 = .ok (.ifCond .ne 5, 3) := by decide +kernel
theorem dX6_ploughs_16 : decode cX6_ploughs 16 = .ok (.iconst (-1), 1) := by decide +kernel
theorem dX6_ploughs_17 : decode cX6_ploughs 17 = .ok (.ireturn, 1) := by decide +kernel
theorem dX6_ploughs_18 : decode cX6_ploughs 18 = .ok (.aload_n 0, 1) := by decide +kernel
theorem dX6_ploughs_19 : decode cX6_ploughs 19 = .ok (.getfield 19, 3) := by decide +kernel
theorem dX6_ploughs_22 : decode cX6_ploughs 22 = .ok (.aload_n 0, 1) := by decide +kernel
theorem dX6_ploughs_23 : decode cX6_ploughs 23 = .ok (.getfield 36, 3) := by decide +kernel
theorem dX6_ploughs_26 : decode cX6_ploughs 26 = .ok (.getfield 133, 3) := by decide +kernel
theorem dX6_ploughs_29 : decode cX6_ploughs 29 = .ok (.invokevirtual 126, 3) := by decide +kernel
theorem dX6_ploughs_32 : decode cX6_ploughs 32 = .ok (.istore_n 3, 1) := by decide +kernel
theorem dX6_ploughs_33 : decode cX6_ploughs 33 = .ok (.aload_n 0, 1) := by decide +kernel
theorem dX6_ploughs_34 : decode cX6_ploughs 34 = .ok (.getfield 36, 3) := by decide +kernel
theorem dX6_ploughs_37 : decode cX6_ploughs 37 = .ok (.iload_n 1, 1) := by decide +kernel
theorem dX6_ploughs_38 : decode cX6_ploughs 38 = .ok (.iload_n 2, 1) := by decide +kernel
theorem dX6_ploughs_39 : decode cX6_ploughs 39 = .ok (.iload_n 3, 1) := by decide +kernel
theorem dX6_ploughs_40 : decode cX6_ploughs 40 = .ok (.invokevirtual 152, 3) := by decide +kernel
theorem dX6_ploughs_43 : decode cX6_ploughs 43 = .ok (.ifCond .ne 6, 3) := by decide +kernel
theorem dX6_ploughs_46 : decode cX6_ploughs 46 = .ok (.bipush (-2), 2) := by decide +kernel
theorem dX6_ploughs_48 : decode cX6_ploughs 48 = .ok (.ireturn, 1) := by decide +kernel
theorem dX6_ploughs_49 : decode cX6_ploughs 49 = .ok (.aload_n 0, 1) := by decide +kernel
theorem dX6_ploughs_50 : decode cX6_ploughs 50 = .ok (.getfield 43, 3) := by decide +kernel
theorem dX6_ploughs_53 : decode cX6_ploughs 53 = .ok (.aload_n 0, 1) := by decide +kernel
theorem dX6_ploughs_54 : decode cX6_ploughs 54 = .ok (.getfield 36, 3) := by decide +kernel
theorem dX6_ploughs_57 : decode cX6_ploughs 57 = .ok (.invokevirtual 156, 3) := by decide +kernel
theorem dX6_ploughs_60 : decode cX6_ploughs 60 = .ok (.aload_n 0, 1) := by decide +kernel
theorem dX6_ploughs_61 : decode cX6_ploughs 61 = .ok (.getfield 19, 3) := by decide +kernel
theorem dX6_ploughs_64 : decode cX6_ploughs 64 = .ok (.getfield 130, 3) := by decide +kernel
theorem dX6_ploughs_67 : decode cX6_ploughs 67 = .ok (.aload_n 0, 1) := by decide +kernel
theorem dX6_ploughs_68 : decode cX6_ploughs 68 = .ok (.getfield 36, 3) := by decide +kernel
theorem dX6_ploughs_71 : decode cX6_ploughs 71 = .ok (.getfield 133, 3) := by decide +kernel
theorem dX6_ploughs_74 : decode cX6_ploughs 74 = .ok (.baload, 1) := by decide +kernel
theorem dX6_ploughs_75 : decode cX6_ploughs 75 = .ok (.ifCond .eq 7, 3) := by decide +kernel
theorem dX6_ploughs_78 : decode cX6_ploughs 78 = .ok (.iconst 0, 1) := by decide +kernel
theorem dX6_ploughs_79 : decode cX6_ploughs 79 = .ok (.goto 14, 3) := by decide +kernel
theorem dX6_ploughs_82 : decode cX6_ploughs 82 = .ok (.iload_n 3, 1) := by decide +kernel
theorem dX6_ploughs_83 : decode cX6_ploughs 83 = .ok (.aload_n 0, 1) := by decide +kernel
theorem dX6_ploughs_84 : decode cX6_ploughs 84 = .ok (.getfield 19, 3) := by decide +kernel
theorem dX6_ploughs_87 : decode cX6_ploughs 87 = .ok (.getfield 99, 3) := by decide +kernel
theorem dX6_ploughs_90 : decode cX6_ploughs 90 = .ok (.iload_n 1, 1) := by decide +kernel
theorem dX6_ploughs_91 : decode cX6_ploughs 91 = .ok (.iaload, 1) := by decide +kernel
theorem dX6_ploughs_92 : decode cX6_ploughs 92 = .ok (.imul, 1) := by decide +kernel
theorem dX6_ploughs_93 : decode cX6_ploughs 93 = .ok (.istore 4, 2) := by decide +kernel
theorem dX6_ploughs_95 : decode cX6_ploughs 95 = .ok (.aload_n 0, 1) := by decide +kernel
theorem dX6_ploughs_96 : decode cX6_ploughs 96 = .ok (.getfield 36, 3) := by decide +kernel
theorem dX6_ploughs_99 : decode cX6_ploughs 99 = .ok (.iload_n 1, 1) := by decide +kernel
theorem dX6_ploughs_100 : decode cX6_ploughs 100 = .ok (.iload_n 2, 1) := by decide +kernel
theorem dX6_ploughs_101 : decode cX6_ploughs 101 = .ok (.iload_n 3, 1) := by decide +kernel
theorem dX6_ploughs_102 : decode cX6_ploughs 102 = .ok (.iload 4, 2) := by decide +kernel
theorem dX6_ploughs_104 : decode cX6_ploughs 104 = .ok (.invokevirtual 160, 3) := by decide +kernel
theorem dX6_ploughs_107 : decode cX6_ploughs 107 = .ok (.aload_n 0, 1) := by decide +kernel
theorem dX6_ploughs_108 : decode cX6_ploughs 108 = .ok (.getfield 36, 3) := by decide +kernel
theorem dX6_ploughs_111 : decode cX6_ploughs 111 = .ok (.getfield 117, 3) := by decide +kernel
theorem dX6_ploughs_114 : decode cX6_ploughs 114 = .ok (.iload_n 2, 1) := by decide +kernel
theorem dX6_ploughs_115 : decode cX6_ploughs 115 = .ok (.iaload, 1) := by decide +kernel
theorem dX6_ploughs_116 : decode cX6_ploughs 116 = .ok (.ireturn, 1) := by decide +kernel
def bX6_ploughs_93 (y1 : Int32) (y2 : Int32) (y3 : Int32) (z0 : Int32) (σ : St) (Q : Int32 → St → Prop) : Prop :=
  wX4_plough 18 y1 y2 y3 z0 σ (fun σ1 => (vp_in y2 7 ∧ Q (σ1.1 22 y2.toNatClampNeg) σ1))
set_option maxHeartbeats 4000000 in
set_option maxRecDepth 100000 in
theorem tX6_ploughs_93 {Q : Int32 → St → Prop} (M : MC p s m args meth c cX6_ploughs 5 (some .int) RX6 Y) (hN : yN Y = 108) (h0 : c0s Y 3 9) (y1 : Int32) (y2 : Int32) (y3 : Int32) (z0 : Int32) (σ : St) (H : Heap) (locs : List Loc) (ls : Array Slot) (hw : WS Y (AD Y) s.heap σ H locs) (hl : lv_has ls 5 [(0, .ref (yA Y 0)), (1, .int y1), (2, .int y2), (3, .int y3)]) (h : bX6_ploughs_93 y1 y2 y3 z0 σ Q) : W p l e { frames := 2, cells := 0, slots := 0, locals := 45 } s m args below meth c H locs 0 0 (MQ below (QI Y Q) args s 0 0 (AD Y)) (F0 m 93 ls [.int z0]) := by
  obtain ⟨hx, hb, hr, hml, hown, hlk, hT, hK, hB⟩ := id M
  unfold bX6_ploughs_93 at h
  refine lv_istore (lv' := [(4, .int z0), (0, .ref (yA Y 0)), (1, .int y1), (2, .int y2), (3, .int y3)]) hx hb dX6_ploughs_93 hl (by decide) rfl (fun ls hl => ?_)
  refine lv_aload_n hx hb dX6_ploughs_95 rfl (lv_at hl 1 rfl) ?_
  refine q_get (v := .ref (yA Y 18)) M hw (ob_0 hN h0) rfl inq_6 4 (by decide) tw_261 rfl dX6_ploughs_96 ?_
  refine lv_iload_n hx hb dX6_ploughs_99 rfl (lv_at hl 2 rfl) ?_
  refine lv_iload_n hx hb dX6_ploughs_100 rfl (lv_at hl 3 rfl) ?_
  refine lv_iload_n hx hb dX6_ploughs_101 rfl (lv_at hl 4 rfl) ?_
  refine lv_iload hx hb dX6_ploughs_102 (lv_at hl 0 rfl) ?_
  refine q_goV hw (q_runV (rest := []) M hw (ctX4_plough l hB (sh_18 hN) y1 y2 y3 z0 σ _ h) mbX4_plough (sh_ob (sh_18 hN)) rfl tw_435 rfl hl.1 rfl (Nat.le_of_ble_eq_true rfl) ⟨Nat.le_of_ble_eq_true rfl, Nat.le_of_ble_eq_true rfl⟩ ⟨Nat.le_refl _, Nat.le_refl _⟩ dX6_ploughs_104) (fun σ1 H locs h hw => ?_)
  refine lv_aload_n hx hb dX6_ploughs_107 rfl (lv_at hl 1 rfl) ?_
  refine q_get (v := .ref (yA Y 18)) M hw (ob_0 hN h0) rfl inq_6 4 (by decide) tw_261 rfl dX6_ploughs_108 ?_
  refine q_get (v := .ref (yA Y 22)) M hw (sh_ob (sh_18 hN)) rfl inq_4 3 (by decide) tw_192 rfl dX6_ploughs_111 ?_
  refine lv_iload_n hx hb dX6_ploughs_114 rfl (lv_at hl 3 rfl) ?_
  have c2 := h.1
  have h := h.2
  refine q_ild M hw (ar_22 hN) c2 dX6_ploughs_115 ?_
  exact q_iret M hw h dX6_ploughs_116
def wX6_ploughs (a0 : Int32) (a1 : Int32) (σ : St) (Q : Int32 → St → Prop) : Prop :=
  wX6_isFarmer a0 σ (fun r2 σ1 => ((r2 = 0 → Q (-1) σ1) ∧ (¬ r2 = 0 → wX6_isStrip a1 σ1 (fun r5 σ4 => ((r5 = 0 → Q (-1) σ4) ∧ (¬ r5 = 0 → wX3_moon 3 (σ4.1 18 4) σ4 (fun r8 σ7 => wX4_mayPlough 18 a0 a1 r8 σ7 (fun r10 σ9 => ((r10 = 0 → Q (-2) σ9) ∧ (¬ r10 = 0 → wX2_push σ9 (fun σ12 => (vp_in (σ12.1 18 4) 100 ∧ (((σ12.1 8 (σ12.1 18 4).toNatClampNeg) = 0 → (vp_in a0 5 ∧ bX6_ploughs_93 a0 a1 r8 (r8 * (σ12.1 5 a0.toNatClampNeg)) σ12 Q)) ∧ (¬ (σ12.1 8 (σ12.1 18 4).toNatClampNeg) = 0 → bX6_ploughs_93 a0 a1 r8 0 σ12 Q))))))))))))))
set_option maxHeartbeats 4000000 in
set_option maxRecDepth 100000 in
theorem tX6_ploughs_E {Q : Int32 → St → Prop} (M : MC p s m args meth c cX6_ploughs 5 (some .int) RX6 Y) (hN : yN Y = 108) (h0 : c0s Y 3 9) (a0 : Int32) (a1 : Int32) (σ : St) (H : Heap) (locs : List Loc) (ls : Array Slot) (hw : WS Y (AD Y) s.heap σ H locs) (hl : lv_has ls 5 [(0, .ref (yA Y 0)), (1, .int a0), (2, .int a1)]) (h : wX6_ploughs a0 a1 σ Q) : W p l e { frames := 2, cells := 0, slots := 0, locals := 45 } s m args below meth c H locs 0 0 (MQ below (QI Y Q) args s 0 0 (AD Y)) (F0 m 0 ls []) := by
  obtain ⟨hx, hb, hr, hml, hown, hlk, hT, hK, hB⟩ := id M
  unfold wX6_ploughs at h
  refine lv_aload_n hx hb dX6_ploughs_0 rfl (lv_at hl 0 rfl) ?_
  refine lv_iload_n hx hb dX6_ploughs_1 rfl (lv_at hl 1 rfl) ?_
  refine q_goI hw (q_runV (rest := []) M hw (ctX6_isFarmer l hB hN h0 a0 σ _ h) mbX6_isFarmer (ob_0 hN h0) rfl tw_367 rfl hl.1 rfl (Nat.le_of_ble_eq_true rfl) ⟨Nat.le_of_ble_eq_true rfl, Nat.le_of_ble_eq_true rfl⟩ ⟨Nat.le_refl _, Nat.le_refl _⟩ dX6_ploughs_2) (fun r2 σ1 H locs h hw => ?_)
  refine lv_if_eq (tgt := 16) hx hb dX6_ploughs_5 (by decide) (fun c3 => ?_) (fun c3 => ?_)
  · have h := h.1 c3
    refine lv_iconst (v := (-1)) hx hb dX6_ploughs_16 (by decide) ?_
    exact q_iret M hw h dX6_ploughs_17
  · have h := h.2 c3
    refine lv_aload_n hx hb dX6_ploughs_8 rfl (lv_at hl 0 rfl) ?_
    refine lv_iload_n hx hb dX6_ploughs_9 rfl (lv_at hl 2 rfl) ?_
    refine q_goI hw (q_runV (rest := []) M hw (ctX6_isStrip l hB hN h0 a1 σ1 _ h) mbX6_isStrip (ob_0 hN h0) rfl tw_383 rfl hl.1 rfl (Nat.le_of_ble_eq_true rfl) ⟨Nat.le_of_ble_eq_true rfl, Nat.le_of_ble_eq_true rfl⟩ ⟨Nat.le_refl _, Nat.le_refl _⟩ dX6_ploughs_10) (fun r5 σ4 H locs h hw => ?_)
    refine lv_if_ne (tgt := 18) hx hb dX6_ploughs_13 (by decide) (fun c6 => ?_) (fun c6 => ?_)
    · have h := h.2 c6
      refine lv_aload_n hx hb dX6_ploughs_18 rfl (lv_at hl 0 rfl) ?_
      refine q_get (v := .ref (yA Y 3)) M hw (ob_0 hN h0) rfl inq_6 1 (by decide) tw_258 rfl dX6_ploughs_19 ?_
      refine lv_aload_n hx hb dX6_ploughs_22 rfl (lv_at hl 0 rfl) ?_
      refine q_get (v := .ref (yA Y 18)) M hw (ob_0 hN h0) rfl inq_6 4 (by decide) tw_261 rfl dX6_ploughs_23 ?_
      refine q_get (v := .int (σ4.1 18 4)) M hw (sh_ob (sh_18 hN)) rfl inq_4 4 (by decide) tw_194 rfl dX6_ploughs_26 ?_
      refine q_goI hw (q_runV (rest := []) M hw (ctX3_moon l hB (ph_3 hN) (σ4.1 18 4) σ4 _ h) mbX3_moon (ph_ob (ph_3 hN)) rfl tw_394 rfl hl.1 rfl (Nat.le_of_ble_eq_true rfl) ⟨Nat.le_of_ble_eq_true rfl, Nat.le_of_ble_eq_true rfl⟩ ⟨Nat.le_refl _, Nat.le_refl _⟩ dX6_ploughs_29) (fun r8 σ7 H locs h hw => ?_)
      refine lv_istore_n (lv' := [(3, .int r8), (0, .ref (yA Y 0)), (1, .int a0), (2, .int a1)]) hx hb dX6_ploughs_32 rfl hl (by decide) rfl (fun ls hl => ?_)
      refine lv_aload_n hx hb dX6_ploughs_33 rfl (lv_at hl 1 rfl) ?_
      refine q_get (v := .ref (yA Y 18)) M hw (ob_0 hN h0) rfl inq_6 4 (by decide) tw_261 rfl dX6_ploughs_34 ?_
      refine lv_iload_n hx hb dX6_ploughs_37 rfl (lv_at hl 2 rfl) ?_
      refine lv_iload_n hx hb dX6_ploughs_38 rfl (lv_at hl 3 rfl) ?_
      refine lv_iload_n hx hb dX6_ploughs_39 rfl (lv_at hl 0 rfl) ?_
      refine q_goI hw (q_runV (rest := []) M hw (ctX4_mayPlough l hB (sh_18 hN) a0 a1 r8 σ7 _ h) mbX4_mayPlough (sh_ob (sh_18 hN)) rfl tw_418 rfl hl.1 rfl (Nat.le_of_ble_eq_true rfl) ⟨Nat.le_of_ble_eq_true rfl, Nat.le_of_ble_eq_true rfl⟩ ⟨Nat.le_refl _, Nat.le_refl _⟩ dX6_ploughs_40) (fun r10 σ9 H locs h hw => ?_)
      refine lv_if_ne (tgt := 49) hx hb dX6_ploughs_43 (by decide) (fun c11 => ?_) (fun c11 => ?_)
      · have h := h.2 c11
        refine lv_aload_n hx hb dX6_ploughs_49 rfl (lv_at hl 1 rfl) ?_
        refine q_get (v := .ref (yA Y 23)) M hw (ob_0 hN h0) rfl inq_6 5 (by decide) tw_262 rfl dX6_ploughs_50 ?_
        refine lv_aload_n hx hb dX6_ploughs_53 rfl (lv_at hl 1 rfl) ?_
        refine q_get (v := .ref (yA Y 18)) M hw (ob_0 hN h0) rfl inq_6 4 (by decide) tw_261 rfl dX6_ploughs_54 ?_
        refine q_goV hw (q_runV (rest := []) M hw (ctX2_push l hB hN σ9 _ h) mbX2_push (ob_23 hN) rfl tw_424 rfl hl.1 rfl (Nat.le_of_ble_eq_true rfl) ⟨Nat.le_of_ble_eq_true rfl, Nat.le_of_ble_eq_true rfl⟩ ⟨Nat.le_refl _, Nat.le_refl _⟩ dX6_ploughs_57) (fun σ12 H locs h hw => ?_)
        refine lv_aload_n hx hb dX6_ploughs_60 rfl (lv_at hl 1 rfl) ?_
        refine q_get (v := .ref (yA Y 3)) M hw (ob_0 hN h0) rfl inq_6 1 (by decide) tw_258 rfl dX6_ploughs_61 ?_
        refine q_get (v := .ref (yA Y 8)) M hw (ph_ob (ph_3 hN)) rfl inq_3 4 (by decide) tw_115 rfl dX6_ploughs_64 ?_
        refine lv_aload_n hx hb dX6_ploughs_67 rfl (lv_at hl 1 rfl) ?_
        refine q_get (v := .ref (yA Y 18)) M hw (ob_0 hN h0) rfl inq_6 4 (by decide) tw_261 rfl dX6_ploughs_68 ?_
        refine q_get (v := .int (σ12.1 18 4)) M hw (sh_ob (sh_18 hN)) rfl inq_4 4 (by decide) tw_194 rfl dX6_ploughs_71 ?_
        have c13 := h.1
        have h := h.2
        refine q_zld M hw (ar_8 hN) c13 dX6_ploughs_74 ?_
        refine lv_if_eq (tgt := 82) hx hb dX6_ploughs_75 (by decide) (fun c14 => ?_) (fun c14 => ?_)
        · have h := h.1 c14
          refine lv_iload_n hx hb dX6_ploughs_82 rfl (lv_at hl 0 rfl) ?_
          refine lv_aload_n hx hb dX6_ploughs_83 rfl (lv_at hl 1 rfl) ?_
          refine q_get (v := .ref (yA Y 3)) M hw (ob_0 hN h0) rfl inq_6 1 (by decide) tw_258 rfl dX6_ploughs_84 ?_
          refine q_get (v := .ref (yA Y 5)) M hw (ph_ob (ph_3 hN)) rfl inq_3 1 (by decide) tw_104 rfl dX6_ploughs_87 ?_
          refine lv_iload_n hx hb dX6_ploughs_90 rfl (lv_at hl 2 rfl) ?_
          have c15 := h.1
          have h := h.2
          refine q_ild M hw (ar_5 hN) c15 dX6_ploughs_91 ?_
          refine lv_imul hx hb dX6_ploughs_92 ?_
          exact tX6_ploughs_93 M hN h0 a0 a1 r8 (r8 * (σ12.1 5 a0.toNatClampNeg)) σ12 _ _ _ hw (lv_sub hl [1, 2, 3, 0] rfl) h
        · have h := h.2 c14
          refine lv_iconst (v := 0) hx hb dX6_ploughs_78 (by decide) ?_
          refine lv_goto (tgt := 93) hx hb dX6_ploughs_79 (by decide) ?_
          exact tX6_ploughs_93 M hN h0 a0 a1 r8 0 σ12 _ _ _ hw (lv_sub hl [1, 2, 3, 0] rfl) h
      · have h := h.1 c11
        refine lv_bipush (v := (-2)) hx hb dX6_ploughs_46 (by decide) ?_
        exact q_iret M hw h dX6_ploughs_48
    · have h := h.1 c6
      refine lv_iconst (v := (-1)) hx hb dX6_ploughs_16 (by decide) ?_
      exact q_iret M hw h dX6_ploughs_17
set_option maxRecDepth 100000 in
theorem ctX6_ploughs (l : Launch) {Y : LY} (hB : YB Y) (hN : yN Y = 108) (h0 : c0s Y 3 9) (a0 : Int32) (a1 : Int32) (σ : St) (Q : Int32 → St → Prop) (h : wX6_ploughs a0 a1 σ Q) : CT l yX6_ploughs (Cond.code yX6_ploughs cX6_ploughs 5 (some .int)) { frames := 2, cells := 0, slots := 0, locals := 45 } Y [.ref (yA Y 0), .int a0, .int a1] σ (QI Y Q) :=
  q_ent hB (by decide +kernel) (Nat.le_of_ble_eq_true rfl) (fun p e s m below meth c ls M hw hl => tX6_ploughs_E M hN h0 a0 a1 σ _ _ ls hw hl h)
theorem mbX6_ploughs : MB RX6 yX6_ploughs cX6_ploughs 2 5 (some .int) := ⟨tw_415, tw_416, tw_49, tw_417, by decide +kernel⟩
end
section
variable {p : Program} {l : Launch} {e : Env} {s : State} {m : MethodId} {args : Array Value} {below : List Frame} {meth : Method} {c : Code} {Y : LY}
theorem dX6_passes_0 : decode cX6_passes 0 = .ok (.aload_n 0, 1) := by decide +kernel
theorem dX6_passes_1 : decode cX6_passes 1 = .ok (.getfield 36, 3) := by decide +kernel
theorem dX6_passes_4 : decode cX6_passes 4 = .ok (.getfield 133, 3) := by decide +kernel
theorem dX6_passes_7 : decode cX6_passes 7 = .ok (.bipush 99, 2) := by decide +kernel
theorem dX6_passes_9 : decode cX6_passes 9 = .ok (.if_icmp .lt 6, 3) := by decide +kernel
theorem dX6_passes_12 : decode cX6_passes 12 = .ok (.bipush (-2), 2) := by decide +kernel
theorem dX6_passes_14 : decode cX6_passes 14 = .ok (.ireturn, 1) := by decide +kernel
theorem dX6_passes_15 : decode cX6_passes 15 = .ok (.aload_n 0, 1) := by decide +kernel
theorem dX6_passes_16 : decode cX6_passes 16 = .ok (.getfield 43, 3) := by decide +kernel
theorem dX6_passes_19 : decode cX6_passes 19 = .ok (.aload_n 0, 1) := by decide +kernel
theorem dX6_passes_20 : decode cX6_passes 20 = .ok (.getfield 36, 3) := by decide +kernel
theorem dX6_passes_23 : decode cX6_passes 23 = .ok (.invokevirtual 156, 3) := by decide +kernel
theorem dX6_passes_26 : decode cX6_passes 26 = .ok (.aload_n 0, 1) := by decide +kernel
theorem dX6_passes_27 : decode cX6_passes 27 = .ok (.getfield 36, 3) := by decide +kernel
theorem dX6_passes_30 : decode cX6_passes 30 = .ok (.dup, 1) := by decide +kernel
theorem dX6_passes_31 : decode cX6_passes 31 = .ok (.getfield 133, 3) := by decide +kernel
theorem dX6_passes_34 : decode cX6_passes 34 = .ok (.iconst 1, 1) := by decide +kernel
theorem dX6_passes_35 : decode cX6_passes 35 = .ok (.iadd, 1) := by decide +kernel
theorem dX6_passes_36 : decode cX6_passes 36 = .ok (.putfield 133, 3) := by decide +kernel
theorem dX6_passes_39 : decode cX6_passes 39 = .ok (.aload_n 0, 1) := by decide +kernel
theorem dX6_passes_40 : decode cX6_passes 40 = .ok (.getfield 36, 3) := by decide +kernel
theorem dX6_passes_43 : decode cX6_passes 43 = .ok (.iconst 0, 1) := by decide +kernel
theorem dX6_passes_44 : decode cX6_passes 44 = .ok (.putfield 164, 3) := by decide +kernel
theorem dX6_passes_47 : decode cX6_passes 47 = .ok (.aload_n 0, 1) := by decide +kernel
theorem dX6_passes_48 : decode cX6_passes 48 = .ok (.getfield 36, 3) := by decide +kernel
theorem dX6_passes_51 : decode cX6_passes 51 = .ok (.getfield 133, 3) := by decide +kernel
theorem dX6_passes_54 : decode cX6_passes 54 = .ok (.ireturn, 1) := by decide +kernel
def wX6_passes (σ : St) (Q : Int32 → St → Prop) : Prop :=
  (((σ.1 18 4) < 99 → wX2_push σ (fun σ2 => (∀ σ3 : St, σ3 = up σ2 18 4 ((σ2.1 18 4) + 1) → (∀ σ4 : St, σ4 = up σ3 18 6 0 → Q (σ4.1 18 4) σ4)))) ∧ (¬ (σ.1 18 4) < 99 → Q (-2) σ))
set_option maxHeartbeats 4000000 in
set_option maxRecDepth 100000 in
theorem tX6_passes_E {Q : Int32 → St → Prop} (M : MC p s m args meth c cX6_passes 1 (some .int) RX6 Y) (hN : yN Y = 108) (h0 : c0s Y 3 9)  (σ : St) (H : Heap) (locs : List Loc) (ls : Array Slot) (hw : WS Y (AD Y) s.heap σ H locs) (hl : lv_has ls 1 [(0, .ref (yA Y 0))]) (h : wX6_passes σ Q) : W p l e { frames := 2, cells := 0, slots := 0, locals := 43 } s m args below meth c H locs 0 0 (MQ below (QI Y Q) args s 0 0 (AD Y)) (F0 m 0 ls []) := by
  obtain ⟨hx, hb, hr, hml, hown, hlk, hT, hK, hB⟩ := id M
  unfold wX6_passes at h
  refine lv_aload_n hx hb dX6_passes_0 rfl (lv_at hl 0 rfl) ?_
  refine q_get (v := .ref (yA Y 18)) M hw (ob_0 hN h0) rfl inq_6 4 (by decide) tw_261 rfl dX6_passes_1 ?_
  refine q_get (v := .int (σ.1 18 4)) M hw (sh_ob (sh_18 hN)) rfl inq_4 4 (by decide) tw_194 rfl dX6_passes_4 ?_
  refine lv_bipush (v := 99) hx hb dX6_passes_7 (by decide) ?_
  refine lv_icmp_lt (tgt := 15) hx hb dX6_passes_9 (by decide) (fun c1 => ?_) (fun c1 => ?_)
  · have h := h.1 c1
    refine lv_aload_n hx hb dX6_passes_15 rfl (lv_at hl 0 rfl) ?_
    refine q_get (v := .ref (yA Y 23)) M hw (ob_0 hN h0) rfl inq_6 5 (by decide) tw_262 rfl dX6_passes_16 ?_
    refine lv_aload_n hx hb dX6_passes_19 rfl (lv_at hl 0 rfl) ?_
    refine q_get (v := .ref (yA Y 18)) M hw (ob_0 hN h0) rfl inq_6 4 (by decide) tw_261 rfl dX6_passes_20 ?_
    refine q_goV hw (q_runV (rest := []) M hw (ctX2_push l hB hN σ _ h) mbX2_push (ob_23 hN) rfl tw_424 rfl hl.1 rfl (Nat.le_of_ble_eq_true rfl) ⟨Nat.le_of_ble_eq_true rfl, Nat.le_of_ble_eq_true rfl⟩ ⟨Nat.le_refl _, Nat.le_refl _⟩ dX6_passes_23) (fun σ2 H locs h hw => ?_)
    refine lv_aload_n hx hb dX6_passes_26 rfl (lv_at hl 0 rfl) ?_
    refine q_get (v := .ref (yA Y 18)) M hw (ob_0 hN h0) rfl inq_6 4 (by decide) tw_261 rfl dX6_passes_27 ?_
    refine lv_dup hx hb dX6_passes_30 rfl ?_
    refine q_get (v := .int (σ2.1 18 4)) M hw (sh_ob (sh_18 hN)) rfl inq_4 4 (by decide) tw_194 rfl dX6_passes_31 ?_
    refine lv_iconst (v := 1) hx hb dX6_passes_34 (by decide) ?_
    refine lv_iadd hx hb dX6_passes_35 ?_
    refine q_put (v := ((σ2.1 18 4) + 1)) M hw (sh_ob (sh_18 hN)) rfl inq_4 tyX4 tyX4_ok nmX4 4 (by decide) tw_194 rfl rfl rfl (Nat.le_of_ble_eq_true rfl) (by simp [up, upd, f0]) dX6_passes_36 (fun σ3 H locs es hw => ?_)
    have h := h σ3 es
    refine lv_aload_n hx hb dX6_passes_39 rfl (lv_at hl 0 rfl) ?_
    refine q_get (v := .ref (yA Y 18)) M hw (ob_0 hN h0) rfl inq_6 4 (by decide) tw_261 rfl dX6_passes_40 ?_
    refine lv_iconst (v := 0) hx hb dX6_passes_43 (by decide) ?_
    refine q_put (v := 0) M hw (sh_ob (sh_18 hN)) rfl inq_4 tyX4 tyX4_ok nmX4 6 (by decide) tw_198 rfl rfl rfl (Nat.le_of_ble_eq_true rfl) (by simp [up, upd, f0]) dX6_passes_44 (fun σ4 H locs es hw => ?_)
    have h := h σ4 es
    refine lv_aload_n hx hb dX6_passes_47 rfl (lv_at hl 0 rfl) ?_
    refine q_get (v := .ref (yA Y 18)) M hw (ob_0 hN h0) rfl inq_6 4 (by decide) tw_261 rfl dX6_passes_48 ?_
    refine q_get (v := .int (σ4.1 18 4)) M hw (sh_ob (sh_18 hN)) rfl inq_4 4 (by decide) tw_194 rfl dX6_passes_51 ?_
    exact q_iret M hw h dX6_passes_54
  · have h := h.2 c1
    refine lv_bipush (v := (-2)) hx hb dX6_passes_12 (by decide) ?_
    exact q_iret M hw h dX6_passes_14
set_option maxRecDepth 100000 in
theorem ctX6_passes (l : Launch) {Y : LY} (hB : YB Y) (hN : yN Y = 108) (h0 : c0s Y 3 9) (σ : St) (Q : Int32 → St → Prop) (h : wX6_passes σ Q) : CT l yX6_passes (Cond.code yX6_passes cX6_passes 1 (some .int)) { frames := 2, cells := 0, slots := 0, locals := 43 } Y [.ref (yA Y 0)] σ (QI Y Q) :=
  q_ent hB (by decide +kernel) (Nat.le_of_ble_eq_true rfl) (fun p e s m below meth c ls M hw hl => tX6_passes_E M hN h0 σ _ _ ls hw hl h)
theorem mbX6_passes : MB RX6 yX6_passes cX6_passes 0 1 (some .int) := ⟨tw_443, tw_444, tw_49, tw_445, by decide +kernel⟩
end
section
variable {p : Program} {l : Launch} {e : Env} {s : State} {m : MethodId} {args : Array Value} {below : List Frame} {meth : Method} {c : Code} {Y : LY}
theorem dX6_areTwo_0 : decode cX6_areTwo 0 = .ok (.aload_n 0, 1) := by decide +kernel
theorem dX6_areTwo_1 : decode cX6_areTwo 1 = .ok (.iload_n 1, 1) := by decide +kernel
theorem dX6_areTwo_2 : decode cX6_areTwo 2 = .ok (.invokevirtual 92, 3) := by decide +kernel
theorem dX6_areTwo_5 : decode cX6_areTwo 5 = .ok (.ifCond .eq 20, 3) := by decide +kernel
theorem dX6_areTwo_8 : decode cX6_areTwo 8 = .ok (.aload_n 0, 1) := by decide +kernel
theorem dX6_areTwo_9 : decode cX6_areTwo 9 = .ok (.iload_n 2, 1) := by decide +kernel
theorem dX6_areTwo_10 : decode cX6_areTwo 10 = .ok (.invokevirtual 92, 3) := by decide +kernel
theorem dX6_areTwo_13 : decode cX6_areTwo 13 = .ok (.ifCond .eq 12, 3) := by decide +kernel
theorem dX6_areTwo_16 : decode cX6_areTwo 16 = .ok (.iload_n 1, 1) := by decide +kernel
theorem dX6_areTwo_17 : decode cX6_areTwo 17 = .ok (.iload_n 2, 1) := by decide +kernel
theorem dX6_areTwo_18 : decode cX6_areTwo 18 = .ok (.if_icmp .eq 7, 3) := by decide +kernel
theorem dX6_areTwo_21 : decode cX6_areTwo 21 = .ok (.iconst 1, 1) := by decide +kernel
theorem dX6_areTwo_22 : decode cX6_areTwo 22 = .ok (.goto 4, 3) := by decide +kernel
theorem dX6_areTwo_25 : decode cX6_areTwo 25 = .ok (.iconst 0, 1) := by decide +kernel
theorem dX6_areTwo_26 : decode cX6_areTwo 26 = .ok (.ireturn, 1) := by decide +kernel
def wX6_areTwo (a0 : Int32) (a1 : Int32) (σ : St) (Q : Int32 → St → Prop) : Prop :=
  wX6_isFarmer a0 σ (fun r2 σ1 => ((r2 = 0 → Q 0 σ1) ∧ (¬ r2 = 0 → wX6_isFarmer a1 σ1 (fun r5 σ4 => ((r5 = 0 → Q 0 σ4) ∧ (¬ r5 = 0 → ((a0 = a1 → Q 0 σ4) ∧ (¬ a0 = a1 → Q 1 σ4))))))))
set_option maxHeartbeats 4000000 in
set_option maxRecDepth 100000 in
theorem tX6_areTwo_E {Q : Int32 → St → Prop} (M : MC p s m args meth c cX6_areTwo 3 (some .boolean) RX6 Y) (hN : yN Y = 108) (h0 : c0s Y 3 9) (a0 : Int32) (a1 : Int32) (σ : St) (H : Heap) (locs : List Loc) (ls : Array Slot) (hw : WS Y (AD Y) s.heap σ H locs) (hl : lv_has ls 3 [(0, .ref (yA Y 0)), (1, .int a0), (2, .int a1)]) (h : wX6_areTwo a0 a1 σ Q) : W p l e { frames := 1, cells := 0, slots := 0, locals := 21 } s m args below meth c H locs 0 0 (MQ below (QI Y Q) args s 0 0 (AD Y)) (F0 m 0 ls []) := by
  obtain ⟨hx, hb, hr, hml, hown, hlk, hT, hK, hB⟩ := id M
  unfold wX6_areTwo at h
  refine lv_aload_n hx hb dX6_areTwo_0 rfl (lv_at hl 0 rfl) ?_
  refine lv_iload_n hx hb dX6_areTwo_1 rfl (lv_at hl 1 rfl) ?_
  refine q_goI hw (q_runV (rest := []) M hw (ctX6_isFarmer l hB hN h0 a0 σ _ h) mbX6_isFarmer (ob_0 hN h0) rfl tw_367 rfl hl.1 rfl (Nat.le_of_ble_eq_true rfl) ⟨Nat.le_of_ble_eq_true rfl, Nat.le_of_ble_eq_true rfl⟩ ⟨Nat.le_refl _, Nat.le_refl _⟩ dX6_areTwo_2) (fun r2 σ1 H locs h hw => ?_)
  refine lv_if_eq (tgt := 25) hx hb dX6_areTwo_5 (by decide) (fun c3 => ?_) (fun c3 => ?_)
  · have h := h.1 c3
    refine lv_iconst (v := 0) hx hb dX6_areTwo_25 (by decide) ?_
    exact q_zret M hw (by decide) h dX6_areTwo_26
  · have h := h.2 c3
    refine lv_aload_n hx hb dX6_areTwo_8 rfl (lv_at hl 0 rfl) ?_
    refine lv_iload_n hx hb dX6_areTwo_9 rfl (lv_at hl 2 rfl) ?_
    refine q_goI hw (q_runV (rest := []) M hw (ctX6_isFarmer l hB hN h0 a1 σ1 _ h) mbX6_isFarmer (ob_0 hN h0) rfl tw_367 rfl hl.1 rfl (Nat.le_of_ble_eq_true rfl) ⟨Nat.le_of_ble_eq_true rfl, Nat.le_of_ble_eq_true rfl⟩ ⟨Nat.le_refl _, Nat.le_refl _⟩ dX6_areTwo_10) (fun r5 σ4 H locs h hw => ?_)
    refine lv_if_eq (tgt := 25) hx hb dX6_areTwo_13 (by decide) (fun c6 => ?_) (fun c6 => ?_)
    · have h := h.1 c6
      refine lv_iconst (v := 0) hx hb dX6_areTwo_25 (by decide) ?_
      exact q_zret M hw (by decide) h dX6_areTwo_26
    · have h := h.2 c6
      refine lv_iload_n hx hb dX6_areTwo_16 rfl (lv_at hl 1 rfl) ?_
      refine lv_iload_n hx hb dX6_areTwo_17 rfl (lv_at hl 2 rfl) ?_
      refine lv_icmp_eq (tgt := 25) hx hb dX6_areTwo_18 (by decide) (fun c7 => ?_) (fun c7 => ?_)
      · have h := h.1 c7
        refine lv_iconst (v := 0) hx hb dX6_areTwo_25 (by decide) ?_
        exact q_zret M hw (by decide) h dX6_areTwo_26
      · have h := h.2 c7
        refine lv_iconst (v := 1) hx hb dX6_areTwo_21 (by decide) ?_
        refine lv_goto (tgt := 26) hx hb dX6_areTwo_22 (by decide) ?_
        exact q_zret M hw (by decide) h dX6_areTwo_26
set_option maxRecDepth 100000 in
theorem ctX6_areTwo (l : Launch) {Y : LY} (hB : YB Y) (hN : yN Y = 108) (h0 : c0s Y 3 9) (a0 : Int32) (a1 : Int32) (σ : St) (Q : Int32 → St → Prop) (h : wX6_areTwo a0 a1 σ Q) : CT l yX6_areTwo (Cond.code yX6_areTwo cX6_areTwo 3 (some .boolean)) { frames := 1, cells := 0, slots := 0, locals := 21 } Y [.ref (yA Y 0), .int a0, .int a1] σ (QI Y Q) :=
  q_ent hB (by decide +kernel) (Nat.le_of_ble_eq_true rfl) (fun p e s m below meth c ls M hw hl => tX6_areTwo_E M hN h0 a0 a1 σ _ _ ls hw hl h)
theorem mbX6_areTwo : MB RX6 yX6_areTwo cX6_areTwo 2 3 (some .boolean) := ⟨tw_452, tw_15, tw_49, tw_453, by decide +kernel⟩
end
section
variable {p : Program} {l : Launch} {e : Env} {s : State} {m : MethodId} {args : Array Value} {below : List Frame} {meth : Method} {c : Code} {Y : LY}
theorem dX6_lends_0 : decode cX6_lends 0 = .ok (.aload_n 0, 1) := by decide +kernel
theorem dX6_lends_1 : decode cX6_lends 1 = .ok (.iload_n 1, 1) := by decide +kernel
theorem dX6_lends_2 : decode cX6_lends 2 = .ok (.iload_n 2, 1) := by decide +kernel
theorem dX6_lends_3 : decode cX6_lends 3 = .ok (.invokevirtual 167, 3) := by decide +kernel
theorem dX6_lends_6 : decode cX6_lends 6 = .ok (.ifCond .eq 14, 3) := by decide +kernel
theorem dX6_lends_9 : decode cX6_lends 9 = .ok (.iload_n 3, 1) := by decide +kernel
theorem dX6_lends_10 : decode cX6_lends 10 = .ok (.iconst 1, 1) := by decide +kernel
theorem dX6_lends_11 : decode cX6_lends 11 = .ok (.if_icmp .lt 9, 3) := by decide +kernel
theorem dX6_lends_14 : decode cX6_lends 14 = .ok (.iload_n 3, 1) := by decide +kernel
theorem dX6_lends_15 : decode cX6_lends 15 = .ok (.bipush 99, 2) := by decide +kernel
theorem dX6_lends_17 : decode cX6_lends 17 = .ok (.if_icmp .le 5, 3) := by decide +kernel
theorem dX6_lends_20 : decode cX6_lends 20 = .ok (.iconst (-1), 1) := by decide +kernel
theorem dX6_lends_21 : decode cX6_lends 21 = .ok (.ireturn, 1) := by decide +kernel
theorem dX6_lends_22 : decode cX6_lends 22 = .ok (.aload_n 0, 1) := by decide +kernel
theorem dX6_lends_23 : decode cX6_lends 23 = .ok (.getfield 36, 3) := by decide +kernel
theorem dX6_lends_26 : decode cX6_lends 26 = .ok (.getfield 96, 3) := by decide +kernel
theorem dX6_lends_29 : decode cX6_lends 29 = .ok (.astore 4, 2) := by decide +kernel
theorem dX6_lends_31 : decode cX6_lends 31 = .ok (.aload_n 0, 1) := by decide +kernel
theorem dX6_lends_32 : decode cX6_lends 32 = .ok (.getfield 36, 3) := by decide +kernel
theorem dX6_lends_35 : decode cX6_lends 35 = .ok (.iload_n 1, 1) := by decide +kernel
theorem dX6_lends_36 : decode cX6_lends 36 = .ok (.invokevirtual 102, 3) := by decide +kernel
theorem dX6_lends_39 : decode cX6_lends 39 = .ok (.ifCond .eq 34, 3) := by decide +kernel
theorem dX6_lends_42 : decode cX6_lends 42 = .ok (.aload_n 0, 1) := by decide +kernel
theorem dX6_lends_43 : decode cX6_lends 43 = .ok (.getfield 36, 3) := by decide +kernel
theorem dX6_lends_46 : decode cX6_lends 46 = .ok (.iload_n 2, 1) := by decide +kernel
theorem dX6_lends_47 : decode cX6_lends 47 = .ok (.invokevirtual 102, 3) := by decide +kernel
theorem dX6_lends_50 : decode cX6_lends 50 = .ok (.ifCond .eq 23, 3) := by decide +kernel
theorem dX6_lends_53 : decode cX6_lends 53 = .ok (.aload 4, 2) := by decide +kernel
theorem dX6_lends_55 : decode cX6_lends 55 = .ok (.iload_n 1, 1) := by decide +kernel
theorem dX6_lends_56 : decode cX6_lends 56 = .ok (.iaload, 1) := by decide +kernel
theorem dX6_lends_57 : decode cX6_lends 57 = .ok (.iload_n 3, 1) := by decide +kernel
theorem dX6_lends_58 : decode cX6_lends 58 = .ok (.if_icmp .lt 15, 3) := by decide +kernel
theorem dX6_lends_61 : decode cX6_lends 61 = .ok (.aload 4, 2) := by decide +kernel
theorem dX6_lends_63 : decode cX6_lends 63 = .ok (.iload_n 2, 1) := by decide +kernel
theorem dX6_lends_64 : decode cX6_lends 64 = .ok (.iaload, 1) := by decide +kernel
theorem dX6_lends_65 : decode cX6_lends 65 = .ok (.iload_n 3, 1) := by decide +kernel
theorem dX6_lends_66 : decode cX6_lends 66 = .ok (.iadd, 1) := by decide +kernel
theorem dX6_lends_67 : decode cX6_lends 67 = .ok (.sipush 999, 3) := by decide +kernel
theorem dX6_lends_70 : decode cX6_lends 70 = .ok (.if_icmp .le 6, 3) := by decide +kernel
theorem dX6_lends_73 : decode cX6_lends 73 = .ok (.bipush (-2), 2) := by decide +kernel
theorem dX6_lends_75 : decode cX6_lends 75 = .ok (.ireturn, 1) := by decide +kernel
theorem dX6_lends_76 : decode cX6_lends 76 = .ok (.aload_n 0, 1) := by decide +kernel
theorem dX6_lends_77 : decode cX6_lends 77 = .ok (.getfield 43, 3) := by decide +kernel
theorem dX6_lends_80 : decode cX6_lends 80 = .ok (.aload_n 0, 1) := by decide +kernel
theorem dX6_lends_81 : decode cX6_lends 81 = .ok (.getfield 36, 3) := by decide +kernel
theorem dX6_lends_84 : decode cX6_lends 84 = .ok (.invokevirtual 156, 3) := by decide +kernel
theorem dX6_lends_87 : decode cX6_lends 87 = .ok (.aload 4, 2) := by decide +kernel
theorem dX6_lends_89 : decode cX6_lends 89 = .ok (.iload_n 1, 1) := by decide +kernel
theorem dX6_lends_90 : decode cX6_lends 90 = .ok (.dup2, 1) := by decide +kernel
theorem dX6_lends_91 : decode cX6_lends 91 = .ok (.iaload, 1) := by decide +kernel
theorem dX6_lends_92 : decode cX6_lends 92 = .ok (.iload_n 3, 1) := by decide +kernel
theorem dX6_lends_93 : decode cX6_lends 93 = .ok (.isub, 1) := by decide +kernel
theorem dX6_lends_94 : decode cX6_lends 94 = .ok (.iastore, 1) := by decide +kernel
theorem dX6_lends_95 : decode cX6_lends 95 = .ok (.aload 4, 2) := by decide +kernel
theorem dX6_lends_97 : decode cX6_lends 97 = .ok (.iload_n 2, 1) := by decide +kernel
theorem dX6_lends_98 : decode cX6_lends 98 = .ok (.dup2, 1) := by decide +kernel
theorem dX6_lends_99 : decode cX6_lends 99 = .ok (.iaload, 1) := by decide +kernel
theorem dX6_lends_100 : decode cX6_lends 100 = .ok (.iload_n 3, 1) := by decide +kernel
theorem dX6_lends_101 : decode cX6_lends 101 = .ok (.iadd, 1) := by decide +kernel
theorem dX6_lends_102 : decode cX6_lends 102 = .ok (.iastore, 1) := by decide +kernel
theorem dX6_lends_103 : decode cX6_lends 103 = .ok (.aload 4, 2) := by decide +kernel
theorem dX6_lends_105 : decode cX6_lends 105 = .ok (.iload_n 2, 1) := by decide +kernel
theorem dX6_lends_106 : decode cX6_lends 106 = .ok (.iaload, 1) := by decide +kernel
theorem dX6_lends_107 : decode cX6_lends 107 = .ok (.ireturn, 1) := by decide +kernel
def wX6_lends (a0 : Int32) (a1 : Int32) (a2 : Int32) (σ : St) (Q : Int32 → St → Prop) : Prop :=
  wX6_areTwo a0 a1 σ (fun r2 σ1 => ((r2 = 0 → Q (-1) σ1) ∧ (¬ r2 = 0 → ((a2 < 1 → Q (-1) σ1) ∧ (¬ a2 < 1 → ((a2 ≤ 99 → wX4_alive 18 a0 σ1 (fun r7 σ6 => ((r7 = 0 → Q (-2) σ6) ∧ (¬ r7 = 0 → wX4_alive 18 a1 σ6 (fun r10 σ9 => ((r10 = 0 → Q (-2) σ9) ∧ (¬ r10 = 0 → (vp_in a0 5 ∧ (((σ9.1 19 a0.toNatClampNeg) < a2 → Q (-2) σ9) ∧ (¬ (σ9.1 19 a0.toNatClampNeg) < a2 → (vp_in a1 5 ∧ ((((σ9.1 19 a1.toNatClampNeg) + a2) ≤ 999 → wX2_push σ9 (fun σ16 => (vp_in a0 5 ∧ (vp_in a0 5 ∧ ∀ σ19 : St, σ19 = up σ16 19 a0.toNatClampNeg ((σ16.1 19 a0.toNatClampNeg) - a2) → (vp_in a1 5 ∧ (vp_in a1 5 ∧ ∀ σ22 : St, σ22 = up σ19 19 a1.toNatClampNeg ((σ19.1 19 a1.toNatClampNeg) + a2) → (vp_in a1 5 ∧ Q (σ22.1 19 a1.toNatClampNeg) σ22))))))) ∧ (¬ ((σ9.1 19 a1.toNatClampNeg) + a2) ≤ 999 → Q (-2) σ9))))))))))))) ∧ (¬ a2 ≤ 99 → Q (-1) σ1)))))))
set_option maxHeartbeats 4000000 in
set_option maxRecDepth 100000 in
theorem tX6_lends_E {Q : Int32 → St → Prop} (M : MC p s m args meth c cX6_lends 5 (some .int) RX6 Y) (hN : yN Y = 108) (h0 : c0s Y 3 9) (a0 : Int32) (a1 : Int32) (a2 : Int32) (σ : St) (H : Heap) (locs : List Loc) (ls : Array Slot) (hw : WS Y (AD Y) s.heap σ H locs) (hl : lv_has ls 5 [(0, .ref (yA Y 0)), (1, .int a0), (2, .int a1), (3, .int a2)]) (h : wX6_lends a0 a1 a2 σ Q) : W p l e { frames := 2, cells := 0, slots := 0, locals := 43 } s m args below meth c H locs 0 0 (MQ below (QI Y Q) args s 0 0 (AD Y)) (F0 m 0 ls []) := by
  obtain ⟨hx, hb, hr, hml, hown, hlk, hT, hK, hB⟩ := id M
  unfold wX6_lends at h
  refine lv_aload_n hx hb dX6_lends_0 rfl (lv_at hl 0 rfl) ?_
  refine lv_iload_n hx hb dX6_lends_1 rfl (lv_at hl 1 rfl) ?_
  refine lv_iload_n hx hb dX6_lends_2 rfl (lv_at hl 2 rfl) ?_
  refine q_goI hw (q_runV (rest := []) M hw (ctX6_areTwo l hB hN h0 a0 a1 σ _ h) mbX6_areTwo (ob_0 hN h0) rfl tw_450 rfl hl.1 rfl (Nat.le_of_ble_eq_true rfl) ⟨Nat.le_of_ble_eq_true rfl, Nat.le_of_ble_eq_true rfl⟩ ⟨Nat.le_refl _, Nat.le_refl _⟩ dX6_lends_3) (fun r2 σ1 H locs h hw => ?_)
  refine lv_if_eq (tgt := 20) hx hb dX6_lends_6 (by decide) (fun c3 => ?_) (fun c3 => ?_)
  · have h := h.1 c3
    refine lv_iconst (v := (-1)) hx hb dX6_lends_20 (by decide) ?_
    exact q_iret M hw h dX6_lends_21
  · have h := h.2 c3
    refine lv_iload_n hx hb dX6_lends_9 rfl (lv_at hl 3 rfl) ?_
    refine lv_iconst (v := 1) hx hb dX6_lends_10 (by decide) ?_
    refine lv_icmp_lt (tgt := 20) hx hb dX6_lends_11 (by decide) (fun c4 => ?_) (fun c4 => ?_)
    · have h := h.1 c4
      refine lv_iconst (v := (-1)) hx hb dX6_lends_20 (by decide) ?_
      exact q_iret M hw h dX6_lends_21
    · have h := h.2 c4
      refine lv_iload_n hx hb dX6_lends_14 rfl (lv_at hl 3 rfl) ?_
      refine lv_bipush (v := 99) hx hb dX6_lends_15 (by decide) ?_
      refine lv_icmp_le (tgt := 22) hx hb dX6_lends_17 (by decide) (fun c5 => ?_) (fun c5 => ?_)
      · have h := h.1 c5
        refine lv_aload_n hx hb dX6_lends_22 rfl (lv_at hl 0 rfl) ?_
        refine q_get (v := .ref (yA Y 18)) M hw (ob_0 hN h0) rfl inq_6 4 (by decide) tw_261 rfl dX6_lends_23 ?_
        refine q_get (v := .ref (yA Y 19)) M hw (sh_ob (sh_18 hN)) rfl inq_4 0 (by decide) tw_186 rfl dX6_lends_26 ?_
        refine lv_astore (lv' := [(4, .ref (yA Y 19)), (0, .ref (yA Y 0)), (1, .int a0), (2, .int a1), (3, .int a2)]) hx hb dX6_lends_29 hl (by decide) rfl (fun ls hl => ?_)
        refine lv_aload_n hx hb dX6_lends_31 rfl (lv_at hl 1 rfl) ?_
        refine q_get (v := .ref (yA Y 18)) M hw (ob_0 hN h0) rfl inq_6 4 (by decide) tw_261 rfl dX6_lends_32 ?_
        refine lv_iload_n hx hb dX6_lends_35 rfl (lv_at hl 2 rfl) ?_
        refine q_goI hw (q_runV (rest := []) M hw (ctX4_alive l hB (sh_18 hN) a0 σ1 _ h) mbX4_alive (sh_ob (sh_18 hN)) rfl tw_371 rfl hl.1 rfl (Nat.le_of_ble_eq_true rfl) ⟨Nat.le_of_ble_eq_true rfl, Nat.le_of_ble_eq_true rfl⟩ ⟨Nat.le_refl _, Nat.le_refl _⟩ dX6_lends_36) (fun r7 σ6 H locs h hw => ?_)
        refine lv_if_eq (tgt := 73) hx hb dX6_lends_39 (by decide) (fun c8 => ?_) (fun c8 => ?_)
        · have h := h.1 c8
          refine lv_bipush (v := (-2)) hx hb dX6_lends_73 (by decide) ?_
          exact q_iret M hw h dX6_lends_75
        · have h := h.2 c8
          refine lv_aload_n hx hb dX6_lends_42 rfl (lv_at hl 1 rfl) ?_
          refine q_get (v := .ref (yA Y 18)) M hw (ob_0 hN h0) rfl inq_6 4 (by decide) tw_261 rfl dX6_lends_43 ?_
          refine lv_iload_n hx hb dX6_lends_46 rfl (lv_at hl 3 rfl) ?_
          refine q_goI hw (q_runV (rest := []) M hw (ctX4_alive l hB (sh_18 hN) a1 σ6 _ h) mbX4_alive (sh_ob (sh_18 hN)) rfl tw_371 rfl hl.1 rfl (Nat.le_of_ble_eq_true rfl) ⟨Nat.le_of_ble_eq_true rfl, Nat.le_of_ble_eq_true rfl⟩ ⟨Nat.le_refl _, Nat.le_refl _⟩ dX6_lends_47) (fun r10 σ9 H locs h hw => ?_)
          refine lv_if_eq (tgt := 73) hx hb dX6_lends_50 (by decide) (fun c11 => ?_) (fun c11 => ?_)
          · have h := h.1 c11
            refine lv_bipush (v := (-2)) hx hb dX6_lends_73 (by decide) ?_
            exact q_iret M hw h dX6_lends_75
          · have h := h.2 c11
            refine lv_aload hx hb dX6_lends_53 (lv_at hl 0 rfl) ?_
            refine lv_iload_n hx hb dX6_lends_55 rfl (lv_at hl 2 rfl) ?_
            have c12 := h.1
            have h := h.2
            refine q_ild M hw (ar_19 hN) c12 dX6_lends_56 ?_
            refine lv_iload_n hx hb dX6_lends_57 rfl (lv_at hl 4 rfl) ?_
            refine lv_icmp_lt (tgt := 73) hx hb dX6_lends_58 (by decide) (fun c13 => ?_) (fun c13 => ?_)
            · have h := h.1 c13
              refine lv_bipush (v := (-2)) hx hb dX6_lends_73 (by decide) ?_
              exact q_iret M hw h dX6_lends_75
            · have h := h.2 c13
              refine lv_aload hx hb dX6_lends_61 (lv_at hl 0 rfl) ?_
              refine lv_iload_n hx hb dX6_lends_63 rfl (lv_at hl 3 rfl) ?_
              have c14 := h.1
              have h := h.2
              refine q_ild M hw (ar_19 hN) c14 dX6_lends_64 ?_
              refine lv_iload_n hx hb dX6_lends_65 rfl (lv_at hl 4 rfl) ?_
              refine lv_iadd hx hb dX6_lends_66 ?_
              refine lv_sipush (v := 999) hx hb dX6_lends_67 (by decide) ?_
              refine lv_icmp_le (tgt := 76) hx hb dX6_lends_70 (by decide) (fun c15 => ?_) (fun c15 => ?_)
              · have h := h.1 c15
                refine lv_aload_n hx hb dX6_lends_76 rfl (lv_at hl 1 rfl) ?_
                refine q_get (v := .ref (yA Y 23)) M hw (ob_0 hN h0) rfl inq_6 5 (by decide) tw_262 rfl dX6_lends_77 ?_
                refine lv_aload_n hx hb dX6_lends_80 rfl (lv_at hl 1 rfl) ?_
                refine q_get (v := .ref (yA Y 18)) M hw (ob_0 hN h0) rfl inq_6 4 (by decide) tw_261 rfl dX6_lends_81 ?_
                refine q_goV hw (q_runV (rest := []) M hw (ctX2_push l hB hN σ9 _ h) mbX2_push (ob_23 hN) rfl tw_424 rfl hl.1 rfl (Nat.le_of_ble_eq_true rfl) ⟨Nat.le_of_ble_eq_true rfl, Nat.le_of_ble_eq_true rfl⟩ ⟨Nat.le_refl _, Nat.le_refl _⟩ dX6_lends_84) (fun σ16 H locs h hw => ?_)
                refine lv_aload hx hb dX6_lends_87 (lv_at hl 0 rfl) ?_
                refine lv_iload_n hx hb dX6_lends_89 rfl (lv_at hl 2 rfl) ?_
                refine lv_dup2_11 hx hb dX6_lends_90 rfl rfl ?_
                have c17 := h.1
                have h := h.2
                refine q_ild M hw (ar_19 hN) c17 dX6_lends_91 ?_
                refine lv_iload_n hx hb dX6_lends_92 rfl (lv_at hl 4 rfl) ?_
                refine lv_isub hx hb dX6_lends_93 ?_
                have c18 := h.1
                refine q_ist M hw (ar_19 hN) c18 dX6_lends_94 (fun σ19 H locs es hw => ?_)
                have h := h.2 σ19 es
                refine lv_aload hx hb dX6_lends_95 (lv_at hl 0 rfl) ?_
                refine lv_iload_n hx hb dX6_lends_97 rfl (lv_at hl 3 rfl) ?_
                refine lv_dup2_11 hx hb dX6_lends_98 rfl rfl ?_
                have c20 := h.1
                have h := h.2
                refine q_ild M hw (ar_19 hN) c20 dX6_lends_99 ?_
                refine lv_iload_n hx hb dX6_lends_100 rfl (lv_at hl 4 rfl) ?_
                refine lv_iadd hx hb dX6_lends_101 ?_
                have c21 := h.1
                refine q_ist M hw (ar_19 hN) c21 dX6_lends_102 (fun σ22 H locs es hw => ?_)
                have h := h.2 σ22 es
                refine lv_aload hx hb dX6_lends_103 (lv_at hl 0 rfl) ?_
                refine lv_iload_n hx hb dX6_lends_105 rfl (lv_at hl 3 rfl) ?_
                have c23 := h.1
                have h := h.2
                refine q_ild M hw (ar_19 hN) c23 dX6_lends_106 ?_
                exact q_iret M hw h dX6_lends_107
              · have h := h.2 c15
                refine lv_bipush (v := (-2)) hx hb dX6_lends_73 (by decide) ?_
                exact q_iret M hw h dX6_lends_75
      · have h := h.2 c5
        refine lv_iconst (v := (-1)) hx hb dX6_lends_20 (by decide) ?_
        exact q_iret M hw h dX6_lends_21
set_option maxRecDepth 100000 in
theorem ctX6_lends (l : Launch) {Y : LY} (hB : YB Y) (hN : yN Y = 108) (h0 : c0s Y 3 9) (a0 : Int32) (a1 : Int32) (a2 : Int32) (σ : St) (Q : Int32 → St → Prop) (h : wX6_lends a0 a1 a2 σ Q) : CT l yX6_lends (Cond.code yX6_lends cX6_lends 5 (some .int)) { frames := 2, cells := 0, slots := 0, locals := 43 } Y [.ref (yA Y 0), .int a0, .int a1, .int a2] σ (QI Y Q) :=
  q_ent hB (by decide +kernel) (Nat.le_of_ble_eq_true rfl) (fun p e s m below meth c ls M hw hl => tX6_lends_E M hN h0 a0 a1 a2 σ _ _ ls hw hl h)
theorem mbX6_lends : MB RX6 yX6_lends cX6_lends 3 5 (some .int) := ⟨tw_447, tw_448, tw_49, tw_449, by decide +kernel⟩
end
section
variable {p : Program} {l : Launch} {e : Env} {s : State} {m : MethodId} {args : Array Value} {below : List Frame} {meth : Method} {c : Code} {Y : LY}
theorem dX6_marries_0 : decode cX6_marries 0 = .ok (.aload_n 0, 1) := by decide +kernel
theorem dX6_marries_1 : decode cX6_marries 1 = .ok (.iload_n 1, 1) := by decide +kernel
theorem dX6_marries_2 : decode cX6_marries 2 = .ok (.iload_n 2, 1) := by decide +kernel
theorem dX6_marries_3 : decode cX6_marries 3 = .ok (.invokevirtual 167, 3) := by decide +kernel
theorem dX6_marries_6 : decode cX6_marries 6 = .ok (.ifCond .ne 5, 3) := by decide +kernel
theorem dX6_marries_9 : decode cX6_marries 9 = .ok (.iconst (-1), 1) := by decide +kernel
theorem dX6_marries_10 : decode cX6_marries 10 = .ok (.ireturn, 1) := by decide +kernel
theorem dX6_marries_11 : decode cX6_marries 11 = .ok (.aload_n 0, 1) := by decide +kernel
theorem dX6_marries_12 : decode cX6_marries 12 = .ok (.getfield 36, 3) := by decide +kernel
theorem dX6_marries_15 : decode cX6_marries 15 = .ok (.iload_n 1, 1) := by decide +kernel
theorem dX6_marries_16 : decode cX6_marries 16 = .ok (.invokevirtual 171, 3) := by decide +kernel
theorem dX6_marries_19 : decode cX6_marries 19 = .ok (.ifCond .eq 14, 3) := by decide +kernel
theorem dX6_marries_22 : decode cX6_marries 22 = .ok (.aload_n 0, 1) := by decide +kernel
theorem dX6_marries_23 : decode cX6_marries 23 = .ok (.getfield 36, 3) := by decide +kernel
theorem dX6_marries_26 : decode cX6_marries 26 = .ok (.iload_n 2, 1) := by decide +kernel
theorem dX6_marries_27 : decode cX6_marries 27 = .ok (.invokevirtual 171, 3) := by decide +kernel
theorem dX6_marries_30 : decode cX6_marries 30 = .ok (.ifCond .ne 6, 3) := by decide +kernel
theorem dX6_marries_33 : decode cX6_marries 33 = .ok (.bipush (-2), 2) := by decide +kernel
theorem dX6_marries_35 : decode cX6_marries 35 = .ok (.ireturn, 1) := by decide +kernel
theorem dX6_marries_36 : decode cX6_marries 36 = .ok (.aload_n 0, 1) := by decide +kernel
theorem dX6_marries_37 : decode cX6_marries 37 = .ok (.getfield 43, 3) := by decide +kernel
theorem dX6_marries_40 : decode cX6_marries 40 = .ok (.aload_n 0, 1) := by decide +kernel
theorem dX6_marries_41 : decode cX6_marries 41 = .ok (.getfield 36, 3) := by decide +kernel
theorem dX6_marries_44 : decode cX6_marries 44 = .ok (.invokevirtual 156, 3) := by decide +kernel
theorem dX6_marries_47 : decode cX6_marries 47 = .ok (.aload_n 0, 1) := by decide +kernel
theorem dX6_marries_48 : decode cX6_marries 48 = .ok (.getfield 36, 3) := by decide +kernel
theorem dX6_marries_51 : decode cX6_marries 51 = .ok (.getfield 105, 3) := by decide +kernel
theorem dX6_marries_54 : decode cX6_marries 54 = .ok (.iload_n 1, 1) := by decide +kernel
theorem dX6_marries_55 : decode cX6_marries 55 = .ok (.iload_n 2, 1) := by decide +kernel
theorem dX6_marries_56 : decode cX6_marries 56 = .ok (.iastore, 1) := by decide +kernel
theorem dX6_marries_57 : decode cX6_marries 57 = .ok (.aload_n 0, 1) := by decide +kernel
theorem dX6_marries_58 : decode cX6_marries 58 = .ok (.getfield 36, 3) := by decide +kernel
theorem dX6_marries_61 : decode cX6_marries 61 = .ok (.getfield 105, 3) := by decide +kernel
theorem dX6_marries_64 : decode cX6_marries 64 = .ok (.iload_n 2, 1) := by decide +kernel
theorem dX6_marries_65 : decode cX6_marries 65 = .ok (.iload_n 1, 1) := by decide +kernel
theorem dX6_marries_66 : decode cX6_marries 66 = .ok (.iastore, 1) := by decide +kernel
theorem dX6_marries_67 : decode cX6_marries 67 = .ok (.aload_n 0, 1) := by decide +kernel
theorem dX6_marries_68 : decode cX6_marries 68 = .ok (.getfield 36, 3) := by decide +kernel
theorem dX6_marries_71 : decode cX6_marries 71 = .ok (.getfield 96, 3) := by decide +kernel
theorem dX6_marries_74 : decode cX6_marries 74 = .ok (.iload_n 1, 1) := by decide +kernel
theorem dX6_marries_75 : decode cX6_marries 75 = .ok (.iaload, 1) := by decide +kernel
theorem dX6_marries_76 : decode cX6_marries 76 = .ok (.aload_n 0, 1) := by decide +kernel
theorem dX6_marries_77 : decode cX6_marries 77 = .ok (.getfield 36, 3) := by decide +kernel
theorem dX6_marries_80 : decode cX6_marries 80 = .ok (.getfield 96, 3) := by decide +kernel
theorem dX6_marries_83 : decode cX6_marries 83 = .ok (.iload_n 2, 1) := by decide +kernel
theorem dX6_marries_84 : decode cX6_marries 84 = .ok (.iaload, 1) := by decide +kernel
theorem dX6_marries_85 : decode cX6_marries 85 = .ok (.iadd, 1) := by decide +kernel
theorem dX6_marries_86 : decode cX6_marries 86 = .ok (.ireturn, 1) := by decide +kernel
def wX6_marries (a0 : Int32) (a1 : Int32) (σ : St) (Q : Int32 → St → Prop) : Prop :=
  wX6_areTwo a0 a1 σ (fun r2 σ1 => ((r2 = 0 → Q (-1) σ1) ∧ (¬ r2 = 0 → wX4_free 18 a0 σ1 (fun r5 σ4 => ((r5 = 0 → Q (-2) σ4) ∧ (¬ r5 = 0 → wX4_free 18 a1 σ4 (fun r8 σ7 => ((r8 = 0 → Q (-2) σ7) ∧ (¬ r8 = 0 → wX2_push σ7 (fun σ10 => (vp_in a0 5 ∧ ∀ σ12 : St, σ12 = up σ10 20 a0.toNatClampNeg a1 → (vp_in a1 5 ∧ ∀ σ14 : St, σ14 = up σ12 20 a1.toNatClampNeg a0 → (vp_in a0 5 ∧ (vp_in a1 5 ∧ Q ((σ14.1 19 a0.toNatClampNeg) + (σ14.1 19 a1.toNatClampNeg)) σ14))))))))))))))
set_option maxHeartbeats 4000000 in
set_option maxRecDepth 100000 in
theorem tX6_marries_E {Q : Int32 → St → Prop} (M : MC p s m args meth c cX6_marries 3 (some .int) RX6 Y) (hN : yN Y = 108) (h0 : c0s Y 3 9) (a0 : Int32) (a1 : Int32) (σ : St) (H : Heap) (locs : List Loc) (ls : Array Slot) (hw : WS Y (AD Y) s.heap σ H locs) (hl : lv_has ls 3 [(0, .ref (yA Y 0)), (1, .int a0), (2, .int a1)]) (h : wX6_marries a0 a1 σ Q) : W p l e { frames := 2, cells := 0, slots := 0, locals := 43 } s m args below meth c H locs 0 0 (MQ below (QI Y Q) args s 0 0 (AD Y)) (F0 m 0 ls []) := by
  obtain ⟨hx, hb, hr, hml, hown, hlk, hT, hK, hB⟩ := id M
  unfold wX6_marries at h
  refine lv_aload_n hx hb dX6_marries_0 rfl (lv_at hl 0 rfl) ?_
  refine lv_iload_n hx hb dX6_marries_1 rfl (lv_at hl 1 rfl) ?_
  refine lv_iload_n hx hb dX6_marries_2 rfl (lv_at hl 2 rfl) ?_
  refine q_goI hw (q_runV (rest := []) M hw (ctX6_areTwo l hB hN h0 a0 a1 σ _ h) mbX6_areTwo (ob_0 hN h0) rfl tw_450 rfl hl.1 rfl (Nat.le_of_ble_eq_true rfl) ⟨Nat.le_of_ble_eq_true rfl, Nat.le_of_ble_eq_true rfl⟩ ⟨Nat.le_refl _, Nat.le_refl _⟩ dX6_marries_3) (fun r2 σ1 H locs h hw => ?_)
  refine lv_if_ne (tgt := 11) hx hb dX6_marries_6 (by decide) (fun c3 => ?_) (fun c3 => ?_)
  · have h := h.2 c3
    refine lv_aload_n hx hb dX6_marries_11 rfl (lv_at hl 0 rfl) ?_
    refine q_get (v := .ref (yA Y 18)) M hw (ob_0 hN h0) rfl inq_6 4 (by decide) tw_261 rfl dX6_marries_12 ?_
    refine lv_iload_n hx hb dX6_marries_15 rfl (lv_at hl 1 rfl) ?_
    refine q_goI hw (q_runV (rest := []) M hw (ctX4_free l hB (sh_18 hN) a0 σ1 _ h) mbX4_free (sh_ob (sh_18 hN)) rfl tw_458 rfl hl.1 rfl (Nat.le_of_ble_eq_true rfl) ⟨Nat.le_of_ble_eq_true rfl, Nat.le_of_ble_eq_true rfl⟩ ⟨Nat.le_refl _, Nat.le_refl _⟩ dX6_marries_16) (fun r5 σ4 H locs h hw => ?_)
    refine lv_if_eq (tgt := 33) hx hb dX6_marries_19 (by decide) (fun c6 => ?_) (fun c6 => ?_)
    · have h := h.1 c6
      refine lv_bipush (v := (-2)) hx hb dX6_marries_33 (by decide) ?_
      exact q_iret M hw h dX6_marries_35
    · have h := h.2 c6
      refine lv_aload_n hx hb dX6_marries_22 rfl (lv_at hl 0 rfl) ?_
      refine q_get (v := .ref (yA Y 18)) M hw (ob_0 hN h0) rfl inq_6 4 (by decide) tw_261 rfl dX6_marries_23 ?_
      refine lv_iload_n hx hb dX6_marries_26 rfl (lv_at hl 2 rfl) ?_
      refine q_goI hw (q_runV (rest := []) M hw (ctX4_free l hB (sh_18 hN) a1 σ4 _ h) mbX4_free (sh_ob (sh_18 hN)) rfl tw_458 rfl hl.1 rfl (Nat.le_of_ble_eq_true rfl) ⟨Nat.le_of_ble_eq_true rfl, Nat.le_of_ble_eq_true rfl⟩ ⟨Nat.le_refl _, Nat.le_refl _⟩ dX6_marries_27) (fun r8 σ7 H locs h hw => ?_)
      refine lv_if_ne (tgt := 36) hx hb dX6_marries_30 (by decide) (fun c9 => ?_) (fun c9 => ?_)
      · have h := h.2 c9
        refine lv_aload_n hx hb dX6_marries_36 rfl (lv_at hl 0 rfl) ?_
        refine q_get (v := .ref (yA Y 23)) M hw (ob_0 hN h0) rfl inq_6 5 (by decide) tw_262 rfl dX6_marries_37 ?_
        refine lv_aload_n hx hb dX6_marries_40 rfl (lv_at hl 0 rfl) ?_
        refine q_get (v := .ref (yA Y 18)) M hw (ob_0 hN h0) rfl inq_6 4 (by decide) tw_261 rfl dX6_marries_41 ?_
        refine q_goV hw (q_runV (rest := []) M hw (ctX2_push l hB hN σ7 _ h) mbX2_push (ob_23 hN) rfl tw_424 rfl hl.1 rfl (Nat.le_of_ble_eq_true rfl) ⟨Nat.le_of_ble_eq_true rfl, Nat.le_of_ble_eq_true rfl⟩ ⟨Nat.le_refl _, Nat.le_refl _⟩ dX6_marries_44) (fun σ10 H locs h hw => ?_)
        refine lv_aload_n hx hb dX6_marries_47 rfl (lv_at hl 0 rfl) ?_
        refine q_get (v := .ref (yA Y 18)) M hw (ob_0 hN h0) rfl inq_6 4 (by decide) tw_261 rfl dX6_marries_48 ?_
        refine q_get (v := .ref (yA Y 20)) M hw (sh_ob (sh_18 hN)) rfl inq_4 1 (by decide) tw_188 rfl dX6_marries_51 ?_
        refine lv_iload_n hx hb dX6_marries_54 rfl (lv_at hl 1 rfl) ?_
        refine lv_iload_n hx hb dX6_marries_55 rfl (lv_at hl 2 rfl) ?_
        have c11 := h.1
        refine q_ist M hw (ar_20 hN) c11 dX6_marries_56 (fun σ12 H locs es hw => ?_)
        have h := h.2 σ12 es
        refine lv_aload_n hx hb dX6_marries_57 rfl (lv_at hl 0 rfl) ?_
        refine q_get (v := .ref (yA Y 18)) M hw (ob_0 hN h0) rfl inq_6 4 (by decide) tw_261 rfl dX6_marries_58 ?_
        refine q_get (v := .ref (yA Y 20)) M hw (sh_ob (sh_18 hN)) rfl inq_4 1 (by decide) tw_188 rfl dX6_marries_61 ?_
        refine lv_iload_n hx hb dX6_marries_64 rfl (lv_at hl 2 rfl) ?_
        refine lv_iload_n hx hb dX6_marries_65 rfl (lv_at hl 1 rfl) ?_
        have c13 := h.1
        refine q_ist M hw (ar_20 hN) c13 dX6_marries_66 (fun σ14 H locs es hw => ?_)
        have h := h.2 σ14 es
        refine lv_aload_n hx hb dX6_marries_67 rfl (lv_at hl 0 rfl) ?_
        refine q_get (v := .ref (yA Y 18)) M hw (ob_0 hN h0) rfl inq_6 4 (by decide) tw_261 rfl dX6_marries_68 ?_
        refine q_get (v := .ref (yA Y 19)) M hw (sh_ob (sh_18 hN)) rfl inq_4 0 (by decide) tw_186 rfl dX6_marries_71 ?_
        refine lv_iload_n hx hb dX6_marries_74 rfl (lv_at hl 1 rfl) ?_
        have c15 := h.1
        have h := h.2
        refine q_ild M hw (ar_19 hN) c15 dX6_marries_75 ?_
        refine lv_aload_n hx hb dX6_marries_76 rfl (lv_at hl 0 rfl) ?_
        refine q_get (v := .ref (yA Y 18)) M hw (ob_0 hN h0) rfl inq_6 4 (by decide) tw_261 rfl dX6_marries_77 ?_
        refine q_get (v := .ref (yA Y 19)) M hw (sh_ob (sh_18 hN)) rfl inq_4 0 (by decide) tw_186 rfl dX6_marries_80 ?_
        refine lv_iload_n hx hb dX6_marries_83 rfl (lv_at hl 2 rfl) ?_
        have c16 := h.1
        have h := h.2
        refine q_ild M hw (ar_19 hN) c16 dX6_marries_84 ?_
        refine lv_iadd hx hb dX6_marries_85 ?_
        exact q_iret M hw h dX6_marries_86
      · have h := h.1 c9
        refine lv_bipush (v := (-2)) hx hb dX6_marries_33 (by decide) ?_
        exact q_iret M hw h dX6_marries_35
  · have h := h.1 c3
    refine lv_iconst (v := (-1)) hx hb dX6_marries_9 (by decide) ?_
    exact q_iret M hw h dX6_marries_10
set_option maxRecDepth 100000 in
theorem ctX6_marries (l : Launch) {Y : LY} (hB : YB Y) (hN : yN Y = 108) (h0 : c0s Y 3 9) (a0 : Int32) (a1 : Int32) (σ : St) (Q : Int32 → St → Prop) (h : wX6_marries a0 a1 σ Q) : CT l yX6_marries (Cond.code yX6_marries cX6_marries 3 (some .int)) { frames := 2, cells := 0, slots := 0, locals := 43 } Y [.ref (yA Y 0), .int a0, .int a1] σ (QI Y Q) :=
  q_ent hB (by decide +kernel) (Nat.le_of_ble_eq_true rfl) (fun p e s m below meth c ls M hw hl => tX6_marries_E M hN h0 a0 a1 σ _ _ ls hw hl h)
theorem mbX6_marries : MB RX6 yX6_marries cX6_marries 2 3 (some .int) := ⟨tw_455, tw_456, tw_49, tw_457, by decide +kernel⟩
end
section
variable {p : Program} {l : Launch} {e : Env} {s : State} {m : MethodId} {args : Array Value} {below : List Frame} {meth : Method} {c : Code} {Y : LY}
theorem dX6_dies_0 : decode cX6_dies 0 = .ok (.aload_n 0, 1) := by decide +kernel
theorem dX6_dies_1 : decode cX6_dies 1 = .ok (.iload_n 1, 1) := by decide +kernel
theorem dX6_dies_2 : decode cX6_dies 2 = .ok (.invokevirtual 92, 3) := by decide +kernel
theorem dX6_dies_5 : decode cX6_dies 5 = .ok (.ifCond .ne 5, 3) := by decide +kernel
theorem dX6_dies_8 : decode cX6_dies 8 = .ok (.iconst (-1), 1) := by decide +kernel
theorem dX6_dies_9 : decode cX6_dies 9 = .ok (.ireturn, 1) := by decide +kernel
theorem dX6_dies_10 : decode cX6_dies 10 = .ok (.aload_n 0, 1) := by decide +kernel
theorem dX6_dies_11 : decode cX6_dies 11 = .ok (.getfield 36, 3) := by decide +kernel
theorem dX6_dies_14 : decode cX6_dies 14 = .ok (.iload_n 1, 1) := by decide +kernel
theorem dX6_dies_15 : decode cX6_dies 15 = .ok (.invokevirtual 174, 3) := by decide +kernel
theorem dX6_dies_18 : decode cX6_dies 18 = .ok (.istore_n 2, 1) := by decide +kernel
theorem dX6_dies_19 : decode cX6_dies 19 = .ok (.aload_n 0, 1) := by decide +kernel
theorem dX6_dies_20 : decode cX6_dies 20 = .ok (.getfield 36, 3) := by decide +kernel
theorem dX6_dies_23 : decode cX6_dies 23 = .ok (.iload_n 1, 1) := by decide +kernel
theorem dX6_dies_24 : decode cX6_dies 24 = .ok (.invokevirtual 102, 3) := by decide +kernel
theorem dX6_dies_27 : decode cX6_dies 27 = .ok (.ifCond .eq 9, 3) := by decide +kernel
theorem dX6_dies_30 : decode cX6_dies 30 = .ok (.iload_n 2, 1) := by decide +kernel
theorem dX6_dies_31 : decode cX6_dies 31 = .ok (.bipush (-9), 2) := by decide +kernel
theorem dX6_dies_33 : decode cX6_dies 33 = .ok (.if_icmp .ne 6, 3) := by decide +kernel
theorem dX6_dies_36 : decode cX6_dies 36 = .ok (.bipush (-2), 2) := by decide +kernel
theorem dX6_dies_38 : decode cX6_dies 38 = .ok (.ireturn, 1) := by decide +kernel
theorem dX6_dies_39 : decode cX6_dies 39 = .ok (.aload_n 0, 1) := by decide +kernel
theorem dX6_dies_40 : decode cX6_dies 40 = .ok (.getfield 43, 3) := by decide +kernel
theorem dX6_dies_43 : decode cX6_dies 43 = .ok (.aload_n 0, 1) := by decide +kernel
theorem dX6_dies_44 : decode cX6_dies 44 = .ok (.getfield 36, 3) := by decide +kernel
theorem dX6_dies_47 : decode cX6_dies 47 = .ok (.invokevirtual 156, 3) := by decide +kernel
theorem dX6_dies_50 : decode cX6_dies 50 = .ok (.aload_n 0, 1) := by decide +kernel
theorem dX6_dies_51 : decode cX6_dies 51 = .ok (.getfield 36, 3) := by decide +kernel
theorem dX6_dies_54 : decode cX6_dies 54 = .ok (.getfield 105, 3) := by decide +kernel
theorem dX6_dies_57 : decode cX6_dies 57 = .ok (.iload_n 1, 1) := by decide +kernel
theorem dX6_dies_58 : decode cX6_dies 58 = .ok (.iaload, 1) := by decide +kernel
theorem dX6_dies_59 : decode cX6_dies 59 = .ok (.bipush (-9), 2) := by decide +kernel
theorem dX6_dies_61 : decode cX6_dies 61 = .ok (.if_icmp .ne 7, 3) := by decide +kernel
theorem dX6_dies_64 : decode cX6_dies 64 = .ok (.iload_n 2, 1) := by decide +kernel
theorem dX6_dies_65 : decode cX6_dies 65 = .ok (.goto 12, 3) := by decide +kernel
theorem dX6_dies_68 : decode cX6_dies 68 = .ok (.aload_n 0, 1) := by decide +kernel
theorem dX6_dies_69 : decode cX6_dies 69 = .ok (.getfield 36, 3) := by decide +kernel
theorem dX6_dies_72 : decode cX6_dies 72 = .ok (.getfield 105, 3) := by decide +kernel
theorem dX6_dies_75 : decode cX6_dies 75 = .ok (.iload_n 1, 1) := by decide +kernel
theorem dX6_dies_76 : decode cX6_dies 76 = .ok (.iaload, 1) := by decide +kernel
theorem dX6_dies_77 : decode cX6_dies 77 = .ok (.istore_n 3, 1) := by decide +kernel
theorem dX6_dies_78 : decode cX6_dies 78 = .ok (.aload_n 0, 1) := by decide +kernel
theorem dX6_dies_79 : decode cX6_dies 79 = .ok (.getfield 36, 3) := by decide +kernel
theorem dX6_dies_82 : decode cX6_dies 82 = .ok (.iload_n 1, 1) := by decide +kernel
theorem dX6_dies_83 : decode cX6_dies 83 = .ok (.iload_n 2, 1) := by decide +kernel
theorem dX6_dies_84 : decode cX6_dies 84 = .ok (.iload_n 3, 1) := by decide +kernel
theorem dX6_dies_85 : decode cX6_dies 85 = .ok (.invokevirtual 177, 3) := by decide +kernel
theorem dX6_dies_88 : decode cX6_dies 88 = .ok (.iload_n 3, 1) := by decide +kernel
theorem dX6_dies_89 : decode cX6_dies 89 = .ok (.ireturn, 1) := by decide +kernel
def bX6_dies_77 (y1 : Int32) (y2 : Int32) (z0 : Int32) (σ : St) (Q : Int32 → St → Prop) : Prop :=
  wX4_bury 18 y1 y2 z0 σ (fun σ1 => Q z0 σ1)
set_option maxHeartbeats 4000000 in
set_option maxRecDepth 100000 in
theorem tX6_dies_77 {Q : Int32 → St → Prop} (M : MC p s m args meth c cX6_dies 4 (some .int) RX6 Y) (hN : yN Y = 108) (h0 : c0s Y 3 9) (y1 : Int32) (y2 : Int32) (z0 : Int32) (σ : St) (H : Heap) (locs : List Loc) (ls : Array Slot) (hw : WS Y (AD Y) s.heap σ H locs) (hl : lv_has ls 4 [(0, .ref (yA Y 0)), (1, .int y1), (2, .int y2)]) (h : bX6_dies_77 y1 y2 z0 σ Q) : W p l e { frames := 3, cells := 0, slots := 0, locals := 68 } s m args below meth c H locs 0 0 (MQ below (QI Y Q) args s 0 0 (AD Y)) (F0 m 77 ls [.int z0]) := by
  obtain ⟨hx, hb, hr, hml, hown, hlk, hT, hK, hB⟩ := id M
  unfold bX6_dies_77 at h
  refine lv_istore_n (lv' := [(3, .int z0), (0, .ref (yA Y 0)), (1, .int y1), (2, .int y2)]) hx hb dX6_dies_77 rfl hl (by decide) rfl (fun ls hl => ?_)
  refine lv_aload_n hx hb dX6_dies_78 rfl (lv_at hl 1 rfl) ?_
  refine q_get (v := .ref (yA Y 18)) M hw (ob_0 hN h0) rfl inq_6 4 (by decide) tw_261 rfl dX6_dies_79 ?_
  refine lv_iload_n hx hb dX6_dies_82 rfl (lv_at hl 2 rfl) ?_
  refine lv_iload_n hx hb dX6_dies_83 rfl (lv_at hl 3 rfl) ?_
  refine lv_iload_n hx hb dX6_dies_84 rfl (lv_at hl 0 rfl) ?_
  refine q_goV hw (q_runV (rest := []) M hw (ctX4_bury l hB (sh_18 hN) y1 y2 z0 σ _ h) mbX4_bury (sh_ob (sh_18 hN)) rfl tw_470 rfl hl.1 rfl (Nat.le_of_ble_eq_true rfl) ⟨Nat.le_of_ble_eq_true rfl, Nat.le_of_ble_eq_true rfl⟩ ⟨Nat.le_refl _, Nat.le_refl _⟩ dX6_dies_85) (fun σ1 H locs h hw => ?_)
  refine lv_iload_n hx hb dX6_dies_88 rfl (lv_at hl 0 rfl) ?_
  exact q_iret M hw h dX6_dies_89
def wX6_dies (a0 : Int32) (σ : St) (Q : Int32 → St → Prop) : Prop :=
  wX6_isFarmer a0 σ (fun r2 σ1 => ((r2 = 0 → Q (-1) σ1) ∧ (¬ r2 = 0 → wX4_lowestOther 18 a0 σ1 (fun r5 σ4 => wX4_alive 18 a0 σ4 (fun r7 σ6 => ((r7 = 0 → Q (-2) σ6) ∧ (¬ r7 = 0 → ((r5 = (-9) → Q (-2) σ6) ∧ (¬ r5 = (-9) → wX2_push σ6 (fun σ10 => (vp_in a0 5 ∧ (((σ10.1 20 a0.toNatClampNeg) = (-9) → bX6_dies_77 a0 r5 r5 σ10 Q) ∧ (¬ (σ10.1 20 a0.toNatClampNeg) = (-9) → (vp_in a0 5 ∧ bX6_dies_77 a0 r5 (σ10.1 20 a0.toNatClampNeg) σ10 Q))))))))))))))
set_option maxHeartbeats 4000000 in
set_option maxRecDepth 100000 in
theorem tX6_dies_E {Q : Int32 → St → Prop} (M : MC p s m args meth c cX6_dies 4 (some .int) RX6 Y) (hN : yN Y = 108) (h0 : c0s Y 3 9) (a0 : Int32) (σ : St) (H : Heap) (locs : List Loc) (ls : Array Slot) (hw : WS Y (AD Y) s.heap σ H locs) (hl : lv_has ls 4 [(0, .ref (yA Y 0)), (1, .int a0)]) (h : wX6_dies a0 σ Q) : W p l e { frames := 3, cells := 0, slots := 0, locals := 68 } s m args below meth c H locs 0 0 (MQ below (QI Y Q) args s 0 0 (AD Y)) (F0 m 0 ls []) := by
  obtain ⟨hx, hb, hr, hml, hown, hlk, hT, hK, hB⟩ := id M
  unfold wX6_dies at h
  refine lv_aload_n hx hb dX6_dies_0 rfl (lv_at hl 0 rfl) ?_
  refine lv_iload_n hx hb dX6_dies_1 rfl (lv_at hl 1 rfl) ?_
  refine q_goI hw (q_runV (rest := []) M hw (ctX6_isFarmer l hB hN h0 a0 σ _ h) mbX6_isFarmer (ob_0 hN h0) rfl tw_367 rfl hl.1 rfl (Nat.le_of_ble_eq_true rfl) ⟨Nat.le_of_ble_eq_true rfl, Nat.le_of_ble_eq_true rfl⟩ ⟨Nat.le_refl _, Nat.le_refl _⟩ dX6_dies_2) (fun r2 σ1 H locs h hw => ?_)
  refine lv_if_ne (tgt := 10) hx hb dX6_dies_5 (by decide) (fun c3 => ?_) (fun c3 => ?_)
  · have h := h.2 c3
    refine lv_aload_n hx hb dX6_dies_10 rfl (lv_at hl 0 rfl) ?_
    refine q_get (v := .ref (yA Y 18)) M hw (ob_0 hN h0) rfl inq_6 4 (by decide) tw_261 rfl dX6_dies_11 ?_
    refine lv_iload_n hx hb dX6_dies_14 rfl (lv_at hl 1 rfl) ?_
    refine q_goI hw (q_runV (rest := []) M hw (ctX4_lowestOther l hB (sh_18 hN) a0 σ1 _ h) mbX4_lowestOther (sh_ob (sh_18 hN)) rfl tw_466 rfl hl.1 rfl (Nat.le_of_ble_eq_true rfl) ⟨Nat.le_of_ble_eq_true rfl, Nat.le_of_ble_eq_true rfl⟩ ⟨Nat.le_refl _, Nat.le_refl _⟩ dX6_dies_15) (fun r5 σ4 H locs h hw => ?_)
    refine lv_istore_n (lv' := [(2, .int r5), (0, .ref (yA Y 0)), (1, .int a0)]) hx hb dX6_dies_18 rfl hl (by decide) rfl (fun ls hl => ?_)
    refine lv_aload_n hx hb dX6_dies_19 rfl (lv_at hl 1 rfl) ?_
    refine q_get (v := .ref (yA Y 18)) M hw (ob_0 hN h0) rfl inq_6 4 (by decide) tw_261 rfl dX6_dies_20 ?_
    refine lv_iload_n hx hb dX6_dies_23 rfl (lv_at hl 2 rfl) ?_
    refine q_goI hw (q_runV (rest := []) M hw (ctX4_alive l hB (sh_18 hN) a0 σ4 _ h) mbX4_alive (sh_ob (sh_18 hN)) rfl tw_371 rfl hl.1 rfl (Nat.le_of_ble_eq_true rfl) ⟨Nat.le_of_ble_eq_true rfl, Nat.le_of_ble_eq_true rfl⟩ ⟨Nat.le_refl _, Nat.le_refl _⟩ dX6_dies_24) (fun r7 σ6 H locs h hw => ?_)
    refine lv_if_eq (tgt := 36) hx hb dX6_dies_27 (by decide) (fun c8 => ?_) (fun c8 => ?_)
    · have h := h.1 c8
      refine lv_bipush (v := (-2)) hx hb dX6_dies_36 (by decide) ?_
      exact q_iret M hw h dX6_dies_38
    · have h := h.2 c8
      refine lv_iload_n hx hb dX6_dies_30 rfl (lv_at hl 0 rfl) ?_
      refine lv_bipush (v := (-9)) hx hb dX6_dies_31 (by decide) ?_
      refine lv_icmp_ne (tgt := 39) hx hb dX6_dies_33 (by decide) (fun c9 => ?_) (fun c9 => ?_)
      · have h := h.2 c9
        refine lv_aload_n hx hb dX6_dies_39 rfl (lv_at hl 1 rfl) ?_
        refine q_get (v := .ref (yA Y 23)) M hw (ob_0 hN h0) rfl inq_6 5 (by decide) tw_262 rfl dX6_dies_40 ?_
        refine lv_aload_n hx hb dX6_dies_43 rfl (lv_at hl 1 rfl) ?_
        refine q_get (v := .ref (yA Y 18)) M hw (ob_0 hN h0) rfl inq_6 4 (by decide) tw_261 rfl dX6_dies_44 ?_
        refine q_goV hw (q_runV (rest := []) M hw (ctX2_push l hB hN σ6 _ h) mbX2_push (ob_23 hN) rfl tw_424 rfl hl.1 rfl (Nat.le_of_ble_eq_true rfl) ⟨Nat.le_of_ble_eq_true rfl, Nat.le_of_ble_eq_true rfl⟩ ⟨Nat.le_refl _, Nat.le_refl _⟩ dX6_dies_47) (fun σ10 H locs h hw => ?_)
        refine lv_aload_n hx hb dX6_dies_50 rfl (lv_at hl 1 rfl) ?_
        refine q_get (v := .ref (yA Y 18)) M hw (ob_0 hN h0) rfl inq_6 4 (by decide) tw_261 rfl dX6_dies_51 ?_
        refine q_get (v := .ref (yA Y 20)) M hw (sh_ob (sh_18 hN)) rfl inq_4 1 (by decide) tw_188 rfl dX6_dies_54 ?_
        refine lv_iload_n hx hb dX6_dies_57 rfl (lv_at hl 2 rfl) ?_
        have c11 := h.1
        have h := h.2
        refine q_ild M hw (ar_20 hN) c11 dX6_dies_58 ?_
        refine lv_bipush (v := (-9)) hx hb dX6_dies_59 (by decide) ?_
        refine lv_icmp_ne (tgt := 68) hx hb dX6_dies_61 (by decide) (fun c12 => ?_) (fun c12 => ?_)
        · have h := h.2 c12
          refine lv_aload_n hx hb dX6_dies_68 rfl (lv_at hl 1 rfl) ?_
          refine q_get (v := .ref (yA Y 18)) M hw (ob_0 hN h0) rfl inq_6 4 (by decide) tw_261 rfl dX6_dies_69 ?_
          refine q_get (v := .ref (yA Y 20)) M hw (sh_ob (sh_18 hN)) rfl inq_4 1 (by decide) tw_188 rfl dX6_dies_72 ?_
          refine lv_iload_n hx hb dX6_dies_75 rfl (lv_at hl 2 rfl) ?_
          have c13 := h.1
          have h := h.2
          refine q_ild M hw (ar_20 hN) c13 dX6_dies_76 ?_
          exact tX6_dies_77 M hN h0 a0 r5 (σ10.1 20 a0.toNatClampNeg) σ10 _ _ _ hw (lv_sub hl [1, 2, 0] rfl) h
        · have h := h.1 c12
          refine lv_iload_n hx hb dX6_dies_64 rfl (lv_at hl 0 rfl) ?_
          refine lv_goto (tgt := 77) hx hb dX6_dies_65 (by decide) ?_
          exact tX6_dies_77 M hN h0 a0 r5 r5 σ10 _ _ _ hw (lv_sub hl [1, 2, 0] rfl) h
      · have h := h.1 c9
        refine lv_bipush (v := (-2)) hx hb dX6_dies_36 (by decide) ?_
        exact q_iret M hw h dX6_dies_38
  · have h := h.1 c3
    refine lv_iconst (v := (-1)) hx hb dX6_dies_8 (by decide) ?_
    exact q_iret M hw h dX6_dies_9
set_option maxRecDepth 100000 in
theorem ctX6_dies (l : Launch) {Y : LY} (hB : YB Y) (hN : yN Y = 108) (h0 : c0s Y 3 9) (a0 : Int32) (σ : St) (Q : Int32 → St → Prop) (h : wX6_dies a0 σ Q) : CT l yX6_dies (Cond.code yX6_dies cX6_dies 4 (some .int)) { frames := 3, cells := 0, slots := 0, locals := 68 } Y [.ref (yA Y 0), .int a0] σ (QI Y Q) :=
  q_ent hB (by decide +kernel) (Nat.le_of_ble_eq_true rfl) (fun p e s m below meth c ls M hw hl => tX6_dies_E M hN h0 a0 σ _ _ ls hw hl h)
theorem mbX6_dies : MB RX6 yX6_dies cX6_dies 1 4 (some .int) := ⟨tw_463, tw_464, tw_49, tw_465, by decide +kernel⟩
end
section
variable {p : Program} {l : Launch} {e : Env} {s : State} {m : MethodId} {args : Array Value} {below : List Frame} {meth : Method} {c : Code} {Y : LY}
theorem dX6_undo_0 : decode cX6_undo 0 = .ok (.aload_n 0, 1) := by decide +kernel
theorem dX6_undo_1 : decode cX6_undo 1 = .ok (.getfield 43, 3) := by decide +kernel
theorem dX6_undo_4 : decode cX6_undo 4 = .ok (.aload_n 0, 1) := by decide +kernel
theorem dX6_undo_5 : decode cX6_undo 5 = .ok (.getfield 36, 3) := by decide +kernel
theorem dX6_undo_8 : decode cX6_undo 8 = .ok (.invokevirtual 181, 3) := by decide +kernel
theorem dX6_undo_11 : decode cX6_undo 11 = .ok (.ifCond .ne 6, 3) := by decide +kernel
theorem dX6_undo_14 : decode cX6_undo 14 = .ok (.bipush (-2), 2) := by decide +kernel
theorem dX6_undo_16 : decode cX6_undo 16 = .ok (.ireturn, 1) := by decide +kernel
theorem dX6_undo_17 : decode cX6_undo 17 = .ok (.aload_n 0, 1) := by decide +kernel
theorem dX6_undo_18 : decode cX6_undo 18 = .ok (.getfield 43, 3) := by decide +kernel
theorem dX6_undo_21 : decode cX6_undo 21 = .ok (.getfield 149, 3) := by decide +kernel
theorem dX6_undo_24 : decode cX6_undo 24 = .ok (.ireturn, 1) := by decide +kernel
def wX6_undo (σ : St) (Q : Int32 → St → Prop) : Prop :=
  wX2_pop σ (fun r2 σ1 => ((r2 = 0 → Q (-2) σ1) ∧ (¬ r2 = 0 → Q (σ1.1 23 2) σ1)))
set_option maxHeartbeats 4000000 in
set_option maxRecDepth 100000 in
theorem tX6_undo_E {Q : Int32 → St → Prop} (M : MC p s m args meth c cX6_undo 1 (some .int) RX6 Y) (hN : yN Y = 108) (h0 : c0s Y 3 9)  (σ : St) (H : Heap) (locs : List Loc) (ls : Array Slot) (hw : WS Y (AD Y) s.heap σ H locs) (hl : lv_has ls 1 [(0, .ref (yA Y 0))]) (h : wX6_undo σ Q) : W p l e { frames := 2, cells := 0, slots := 0, locals := 43 } s m args below meth c H locs 0 0 (MQ below (QI Y Q) args s 0 0 (AD Y)) (F0 m 0 ls []) := by
  obtain ⟨hx, hb, hr, hml, hown, hlk, hT, hK, hB⟩ := id M
  unfold wX6_undo at h
  refine lv_aload_n hx hb dX6_undo_0 rfl (lv_at hl 0 rfl) ?_
  refine q_get (v := .ref (yA Y 23)) M hw (ob_0 hN h0) rfl inq_6 5 (by decide) tw_262 rfl dX6_undo_1 ?_
  refine lv_aload_n hx hb dX6_undo_4 rfl (lv_at hl 0 rfl) ?_
  refine q_get (v := .ref (yA Y 18)) M hw (ob_0 hN h0) rfl inq_6 4 (by decide) tw_261 rfl dX6_undo_5 ?_
  refine q_goI hw (q_runV (rest := []) M hw (ctX2_pop l hB hN σ _ h) mbX2_pop (ob_23 hN) rfl tw_483 rfl hl.1 rfl (Nat.le_of_ble_eq_true rfl) ⟨Nat.le_of_ble_eq_true rfl, Nat.le_of_ble_eq_true rfl⟩ ⟨Nat.le_refl _, Nat.le_refl _⟩ dX6_undo_8) (fun r2 σ1 H locs h hw => ?_)
  refine lv_if_ne (tgt := 17) hx hb dX6_undo_11 (by decide) (fun c3 => ?_) (fun c3 => ?_)
  · have h := h.2 c3
    refine lv_aload_n hx hb dX6_undo_17 rfl (lv_at hl 0 rfl) ?_
    refine q_get (v := .ref (yA Y 23)) M hw (ob_0 hN h0) rfl inq_6 5 (by decide) tw_262 rfl dX6_undo_18 ?_
    refine q_get (v := .int (σ1.1 23 2)) M hw (ob_23 hN) rfl inq_2 2 (by decide) tw_226 rfl dX6_undo_21 ?_
    exact q_iret M hw h dX6_undo_24
  · have h := h.1 c3
    refine lv_bipush (v := (-2)) hx hb dX6_undo_14 (by decide) ?_
    exact q_iret M hw h dX6_undo_16
set_option maxRecDepth 100000 in
theorem ctX6_undo (l : Launch) {Y : LY} (hB : YB Y) (hN : yN Y = 108) (h0 : c0s Y 3 9) (σ : St) (Q : Int32 → St → Prop) (h : wX6_undo σ Q) : CT l yX6_undo (Cond.code yX6_undo cX6_undo 1 (some .int)) { frames := 2, cells := 0, slots := 0, locals := 43 } Y [.ref (yA Y 0)] σ (QI Y Q) :=
  q_ent hB (by decide +kernel) (Nat.le_of_ble_eq_true rfl) (fun p e s m below meth c ls M hw hl => tX6_undo_E M hN h0 σ _ _ ls hw hl h)
theorem mbX6_undo : MB RX6 yX6_undo cX6_undo 0 1 (some .int) := ⟨tw_480, tw_481, tw_49, tw_482, by decide +kernel⟩
end
section
variable {p : Program} {l : Launch} {e : Env} {s : State} {m : MethodId} {args : Array Value} {below : List Frame} {meth : Method} {c : Code} {Y : LY}
theorem dX6_leastQuarters_0 : decode cX6_leastQuarters 0 = .ok (.aload_n 0, 1) := by decide +kernel
theorem dX6_leastQuarters_1 : decode cX6_leastQuarters 1 = .ok (.getfield 29, 3) := by decide +kernel
theorem dX6_leastQuarters_4 : decode cX6_leastQuarters 4 = .ok (.aload_n 0, 1) := by decide +kernel
theorem dX6_leastQuarters_5 : decode cX6_leastQuarters 5 = .ok (.getfield 19, 3) := by decide +kernel
theorem dX6_leastQuarters_8 : decode cX6_leastQuarters 8 = .ok (.aload_n 0, 1) := by decide +kernel
theorem dX6_leastQuarters_9 : decode cX6_leastQuarters 9 = .ok (.getfield 36, 3) := by decide +kernel
theorem dX6_leastQuarters_12 : decode cX6_leastQuarters 12 = .ok (.getfield 133, 3) := by decide +kernel
theorem dX6_leastQuarters_15 : decode cX6_leastQuarters 15 = .ok (.aload_n 0, 1) := by decide +kernel
theorem dX6_leastQuarters_16 : decode cX6_leastQuarters 16 = .ok (.getfield 19, 3) := by decide +kernel
theorem dX6_leastQuarters_19 : decode cX6_leastQuarters 19 = .ok (.getfield 99, 3) := by decide +kernel
theorem dX6_leastQuarters_22 : decode cX6_leastQuarters 22 = .ok (.iload_n 1, 1) := by decide +kernel
theorem dX6_leastQuarters_23 : decode cX6_leastQuarters 23 = .ok (.iaload, 1) := by decide +kernel
theorem dX6_leastQuarters_24 : decode cX6_leastQuarters 24 = .ok (.aload_n 0, 1) := by decide +kernel
theorem dX6_leastQuarters_25 : decode cX6_leastQuarters 25 = .ok (.getfield 36, 3) := by decide +kernel
theorem dX6_leastQuarters_28 : decode cX6_leastQuarters 28 = .ok (.getfield 117, 3) := by decide +kernel
theorem dX6_leastQuarters_31 : decode cX6_leastQuarters 31 = .ok (.iload_n 2, 1) := by decide +kernel
theorem dX6_leastQuarters_32 : decode cX6_leastQuarters 32 = .ok (.iaload, 1) := by decide +kernel
theorem dX6_leastQuarters_33 : decode cX6_leastQuarters 33 = .ok (.invokevirtual 262, 3) := by decide +kernel
theorem dX6_leastQuarters_36 : decode cX6_leastQuarters 36 = .ok (.ireturn, 1) := by decide +kernel
def wX6_leastQuarters (a0 : Int32) (a1 : Int32) (σ : St) (Q : Int32 → St → Prop) : Prop :=
  (vp_in a0 5 ∧ (vp_in a1 7 ∧ wX0_quartersFor (σ.1 18 4) (σ.1 5 a0.toNatClampNeg) (σ.1 22 a1.toNatClampNeg) σ (fun r4 σ3 => Q r4 σ3)))
set_option maxHeartbeats 4000000 in
set_option maxRecDepth 100000 in
theorem tX6_leastQuarters_E {Q : Int32 → St → Prop} (M : MC p s m args meth c cX6_leastQuarters 3 (some .int) RX6 Y) (hN : yN Y = 108) (h0 : c0s Y 3 9) (a0 : Int32) (a1 : Int32) (σ : St) (H : Heap) (locs : List Loc) (ls : Array Slot) (hw : WS Y (AD Y) s.heap σ H locs) (hl : lv_has ls 3 [(0, .ref (yA Y 0)), (1, .int a0), (2, .int a1)]) (h : wX6_leastQuarters a0 a1 σ Q) : W p l e { frames := 3, cells := 0, slots := 0, locals := 73 } s m args below meth c H locs 0 0 (MQ below (QI Y Q) args s 0 0 (AD Y)) (F0 m 0 ls []) := by
  obtain ⟨hx, hb, hr, hml, hown, hlk, hT, hK, hB⟩ := id M
  unfold wX6_leastQuarters at h
  refine lv_aload_n hx hb dX6_leastQuarters_0 rfl (lv_at hl 0 rfl) ?_
  refine q_get (v := .ref (yA Y 15)) M hw (ob_0 hN h0) rfl inq_6 3 (by decide) tw_260 rfl dX6_leastQuarters_1 ?_
  refine lv_aload_n hx hb dX6_leastQuarters_4 rfl (lv_at hl 0 rfl) ?_
  refine q_get (v := .ref (yA Y 3)) M hw (ob_0 hN h0) rfl inq_6 1 (by decide) tw_258 rfl dX6_leastQuarters_5 ?_
  refine lv_aload_n hx hb dX6_leastQuarters_8 rfl (lv_at hl 0 rfl) ?_
  refine q_get (v := .ref (yA Y 18)) M hw (ob_0 hN h0) rfl inq_6 4 (by decide) tw_261 rfl dX6_leastQuarters_9 ?_
  refine q_get (v := .int (σ.1 18 4)) M hw (sh_ob (sh_18 hN)) rfl inq_4 4 (by decide) tw_194 rfl dX6_leastQuarters_12 ?_
  refine lv_aload_n hx hb dX6_leastQuarters_15 rfl (lv_at hl 0 rfl) ?_
  refine q_get (v := .ref (yA Y 3)) M hw (ob_0 hN h0) rfl inq_6 1 (by decide) tw_258 rfl dX6_leastQuarters_16 ?_
  refine q_get (v := .ref (yA Y 5)) M hw (ph_ob (ph_3 hN)) rfl inq_3 1 (by decide) tw_104 rfl dX6_leastQuarters_19 ?_
  refine lv_iload_n hx hb dX6_leastQuarters_22 rfl (lv_at hl 1 rfl) ?_
  have c1 := h.1
  have h := h.2
  refine q_ild M hw (ar_5 hN) c1 dX6_leastQuarters_23 ?_
  refine lv_aload_n hx hb dX6_leastQuarters_24 rfl (lv_at hl 0 rfl) ?_
  refine q_get (v := .ref (yA Y 18)) M hw (ob_0 hN h0) rfl inq_6 4 (by decide) tw_261 rfl dX6_leastQuarters_25 ?_
  refine q_get (v := .ref (yA Y 22)) M hw (sh_ob (sh_18 hN)) rfl inq_4 3 (by decide) tw_192 rfl dX6_leastQuarters_28 ?_
  refine lv_iload_n hx hb dX6_leastQuarters_31 rfl (lv_at hl 2 rfl) ?_
  have c2 := h.1
  have h := h.2
  refine q_ild M hw (ar_22 hN) c2 dX6_leastQuarters_32 ?_
  refine q_goI hw (q_runV (rest := []) M hw (ctX0_quartersFor l hB hN (σ.1 18 4) (σ.1 5 a0.toNatClampNeg) (σ.1 22 a1.toNatClampNeg) σ _ h) mbX0_quartersFor (ob_15 hN) rfl tw_495 rfl hl.1 rfl (Nat.le_of_ble_eq_true rfl) ⟨Nat.le_of_ble_eq_true rfl, Nat.le_of_ble_eq_true rfl⟩ ⟨Nat.le_refl _, Nat.le_refl _⟩ dX6_leastQuarters_33) (fun r4 σ3 H locs h hw => ?_)
  exact q_iret M hw h dX6_leastQuarters_36
set_option maxRecDepth 100000 in
theorem ctX6_leastQuarters (l : Launch) {Y : LY} (hB : YB Y) (hN : yN Y = 108) (h0 : c0s Y 3 9) (a0 : Int32) (a1 : Int32) (σ : St) (Q : Int32 → St → Prop) (h : wX6_leastQuarters a0 a1 σ Q) : CT l yX6_leastQuarters (Cond.code yX6_leastQuarters cX6_leastQuarters 3 (some .int)) { frames := 3, cells := 0, slots := 0, locals := 73 } Y [.ref (yA Y 0), .int a0, .int a1] σ (QI Y Q) :=
  q_ent hB (by decide +kernel) (Nat.le_of_ble_eq_true rfl) (fun p e s m below meth c ls M hw hl => tX6_leastQuarters_E M hN h0 a0 a1 σ _ _ ls hw hl h)
theorem mbX6_leastQuarters : MB RX6 yX6_leastQuarters cX6_leastQuarters 2 3 (some .int) := ⟨tw_493, tw_17, tw_49, tw_494, by decide +kernel⟩
end
section
variable {p : Program} {l : Launch} {e : Env} {s : State} {m : MethodId} {args : Array Value} {below : List Frame} {meth : Method} {c : Code} {Y : LY}
theorem dX6_least_0 : decode cX6_least 0 = .ok (.aload_n 0, 1) := by decide +kernel
theorem dX6_least_1 : decode cX6_least 1 = .ok (.iload_n 1, 1) := by decide +kernel
theorem dX6_least_2 : decode cX6_least 2 = .ok (.invokevirtual 92, 3) := by decide +kernel
theorem dX6_least_5 : decode cX6_least 5 = .ok (.ifCond .eq 17, 3) := by decide +kernel
theorem dX6_least_8 : decode cX6_least 8 = .ok (.aload_n 0, 1) := by decide +kernel
theorem dX6_least_9 : decode cX6_least 9 = .ok (.iload_n 2, 1) := by decide +kernel
theorem dX6_least_10 : decode cX6_least 10 = .ok (.invokevirtual 111, 3) := by decide +kernel
theorem dX6_least_13 : decode cX6_least 13 = .ok (.ifCond .eq 9, 3) := by decide +kernel
theorem dX6_least_16 : decode cX6_least 16 = .ok (.iload_n 3, 1) := by decide +kernel
theorem dX6_least_17 : decode cX6_least 17 = .ok (.bipush (-2), 2) := by decide +kernel
theorem dX6_least_19 : decode cX6_least 19 = .ok (.if_icmp .ge 5, 3) := by decide +kernel
theorem dX6_least_22 : decode cX6_least 22 = .ok (.iconst (-1), 1) := by decide +kernel
theorem dX6_least_23 : decode cX6_least 23 = .ok (.ireturn, 1) := by decide +kernel
theorem dX6_least_24 : decode cX6_least 24 = .ok (.aload_n 0, 1) := by decide +kernel
theorem dX6_least_25 : decode cX6_least 25 = .ok (.iload_n 1, 1) := by decide +kernel
theorem dX6_least_26 : decode cX6_least 26 = .ok (.iload_n 2, 1) := by decide +kernel
theorem dX6_least_27 : decode cX6_least 27 = .ok (.invokevirtual 185, 3) := by decide +kernel
theorem dX6_least_30 : decode cX6_least 30 = .ok (.istore 4, 2) := by decide +kernel
theorem dX6_least_32 : decode cX6_least 32 = .ok (.iload 4, 2) := by decide +kernel
theorem dX6_least_34 : decode cX6_least 34 = .ok (.bipush (-9), 2) := by decide +kernel
theorem dX6_least_36 : decode cX6_least 36 = .ok (.if_icmp .eq 8, 3) := by decide +kernel
theorem dX6_least_39 : decode cX6_least 39 = .ok (.iload_n 3, 1) := by decide +kernel
theorem dX6_least_40 : decode cX6_least 40 = .ok (.iconst (-1), 1) := by decide +kernel
theorem dX6_least_41 : decode cX6_least 41 = .ok (.if_icmp .ne 6, 3) := by decide +kernel
theorem dX6_least_44 : decode cX6_least 44 = .ok (.iload 4, 2) := by decide +kernel
theorem dX6_least_46 : decode cX6_least 46 = .ok (.ireturn, 1) := by decide +kernel
theorem dX6_least_47 : decode cX6_least 47 = .ok (.iload_n 3, 1) := by decide +kernel
theorem dX6_least_48 : decode cX6_least 48 = .ok (.bipush (-2), 2) := by decide +kernel
theorem dX6_least_50 : decode cX6_least 50 = .ok (.if_icmp .ne 20, 3) := by decide +kernel
theorem dX6_least_53 : decode cX6_least 53 = .ok (.aload_n 0, 1) := by decide +kernel
theorem dX6_least_54 : decode cX6_least 54 = .ok (.getfield 29, 3) := by decide +kernel
theorem dX6_least_57 : decode cX6_least 57 = .ok (.aload_n 0, 1) := by decide +kernel
theorem dX6_least_58 : decode cX6_least 58 = .ok (.getfield 36, 3) := by decide +kernel
theorem dX6_least_61 : decode cX6_least 61 = .ok (.getfield 133, 3) := by decide +kernel
theorem dX6_least_64 : decode cX6_least 64 = .ok (.iload 4, 2) := by decide +kernel
theorem dX6_least_66 : decode cX6_least 66 = .ok (.invokevirtual 189, 3) := by decide +kernel
theorem dX6_least_69 : decode cX6_least 69 = .ok (.ireturn, 1) := by decide +kernel
theorem dX6_least_70 : decode cX6_least 70 = .ok (.aload_n 0, 1) := by decide +kernel
theorem dX6_least_71 : decode cX6_least 71 = .ok (.getfield 29, 3) := by decide +kernel
theorem dX6_least_74 : decode cX6_least 74 = .ok (.aload_n 0, 1) := by decide +kernel
theorem dX6_least_75 : decode cX6_least 75 = .ok (.getfield 36, 3) := by decide +kernel
theorem dX6_least_78 : decode cX6_least 78 = .ok (.getfield 133, 3) := by decide +kernel
theorem dX6_least_81 : decode cX6_least 81 = .ok (.iload 4, 2) := by decide +kernel
theorem dX6_least_83 : decode cX6_least 83 = .ok (.iload_n 3, 1) := by decide +kernel
theorem dX6_least_84 : decode cX6_least 84 = .ok (.invokevirtual 192, 3) := by decide +kernel
theorem dX6_least_87 : decode cX6_least 87 = .ok (.ireturn, 1) := by decide +kernel
def wX6_least (a0 : Int32) (a1 : Int32) (a2 : Int32) (σ : St) (Q : Int32 → St → Prop) : Prop :=
  wX6_isFarmer a0 σ (fun r2 σ1 => ((r2 = 0 → Q (-1) σ1) ∧ (¬ r2 = 0 → wX6_isStrip a1 σ1 (fun r5 σ4 => ((r5 = 0 → Q (-1) σ4) ∧ (¬ r5 = 0 → (((-2) ≤ a2 → wX6_leastQuarters a0 a1 σ4 (fun r9 σ8 => ((r9 = (-9) → Q r9 σ8) ∧ (¬ r9 = (-9) → ((a2 = (-1) → Q r9 σ8) ∧ (¬ a2 = (-1) → ((a2 = (-2) → wX0_nightsFor (σ8.1 18 4) r9 σ8 (fun r16 σ15 => Q r16 σ15)) ∧ (¬ a2 = (-2) → wX0_nightAt (σ8.1 18 4) r9 a2 σ8 (fun r14 σ13 => Q r14 σ13))))))))) ∧ (¬ (-2) ≤ a2 → Q (-1) σ4))))))))
set_option maxHeartbeats 4000000 in
set_option maxRecDepth 100000 in
theorem tX6_least_E {Q : Int32 → St → Prop} (M : MC p s m args meth c cX6_least 5 (some .int) RX6 Y) (hN : yN Y = 108) (h0 : c0s Y 3 9) (a0 : Int32) (a1 : Int32) (a2 : Int32) (σ : St) (H : Heap) (locs : List Loc) (ls : Array Slot) (hw : WS Y (AD Y) s.heap σ H locs) (hl : lv_has ls 5 [(0, .ref (yA Y 0)), (1, .int a0), (2, .int a1), (3, .int a2)]) (h : wX6_least a0 a1 a2 σ Q) : W p l e { frames := 4, cells := 0, slots := 0, locals := 95 } s m args below meth c H locs 0 0 (MQ below (QI Y Q) args s 0 0 (AD Y)) (F0 m 0 ls []) := by
  obtain ⟨hx, hb, hr, hml, hown, hlk, hT, hK, hB⟩ := id M
  unfold wX6_least at h
  refine lv_aload_n hx hb dX6_least_0 rfl (lv_at hl 0 rfl) ?_
  refine lv_iload_n hx hb dX6_least_1 rfl (lv_at hl 1 rfl) ?_
  refine q_goI hw (q_runV (rest := []) M hw (ctX6_isFarmer l hB hN h0 a0 σ _ h) mbX6_isFarmer (ob_0 hN h0) rfl tw_367 rfl hl.1 rfl (Nat.le_of_ble_eq_true rfl) ⟨Nat.le_of_ble_eq_true rfl, Nat.le_of_ble_eq_true rfl⟩ ⟨Nat.le_refl _, Nat.le_refl _⟩ dX6_least_2) (fun r2 σ1 H locs h hw => ?_)
  refine lv_if_eq (tgt := 22) hx hb dX6_least_5 (by decide) (fun c3 => ?_) (fun c3 => ?_)
  · have h := h.1 c3
    refine lv_iconst (v := (-1)) hx hb dX6_least_22 (by decide) ?_
    exact q_iret M hw h dX6_least_23
  · have h := h.2 c3
    refine lv_aload_n hx hb dX6_least_8 rfl (lv_at hl 0 rfl) ?_
    refine lv_iload_n hx hb dX6_least_9 rfl (lv_at hl 2 rfl) ?_
    refine q_goI hw (q_runV (rest := []) M hw (ctX6_isStrip l hB hN h0 a1 σ1 _ h) mbX6_isStrip (ob_0 hN h0) rfl tw_383 rfl hl.1 rfl (Nat.le_of_ble_eq_true rfl) ⟨Nat.le_of_ble_eq_true rfl, Nat.le_of_ble_eq_true rfl⟩ ⟨Nat.le_refl _, Nat.le_refl _⟩ dX6_least_10) (fun r5 σ4 H locs h hw => ?_)
    refine lv_if_eq (tgt := 22) hx hb dX6_least_13 (by decide) (fun c6 => ?_) (fun c6 => ?_)
    · have h := h.1 c6
      refine lv_iconst (v := (-1)) hx hb dX6_least_22 (by decide) ?_
      exact q_iret M hw h dX6_least_23
    · have h := h.2 c6
      refine lv_iload_n hx hb dX6_least_16 rfl (lv_at hl 3 rfl) ?_
      refine lv_bipush (v := (-2)) hx hb dX6_least_17 (by decide) ?_
      refine lv_icmp_ge (tgt := 24) hx hb dX6_least_19 (by decide) (fun c7 => ?_) (fun c7 => ?_)
      · have h := h.1 c7
        refine lv_aload_n hx hb dX6_least_24 rfl (lv_at hl 0 rfl) ?_
        refine lv_iload_n hx hb dX6_least_25 rfl (lv_at hl 1 rfl) ?_
        refine lv_iload_n hx hb dX6_least_26 rfl (lv_at hl 2 rfl) ?_
        refine q_goI hw (q_runV (rest := []) M hw (ctX6_leastQuarters l hB hN h0 a0 a1 σ4 _ h) mbX6_leastQuarters (ob_0 hN h0) rfl tw_491 rfl hl.1 rfl (Nat.le_of_ble_eq_true rfl) ⟨Nat.le_of_ble_eq_true rfl, Nat.le_of_ble_eq_true rfl⟩ ⟨Nat.le_refl _, Nat.le_refl _⟩ dX6_least_27) (fun r9 σ8 H locs h hw => ?_)
        refine lv_istore (lv' := [(4, .int r9), (0, .ref (yA Y 0)), (1, .int a0), (2, .int a1), (3, .int a2)]) hx hb dX6_least_30 hl (by decide) rfl (fun ls hl => ?_)
        refine lv_iload hx hb dX6_least_32 (lv_at hl 0 rfl) ?_
        refine lv_bipush (v := (-9)) hx hb dX6_least_34 (by decide) ?_
        refine lv_icmp_eq (tgt := 44) hx hb dX6_least_36 (by decide) (fun c10 => ?_) (fun c10 => ?_)
        · have h := h.1 c10
          refine lv_iload hx hb dX6_least_44 (lv_at hl 0 rfl) ?_
          exact q_iret M hw h dX6_least_46
        · have h := h.2 c10
          refine lv_iload_n hx hb dX6_least_39 rfl (lv_at hl 4 rfl) ?_
          refine lv_iconst (v := (-1)) hx hb dX6_least_40 (by decide) ?_
          refine lv_icmp_ne (tgt := 47) hx hb dX6_least_41 (by decide) (fun c11 => ?_) (fun c11 => ?_)
          · have h := h.2 c11
            refine lv_iload_n hx hb dX6_least_47 rfl (lv_at hl 4 rfl) ?_
            refine lv_bipush (v := (-2)) hx hb dX6_least_48 (by decide) ?_
            refine lv_icmp_ne (tgt := 70) hx hb dX6_least_50 (by decide) (fun c12 => ?_) (fun c12 => ?_)
            · have h := h.2 c12
              refine lv_aload_n hx hb dX6_least_70 rfl (lv_at hl 1 rfl) ?_
              refine q_get (v := .ref (yA Y 15)) M hw (ob_0 hN h0) rfl inq_6 3 (by decide) tw_260 rfl dX6_least_71 ?_
              refine lv_aload_n hx hb dX6_least_74 rfl (lv_at hl 1 rfl) ?_
              refine q_get (v := .ref (yA Y 18)) M hw (ob_0 hN h0) rfl inq_6 4 (by decide) tw_261 rfl dX6_least_75 ?_
              refine q_get (v := .int (σ8.1 18 4)) M hw (sh_ob (sh_18 hN)) rfl inq_4 4 (by decide) tw_194 rfl dX6_least_78 ?_
              refine lv_iload hx hb dX6_least_81 (lv_at hl 0 rfl) ?_
              refine lv_iload_n hx hb dX6_least_83 rfl (lv_at hl 4 rfl) ?_
              refine q_goI hw (q_runV (rest := []) M hw (ctX0_nightAt l hB hN (σ8.1 18 4) r9 a2 σ8 _ h) mbX0_nightAt (ob_15 hN) rfl tw_514 rfl hl.1 rfl (Nat.le_of_ble_eq_true rfl) ⟨Nat.le_of_ble_eq_true rfl, Nat.le_of_ble_eq_true rfl⟩ ⟨Nat.le_refl _, Nat.le_refl _⟩ dX6_least_84) (fun r14 σ13 H locs h hw => ?_)
              exact q_iret M hw h dX6_least_87
            · have h := h.1 c12
              refine lv_aload_n hx hb dX6_least_53 rfl (lv_at hl 1 rfl) ?_
              refine q_get (v := .ref (yA Y 15)) M hw (ob_0 hN h0) rfl inq_6 3 (by decide) tw_260 rfl dX6_least_54 ?_
              refine lv_aload_n hx hb dX6_least_57 rfl (lv_at hl 1 rfl) ?_
              refine q_get (v := .ref (yA Y 18)) M hw (ob_0 hN h0) rfl inq_6 4 (by decide) tw_261 rfl dX6_least_58 ?_
              refine q_get (v := .int (σ8.1 18 4)) M hw (sh_ob (sh_18 hN)) rfl inq_4 4 (by decide) tw_194 rfl dX6_least_61 ?_
              refine lv_iload hx hb dX6_least_64 (lv_at hl 0 rfl) ?_
              refine q_goI hw (q_runV (rest := []) M hw (ctX0_nightsFor l hB hN (σ8.1 18 4) r9 σ8 _ h) mbX0_nightsFor (ob_15 hN) rfl tw_513 rfl hl.1 rfl (Nat.le_of_ble_eq_true rfl) ⟨Nat.le_of_ble_eq_true rfl, Nat.le_of_ble_eq_true rfl⟩ ⟨Nat.le_refl _, Nat.le_refl _⟩ dX6_least_66) (fun r16 σ15 H locs h hw => ?_)
              exact q_iret M hw h dX6_least_69
          · have h := h.1 c11
            refine lv_iload hx hb dX6_least_44 (lv_at hl 0 rfl) ?_
            exact q_iret M hw h dX6_least_46
      · have h := h.2 c7
        refine lv_iconst (v := (-1)) hx hb dX6_least_22 (by decide) ?_
        exact q_iret M hw h dX6_least_23
set_option maxRecDepth 100000 in
theorem ctX6_least (l : Launch) {Y : LY} (hB : YB Y) (hN : yN Y = 108) (h0 : c0s Y 3 9) (a0 : Int32) (a1 : Int32) (a2 : Int32) (σ : St) (Q : Int32 → St → Prop) (h : wX6_least a0 a1 a2 σ Q) : CT l yX6_least (Cond.code yX6_least cX6_least 5 (some .int)) { frames := 4, cells := 0, slots := 0, locals := 95 } Y [.ref (yA Y 0), .int a0, .int a1, .int a2] σ (QI Y Q) :=
  q_ent hB (by decide +kernel) (Nat.le_of_ble_eq_true rfl) (fun p e s m below meth c ls M hw hl => tX6_least_E M hN h0 a0 a1 a2 σ _ _ ls hw hl h)
theorem mbX6_least : MB RX6 yX6_least cX6_least 3 5 (some .int) := ⟨tw_488, tw_489, tw_49, tw_490, by decide +kernel⟩
end
section
variable {p : Program} {l : Launch} {e : Env} {s : State} {m : MethodId} {args : Array Value} {below : List Frame} {meth : Method} {c : Code} {Y : LY}
theorem dX6_soonest_0 : decode cX6_soonest 0 = .ok (.aload_n 0, 1) := by decide +kernel
theorem dX6_soonest_1 : decode cX6_soonest 1 = .ok (.iload_n 1, 1) := by decide +kernel
theorem dX6_soonest_2 : decode cX6_soonest 2 = .ok (.invokevirtual 92, 3) := by decide +kernel
theorem dX6_soonest_5 : decode cX6_soonest 5 = .ok (.ifCond .eq 29, 3) := by decide +kernel
theorem dX6_soonest_8 : decode cX6_soonest 8 = .ok (.aload_n 0, 1) := by decide +kernel
theorem dX6_soonest_9 : decode cX6_soonest 9 = .ok (.iload_n 3, 1) := by decide +kernel
theorem dX6_soonest_10 : decode cX6_soonest 10 = .ok (.invokevirtual 111, 3) := by decide +kernel
theorem dX6_soonest_13 : decode cX6_soonest 13 = .ok (.ifCond .eq 21, 3) := by decide +kernel
theorem dX6_soonest_16 : decode cX6_soonest 16 = .ok (.iload_n 1, 1) := by decide +kernel
theorem dX6_soonest_17 : decode cX6_soonest 17 = .ok (.iload_n 2, 1) := by decide +kernel
theorem dX6_soonest_18 : decode cX6_soonest 18 = .ok (.if_icmp .eq 16, 3) := by decide +kernel
theorem dX6_soonest_21 : decode cX6_soonest 21 = .ok (.iload_n 2, 1) := by decide +kernel
theorem dX6_soonest_22 : decode cX6_soonest 22 = .ok (.iconst (-1), 1) := by decide +kernel
theorem dX6_soonest_23 : decode cX6_soonest 23 = .ok (.if_icmp .eq 13, 3) := by decide +kernel
theorem dX6_soonest_26 : decode cX6_soonest 26 = .ok (.aload_n 0, 1) := by decide +kernel
theorem dX6_soonest_27 : decode cX6_soonest 27 = .ok (.iload_n 2, 1) := by decide +kernel
theorem dX6_soonest_28 : decode cX6_soonest 28 = .ok (.invokevirtual 92, 3) := by decide +kernel
theorem dX6_soonest_31 : decode cX6_soonest 31 = .ok (.ifCond .ne 5, 3) := by decide +kernel
theorem dX6_soonest_34 : decode cX6_soonest 34 = .ok (.iconst (-1), 1) := by decide +kernel
theorem dX6_soonest_35 : decode cX6_soonest 35 = .ok (.ireturn, 1) := by decide +kernel
theorem dX6_soonest_36 : decode cX6_soonest 36 = .ok (.aload_n 0, 1) := by decide +kernel
theorem dX6_soonest_37 : decode cX6_soonest 37 = .ok (.getfield 36, 3) := by decide +kernel
theorem dX6_soonest_40 : decode cX6_soonest 40 = .ok (.getfield 117, 3) := by decide +kernel
theorem dX6_soonest_43 : decode cX6_soonest 43 = .ok (.iload_n 3, 1) := by decide +kernel
theorem dX6_soonest_44 : decode cX6_soonest 44 = .ok (.iaload, 1) := by decide +kernel
theorem dX6_soonest_45 : decode cX6_soonest 45 = .ok (.istore 4, 2) := by decide +kernel
theorem dX6_soonest_47 : decode cX6_soonest 47 = .ok (.iload 4, 2) := by decide +kernel
theorem dX6_soonest_49 : decode cX6_soonest 49 = .ok (.ifCond .ne 11, 3) := by decide +kernel
theorem dX6_soonest_52 : decode cX6_soonest 52 = .ok (.aload_n 0, 1) := by decide +kernel
theorem dX6_soonest_53 : decode cX6_soonest 53 = .ok (.getfield 36, 3) := by decide +kernel
theorem dX6_soonest_56 : decode cX6_soonest 56 = .ok (.getfield 133, 3) := by decide +kernel
theorem dX6_soonest_59 : decode cX6_soonest 59 = .ok (.ireturn, 1) := by decide +kernel
theorem dX6_soonest_60 : decode cX6_soonest 60 = .ok (.aload_n 0, 1) := by decide +kernel
theorem dX6_soonest_61 : decode cX6_soonest 61 = .ok (.getfield 36, 3) := by decide +kernel
theorem dX6_soonest_64 : decode cX6_soonest 64 = .ok (.getfield 96, 3) := by decide +kernel
theorem dX6_soonest_67 : decode cX6_soonest 67 = .ok (.iload_n 1, 1) := by decide +kernel
theorem dX6_soonest_68 : decode cX6_soonest 68 = .ok (.iaload, 1) := by decide +kernel
theorem dX6_soonest_69 : decode cX6_soonest 69 = .ok (.istore 5, 2) := by decide +kernel
theorem dX6_soonest_71 : decode cX6_soonest 71 = .ok (.iload_n 2, 1) := by decide +kernel
theorem dX6_soonest_72 : decode cX6_soonest 72 = .ok (.iconst (-1), 1) := by decide +kernel
theorem dX6_soonest_73 : decode cX6_soonest 73 = .ok (.if_icmp .ne 7, 3) := by decide +kernel
theorem dX6_soonest_76 : decode cX6_soonest 76 = .ok (.iconst 0, 1) := by decide +kernel
theorem dX6_soonest_77 : decode cX6_soonest 77 = .ok (.goto 12, 3) := by decide +kernel
theorem dX6_soonest_80 : decode cX6_soonest 80 = .ok (.aload_n 0, 1) := by decide +kernel
theorem dX6_soonest_81 : decode cX6_soonest 81 = .ok (.getfield 36, 3) := by decide +kernel
theorem dX6_soonest_84 : decode cX6_soonest 84 = .ok (.getfield 96, 3) := by decide +kernel
theorem dX6_soonest_87 : decode cX6_soonest 87 = .ok (.iload_n 2, 1) := by decide +kernel
theorem dX6_soonest_88 : decode cX6_soonest 88 = .ok (.iaload, 1) := by decide +kernel
theorem dX6_soonest_89 : decode cX6_soonest 89 = .ok (.istore 6, 2) := by decide +kernel
theorem dX6_soonest_91 : decode cX6_soonest 91 = .ok (.aload_n 0, 1) := by decide +kernel
theorem dX6_soonest_92 : decode cX6_soonest 92 = .ok (.getfield 36, 3) := by decide +kernel
theorem dX6_soonest_95 : decode cX6_soonest 95 = .ok (.getfield 133, 3) := by decide +kernel
theorem dX6_soonest_98 : decode cX6_soonest 98 = .ok (.istore 7, 2) := by decide +kernel
theorem dX6_soonest_100 : decode cX6_soonest 100 = .ok (.iload 7, 2) := by decide +kernel
theorem dX6_soonest_102 : decode cX6_soonest 102 = .ok (.bipush 99, 2) := by decide +kernel
theorem dX6_soonest_104 : decode cX6_soonest 104 = .ok (.if_icmp .gt 119, 3) := by decide +kernel
theorem dX6_soonest_107 : decode cX6_soonest 107 = .ok (.aload_n 0, 1) := by decide +kernel
theorem dX6_soonest_108 : decode cX6_soonest 108 = .ok (.getfield 19, 3) := by decide +kernel
theorem dX6_soonest_111 : decode cX6_soonest 111 = .ok (.iload 7, 2) := by decide +kernel
theorem dX6_soonest_113 : decode cX6_soonest 113 = .ok (.invokevirtual 126, 3) := by decide +kernel
theorem dX6_soonest_116 : decode cX6_soonest 116 = .ok (.istore 8, 2) := by decide +kernel
theorem dX6_soonest_118 : decode cX6_soonest 118 = .ok (.iconst 0, 1) := by decide +kernel
theorem dX6_soonest_119 : decode cX6_soonest 119 = .ok (.istore 9, 2) := by decide +kernel
theorem dX6_soonest_121 : decode cX6_soonest 121 = .ok (.iload 5, 2) := by decide +kernel
theorem dX6_soonest_123 : decode cX6_soonest 123 = .ok (.iload 8, 2) := by decide +kernel
theorem dX6_soonest_125 : decode cX6_soonest 125 = .ok (.if_icmp .lt 24, 3) := by decide +kernel
theorem dX6_soonest_128 : decode cX6_soonest 128 = .ok (.iload 5, 2) := by decide +kernel
theorem dX6_soonest_130 : decode cX6_soonest 130 = .ok (.iload 8, 2) := by decide +kernel
theorem dX6_soonest_132 : decode cX6_soonest 132 = .ok (.isub, 1) := by decide +kernel
theorem dX6_soonest_133 : decode cX6_soonest 133 = .ok (.istore 5, 2) := by decide +kernel
theorem dX6_soonest_135 : decode cX6_soonest 135 = .ok (.iload 9, 2) := by decide +kernel
theorem dX6_soonest_137 : decode cX6_soonest 137 = .ok (.aload_n 0, 1) := by decide +kernel
theorem dX6_soonest_138 : decode cX6_soonest 138 = .ok (.getfield 19, 3) := by decide +kernel
theorem dX6_soonest_141 : decode cX6_soonest 141 = .ok (.getfield 99, 3) := by decide +kernel
theorem dX6_soonest_144 : decode cX6_soonest 144 = .ok (.iload_n 1, 1) := by decide +kernel
theorem dX6_soonest_145 : decode cX6_soonest 145 = .ok (.iaload, 1) := by decide +kernel
theorem dX6_soonest_146 : decode cX6_soonest 146 = .ok (.iadd, 1) := by decide +kernel
theorem dX6_soonest_147 : decode cX6_soonest 147 = .ok (.istore 9, 2) := by decide +kernel
theorem dX6_soonest_149 : decode cX6_soonest 149 = .ok (.iload_n 2, 1) := by decide +kernel
theorem dX6_soonest_150 : decode cX6_soonest 150 = .ok (.iconst (-1), 1) := by decide +kernel
theorem dX6_soonest_151 : decode cX6_soonest 151 = .ok (.if_icmp .eq 31, 3) := by decide +kernel
theorem dX6_soonest_154 : decode cX6_soonest 154 = .ok (.iload 6, 2) := by decide +kernel
theorem dX6_soonest_156 : decode cX6_soonest 156 = .ok (.iload 8, 2) := by decide +kernel
theorem dX6_soonest_158 : decode cX6_soonest 158 = .ok (.if_icmp .lt 24, 3) := by decide +kernel
theorem dX6_soonest_161 : decode cX6_soonest 161 = .ok (.iload 6, 2) := by decide +kernel
theorem dX6_soonest_163 : decode cX6_soonest 163 = .ok (.iload 8, 2) := by decide +kernel
theorem dX6_soonest_165 : decode cX6_soonest 165 = .ok (.isub, 1) := by decide +kernel
theorem dX6_soonest_166 : decode cX6_soonest 166 = .ok (.istore 6, 2) := by decide +kernel
theorem dX6_soonest_168 : decode cX6_soonest 168 = .ok (.iload 9, 2) := by decide +kernel
theorem dX6_soonest_170 : decode cX6_soonest 170 = .ok (.aload_n 0, 1) := by decide +kernel
theorem dX6_soonest_171 : decode cX6_soonest 171 = .ok (.getfield 19, 3) := by decide +kernel
theorem dX6_soonest_174 : decode cX6_soonest 174 = .ok (.getfield 99, 3) := by decide +kernel
theorem dX6_soonest_177 : decode cX6_soonest 177 = .ok (.iload_n 2, 1) := by decide +kernel
theorem dX6_soonest_178 : decode cX6_soonest 178 = .ok (.iaload, 1) := by decide +kernel
theorem dX6_soonest_179 : decode cX6_soonest 179 = .ok (.iadd, 1) := by decide +kernel
theorem dX6_soonest_180 : decode cX6_soonest 180 = .ok (.istore 9, 2) := by decide +kernel
theorem dX6_soonest_182 : decode cX6_soonest 182 = .ok (.iload 4, 2) := by decide +kernel
theorem dX6_soonest_184 : decode cX6_soonest 184 = .ok (.aload_n 0, 1) := by decide +kernel
theorem dX6_soonest_185 : decode cX6_soonest 185 = .ok (.getfield 19, 3) := by decide +kernel
theorem dX6_soonest_188 : decode cX6_soonest 188 = .ok (.getfield 130, 3) := by decide +kernel
theorem dX6_soonest_191 : decode cX6_soonest 191 = .ok (.iload 7, 2) := by decide +kernel
theorem dX6_soonest_193 : decode cX6_soonest 193 = .ok (.baload, 1) := by decide +kernel
theorem dX6_soonest_194 : decode cX6_soonest 194 = .ok (.ifCond .eq 7, 3) := by decide +kernel
theorem dX6_soonest_197 : decode cX6_soonest 197 = .ok (.iconst 0, 1) := by decide +kernel
theorem dX6_soonest_198 : decode cX6_soonest 198 = .ok (.goto 8, 3) := by decide +kernel
theorem dX6_soonest_201 : decode cX6_soonest 201 = .ok (.iload 8, 2) := by decide +kernel
theorem dX6_soonest_203 : decode cX6_soonest 203 = .ok (.iload 9, 2) := by decide +kernel
theorem dX6_soonest_205 : decode cX6_soonest 205 = .ok (.imul, 1) := by decide +kernel
theorem dX6_soonest_206 : decode cX6_soonest 206 = .ok (.isub, 1) := by decide +kernel
theorem dX6_soonest_207 : decode cX6_soonest 207 = .ok (.istore 4, 2) := by decide +kernel
theorem dX6_soonest_209 : decode cX6_soonest 209 = .ok (.iload 4, 2) := by decide +kernel
theorem dX6_soonest_211 : decode cX6_soonest 211 = .ok (.ifCond .gt 6, 3) := by decide +kernel
theorem dX6_soonest_214 : decode cX6_soonest 214 = .ok (.iload 7, 2) := by decide +kernel
theorem dX6_soonest_216 : decode cX6_soonest 216 = .ok (.ireturn, 1) := by decide +kernel
theorem dX6_soonest_217 : decode cX6_soonest 217 = .ok (.iinc 7 1, 3) := by decide +kernel
theorem dX6_soonest_220 : decode cX6_soonest 220 = .ok (.goto (-120), 3) := by decide +kernel
theorem dX6_soonest_223 : decode cX6_soonest 223 = .ok (.bipush (-9), 2) := by decide +kernel
theorem dX6_soonest_225 : decode cX6_soonest 225 = .ok (.ireturn, 1) := by decide +kernel
def bX6_soonest_206 (R_100 : Int32 × Int32 × Int32 × Int32 × Int32 × Int32 × St → Prop) (y1 : Int32) (y2 : Int32) (y5 : Int32) (y6 : Int32) (y7 : Int32) (z0 : Int32) (z1 : Int32) (σ : St) (Q : Int32 → St → Prop) : Prop :=
  (∀ x1 : Int32, x1 = (z1 - z0) → ((0 < x1 → (∀ x3 : Int32, x3 = y7 + 1 → R_100 (y1, y2, x1, y5, y6, x3, σ))) ∧ (¬ 0 < x1 → Q y7 σ)))
set_option maxHeartbeats 4000000 in
set_option maxRecDepth 100000 in
theorem tX6_soonest_206 {R_100 : Int32 × Int32 × Int32 × Int32 × Int32 × Int32 × St → Prop} {Q : Int32 → St → Prop} (M : MC p s m args meth c cX6_soonest 10 (some .int) RX6 Y) (hN : yN Y = 108) (h0 : c0s Y 3 9) (hR_100 : ∀ (y1 y2 y4 y5 y6 y7 : Int32) (σ : St) (H : Heap) (locs : List Loc) (ls : Array Slot), WS Y (AD Y) s.heap σ H locs → lv_has ls 10 [(0, .ref (yA Y 0)), (1, .int y1), (2, .int y2), (4, .int y4), (5, .int y5), (6, .int y6), (7, .int y7)] → R_100 (y1, y2, y4, y5, y6, y7, σ) → W p l e { frames := 1, cells := 0, slots := 0, locals := 22 } s m args below meth c H locs 0 0 (MQ below (QI Y Q) args s 0 0 (AD Y)) (F0 m 100 ls [])) (y1 : Int32) (y2 : Int32) (y5 : Int32) (y6 : Int32) (y7 : Int32) (z0 : Int32) (z1 : Int32) (σ : St) (H : Heap) (locs : List Loc) (ls : Array Slot) (hw : WS Y (AD Y) s.heap σ H locs) (hl : lv_has ls 10 [(0, .ref (yA Y 0)), (1, .int y1), (2, .int y2), (5, .int y5), (6, .int y6), (7, .int y7)]) (h : bX6_soonest_206 R_100 y1 y2 y5 y6 y7 z0 z1 σ Q) : W p l e { frames := 1, cells := 0, slots := 0, locals := 22 } s m args below meth c H locs 0 0 (MQ below (QI Y Q) args s 0 0 (AD Y)) (F0 m 206 ls [.int z0, .int z1]) := by
  obtain ⟨hx, hb, hr, hml, hown, hlk, hT, hK, hB⟩ := id M
  unfold bX6_soonest_206 at h
  refine lv_isub hx hb dX6_soonest_206 ?_
  refine lv_topi (fun x1 ex1 => ?_)
  have h := h x1 ex1
  refine lv_istore (lv' := [(4, .int x1), (0, .ref (yA Y 0)), (1, .int y1), (2, .int y2), (5, .int y5), (6, .int y6), (7, .int y7)]) hx hb dX6_soonest_207 hl (by decide) rfl (fun ls hl => ?_)
  refine lv_iload hx hb dX6_soonest_209 (lv_at hl 0 rfl) ?_
  refine lv_if_gt (tgt := 217) hx hb dX6_soonest_211 (by decide) (fun c2 => ?_) (fun c2 => ?_)
  · have h := h.1 c2
    obtain ⟨x3, ex3⟩ : ∃ y : Int32, y = y7 + 1 := ⟨_, rfl⟩
    have h := h x3 ex3
    refine lv_iinc (v := x3) (lv' := [(7, .int x3), (4, .int x1), (0, .ref (yA Y 0)), (1, .int y1), (2, .int y2), (5, .int y5), (6, .int y6)]) hx hb dX6_soonest_217 hl (k := 6) rfl (by rw [ex3]; rfl) (by decide) rfl (fun ls hl => ?_)
    refine lv_goto (tgt := 100) hx hb dX6_soonest_220 (by decide) ?_
    exact hR_100 y1 y2 x1 y5 y6 x3 σ _ _ _ hw (lv_sub hl [2, 3, 4, 1, 5, 6, 0] rfl) h
  · have h := h.2 c2
    refine lv_iload hx hb dX6_soonest_214 (lv_at hl 6 rfl) ?_
    exact q_iret M hw h dX6_soonest_216
def bX6_soonest_182 (R_100 : Int32 × Int32 × Int32 × Int32 × Int32 × Int32 × St → Prop) (y1 : Int32) (y2 : Int32) (y4 : Int32) (y5 : Int32) (y6 : Int32) (y7 : Int32) (y8 : Int32) (y9 : Int32) (σ : St) (Q : Int32 → St → Prop) : Prop :=
  (vp_in y7 100 ∧ (((σ.1 8 y7.toNatClampNeg) = 0 → bX6_soonest_206 R_100 y1 y2 y5 y6 y7 (y8 * y9) y4 σ Q) ∧ (¬ (σ.1 8 y7.toNatClampNeg) = 0 → bX6_soonest_206 R_100 y1 y2 y5 y6 y7 0 y4 σ Q)))
set_option maxHeartbeats 4000000 in
set_option maxRecDepth 100000 in
theorem tX6_soonest_182 {R_100 : Int32 × Int32 × Int32 × Int32 × Int32 × Int32 × St → Prop} {Q : Int32 → St → Prop} (M : MC p s m args meth c cX6_soonest 10 (some .int) RX6 Y) (hN : yN Y = 108) (h0 : c0s Y 3 9) (hR_100 : ∀ (y1 y2 y4 y5 y6 y7 : Int32) (σ : St) (H : Heap) (locs : List Loc) (ls : Array Slot), WS Y (AD Y) s.heap σ H locs → lv_has ls 10 [(0, .ref (yA Y 0)), (1, .int y1), (2, .int y2), (4, .int y4), (5, .int y5), (6, .int y6), (7, .int y7)] → R_100 (y1, y2, y4, y5, y6, y7, σ) → W p l e { frames := 1, cells := 0, slots := 0, locals := 22 } s m args below meth c H locs 0 0 (MQ below (QI Y Q) args s 0 0 (AD Y)) (F0 m 100 ls [])) (y1 : Int32) (y2 : Int32) (y4 : Int32) (y5 : Int32) (y6 : Int32) (y7 : Int32) (y8 : Int32) (y9 : Int32) (σ : St) (H : Heap) (locs : List Loc) (ls : Array Slot) (hw : WS Y (AD Y) s.heap σ H locs) (hl : lv_has ls 10 [(0, .ref (yA Y 0)), (1, .int y1), (2, .int y2), (4, .int y4), (5, .int y5), (6, .int y6), (7, .int y7), (8, .int y8), (9, .int y9)]) (h : bX6_soonest_182 R_100 y1 y2 y4 y5 y6 y7 y8 y9 σ Q) : W p l e { frames := 1, cells := 0, slots := 0, locals := 22 } s m args below meth c H locs 0 0 (MQ below (QI Y Q) args s 0 0 (AD Y)) (F0 m 182 ls []) := by
  obtain ⟨hx, hb, hr, hml, hown, hlk, hT, hK, hB⟩ := id M
  unfold bX6_soonest_182 at h
  refine lv_iload hx hb dX6_soonest_182 (lv_at hl 3 rfl) ?_
  refine lv_aload_n hx hb dX6_soonest_184 rfl (lv_at hl 0 rfl) ?_
  refine q_get (v := .ref (yA Y 3)) M hw (ob_0 hN h0) rfl inq_6 1 (by decide) tw_258 rfl dX6_soonest_185 ?_
  refine q_get (v := .ref (yA Y 8)) M hw (ph_ob (ph_3 hN)) rfl inq_3 4 (by decide) tw_115 rfl dX6_soonest_188 ?_
  refine lv_iload hx hb dX6_soonest_191 (lv_at hl 6 rfl) ?_
  have c1 := h.1
  have h := h.2
  refine q_zld M hw (ar_8 hN) c1 dX6_soonest_193 ?_
  refine lv_if_eq (tgt := 201) hx hb dX6_soonest_194 (by decide) (fun c2 => ?_) (fun c2 => ?_)
  · have h := h.1 c2
    refine lv_iload hx hb dX6_soonest_201 (lv_at hl 7 rfl) ?_
    refine lv_iload hx hb dX6_soonest_203 (lv_at hl 8 rfl) ?_
    refine lv_imul hx hb dX6_soonest_205 ?_
    exact tX6_soonest_206 M hN h0 hR_100 y1 y2 y5 y6 y7 (y8 * y9) y4 σ _ _ _ hw (lv_sub hl [0, 1, 2, 4, 5, 6] rfl) h
  · have h := h.2 c2
    refine lv_iconst (v := 0) hx hb dX6_soonest_197 (by decide) ?_
    refine lv_goto (tgt := 206) hx hb dX6_soonest_198 (by decide) ?_
    exact tX6_soonest_206 M hN h0 hR_100 y1 y2 y5 y6 y7 0 y4 σ _ _ _ hw (lv_sub hl [0, 1, 2, 4, 5, 6] rfl) h
def bX6_soonest_149 (R_100 : Int32 × Int32 × Int32 × Int32 × Int32 × Int32 × St → Prop) (y1 : Int32) (y2 : Int32) (y4 : Int32) (y5 : Int32) (y6 : Int32) (y7 : Int32) (y8 : Int32) (y9 : Int32) (σ : St) (Q : Int32 → St → Prop) : Prop :=
  ((y2 = (-1) → bX6_soonest_182 R_100 y1 y2 y4 y5 y6 y7 y8 y9 σ Q) ∧ (¬ y2 = (-1) → ((y6 < y8 → bX6_soonest_182 R_100 y1 y2 y4 y5 y6 y7 y8 y9 σ Q) ∧ (¬ y6 < y8 → (∀ x3 : Int32, x3 = (y6 - y8) → (vp_in y2 5 ∧ (∀ x5 : Int32, x5 = (y9 + (σ.1 5 y2.toNatClampNeg)) → bX6_soonest_182 R_100 y1 y2 y4 y5 x3 y7 y8 x5 σ Q)))))))
set_option maxHeartbeats 4000000 in
set_option maxRecDepth 100000 in
theorem tX6_soonest_149 {R_100 : Int32 × Int32 × Int32 × Int32 × Int32 × Int32 × St → Prop} {Q : Int32 → St → Prop} (M : MC p s m args meth c cX6_soonest 10 (some .int) RX6 Y) (hN : yN Y = 108) (h0 : c0s Y 3 9) (hR_100 : ∀ (y1 y2 y4 y5 y6 y7 : Int32) (σ : St) (H : Heap) (locs : List Loc) (ls : Array Slot), WS Y (AD Y) s.heap σ H locs → lv_has ls 10 [(0, .ref (yA Y 0)), (1, .int y1), (2, .int y2), (4, .int y4), (5, .int y5), (6, .int y6), (7, .int y7)] → R_100 (y1, y2, y4, y5, y6, y7, σ) → W p l e { frames := 1, cells := 0, slots := 0, locals := 22 } s m args below meth c H locs 0 0 (MQ below (QI Y Q) args s 0 0 (AD Y)) (F0 m 100 ls [])) (y1 : Int32) (y2 : Int32) (y4 : Int32) (y5 : Int32) (y6 : Int32) (y7 : Int32) (y8 : Int32) (y9 : Int32) (σ : St) (H : Heap) (locs : List Loc) (ls : Array Slot) (hw : WS Y (AD Y) s.heap σ H locs) (hl : lv_has ls 10 [(0, .ref (yA Y 0)), (1, .int y1), (2, .int y2), (4, .int y4), (5, .int y5), (6, .int y6), (7, .int y7), (8, .int y8), (9, .int y9)]) (h : bX6_soonest_149 R_100 y1 y2 y4 y5 y6 y7 y8 y9 σ Q) : W p l e { frames := 1, cells := 0, slots := 0, locals := 22 } s m args below meth c H locs 0 0 (MQ below (QI Y Q) args s 0 0 (AD Y)) (F0 m 149 ls []) := by
  obtain ⟨hx, hb, hr, hml, hown, hlk, hT, hK, hB⟩ := id M
  unfold bX6_soonest_149 at h
  refine lv_iload_n hx hb dX6_soonest_149 rfl (lv_at hl 2 rfl) ?_
  refine lv_iconst (v := (-1)) hx hb dX6_soonest_150 (by decide) ?_
  refine lv_icmp_eq (tgt := 182) hx hb dX6_soonest_151 (by decide) (fun c1 => ?_) (fun c1 => ?_)
  · have h := h.1 c1
    exact tX6_soonest_182 M hN h0 hR_100 y1 y2 y4 y5 y6 y7 y8 y9 σ _ _ _ hw (lv_sub hl [0, 1, 2, 3, 4, 5, 6, 7, 8] rfl) h
  · have h := h.2 c1
    refine lv_iload hx hb dX6_soonest_154 (lv_at hl 5 rfl) ?_
    refine lv_iload hx hb dX6_soonest_156 (lv_at hl 7 rfl) ?_
    refine lv_icmp_lt (tgt := 182) hx hb dX6_soonest_158 (by decide) (fun c2 => ?_) (fun c2 => ?_)
    · have h := h.1 c2
      exact tX6_soonest_182 M hN h0 hR_100 y1 y2 y4 y5 y6 y7 y8 y9 σ _ _ _ hw (lv_sub hl [0, 1, 2, 3, 4, 5, 6, 7, 8] rfl) h
    · have h := h.2 c2
      refine lv_iload hx hb dX6_soonest_161 (lv_at hl 5 rfl) ?_
      refine lv_iload hx hb dX6_soonest_163 (lv_at hl 7 rfl) ?_
      refine lv_isub hx hb dX6_soonest_165 ?_
      refine lv_topi (fun x3 ex3 => ?_)
      have h := h x3 ex3
      refine lv_istore (lv' := [(6, .int x3), (0, .ref (yA Y 0)), (1, .int y1), (2, .int y2), (4, .int y4), (5, .int y5), (7, .int y7), (8, .int y8), (9, .int y9)]) hx hb dX6_soonest_166 hl (by decide) rfl (fun ls hl => ?_)
      refine lv_iload hx hb dX6_soonest_168 (lv_at hl 8 rfl) ?_
      refine lv_aload_n hx hb dX6_soonest_170 rfl (lv_at hl 1 rfl) ?_
      refine q_get (v := .ref (yA Y 3)) M hw (ob_0 hN h0) rfl inq_6 1 (by decide) tw_258 rfl dX6_soonest_171 ?_
      refine q_get (v := .ref (yA Y 5)) M hw (ph_ob (ph_3 hN)) rfl inq_3 1 (by decide) tw_104 rfl dX6_soonest_174 ?_
      refine lv_iload_n hx hb dX6_soonest_177 rfl (lv_at hl 3 rfl) ?_
      have c4 := h.1
      have h := h.2
      refine q_ild M hw (ar_5 hN) c4 dX6_soonest_178 ?_
      refine lv_iadd hx hb dX6_soonest_179 ?_
      refine lv_topi (fun x5 ex5 => ?_)
      have h := h x5 ex5
      refine lv_istore (lv' := [(9, .int x5), (6, .int x3), (0, .ref (yA Y 0)), (1, .int y1), (2, .int y2), (4, .int y4), (5, .int y5), (7, .int y7), (8, .int y8)]) hx hb dX6_soonest_180 hl (by decide) rfl (fun ls hl => ?_)
      exact tX6_soonest_182 M hN h0 hR_100 y1 y2 y4 y5 x3 y7 y8 x5 σ _ _ _ hw (lv_sub hl [2, 3, 4, 5, 6, 1, 7, 8, 0] rfl) h
def bX6_soonest_100 (R_100 : Int32 × Int32 × Int32 × Int32 × Int32 × Int32 × St → Prop) (y1 : Int32) (y2 : Int32) (y4 : Int32) (y5 : Int32) (y6 : Int32) (y7 : Int32) (σ : St) (Q : Int32 → St → Prop) : Prop :=
  ((99 < y7 → Q (-9) σ) ∧ (¬ 99 < y7 → wX3_moon 3 y7 σ (fun r3 σ2 => ((y5 < r3 → bX6_soonest_149 R_100 y1 y2 y4 y5 y6 y7 r3 0 σ2 Q) ∧ (¬ y5 < r3 → (∀ x5 : Int32, x5 = (y5 - r3) → (vp_in y1 5 ∧ (∀ x7 : Int32, x7 = (0 + (σ2.1 5 y1.toNatClampNeg)) → bX6_soonest_149 R_100 y1 y2 y4 x5 y6 y7 r3 x7 σ2 Q))))))))
set_option maxHeartbeats 4000000 in
set_option maxRecDepth 100000 in
theorem tX6_soonest_100 {R_100 : Int32 × Int32 × Int32 × Int32 × Int32 × Int32 × St → Prop} {Q : Int32 → St → Prop} (M : MC p s m args meth c cX6_soonest 10 (some .int) RX6 Y) (hN : yN Y = 108) (h0 : c0s Y 3 9) (hR_100 : ∀ (y1 y2 y4 y5 y6 y7 : Int32) (σ : St) (H : Heap) (locs : List Loc) (ls : Array Slot), WS Y (AD Y) s.heap σ H locs → lv_has ls 10 [(0, .ref (yA Y 0)), (1, .int y1), (2, .int y2), (4, .int y4), (5, .int y5), (6, .int y6), (7, .int y7)] → R_100 (y1, y2, y4, y5, y6, y7, σ) → W p l e { frames := 1, cells := 0, slots := 0, locals := 22 } s m args below meth c H locs 0 0 (MQ below (QI Y Q) args s 0 0 (AD Y)) (F0 m 100 ls [])) (y1 : Int32) (y2 : Int32) (y4 : Int32) (y5 : Int32) (y6 : Int32) (y7 : Int32) (σ : St) (H : Heap) (locs : List Loc) (ls : Array Slot) (hw : WS Y (AD Y) s.heap σ H locs) (hl : lv_has ls 10 [(0, .ref (yA Y 0)), (1, .int y1), (2, .int y2), (4, .int y4), (5, .int y5), (6, .int y6), (7, .int y7)]) (h : bX6_soonest_100 R_100 y1 y2 y4 y5 y6 y7 σ Q) : W p l e { frames := 1, cells := 0, slots := 0, locals := 22 } s m args below meth c H locs 0 0 (MQ below (QI Y Q) args s 0 0 (AD Y)) (F0 m 100 ls []) := by
  obtain ⟨hx, hb, hr, hml, hown, hlk, hT, hK, hB⟩ := id M
  unfold bX6_soonest_100 at h
  refine lv_iload hx hb dX6_soonest_100 (lv_at hl 6 rfl) ?_
  refine lv_bipush (v := 99) hx hb dX6_soonest_102 (by decide) ?_
  refine lv_icmp_gt (tgt := 223) hx hb dX6_soonest_104 (by decide) (fun c1 => ?_) (fun c1 => ?_)
  · have h := h.1 c1
    refine lv_bipush (v := (-9)) hx hb dX6_soonest_223 (by decide) ?_
    exact q_iret M hw h dX6_soonest_225
  · have h := h.2 c1
    refine lv_aload_n hx hb dX6_soonest_107 rfl (lv_at hl 0 rfl) ?_
    refine q_get (v := .ref (yA Y 3)) M hw (ob_0 hN h0) rfl inq_6 1 (by decide) tw_258 rfl dX6_soonest_108 ?_
    refine lv_iload hx hb dX6_soonest_111 (lv_at hl 6 rfl) ?_
    refine q_goI hw (q_runV (rest := []) M hw (ctX3_moon l hB (ph_3 hN) y7 σ _ h) mbX3_moon (ph_ob (ph_3 hN)) rfl tw_394 rfl hl.1 rfl (Nat.le_of_ble_eq_true rfl) ⟨Nat.le_of_ble_eq_true rfl, Nat.le_of_ble_eq_true rfl⟩ ⟨Nat.le_refl _, Nat.le_refl _⟩ dX6_soonest_113) (fun r3 σ2 H locs h hw => ?_)
    refine lv_istore (lv' := [(8, .int r3), (0, .ref (yA Y 0)), (1, .int y1), (2, .int y2), (4, .int y4), (5, .int y5), (6, .int y6), (7, .int y7)]) hx hb dX6_soonest_116 hl (by decide) rfl (fun ls hl => ?_)
    refine lv_iconst (v := 0) hx hb dX6_soonest_118 (by decide) ?_
    refine lv_istore (lv' := [(9, .int 0), (8, .int r3), (0, .ref (yA Y 0)), (1, .int y1), (2, .int y2), (4, .int y4), (5, .int y5), (6, .int y6), (7, .int y7)]) hx hb dX6_soonest_119 hl (by decide) rfl (fun ls hl => ?_)
    refine lv_iload hx hb dX6_soonest_121 (lv_at hl 6 rfl) ?_
    refine lv_iload hx hb dX6_soonest_123 (lv_at hl 1 rfl) ?_
    refine lv_icmp_lt (tgt := 149) hx hb dX6_soonest_125 (by decide) (fun c4 => ?_) (fun c4 => ?_)
    · have h := h.1 c4
      exact tX6_soonest_149 M hN h0 hR_100 y1 y2 y4 y5 y6 y7 r3 0 σ2 _ _ _ hw (lv_sub hl [2, 3, 4, 5, 6, 7, 8, 1, 0] rfl) h
    · have h := h.2 c4
      refine lv_iload hx hb dX6_soonest_128 (lv_at hl 6 rfl) ?_
      refine lv_iload hx hb dX6_soonest_130 (lv_at hl 1 rfl) ?_
      refine lv_isub hx hb dX6_soonest_132 ?_
      refine lv_topi (fun x5 ex5 => ?_)
      have h := h x5 ex5
      refine lv_istore (lv' := [(5, .int x5), (9, .int 0), (8, .int r3), (0, .ref (yA Y 0)), (1, .int y1), (2, .int y2), (4, .int y4), (6, .int y6), (7, .int y7)]) hx hb dX6_soonest_133 hl (by decide) rfl (fun ls hl => ?_)
      refine lv_iload hx hb dX6_soonest_135 (lv_at hl 1 rfl) ?_
      refine lv_aload_n hx hb dX6_soonest_137 rfl (lv_at hl 3 rfl) ?_
      refine q_get (v := .ref (yA Y 3)) M hw (ob_0 hN h0) rfl inq_6 1 (by decide) tw_258 rfl dX6_soonest_138 ?_
      refine q_get (v := .ref (yA Y 5)) M hw (ph_ob (ph_3 hN)) rfl inq_3 1 (by decide) tw_104 rfl dX6_soonest_141 ?_
      refine lv_iload_n hx hb dX6_soonest_144 rfl (lv_at hl 4 rfl) ?_
      have c6 := h.1
      have h := h.2
      refine q_ild M hw (ar_5 hN) c6 dX6_soonest_145 ?_
      refine lv_iadd hx hb dX6_soonest_146 ?_
      refine lv_topi (fun x7 ex7 => ?_)
      have h := h x7 ex7
      refine lv_istore (lv' := [(9, .int x7), (5, .int x5), (8, .int r3), (0, .ref (yA Y 0)), (1, .int y1), (2, .int y2), (4, .int y4), (6, .int y6), (7, .int y7)]) hx hb dX6_soonest_147 hl (by decide) rfl (fun ls hl => ?_)
      exact tX6_soonest_149 M hN h0 hR_100 y1 y2 y4 x5 y6 y7 r3 x7 σ2 _ _ _ hw (lv_sub hl [3, 4, 5, 6, 1, 7, 8, 2, 0] rfl) h
def lX6_soonest_100 (Q : Int32 → St → Prop) : (Int32 × Int32 × Int32 × Int32 × Int32 × Int32 × St → Prop) → Int32 × Int32 × Int32 × Int32 × Int32 × Int32 × St → Prop := fun R a => bX6_soonest_100 R a.1 a.2.1 a.2.2.1 a.2.2.2.1 a.2.2.2.2.1 a.2.2.2.2.2.1 a.2.2.2.2.2.2 Q
theorem tlX6_soonest_100 {Q : Int32 → St → Prop} (M : MC p s m args meth c cX6_soonest 10 (some .int) RX6 Y) (hN : yN Y = 108) (h0 : c0s Y 3 9) (n : Nat) : ∀ (y1 : Int32) (y2 : Int32) (y4 : Int32) (y5 : Int32) (y6 : Int32) (y7 : Int32) (σ : St) (H : Heap) (locs : List Loc) (ls : Array Slot) (hw : WS Y (AD Y) s.heap σ H locs) (hl : lv_has ls 10 [(0, .ref (yA Y 0)), (1, .int y1), (2, .int y2), (4, .int y4), (5, .int y5), (6, .int y6), (7, .int y7)]) (h : Lp (lX6_soonest_100 Q) n (y1, y2, y4, y5, y6, y7, σ)), W p l e { frames := 1, cells := 0, slots := 0, locals := 22 } s m args below meth c H locs 0 0 (MQ below (QI Y Q) args s 0 0 (AD Y)) (F0 m 100 ls []) := by
  induction n with
  | zero => intro y1 y2 y4 y5 y6 y7 σ H locs ls hw hl h; exact h.elim
  | succ n ih =>
    intro y1 y2 y4 y5 y6 y7 σ H locs ls hw hl h
    exact tX6_soonest_100 M hN h0 ih y1 y2 y4 y5 y6 y7 σ H locs ls hw hl h
def bX6_soonest_89 (y1 : Int32) (y2 : Int32) (y4 : Int32) (y5 : Int32) (z0 : Int32) (σ : St) (Q : Int32 → St → Prop) : Prop :=
  (∀ x1 : Int32, x1 = (σ.1 18 4) → ∃ n : Nat, Lp (lX6_soonest_100 Q) n (y1, y2, y4, y5, z0, x1, σ))
set_option maxHeartbeats 4000000 in
set_option maxRecDepth 100000 in
theorem tX6_soonest_89 {Q : Int32 → St → Prop} (M : MC p s m args meth c cX6_soonest 10 (some .int) RX6 Y) (hN : yN Y = 108) (h0 : c0s Y 3 9) (y1 : Int32) (y2 : Int32) (y4 : Int32) (y5 : Int32) (z0 : Int32) (σ : St) (H : Heap) (locs : List Loc) (ls : Array Slot) (hw : WS Y (AD Y) s.heap σ H locs) (hl : lv_has ls 10 [(0, .ref (yA Y 0)), (1, .int y1), (2, .int y2), (4, .int y4), (5, .int y5)]) (h : bX6_soonest_89 y1 y2 y4 y5 z0 σ Q) : W p l e { frames := 1, cells := 0, slots := 0, locals := 22 } s m args below meth c H locs 0 0 (MQ below (QI Y Q) args s 0 0 (AD Y)) (F0 m 89 ls [.int z0]) := by
  obtain ⟨hx, hb, hr, hml, hown, hlk, hT, hK, hB⟩ := id M
  unfold bX6_soonest_89 at h
  refine lv_istore (lv' := [(6, .int z0), (0, .ref (yA Y 0)), (1, .int y1), (2, .int y2), (4, .int y4), (5, .int y5)]) hx hb dX6_soonest_89 hl (by decide) rfl (fun ls hl => ?_)
  refine lv_aload_n hx hb dX6_soonest_91 rfl (lv_at hl 1 rfl) ?_
  refine q_get (v := .ref (yA Y 18)) M hw (ob_0 hN h0) rfl inq_6 4 (by decide) tw_261 rfl dX6_soonest_92 ?_
  refine q_get (v := .int (σ.1 18 4)) M hw (sh_ob (sh_18 hN)) rfl inq_4 4 (by decide) tw_194 rfl dX6_soonest_95 ?_
  refine lv_topi (fun x1 ex1 => ?_)
  have h := h x1 ex1
  refine lv_istore (lv' := [(7, .int x1), (6, .int z0), (0, .ref (yA Y 0)), (1, .int y1), (2, .int y2), (4, .int y4), (5, .int y5)]) hx hb dX6_soonest_98 hl (by decide) rfl (fun ls hl => ?_)
  obtain ⟨n, h⟩ := h
  exact tlX6_soonest_100 M hN h0 n y1 y2 y4 y5 z0 x1 σ _ _ _ hw (lv_sub hl [2, 3, 4, 5, 6, 1, 0] rfl) h
def bX6_soonest_36 (y1 : Int32) (y2 : Int32) (y3 : Int32) (σ : St) (Q : Int32 → St → Prop) : Prop :=
  (vp_in y3 7 ∧ (∀ x2 : Int32, x2 = (σ.1 22 y3.toNatClampNeg) → ((x2 = 0 → Q (σ.1 18 4) σ) ∧ (¬ x2 = 0 → (vp_in y1 5 ∧ (∀ x5 : Int32, x5 = (σ.1 19 y1.toNatClampNeg) → ((y2 = (-1) → bX6_soonest_89 y1 y2 x2 x5 0 σ Q) ∧ (¬ y2 = (-1) → (vp_in y2 5 ∧ bX6_soonest_89 y1 y2 x2 x5 (σ.1 19 y2.toNatClampNeg) σ Q)))))))))
set_option maxHeartbeats 4000000 in
set_option maxRecDepth 100000 in
theorem tX6_soonest_36 {Q : Int32 → St → Prop} (M : MC p s m args meth c cX6_soonest 10 (some .int) RX6 Y) (hN : yN Y = 108) (h0 : c0s Y 3 9) (y1 : Int32) (y2 : Int32) (y3 : Int32) (σ : St) (H : Heap) (locs : List Loc) (ls : Array Slot) (hw : WS Y (AD Y) s.heap σ H locs) (hl : lv_has ls 10 [(0, .ref (yA Y 0)), (1, .int y1), (2, .int y2), (3, .int y3)]) (h : bX6_soonest_36 y1 y2 y3 σ Q) : W p l e { frames := 1, cells := 0, slots := 0, locals := 22 } s m args below meth c H locs 0 0 (MQ below (QI Y Q) args s 0 0 (AD Y)) (F0 m 36 ls []) := by
  obtain ⟨hx, hb, hr, hml, hown, hlk, hT, hK, hB⟩ := id M
  unfold bX6_soonest_36 at h
  refine lv_aload_n hx hb dX6_soonest_36 rfl (lv_at hl 0 rfl) ?_
  refine q_get (v := .ref (yA Y 18)) M hw (ob_0 hN h0) rfl inq_6 4 (by decide) tw_261 rfl dX6_soonest_37 ?_
  refine q_get (v := .ref (yA Y 22)) M hw (sh_ob (sh_18 hN)) rfl inq_4 3 (by decide) tw_192 rfl dX6_soonest_40 ?_
  refine lv_iload_n hx hb dX6_soonest_43 rfl (lv_at hl 3 rfl) ?_
  have c1 := h.1
  have h := h.2
  refine q_ild M hw (ar_22 hN) c1 dX6_soonest_44 ?_
  refine lv_topi (fun x2 ex2 => ?_)
  have h := h x2 ex2
  refine lv_istore (lv' := [(4, .int x2), (0, .ref (yA Y 0)), (1, .int y1), (2, .int y2), (3, .int y3)]) hx hb dX6_soonest_45 hl (by decide) rfl (fun ls hl => ?_)
  refine lv_iload hx hb dX6_soonest_47 (lv_at hl 0 rfl) ?_
  refine lv_if_ne (tgt := 60) hx hb dX6_soonest_49 (by decide) (fun c3 => ?_) (fun c3 => ?_)
  · have h := h.2 c3
    refine lv_aload_n hx hb dX6_soonest_60 rfl (lv_at hl 1 rfl) ?_
    refine q_get (v := .ref (yA Y 18)) M hw (ob_0 hN h0) rfl inq_6 4 (by decide) tw_261 rfl dX6_soonest_61 ?_
    refine q_get (v := .ref (yA Y 19)) M hw (sh_ob (sh_18 hN)) rfl inq_4 0 (by decide) tw_186 rfl dX6_soonest_64 ?_
    refine lv_iload_n hx hb dX6_soonest_67 rfl (lv_at hl 2 rfl) ?_
    have c4 := h.1
    have h := h.2
    refine q_ild M hw (ar_19 hN) c4 dX6_soonest_68 ?_
    refine lv_topi (fun x5 ex5 => ?_)
    have h := h x5 ex5
    refine lv_istore (lv' := [(5, .int x5), (4, .int x2), (0, .ref (yA Y 0)), (1, .int y1), (2, .int y2), (3, .int y3)]) hx hb dX6_soonest_69 hl (by decide) rfl (fun ls hl => ?_)
    refine lv_iload_n hx hb dX6_soonest_71 rfl (lv_at hl 4 rfl) ?_
    refine lv_iconst (v := (-1)) hx hb dX6_soonest_72 (by decide) ?_
    refine lv_icmp_ne (tgt := 80) hx hb dX6_soonest_73 (by decide) (fun c6 => ?_) (fun c6 => ?_)
    · have h := h.2 c6
      refine lv_aload_n hx hb dX6_soonest_80 rfl (lv_at hl 2 rfl) ?_
      refine q_get (v := .ref (yA Y 18)) M hw (ob_0 hN h0) rfl inq_6 4 (by decide) tw_261 rfl dX6_soonest_81 ?_
      refine q_get (v := .ref (yA Y 19)) M hw (sh_ob (sh_18 hN)) rfl inq_4 0 (by decide) tw_186 rfl dX6_soonest_84 ?_
      refine lv_iload_n hx hb dX6_soonest_87 rfl (lv_at hl 4 rfl) ?_
      have c7 := h.1
      have h := h.2
      refine q_ild M hw (ar_19 hN) c7 dX6_soonest_88 ?_
      exact tX6_soonest_89 M hN h0 y1 y2 x2 x5 (σ.1 19 y2.toNatClampNeg) σ _ _ _ hw (lv_sub hl [2, 3, 4, 1, 0] rfl) h
    · have h := h.1 c6
      refine lv_iconst (v := 0) hx hb dX6_soonest_76 (by decide) ?_
      refine lv_goto (tgt := 89) hx hb dX6_soonest_77 (by decide) ?_
      exact tX6_soonest_89 M hN h0 y1 y2 x2 x5 0 σ _ _ _ hw (lv_sub hl [2, 3, 4, 1, 0] rfl) h
  · have h := h.1 c3
    refine lv_aload_n hx hb dX6_soonest_52 rfl (lv_at hl 1 rfl) ?_
    refine q_get (v := .ref (yA Y 18)) M hw (ob_0 hN h0) rfl inq_6 4 (by decide) tw_261 rfl dX6_soonest_53 ?_
    refine q_get (v := .int (σ.1 18 4)) M hw (sh_ob (sh_18 hN)) rfl inq_4 4 (by decide) tw_194 rfl dX6_soonest_56 ?_
    exact q_iret M hw h dX6_soonest_59
def wX6_soonest (a0 : Int32) (a1 : Int32) (a2 : Int32) (σ : St) (Q : Int32 → St → Prop) : Prop :=
  wX6_isFarmer a0 σ (fun r2 σ1 => ((r2 = 0 → Q (-1) σ1) ∧ (¬ r2 = 0 → wX6_isStrip a2 σ1 (fun r5 σ4 => ((r5 = 0 → Q (-1) σ4) ∧ (¬ r5 = 0 → ((a0 = a1 → Q (-1) σ4) ∧ (¬ a0 = a1 → ((a1 = (-1) → bX6_soonest_36 a0 a1 a2 σ4 Q) ∧ (¬ a1 = (-1) → wX6_isFarmer a1 σ4 (fun r10 σ9 => ((r10 = 0 → Q (-1) σ9) ∧ (¬ r10 = 0 → bX6_soonest_36 a0 a1 a2 σ9 Q)))))))))))))
set_option maxHeartbeats 4000000 in
set_option maxRecDepth 100000 in
theorem tX6_soonest_E {Q : Int32 → St → Prop} (M : MC p s m args meth c cX6_soonest 10 (some .int) RX6 Y) (hN : yN Y = 108) (h0 : c0s Y 3 9) (a0 : Int32) (a1 : Int32) (a2 : Int32) (σ : St) (H : Heap) (locs : List Loc) (ls : Array Slot) (hw : WS Y (AD Y) s.heap σ H locs) (hl : lv_has ls 10 [(0, .ref (yA Y 0)), (1, .int a0), (2, .int a1), (3, .int a2)]) (h : wX6_soonest a0 a1 a2 σ Q) : W p l e { frames := 1, cells := 0, slots := 0, locals := 22 } s m args below meth c H locs 0 0 (MQ below (QI Y Q) args s 0 0 (AD Y)) (F0 m 0 ls []) := by
  obtain ⟨hx, hb, hr, hml, hown, hlk, hT, hK, hB⟩ := id M
  unfold wX6_soonest at h
  refine lv_aload_n hx hb dX6_soonest_0 rfl (lv_at hl 0 rfl) ?_
  refine lv_iload_n hx hb dX6_soonest_1 rfl (lv_at hl 1 rfl) ?_
  refine q_goI hw (q_runV (rest := []) M hw (ctX6_isFarmer l hB hN h0 a0 σ _ h) mbX6_isFarmer (ob_0 hN h0) rfl tw_367 rfl hl.1 rfl (Nat.le_of_ble_eq_true rfl) ⟨Nat.le_of_ble_eq_true rfl, Nat.le_of_ble_eq_true rfl⟩ ⟨Nat.le_refl _, Nat.le_refl _⟩ dX6_soonest_2) (fun r2 σ1 H locs h hw => ?_)
  refine lv_if_eq (tgt := 34) hx hb dX6_soonest_5 (by decide) (fun c3 => ?_) (fun c3 => ?_)
  · have h := h.1 c3
    refine lv_iconst (v := (-1)) hx hb dX6_soonest_34 (by decide) ?_
    exact q_iret M hw h dX6_soonest_35
  · have h := h.2 c3
    refine lv_aload_n hx hb dX6_soonest_8 rfl (lv_at hl 0 rfl) ?_
    refine lv_iload_n hx hb dX6_soonest_9 rfl (lv_at hl 3 rfl) ?_
    refine q_goI hw (q_runV (rest := []) M hw (ctX6_isStrip l hB hN h0 a2 σ1 _ h) mbX6_isStrip (ob_0 hN h0) rfl tw_383 rfl hl.1 rfl (Nat.le_of_ble_eq_true rfl) ⟨Nat.le_of_ble_eq_true rfl, Nat.le_of_ble_eq_true rfl⟩ ⟨Nat.le_refl _, Nat.le_refl _⟩ dX6_soonest_10) (fun r5 σ4 H locs h hw => ?_)
    refine lv_if_eq (tgt := 34) hx hb dX6_soonest_13 (by decide) (fun c6 => ?_) (fun c6 => ?_)
    · have h := h.1 c6
      refine lv_iconst (v := (-1)) hx hb dX6_soonest_34 (by decide) ?_
      exact q_iret M hw h dX6_soonest_35
    · have h := h.2 c6
      refine lv_iload_n hx hb dX6_soonest_16 rfl (lv_at hl 1 rfl) ?_
      refine lv_iload_n hx hb dX6_soonest_17 rfl (lv_at hl 2 rfl) ?_
      refine lv_icmp_eq (tgt := 34) hx hb dX6_soonest_18 (by decide) (fun c7 => ?_) (fun c7 => ?_)
      · have h := h.1 c7
        refine lv_iconst (v := (-1)) hx hb dX6_soonest_34 (by decide) ?_
        exact q_iret M hw h dX6_soonest_35
      · have h := h.2 c7
        refine lv_iload_n hx hb dX6_soonest_21 rfl (lv_at hl 2 rfl) ?_
        refine lv_iconst (v := (-1)) hx hb dX6_soonest_22 (by decide) ?_
        refine lv_icmp_eq (tgt := 36) hx hb dX6_soonest_23 (by decide) (fun c8 => ?_) (fun c8 => ?_)
        · have h := h.1 c8
          exact tX6_soonest_36 M hN h0 a0 a1 a2 σ4 _ _ _ hw (lv_sub hl [0, 1, 2, 3] rfl) h
        · have h := h.2 c8
          refine lv_aload_n hx hb dX6_soonest_26 rfl (lv_at hl 0 rfl) ?_
          refine lv_iload_n hx hb dX6_soonest_27 rfl (lv_at hl 2 rfl) ?_
          refine q_goI hw (q_runV (rest := []) M hw (ctX6_isFarmer l hB hN h0 a1 σ4 _ h) mbX6_isFarmer (ob_0 hN h0) rfl tw_367 rfl hl.1 rfl (Nat.le_of_ble_eq_true rfl) ⟨Nat.le_of_ble_eq_true rfl, Nat.le_of_ble_eq_true rfl⟩ ⟨Nat.le_refl _, Nat.le_refl _⟩ dX6_soonest_28) (fun r10 σ9 H locs h hw => ?_)
          refine lv_if_ne (tgt := 36) hx hb dX6_soonest_31 (by decide) (fun c11 => ?_) (fun c11 => ?_)
          · have h := h.2 c11
            exact tX6_soonest_36 M hN h0 a0 a1 a2 σ9 _ _ _ hw (lv_sub hl [0, 1, 2, 3] rfl) h
          · have h := h.1 c11
            refine lv_iconst (v := (-1)) hx hb dX6_soonest_34 (by decide) ?_
            exact q_iret M hw h dX6_soonest_35
set_option maxRecDepth 100000 in
theorem ctX6_soonest (l : Launch) {Y : LY} (hB : YB Y) (hN : yN Y = 108) (h0 : c0s Y 3 9) (a0 : Int32) (a1 : Int32) (a2 : Int32) (σ : St) (Q : Int32 → St → Prop) (h : wX6_soonest a0 a1 a2 σ Q) : CT l yX6_soonest (Cond.code yX6_soonest cX6_soonest 10 (some .int)) { frames := 1, cells := 0, slots := 0, locals := 22 } Y [.ref (yA Y 0), .int a0, .int a1, .int a2] σ (QI Y Q) :=
  q_ent hB (by decide +kernel) (Nat.le_of_ble_eq_true rfl) (fun p e s m below meth c ls M hw hl => tX6_soonest_E M hN h0 a0 a1 a2 σ _ _ ls hw hl h)
theorem mbX6_soonest : MB RX6 yX6_soonest cX6_soonest 3 10 (some .int) := ⟨tw_519, tw_520, tw_49, tw_521, by decide +kernel⟩
end
section
variable {p : Program} {l : Launch} {e : Env} {s : State} {m : MethodId} {args : Array Value} {below : List Frame} {meth : Method} {c : Code} {Y : LY}
theorem dX6_needOf_0 : decode cX6_needOf 0 = .ok (.iconst 0, 1) := by decide +kernel
theorem dX6_needOf_1 : decode cX6_needOf 1 = .ok (.istore_n 2, 1) := by decide +kernel
theorem dX6_needOf_2 : decode cX6_needOf 2 = .ok (.iconst 0, 1) := by decide +kernel
theorem dX6_needOf_3 : decode cX6_needOf 3 = .ok (.istore_n 3, 1) := by decide +kernel
theorem dX6_needOf_4 : decode cX6_needOf 4 = .ok (.iload_n 3, 1) := by decide +kernel
theorem dX6_needOf_5 : decode cX6_needOf 5 = .ok (.aload_n 0, 1) := by decide +kernel
theorem dX6_needOf_6 : decode cX6_needOf 6 = .ok (.getfield 19, 3) := by decide +kernel
theorem dX6_needOf_9 : decode cX6_needOf 9 = .ok (.getfield 252, 3) := by decide +kernel
theorem dX6_needOf_12 : decode cX6_needOf 12 = .ok (.if_icmp .ge 45, 3) := by decide +kernel
theorem dX6_needOf_15 : decode cX6_needOf 15 = .ok (.aload_n 0, 1) := by decide +kernel
theorem dX6_needOf_16 : decode cX6_needOf 16 = .ok (.getfield 36, 3) := by decide +kernel
theorem dX6_needOf_19 : decode cX6_needOf 19 = .ok (.getfield 114, 3) := by decide +kernel
theorem dX6_needOf_22 : decode cX6_needOf 22 = .ok (.iload_n 3, 1) := by decide +kernel
theorem dX6_needOf_23 : decode cX6_needOf 23 = .ok (.iaload, 1) := by decide +kernel
theorem dX6_needOf_24 : decode cX6_needOf 24 = .ok (.iload_n 1, 1) := by decide +kernel
theorem dX6_needOf_25 : decode cX6_needOf 25 = .ok (.if_icmp .ne 26, 3) := by decide +kernel
theorem dX6_needOf_28 : decode cX6_needOf 28 = .ok (.aload_n 0, 1) := by decide +kernel
theorem dX6_needOf_29 : decode cX6_needOf 29 = .ok (.iload_n 1, 1) := by decide +kernel
theorem dX6_needOf_30 : decode cX6_needOf 30 = .ok (.iload_n 3, 1) := by decide +kernel
theorem dX6_needOf_31 : decode cX6_needOf 31 = .ok (.invokevirtual 185, 3) := by decide +kernel
theorem dX6_needOf_34 : decode cX6_needOf 34 = .ok (.istore 4, 2) := by decide +kernel
theorem dX6_needOf_36 : decode cX6_needOf 36 = .ok (.iload 4, 2) := by decide +kernel
theorem dX6_needOf_38 : decode cX6_needOf 38 = .ok (.bipush (-9), 2) := by decide +kernel
theorem dX6_needOf_40 : decode cX6_needOf 40 = .ok (.if_icmp .ne 6, 3) := by decide +kernel
theorem dX6_needOf_43 : decode cX6_needOf 43 = .ok (.bipush (-9), 2) := by decide +kernel
theorem dX6_needOf_45 : decode cX6_needOf 45 = .ok (.ireturn, 1) := by decide +kernel
theorem dX6_needOf_46 : decode cX6_needOf 46 = .ok (.iload_n 2, 1) := by decide +kernel
theorem dX6_needOf_47 : decode cX6_needOf 47 = .ok (.iload 4, 2) := by decide +kernel
theorem dX6_needOf_49 : decode cX6_needOf 49 = .ok (.iadd, 1) := by decide +kernel
theorem dX6_needOf_50 : decode cX6_needOf 50 = .ok (.istore_n 2, 1) := by decide +kernel
theorem dX6_needOf_51 : decode cX6_needOf 51 = .ok (.iinc 3 1, 3) := by decide +kernel
theorem dX6_needOf_54 : decode cX6_needOf 54 = .ok (.goto (-50), 3) := by decide +kernel
theorem dX6_needOf_57 : decode cX6_needOf 57 = .ok (.iload_n 2, 1) := by decide +kernel
theorem dX6_needOf_58 : decode cX6_needOf 58 = .ok (.ireturn, 1) := by decide +kernel
def bX6_needOf_51 (R_4 : Int32 × Int32 × Int32 × St → Prop) (y1 : Int32) (y2 : Int32) (y3 : Int32) (σ : St) (Q : Int32 → St → Prop) : Prop :=
  (∀ x1 : Int32, x1 = y3 + 1 → R_4 (y1, y2, x1, σ))
set_option maxHeartbeats 4000000 in
set_option maxRecDepth 100000 in
theorem tX6_needOf_51 {R_4 : Int32 × Int32 × Int32 × St → Prop} {Q : Int32 → St → Prop} (M : MC p s m args meth c cX6_needOf 5 (some .int) RX6 Y) (hN : yN Y = 108) (h0 : c0s Y 3 9) (hR_4 : ∀ (y1 y2 y3 : Int32) (σ : St) (H : Heap) (locs : List Loc) (ls : Array Slot), WS Y (AD Y) s.heap σ H locs → lv_has ls 5 [(0, .ref (yA Y 0)), (1, .int y1), (2, .int y2), (3, .int y3)] → R_4 (y1, y2, y3, σ) → W p l e { frames := 4, cells := 0, slots := 0, locals := 95 } s m args below meth c H locs 0 0 (MQ below (QI Y Q) args s 0 0 (AD Y)) (F0 m 4 ls [])) (y1 : Int32) (y2 : Int32) (y3 : Int32) (σ : St) (H : Heap) (locs : List Loc) (ls : Array Slot) (hw : WS Y (AD Y) s.heap σ H locs) (hl : lv_has ls 5 [(0, .ref (yA Y 0)), (1, .int y1), (2, .int y2), (3, .int y3)]) (h : bX6_needOf_51 R_4 y1 y2 y3 σ Q) : W p l e { frames := 4, cells := 0, slots := 0, locals := 95 } s m args below meth c H locs 0 0 (MQ below (QI Y Q) args s 0 0 (AD Y)) (F0 m 51 ls []) := by
  obtain ⟨hx, hb, hr, hml, hown, hlk, hT, hK, hB⟩ := id M
  unfold bX6_needOf_51 at h
  obtain ⟨x1, ex1⟩ : ∃ y : Int32, y = y3 + 1 := ⟨_, rfl⟩
  have h := h x1 ex1
  refine lv_iinc (v := x1) (lv' := [(3, .int x1), (0, .ref (yA Y 0)), (1, .int y1), (2, .int y2)]) hx hb dX6_needOf_51 hl (k := 3) rfl (by rw [ex1]; rfl) (by decide) rfl (fun ls hl => ?_)
  refine lv_goto (tgt := 4) hx hb dX6_needOf_54 (by decide) ?_
  exact hR_4 y1 y2 x1 σ _ _ _ hw (lv_sub hl [1, 2, 3, 0] rfl) h
def bX6_needOf_4 (R_4 : Int32 × Int32 × Int32 × St → Prop) (y1 : Int32) (y2 : Int32) (y3 : Int32) (σ : St) (Q : Int32 → St → Prop) : Prop :=
  (((σ.1 3 6) ≤ y3 → Q y2 σ) ∧ (¬ (σ.1 3 6) ≤ y3 → (vp_in y3 7 ∧ (((σ.1 21 y3.toNatClampNeg) = y1 → wX6_leastQuarters y1 y3 σ (fun r5 σ4 => ((r5 = (-9) → Q (-9) σ4) ∧ (¬ r5 = (-9) → (∀ x7 : Int32, x7 = (y2 + r5) → bX6_needOf_51 R_4 y1 x7 y3 σ4 Q))))) ∧ (¬ (σ.1 21 y3.toNatClampNeg) = y1 → bX6_needOf_51 R_4 y1 y2 y3 σ Q)))))
set_option maxHeartbeats 4000000 in
set_option maxRecDepth 100000 in
theorem tX6_needOf_4 {R_4 : Int32 × Int32 × Int32 × St → Prop} {Q : Int32 → St → Prop} (M : MC p s m args meth c cX6_needOf 5 (some .int) RX6 Y) (hN : yN Y = 108) (h0 : c0s Y 3 9) (hR_4 : ∀ (y1 y2 y3 : Int32) (σ : St) (H : Heap) (locs : List Loc) (ls : Array Slot), WS Y (AD Y) s.heap σ H locs → lv_has ls 5 [(0, .ref (yA Y 0)), (1, .int y1), (2, .int y2), (3, .int y3)] → R_4 (y1, y2, y3, σ) → W p l e { frames := 4, cells := 0, slots := 0, locals := 95 } s m args below meth c H locs 0 0 (MQ below (QI Y Q) args s 0 0 (AD Y)) (F0 m 4 ls [])) (y1 : Int32) (y2 : Int32) (y3 : Int32) (σ : St) (H : Heap) (locs : List Loc) (ls : Array Slot) (hw : WS Y (AD Y) s.heap σ H locs) (hl : lv_has ls 5 [(0, .ref (yA Y 0)), (1, .int y1), (2, .int y2), (3, .int y3)]) (h : bX6_needOf_4 R_4 y1 y2 y3 σ Q) : W p l e { frames := 4, cells := 0, slots := 0, locals := 95 } s m args below meth c H locs 0 0 (MQ below (QI Y Q) args s 0 0 (AD Y)) (F0 m 4 ls []) := by
  obtain ⟨hx, hb, hr, hml, hown, hlk, hT, hK, hB⟩ := id M
  unfold bX6_needOf_4 at h
  refine lv_iload_n hx hb dX6_needOf_4 rfl (lv_at hl 3 rfl) ?_
  refine lv_aload_n hx hb dX6_needOf_5 rfl (lv_at hl 0 rfl) ?_
  refine q_get (v := .ref (yA Y 3)) M hw (ob_0 hN h0) rfl inq_6 1 (by decide) tw_258 rfl dX6_needOf_6 ?_
  refine q_get (v := .int (σ.1 3 6)) M hw (ph_ob (ph_3 hN)) rfl inq_3 6 (by decide) tw_122 rfl dX6_needOf_9 ?_
  refine lv_icmp_ge (tgt := 57) hx hb dX6_needOf_12 (by decide) (fun c1 => ?_) (fun c1 => ?_)
  · have h := h.1 c1
    refine lv_iload_n hx hb dX6_needOf_57 rfl (lv_at hl 2 rfl) ?_
    exact q_iret M hw h dX6_needOf_58
  · have h := h.2 c1
    refine lv_aload_n hx hb dX6_needOf_15 rfl (lv_at hl 0 rfl) ?_
    refine q_get (v := .ref (yA Y 18)) M hw (ob_0 hN h0) rfl inq_6 4 (by decide) tw_261 rfl dX6_needOf_16 ?_
    refine q_get (v := .ref (yA Y 21)) M hw (sh_ob (sh_18 hN)) rfl inq_4 2 (by decide) tw_190 rfl dX6_needOf_19 ?_
    refine lv_iload_n hx hb dX6_needOf_22 rfl (lv_at hl 3 rfl) ?_
    have c2 := h.1
    have h := h.2
    refine q_ild M hw (ar_21 hN) c2 dX6_needOf_23 ?_
    refine lv_iload_n hx hb dX6_needOf_24 rfl (lv_at hl 1 rfl) ?_
    refine lv_icmp_ne (tgt := 51) hx hb dX6_needOf_25 (by decide) (fun c3 => ?_) (fun c3 => ?_)
    · have h := h.2 c3
      exact tX6_needOf_51 M hN h0 hR_4 y1 y2 y3 σ _ _ _ hw (lv_sub hl [0, 1, 2, 3] rfl) h
    · have h := h.1 c3
      refine lv_aload_n hx hb dX6_needOf_28 rfl (lv_at hl 0 rfl) ?_
      refine lv_iload_n hx hb dX6_needOf_29 rfl (lv_at hl 1 rfl) ?_
      refine lv_iload_n hx hb dX6_needOf_30 rfl (lv_at hl 3 rfl) ?_
      refine q_goI hw (q_runV (rest := []) M hw (ctX6_leastQuarters l hB hN h0 y1 y3 σ _ h) mbX6_leastQuarters (ob_0 hN h0) rfl tw_491 rfl hl.1 rfl (Nat.le_of_ble_eq_true rfl) ⟨Nat.le_of_ble_eq_true rfl, Nat.le_of_ble_eq_true rfl⟩ ⟨Nat.le_refl _, Nat.le_refl _⟩ dX6_needOf_31) (fun r5 σ4 H locs h hw => ?_)
      refine lv_istore (lv' := [(4, .int r5), (0, .ref (yA Y 0)), (1, .int y1), (2, .int y2), (3, .int y3)]) hx hb dX6_needOf_34 hl (by decide) rfl (fun ls hl => ?_)
      refine lv_iload hx hb dX6_needOf_36 (lv_at hl 0 rfl) ?_
      refine lv_bipush (v := (-9)) hx hb dX6_needOf_38 (by decide) ?_
      refine lv_icmp_ne (tgt := 46) hx hb dX6_needOf_40 (by decide) (fun c6 => ?_) (fun c6 => ?_)
      · have h := h.2 c6
        refine lv_iload_n hx hb dX6_needOf_46 rfl (lv_at hl 3 rfl) ?_
        refine lv_iload hx hb dX6_needOf_47 (lv_at hl 0 rfl) ?_
        refine lv_iadd hx hb dX6_needOf_49 ?_
        refine lv_topi (fun x7 ex7 => ?_)
        have h := h x7 ex7
        refine lv_istore_n (lv' := [(2, .int x7), (4, .int r5), (0, .ref (yA Y 0)), (1, .int y1), (3, .int y3)]) hx hb dX6_needOf_50 rfl hl (by decide) rfl (fun ls hl => ?_)
        exact tX6_needOf_51 M hN h0 hR_4 y1 x7 y3 σ4 _ _ _ hw (lv_sub hl [2, 3, 0, 4] rfl) h
      · have h := h.1 c6
        refine lv_bipush (v := (-9)) hx hb dX6_needOf_43 (by decide) ?_
        exact q_iret M hw h dX6_needOf_45
def lX6_needOf_4 (Q : Int32 → St → Prop) : (Int32 × Int32 × Int32 × St → Prop) → Int32 × Int32 × Int32 × St → Prop := fun R a => bX6_needOf_4 R a.1 a.2.1 a.2.2.1 a.2.2.2 Q
theorem tlX6_needOf_4 {Q : Int32 → St → Prop} (M : MC p s m args meth c cX6_needOf 5 (some .int) RX6 Y) (hN : yN Y = 108) (h0 : c0s Y 3 9) (n : Nat) : ∀ (y1 : Int32) (y2 : Int32) (y3 : Int32) (σ : St) (H : Heap) (locs : List Loc) (ls : Array Slot) (hw : WS Y (AD Y) s.heap σ H locs) (hl : lv_has ls 5 [(0, .ref (yA Y 0)), (1, .int y1), (2, .int y2), (3, .int y3)]) (h : Lp (lX6_needOf_4 Q) n (y1, y2, y3, σ)), W p l e { frames := 4, cells := 0, slots := 0, locals := 95 } s m args below meth c H locs 0 0 (MQ below (QI Y Q) args s 0 0 (AD Y)) (F0 m 4 ls []) := by
  induction n with
  | zero => intro y1 y2 y3 σ H locs ls hw hl h; exact h.elim
  | succ n ih =>
    intro y1 y2 y3 σ H locs ls hw hl h
    exact tX6_needOf_4 M hN h0 ih y1 y2 y3 σ H locs ls hw hl h
def wX6_needOf (a0 : Int32) (σ : St) (Q : Int32 → St → Prop) : Prop :=
  ∃ n : Nat, Lp (lX6_needOf_4 Q) n (a0, 0, 0, σ)
set_option maxHeartbeats 4000000 in
set_option maxRecDepth 100000 in
theorem tX6_needOf_E {Q : Int32 → St → Prop} (M : MC p s m args meth c cX6_needOf 5 (some .int) RX6 Y) (hN : yN Y = 108) (h0 : c0s Y 3 9) (a0 : Int32) (σ : St) (H : Heap) (locs : List Loc) (ls : Array Slot) (hw : WS Y (AD Y) s.heap σ H locs) (hl : lv_has ls 5 [(0, .ref (yA Y 0)), (1, .int a0)]) (h : wX6_needOf a0 σ Q) : W p l e { frames := 4, cells := 0, slots := 0, locals := 95 } s m args below meth c H locs 0 0 (MQ below (QI Y Q) args s 0 0 (AD Y)) (F0 m 0 ls []) := by
  obtain ⟨hx, hb, hr, hml, hown, hlk, hT, hK, hB⟩ := id M
  unfold wX6_needOf at h
  refine lv_iconst (v := 0) hx hb dX6_needOf_0 (by decide) ?_
  refine lv_istore_n (lv' := [(2, .int 0), (0, .ref (yA Y 0)), (1, .int a0)]) hx hb dX6_needOf_1 rfl hl (by decide) rfl (fun ls hl => ?_)
  refine lv_iconst (v := 0) hx hb dX6_needOf_2 (by decide) ?_
  refine lv_istore_n (lv' := [(3, .int 0), (2, .int 0), (0, .ref (yA Y 0)), (1, .int a0)]) hx hb dX6_needOf_3 rfl hl (by decide) rfl (fun ls hl => ?_)
  obtain ⟨n, h⟩ := h
  exact tlX6_needOf_4 M hN h0 n a0 0 0 σ _ _ _ hw (lv_sub hl [2, 3, 1, 0] rfl) h
set_option maxRecDepth 100000 in
theorem ctX6_needOf (l : Launch) {Y : LY} (hB : YB Y) (hN : yN Y = 108) (h0 : c0s Y 3 9) (a0 : Int32) (σ : St) (Q : Int32 → St → Prop) (h : wX6_needOf a0 σ Q) : CT l yX6_needOf (Cond.code yX6_needOf cX6_needOf 5 (some .int)) { frames := 4, cells := 0, slots := 0, locals := 95 } Y [.ref (yA Y 0), .int a0] σ (QI Y Q) :=
  q_ent hB (by decide +kernel) (Nat.le_of_ble_eq_true rfl) (fun p e s m below meth c ls M hw hl => tX6_needOf_E M hN h0 a0 σ _ _ ls hw hl h)
theorem mbX6_needOf : MB RX6 yX6_needOf cX6_needOf 1 5 (some .int) := ⟨tw_528, tw_20, tw_49, tw_529, by decide +kernel⟩
end
section
variable {p : Program} {l : Launch} {e : Env} {s : State} {m : MethodId} {args : Array Value} {below : List Frame} {meth : Method} {c : Code} {Y : LY}
theorem dX6_need_0 : decode cX6_need 0 = .ok (.aload_n 0, 1) := by decide +kernel
theorem dX6_need_1 : decode cX6_need 1 = .ok (.iload_n 1, 1) := by decide +kernel
theorem dX6_need_2 : decode cX6_need 2 = .ok (.invokevirtual 92, 3) := by decide +kernel
theorem dX6_need_5 : decode cX6_need 5 = .ok (.ifCond .eq 11, 3) := by decide +kernel
theorem dX6_need_8 : decode cX6_need 8 = .ok (.aload_n 0, 1) := by decide +kernel
theorem dX6_need_9 : decode cX6_need 9 = .ok (.iload_n 1, 1) := by decide +kernel
theorem dX6_need_10 : decode cX6_need 10 = .ok (.invokevirtual 196, 3) := by decide +kernel
theorem dX6_need_13 : decode cX6_need 13 = .ok (.goto 4, 3) := by decide +kernel
theorem dX6_need_16 : decode cX6_need 16 = .ok (.iconst (-1), 1) := by decide +kernel
theorem dX6_need_17 : decode cX6_need 17 = .ok (.ireturn, 1) := by decide +kernel
def wX6_need (a0 : Int32) (σ : St) (Q : Int32 → St → Prop) : Prop :=
  wX6_isFarmer a0 σ (fun r2 σ1 => ((r2 = 0 → Q (-1) σ1) ∧ (¬ r2 = 0 → wX6_needOf a0 σ1 (fun r5 σ4 => Q r5 σ4))))
set_option maxHeartbeats 4000000 in
set_option maxRecDepth 100000 in
theorem tX6_need_E {Q : Int32 → St → Prop} (M : MC p s m args meth c cX6_need 2 (some .int) RX6 Y) (hN : yN Y = 108) (h0 : c0s Y 3 9) (a0 : Int32) (σ : St) (H : Heap) (locs : List Loc) (ls : Array Slot) (hw : WS Y (AD Y) s.heap σ H locs) (hl : lv_has ls 2 [(0, .ref (yA Y 0)), (1, .int a0)]) (h : wX6_need a0 σ Q) : W p l e { frames := 5, cells := 0, slots := 0, locals := 119 } s m args below meth c H locs 0 0 (MQ below (QI Y Q) args s 0 0 (AD Y)) (F0 m 0 ls []) := by
  obtain ⟨hx, hb, hr, hml, hown, hlk, hT, hK, hB⟩ := id M
  unfold wX6_need at h
  refine lv_aload_n hx hb dX6_need_0 rfl (lv_at hl 0 rfl) ?_
  refine lv_iload_n hx hb dX6_need_1 rfl (lv_at hl 1 rfl) ?_
  refine q_goI hw (q_runV (rest := []) M hw (ctX6_isFarmer l hB hN h0 a0 σ _ h) mbX6_isFarmer (ob_0 hN h0) rfl tw_367 rfl hl.1 rfl (Nat.le_of_ble_eq_true rfl) ⟨Nat.le_of_ble_eq_true rfl, Nat.le_of_ble_eq_true rfl⟩ ⟨Nat.le_refl _, Nat.le_refl _⟩ dX6_need_2) (fun r2 σ1 H locs h hw => ?_)
  refine lv_if_eq (tgt := 16) hx hb dX6_need_5 (by decide) (fun c3 => ?_) (fun c3 => ?_)
  · have h := h.1 c3
    refine lv_iconst (v := (-1)) hx hb dX6_need_16 (by decide) ?_
    exact q_iret M hw h dX6_need_17
  · have h := h.2 c3
    refine lv_aload_n hx hb dX6_need_8 rfl (lv_at hl 0 rfl) ?_
    refine lv_iload_n hx hb dX6_need_9 rfl (lv_at hl 1 rfl) ?_
    refine q_goI hw (q_runV (rest := []) M hw (ctX6_needOf l hB hN h0 a0 σ1 _ h) mbX6_needOf (ob_0 hN h0) rfl tw_526 rfl hl.1 rfl (Nat.le_of_ble_eq_true rfl) ⟨Nat.le_of_ble_eq_true rfl, Nat.le_of_ble_eq_true rfl⟩ ⟨Nat.le_refl _, Nat.le_refl _⟩ dX6_need_10) (fun r5 σ4 H locs h hw => ?_)
    refine lv_goto (tgt := 17) hx hb dX6_need_13 (by decide) ?_
    exact q_iret M hw h dX6_need_17
set_option maxRecDepth 100000 in
theorem ctX6_need (l : Launch) {Y : LY} (hB : YB Y) (hN : yN Y = 108) (h0 : c0s Y 3 9) (a0 : Int32) (σ : St) (Q : Int32 → St → Prop) (h : wX6_need a0 σ Q) : CT l yX6_need (Cond.code yX6_need cX6_need 2 (some .int)) { frames := 5, cells := 0, slots := 0, locals := 119 } Y [.ref (yA Y 0), .int a0] σ (QI Y Q) :=
  q_ent hB (by decide +kernel) (Nat.le_of_ble_eq_true rfl) (fun p e s m below meth c ls M hw hl => tX6_need_E M hN h0 a0 σ _ _ ls hw hl h)
theorem mbX6_need : MB RX6 yX6_need cX6_need 1 2 (some .int) := ⟨tw_523, tw_524, tw_49, tw_525, by decide +kernel⟩
end
section
variable {p : Program} {l : Launch} {e : Env} {s : State} {m : MethodId} {args : Array Value} {below : List Frame} {meth : Method} {c : Code} {Y : LY}
theorem dX6_lacks_0 : decode cX6_lacks 0 = .ok (.aload_n 0, 1) := by decide +kernel
theorem dX6_lacks_1 : decode cX6_lacks 1 = .ok (.iload_n 1, 1) := by decide +kernel
theorem dX6_lacks_2 : decode cX6_lacks 2 = .ok (.invokevirtual 92, 3) := by decide +kernel
theorem dX6_lacks_5 : decode cX6_lacks 5 = .ok (.ifCond .ne 5, 3) := by decide +kernel
theorem dX6_lacks_8 : decode cX6_lacks 8 = .ok (.iconst (-1), 1) := by decide +kernel
theorem dX6_lacks_9 : decode cX6_lacks 9 = .ok (.ireturn, 1) := by decide +kernel
theorem dX6_lacks_10 : decode cX6_lacks 10 = .ok (.aload_n 0, 1) := by decide +kernel
theorem dX6_lacks_11 : decode cX6_lacks 11 = .ok (.iload_n 1, 1) := by decide +kernel
theorem dX6_lacks_12 : decode cX6_lacks 12 = .ok (.invokevirtual 196, 3) := by decide +kernel
theorem dX6_lacks_15 : decode cX6_lacks 15 = .ok (.istore_n 2, 1) := by decide +kernel
theorem dX6_lacks_16 : decode cX6_lacks 16 = .ok (.iload_n 2, 1) := by decide +kernel
theorem dX6_lacks_17 : decode cX6_lacks 17 = .ok (.bipush (-9), 2) := by decide +kernel
theorem dX6_lacks_19 : decode cX6_lacks 19 = .ok (.if_icmp .ne 8, 3) := by decide +kernel
theorem dX6_lacks_22 : decode cX6_lacks 22 = .ok (.bipush (-9), 2) := by decide +kernel
theorem dX6_lacks_24 : decode cX6_lacks 24 = .ok (.goto 18, 3) := by decide +kernel
theorem dX6_lacks_27 : decode cX6_lacks 27 = .ok (.iconst 0, 1) := by decide +kernel
theorem dX6_lacks_28 : decode cX6_lacks 28 = .ok (.iload_n 2, 1) := by decide +kernel
theorem dX6_lacks_29 : decode cX6_lacks 29 = .ok (.aload_n 0, 1) := by decide +kernel
theorem dX6_lacks_30 : decode cX6_lacks 30 = .ok (.getfield 36, 3) := by decide +kernel
theorem dX6_lacks_33 : decode cX6_lacks 33 = .ok (.getfield 96, 3) := by decide +kernel
theorem dX6_lacks_36 : decode cX6_lacks 36 = .ok (.iload_n 1, 1) := by decide +kernel
theorem dX6_lacks_37 : decode cX6_lacks 37 = .ok (.iaload, 1) := by decide +kernel
theorem dX6_lacks_38 : decode cX6_lacks 38 = .ok (.isub, 1) := by decide +kernel
theorem dX6_lacks_39 : decode cX6_lacks 39 = .ok (.invokestatic 199, 3) := by decide +kernel
theorem dX6_lacks_42 : decode cX6_lacks 42 = .ok (.ireturn, 1) := by decide +kernel
def wX6_lacks (a0 : Int32) (σ : St) (Q : Int32 → St → Prop) : Prop :=
  wX6_isFarmer a0 σ (fun r2 σ1 => ((r2 = 0 → Q (-1) σ1) ∧ (¬ r2 = 0 → wX6_needOf a0 σ1 (fun r5 σ4 => ((r5 = (-9) → Q (-9) σ4) ∧ (¬ r5 = (-9) → (vp_in a0 5 ∧ (∀ x8 : Int32, x8 = (if 0 < (r5 - (σ4.1 19 a0.toNatClampNeg)) then (r5 - (σ4.1 19 a0.toNatClampNeg)) else 0) → Q x8 σ4))))))))
set_option maxHeartbeats 4000000 in
set_option maxRecDepth 100000 in
theorem tX6_lacks_E {Q : Int32 → St → Prop} (M : MC p s m args meth c cX6_lacks 3 (some .int) RX6 Y) (hN : yN Y = 108) (h0 : c0s Y 3 9) (a0 : Int32) (σ : St) (H : Heap) (locs : List Loc) (ls : Array Slot) (hw : WS Y (AD Y) s.heap σ H locs) (hl : lv_has ls 3 [(0, .ref (yA Y 0)), (1, .int a0)]) (h : wX6_lacks a0 σ Q) : W p l e { frames := 5, cells := 0, slots := 0, locals := 119 } s m args below meth c H locs 0 0 (MQ below (QI Y Q) args s 0 0 (AD Y)) (F0 m 0 ls []) := by
  obtain ⟨hx, hb, hr, hml, hown, hlk, hT, hK, hB⟩ := id M
  unfold wX6_lacks at h
  refine lv_aload_n hx hb dX6_lacks_0 rfl (lv_at hl 0 rfl) ?_
  refine lv_iload_n hx hb dX6_lacks_1 rfl (lv_at hl 1 rfl) ?_
  refine q_goI hw (q_runV (rest := []) M hw (ctX6_isFarmer l hB hN h0 a0 σ _ h) mbX6_isFarmer (ob_0 hN h0) rfl tw_367 rfl hl.1 rfl (Nat.le_of_ble_eq_true rfl) ⟨Nat.le_of_ble_eq_true rfl, Nat.le_of_ble_eq_true rfl⟩ ⟨Nat.le_refl _, Nat.le_refl _⟩ dX6_lacks_2) (fun r2 σ1 H locs h hw => ?_)
  refine lv_if_ne (tgt := 10) hx hb dX6_lacks_5 (by decide) (fun c3 => ?_) (fun c3 => ?_)
  · have h := h.2 c3
    refine lv_aload_n hx hb dX6_lacks_10 rfl (lv_at hl 0 rfl) ?_
    refine lv_iload_n hx hb dX6_lacks_11 rfl (lv_at hl 1 rfl) ?_
    refine q_goI hw (q_runV (rest := []) M hw (ctX6_needOf l hB hN h0 a0 σ1 _ h) mbX6_needOf (ob_0 hN h0) rfl tw_526 rfl hl.1 rfl (Nat.le_of_ble_eq_true rfl) ⟨Nat.le_of_ble_eq_true rfl, Nat.le_of_ble_eq_true rfl⟩ ⟨Nat.le_refl _, Nat.le_refl _⟩ dX6_lacks_12) (fun r5 σ4 H locs h hw => ?_)
    refine lv_istore_n (lv' := [(2, .int r5), (0, .ref (yA Y 0)), (1, .int a0)]) hx hb dX6_lacks_15 rfl hl (by decide) rfl (fun ls hl => ?_)
    refine lv_iload_n hx hb dX6_lacks_16 rfl (lv_at hl 0 rfl) ?_
    refine lv_bipush (v := (-9)) hx hb dX6_lacks_17 (by decide) ?_
    refine lv_icmp_ne (tgt := 27) hx hb dX6_lacks_19 (by decide) (fun c6 => ?_) (fun c6 => ?_)
    · have h := h.2 c6
      refine lv_iconst (v := 0) hx hb dX6_lacks_27 (by decide) ?_
      refine lv_iload_n hx hb dX6_lacks_28 rfl (lv_at hl 0 rfl) ?_
      refine lv_aload_n hx hb dX6_lacks_29 rfl (lv_at hl 1 rfl) ?_
      refine q_get (v := .ref (yA Y 18)) M hw (ob_0 hN h0) rfl inq_6 4 (by decide) tw_261 rfl dX6_lacks_30 ?_
      refine q_get (v := .ref (yA Y 19)) M hw (sh_ob (sh_18 hN)) rfl inq_4 0 (by decide) tw_186 rfl dX6_lacks_33 ?_
      refine lv_iload_n hx hb dX6_lacks_36 rfl (lv_at hl 2 rfl) ?_
      have c7 := h.1
      have h := h.2
      refine q_ild M hw (ar_19 hN) c7 dX6_lacks_37 ?_
      refine lv_isub hx hb dX6_lacks_38 ?_
      refine va_mmax hx hb (by rw [hl.1]; exact hml) hown (hT _ tw_534) (hT _ tw_440) (hT _ tw_57) (hT _ tw_441) (Nat.le_of_ble_eq_true rfl) (Nat.le_of_ble_eq_true rfl) (Nat.le_refl _) (Nat.le_refl _) dX6_lacks_39 ?_
      refine lv_topi (fun x8 ex8 => ?_)
      have h := h x8 ex8
      exact q_iret M hw h dX6_lacks_42
    · have h := h.1 c6
      refine lv_bipush (v := (-9)) hx hb dX6_lacks_22 (by decide) ?_
      refine lv_goto (tgt := 42) hx hb dX6_lacks_24 (by decide) ?_
      exact q_iret M hw h dX6_lacks_42
  · have h := h.1 c3
    refine lv_iconst (v := (-1)) hx hb dX6_lacks_8 (by decide) ?_
    exact q_iret M hw h dX6_lacks_9
set_option maxRecDepth 100000 in
theorem ctX6_lacks (l : Launch) {Y : LY} (hB : YB Y) (hN : yN Y = 108) (h0 : c0s Y 3 9) (a0 : Int32) (σ : St) (Q : Int32 → St → Prop) (h : wX6_lacks a0 σ Q) : CT l yX6_lacks (Cond.code yX6_lacks cX6_lacks 3 (some .int)) { frames := 5, cells := 0, slots := 0, locals := 119 } Y [.ref (yA Y 0), .int a0] σ (QI Y Q) :=
  q_ent hB (by decide +kernel) (Nat.le_of_ble_eq_true rfl) (fun p e s m below meth c ls M hw hl => tX6_lacks_E M hN h0 a0 σ _ _ ls hw hl h)
theorem mbX6_lacks : MB RX6 yX6_lacks cX6_lacks 1 3 (some .int) := ⟨tw_531, tw_532, tw_49, tw_533, by decide +kernel⟩
end
section
variable {p : Program} {l : Launch} {e : Env} {s : State} {m : MethodId} {args : Array Value} {below : List Frame} {meth : Method} {c : Code} {Y : LY}
theorem dX6_weighFreeFarmers_0 : decode cX6_weighFreeFarmers 0 = .ok (.iconst 0, 1) := by decide +kernel
theorem dX6_weighFreeFarmers_1 : decode cX6_weighFreeFarmers 1 = .ok (.istore_n 1, 1) := by decide +kernel
theorem dX6_weighFreeFarmers_2 : decode cX6_weighFreeFarmers 2 = .ok (.iload_n 1, 1) := by decide +kernel
theorem dX6_weighFreeFarmers_3 : decode cX6_weighFreeFarmers 3 = .ok (.aload_n 0, 1) := by decide +kernel
theorem dX6_weighFreeFarmers_4 : decode cX6_weighFreeFarmers 4 = .ok (.getfield 19, 3) := by decide +kernel
theorem dX6_weighFreeFarmers_7 : decode cX6_weighFreeFarmers 7 = .ok (.getfield 207, 3) := by decide +kernel
theorem dX6_weighFreeFarmers_10 : decode cX6_weighFreeFarmers 10 = .ok (.if_icmp .ge 58, 3) := by decide +kernel
theorem dX6_weighFreeFarmers_13 : decode cX6_weighFreeFarmers 13 = .ok (.aload_n 0, 1) := by decide +kernel
theorem dX6_weighFreeFarmers_14 : decode cX6_weighFreeFarmers 14 = .ok (.getfield 36, 3) := by decide +kernel
theorem dX6_weighFreeFarmers_17 : decode cX6_weighFreeFarmers 17 = .ok (.iload_n 1, 1) := by decide +kernel
theorem dX6_weighFreeFarmers_18 : decode cX6_weighFreeFarmers 18 = .ok (.invokevirtual 171, 3) := by decide +kernel
theorem dX6_weighFreeFarmers_21 : decode cX6_weighFreeFarmers 21 = .ok (.ifCond .eq 11, 3) := by decide +kernel
theorem dX6_weighFreeFarmers_24 : decode cX6_weighFreeFarmers 24 = .ok (.aload_n 0, 1) := by decide +kernel
theorem dX6_weighFreeFarmers_25 : decode cX6_weighFreeFarmers 25 = .ok (.iload_n 1, 1) := by decide +kernel
theorem dX6_weighFreeFarmers_26 : decode cX6_weighFreeFarmers 26 = .ok (.invokevirtual 196, 3) := by decide +kernel
theorem dX6_weighFreeFarmers_29 : decode cX6_weighFreeFarmers 29 = .ok (.goto 5, 3) := by decide +kernel
theorem dX6_weighFreeFarmers_32 : decode cX6_weighFreeFarmers 32 = .ok (.bipush (-9), 2) := by decide +kernel
theorem dX6_weighFreeFarmers_34 : decode cX6_weighFreeFarmers 34 = .ok (.istore_n 2, 1) := by decide +kernel
theorem dX6_weighFreeFarmers_35 : decode cX6_weighFreeFarmers 35 = .ok (.aload_n 0, 1) := by decide +kernel
theorem dX6_weighFreeFarmers_36 : decode cX6_weighFreeFarmers 36 = .ok (.getfield 62, 3) := by decide +kernel
theorem dX6_weighFreeFarmers_39 : decode cX6_weighFreeFarmers 39 = .ok (.iload_n 1, 1) := by decide +kernel
theorem dX6_weighFreeFarmers_40 : decode cX6_weighFreeFarmers 40 = .ok (.iload_n 2, 1) := by decide +kernel
theorem dX6_weighFreeFarmers_41 : decode cX6_weighFreeFarmers 41 = .ok (.bipush (-9), 2) := by decide +kernel
theorem dX6_weighFreeFarmers_43 : decode cX6_weighFreeFarmers 43 = .ok (.if_icmp .ne 7, 3) := by decide +kernel
theorem dX6_weighFreeFarmers_46 : decode cX6_weighFreeFarmers 46 = .ok (.iconst 0, 1) := by decide +kernel
theorem dX6_weighFreeFarmers_47 : decode cX6_weighFreeFarmers 47 = .ok (.goto 14, 3) := by decide +kernel
theorem dX6_weighFreeFarmers_50 : decode cX6_weighFreeFarmers 50 = .ok (.aload_n 0, 1) := by decide +kernel
theorem dX6_weighFreeFarmers_51 : decode cX6_weighFreeFarmers 51 = .ok (.getfield 36, 3) := by decide +kernel
theorem dX6_weighFreeFarmers_54 : decode cX6_weighFreeFarmers 54 = .ok (.getfield 96, 3) := by decide +kernel
theorem dX6_weighFreeFarmers_57 : decode cX6_weighFreeFarmers 57 = .ok (.iload_n 1, 1) := by decide +kernel
theorem dX6_weighFreeFarmers_58 : decode cX6_weighFreeFarmers 58 = .ok (.iaload, 1) := by decide +kernel
theorem dX6_weighFreeFarmers_59 : decode cX6_weighFreeFarmers 59 = .ok (.iload_n 2, 1) := by decide +kernel
theorem dX6_weighFreeFarmers_60 : decode cX6_weighFreeFarmers 60 = .ok (.isub, 1) := by decide +kernel
theorem dX6_weighFreeFarmers_61 : decode cX6_weighFreeFarmers 61 = .ok (.iastore, 1) := by decide +kernel
theorem dX6_weighFreeFarmers_62 : decode cX6_weighFreeFarmers 62 = .ok (.iinc 1 1, 3) := by decide +kernel
theorem dX6_weighFreeFarmers_65 : decode cX6_weighFreeFarmers 65 = .ok (.goto (-63), 3) := by decide +kernel
theorem dX6_weighFreeFarmers_68 : decode cX6_weighFreeFarmers 68 = .ok (.return_, 1) := by decide +kernel
def bX6_weighFreeFarmers_61 (R_2 : Int32 × St → Prop) (y1 : Int32) (z0 : Int32) (z1 : Int32) (σ : St) (Q : St → Prop) : Prop :=
  (vp_in z1 5 ∧ ∀ σ2 : St, σ2 = up σ 91 z1.toNatClampNeg z0 → (∀ x3 : Int32, x3 = y1 + 1 → R_2 (x3, σ2)))
set_option maxHeartbeats 4000000 in
set_option maxRecDepth 100000 in
theorem tX6_weighFreeFarmers_61 {R_2 : Int32 × St → Prop} {Q : St → Prop} (M : MC p s m args meth c cX6_weighFreeFarmers 3 none RX6 Y) (hN : yN Y = 108) (h0 : c0s Y 3 9) (hR_2 : ∀ (y1 : Int32) (σ : St) (H : Heap) (locs : List Loc) (ls : Array Slot), WS Y (AD Y) s.heap σ H locs → lv_has ls 3 [(0, .ref (yA Y 0)), (1, .int y1)] → R_2 (y1, σ) → W p l e { frames := 5, cells := 0, slots := 0, locals := 119 } s m args below meth c H locs 0 0 (MQ below (QV Y Q) args s 0 0 (AD Y)) (F0 m 2 ls [])) (y1 : Int32) (z0 : Int32) (z1 : Int32) (σ : St) (H : Heap) (locs : List Loc) (ls : Array Slot) (hw : WS Y (AD Y) s.heap σ H locs) (hl : lv_has ls 3 [(0, .ref (yA Y 0)), (1, .int y1)]) (h : bX6_weighFreeFarmers_61 R_2 y1 z0 z1 σ Q) : W p l e { frames := 5, cells := 0, slots := 0, locals := 119 } s m args below meth c H locs 0 0 (MQ below (QV Y Q) args s 0 0 (AD Y)) (F0 m 61 ls [.int z0, .int z1, .ref (yA Y 91)]) := by
  obtain ⟨hx, hb, hr, hml, hown, hlk, hT, hK, hB⟩ := id M
  unfold bX6_weighFreeFarmers_61 at h
  have c1 := h.1
  refine q_ist M hw (ar_91 hN) c1 dX6_weighFreeFarmers_61 (fun σ2 H locs es hw => ?_)
  have h := h.2 σ2 es
  obtain ⟨x3, ex3⟩ : ∃ y : Int32, y = y1 + 1 := ⟨_, rfl⟩
  have h := h x3 ex3
  refine lv_iinc (v := x3) (lv' := [(1, .int x3), (0, .ref (yA Y 0))]) hx hb dX6_weighFreeFarmers_62 hl (k := 1) rfl (by rw [ex3]; rfl) (by decide) rfl (fun ls hl => ?_)
  refine lv_goto (tgt := 2) hx hb dX6_weighFreeFarmers_65 (by decide) ?_
  exact hR_2 x3 σ2 _ _ _ hw (lv_sub hl [1, 0] rfl) h
def bX6_weighFreeFarmers_34 (R_2 : Int32 × St → Prop) (y1 : Int32) (z0 : Int32) (σ : St) (Q : St → Prop) : Prop :=
  ((z0 = (-9) → bX6_weighFreeFarmers_61 R_2 y1 0 y1 σ Q) ∧ (¬ z0 = (-9) → (vp_in y1 5 ∧ bX6_weighFreeFarmers_61 R_2 y1 ((σ.1 19 y1.toNatClampNeg) - z0) y1 σ Q)))
set_option maxHeartbeats 4000000 in
set_option maxRecDepth 100000 in
theorem tX6_weighFreeFarmers_34 {R_2 : Int32 × St → Prop} {Q : St → Prop} (M : MC p s m args meth c cX6_weighFreeFarmers 3 none RX6 Y) (hN : yN Y = 108) (h0 : c0s Y 3 9) (hR_2 : ∀ (y1 : Int32) (σ : St) (H : Heap) (locs : List Loc) (ls : Array Slot), WS Y (AD Y) s.heap σ H locs → lv_has ls 3 [(0, .ref (yA Y 0)), (1, .int y1)] → R_2 (y1, σ) → W p l e { frames := 5, cells := 0, slots := 0, locals := 119 } s m args below meth c H locs 0 0 (MQ below (QV Y Q) args s 0 0 (AD Y)) (F0 m 2 ls [])) (y1 : Int32) (z0 : Int32) (σ : St) (H : Heap) (locs : List Loc) (ls : Array Slot) (hw : WS Y (AD Y) s.heap σ H locs) (hl : lv_has ls 3 [(0, .ref (yA Y 0)), (1, .int y1)]) (h : bX6_weighFreeFarmers_34 R_2 y1 z0 σ Q) : W p l e { frames := 5, cells := 0, slots := 0, locals := 119 } s m args below meth c H locs 0 0 (MQ below (QV Y Q) args s 0 0 (AD Y)) (F0 m 34 ls [.int z0]) := by
  obtain ⟨hx, hb, hr, hml, hown, hlk, hT, hK, hB⟩ := id M
  unfold bX6_weighFreeFarmers_34 at h
  refine lv_istore_n (lv' := [(2, .int z0), (0, .ref (yA Y 0)), (1, .int y1)]) hx hb dX6_weighFreeFarmers_34 rfl hl (by decide) rfl (fun ls hl => ?_)
  refine lv_aload_n hx hb dX6_weighFreeFarmers_35 rfl (lv_at hl 1 rfl) ?_
  refine q_get (v := .ref (yA Y 91)) M hw (ob_0 hN h0) rfl inq_6 9 (by decide) tw_266 rfl dX6_weighFreeFarmers_36 ?_
  refine lv_iload_n hx hb dX6_weighFreeFarmers_39 rfl (lv_at hl 2 rfl) ?_
  refine lv_iload_n hx hb dX6_weighFreeFarmers_40 rfl (lv_at hl 0 rfl) ?_
  refine lv_bipush (v := (-9)) hx hb dX6_weighFreeFarmers_41 (by decide) ?_
  refine lv_icmp_ne (tgt := 50) hx hb dX6_weighFreeFarmers_43 (by decide) (fun c1 => ?_) (fun c1 => ?_)
  · have h := h.2 c1
    refine lv_aload_n hx hb dX6_weighFreeFarmers_50 rfl (lv_at hl 1 rfl) ?_
    refine q_get (v := .ref (yA Y 18)) M hw (ob_0 hN h0) rfl inq_6 4 (by decide) tw_261 rfl dX6_weighFreeFarmers_51 ?_
    refine q_get (v := .ref (yA Y 19)) M hw (sh_ob (sh_18 hN)) rfl inq_4 0 (by decide) tw_186 rfl dX6_weighFreeFarmers_54 ?_
    refine lv_iload_n hx hb dX6_weighFreeFarmers_57 rfl (lv_at hl 2 rfl) ?_
    have c2 := h.1
    have h := h.2
    refine q_ild M hw (ar_19 hN) c2 dX6_weighFreeFarmers_58 ?_
    refine lv_iload_n hx hb dX6_weighFreeFarmers_59 rfl (lv_at hl 0 rfl) ?_
    refine lv_isub hx hb dX6_weighFreeFarmers_60 ?_
    exact tX6_weighFreeFarmers_61 M hN h0 hR_2 y1 ((σ.1 19 y1.toNatClampNeg) - z0) y1 σ _ _ _ hw (lv_sub hl [1, 2] rfl) h
  · have h := h.1 c1
    refine lv_iconst (v := 0) hx hb dX6_weighFreeFarmers_46 (by decide) ?_
    refine lv_goto (tgt := 61) hx hb dX6_weighFreeFarmers_47 (by decide) ?_
    exact tX6_weighFreeFarmers_61 M hN h0 hR_2 y1 0 y1 σ _ _ _ hw (lv_sub hl [1, 2] rfl) h
def bX6_weighFreeFarmers_2 (R_2 : Int32 × St → Prop) (y1 : Int32) (σ : St) (Q : St → Prop) : Prop :=
  (((σ.1 3 5) ≤ y1 → Q σ) ∧ (¬ (σ.1 3 5) ≤ y1 → wX4_free 18 y1 σ (fun r3 σ2 => ((r3 = 0 → bX6_weighFreeFarmers_34 R_2 y1 (-9) σ2 Q) ∧ (¬ r3 = 0 → wX6_needOf y1 σ2 (fun r6 σ5 => bX6_weighFreeFarmers_34 R_2 y1 r6 σ5 Q))))))
set_option maxHeartbeats 4000000 in
set_option maxRecDepth 100000 in
theorem tX6_weighFreeFarmers_2 {R_2 : Int32 × St → Prop} {Q : St → Prop} (M : MC p s m args meth c cX6_weighFreeFarmers 3 none RX6 Y) (hN : yN Y = 108) (h0 : c0s Y 3 9) (hR_2 : ∀ (y1 : Int32) (σ : St) (H : Heap) (locs : List Loc) (ls : Array Slot), WS Y (AD Y) s.heap σ H locs → lv_has ls 3 [(0, .ref (yA Y 0)), (1, .int y1)] → R_2 (y1, σ) → W p l e { frames := 5, cells := 0, slots := 0, locals := 119 } s m args below meth c H locs 0 0 (MQ below (QV Y Q) args s 0 0 (AD Y)) (F0 m 2 ls [])) (y1 : Int32) (σ : St) (H : Heap) (locs : List Loc) (ls : Array Slot) (hw : WS Y (AD Y) s.heap σ H locs) (hl : lv_has ls 3 [(0, .ref (yA Y 0)), (1, .int y1)]) (h : bX6_weighFreeFarmers_2 R_2 y1 σ Q) : W p l e { frames := 5, cells := 0, slots := 0, locals := 119 } s m args below meth c H locs 0 0 (MQ below (QV Y Q) args s 0 0 (AD Y)) (F0 m 2 ls []) := by
  obtain ⟨hx, hb, hr, hml, hown, hlk, hT, hK, hB⟩ := id M
  unfold bX6_weighFreeFarmers_2 at h
  refine lv_iload_n hx hb dX6_weighFreeFarmers_2 rfl (lv_at hl 1 rfl) ?_
  refine lv_aload_n hx hb dX6_weighFreeFarmers_3 rfl (lv_at hl 0 rfl) ?_
  refine q_get (v := .ref (yA Y 3)) M hw (ob_0 hN h0) rfl inq_6 1 (by decide) tw_258 rfl dX6_weighFreeFarmers_4 ?_
  refine q_get (v := .int (σ.1 3 5)) M hw (ph_ob (ph_3 hN)) rfl inq_3 5 (by decide) tw_119 rfl dX6_weighFreeFarmers_7 ?_
  refine lv_icmp_ge (tgt := 68) hx hb dX6_weighFreeFarmers_10 (by decide) (fun c1 => ?_) (fun c1 => ?_)
  · have h := h.1 c1
    exact q_vret M hw h dX6_weighFreeFarmers_68
  · have h := h.2 c1
    refine lv_aload_n hx hb dX6_weighFreeFarmers_13 rfl (lv_at hl 0 rfl) ?_
    refine q_get (v := .ref (yA Y 18)) M hw (ob_0 hN h0) rfl inq_6 4 (by decide) tw_261 rfl dX6_weighFreeFarmers_14 ?_
    refine lv_iload_n hx hb dX6_weighFreeFarmers_17 rfl (lv_at hl 1 rfl) ?_
    refine q_goI hw (q_runV (rest := []) M hw (ctX4_free l hB (sh_18 hN) y1 σ _ h) mbX4_free (sh_ob (sh_18 hN)) rfl tw_458 rfl hl.1 rfl (Nat.le_of_ble_eq_true rfl) ⟨Nat.le_of_ble_eq_true rfl, Nat.le_of_ble_eq_true rfl⟩ ⟨Nat.le_refl _, Nat.le_refl _⟩ dX6_weighFreeFarmers_18) (fun r3 σ2 H locs h hw => ?_)
    refine lv_if_eq (tgt := 32) hx hb dX6_weighFreeFarmers_21 (by decide) (fun c4 => ?_) (fun c4 => ?_)
    · have h := h.1 c4
      refine lv_bipush (v := (-9)) hx hb dX6_weighFreeFarmers_32 (by decide) ?_
      exact tX6_weighFreeFarmers_34 M hN h0 hR_2 y1 (-9) σ2 _ _ _ hw (lv_sub hl [0, 1] rfl) h
    · have h := h.2 c4
      refine lv_aload_n hx hb dX6_weighFreeFarmers_24 rfl (lv_at hl 0 rfl) ?_
      refine lv_iload_n hx hb dX6_weighFreeFarmers_25 rfl (lv_at hl 1 rfl) ?_
      refine q_goI hw (q_runV (rest := []) M hw (ctX6_needOf l hB hN h0 y1 σ2 _ h) mbX6_needOf (ob_0 hN h0) rfl tw_526 rfl hl.1 rfl (Nat.le_of_ble_eq_true rfl) ⟨Nat.le_of_ble_eq_true rfl, Nat.le_of_ble_eq_true rfl⟩ ⟨Nat.le_refl _, Nat.le_refl _⟩ dX6_weighFreeFarmers_26) (fun r6 σ5 H locs h hw => ?_)
      refine lv_goto (tgt := 34) hx hb dX6_weighFreeFarmers_29 (by decide) ?_
      exact tX6_weighFreeFarmers_34 M hN h0 hR_2 y1 r6 σ5 _ _ _ hw (lv_sub hl [0, 1] rfl) h
def lX6_weighFreeFarmers_2 (Q : St → Prop) : (Int32 × St → Prop) → Int32 × St → Prop := fun R a => bX6_weighFreeFarmers_2 R a.1 a.2 Q
theorem tlX6_weighFreeFarmers_2 {Q : St → Prop} (M : MC p s m args meth c cX6_weighFreeFarmers 3 none RX6 Y) (hN : yN Y = 108) (h0 : c0s Y 3 9) (n : Nat) : ∀ (y1 : Int32) (σ : St) (H : Heap) (locs : List Loc) (ls : Array Slot) (hw : WS Y (AD Y) s.heap σ H locs) (hl : lv_has ls 3 [(0, .ref (yA Y 0)), (1, .int y1)]) (h : Lp (lX6_weighFreeFarmers_2 Q) n (y1, σ)), W p l e { frames := 5, cells := 0, slots := 0, locals := 119 } s m args below meth c H locs 0 0 (MQ below (QV Y Q) args s 0 0 (AD Y)) (F0 m 2 ls []) := by
  induction n with
  | zero => intro y1 σ H locs ls hw hl h; exact h.elim
  | succ n ih =>
    intro y1 σ H locs ls hw hl h
    exact tX6_weighFreeFarmers_2 M hN h0 ih y1 σ H locs ls hw hl h
def wX6_weighFreeFarmers (σ : St) (Q : St → Prop) : Prop :=
  ∃ n : Nat, Lp (lX6_weighFreeFarmers_2 Q) n (0, σ)
set_option maxHeartbeats 4000000 in
set_option maxRecDepth 100000 in
theorem tX6_weighFreeFarmers_E {Q : St → Prop} (M : MC p s m args meth c cX6_weighFreeFarmers 3 none RX6 Y) (hN : yN Y = 108) (h0 : c0s Y 3 9)  (σ : St) (H : Heap) (locs : List Loc) (ls : Array Slot) (hw : WS Y (AD Y) s.heap σ H locs) (hl : lv_has ls 3 [(0, .ref (yA Y 0))]) (h : wX6_weighFreeFarmers σ Q) : W p l e { frames := 5, cells := 0, slots := 0, locals := 119 } s m args below meth c H locs 0 0 (MQ below (QV Y Q) args s 0 0 (AD Y)) (F0 m 0 ls []) := by
  obtain ⟨hx, hb, hr, hml, hown, hlk, hT, hK, hB⟩ := id M
  unfold wX6_weighFreeFarmers at h
  refine lv_iconst (v := 0) hx hb dX6_weighFreeFarmers_0 (by decide) ?_
  refine lv_istore_n (lv' := [(1, .int 0), (0, .ref (yA Y 0))]) hx hb dX6_weighFreeFarmers_1 rfl hl (by decide) rfl (fun ls hl => ?_)
  obtain ⟨n, h⟩ := h
  exact tlX6_weighFreeFarmers_2 M hN h0 n 0 σ _ _ _ hw (lv_sub hl [1, 0] rfl) h
set_option maxRecDepth 100000 in
theorem ctX6_weighFreeFarmers (l : Launch) {Y : LY} (hB : YB Y) (hN : yN Y = 108) (h0 : c0s Y 3 9) (σ : St) (Q : St → Prop) (h : wX6_weighFreeFarmers σ Q) : CT l yX6_weighFreeFarmers (Cond.code yX6_weighFreeFarmers cX6_weighFreeFarmers 3 none) { frames := 5, cells := 0, slots := 0, locals := 119 } Y [.ref (yA Y 0)] σ (QV Y Q) :=
  q_ent hB (by decide +kernel) (Nat.le_of_ble_eq_true rfl) (fun p e s m below meth c ls M hw hl => tX6_weighFreeFarmers_E M hN h0 σ _ _ ls hw hl h)
theorem mbX6_weighFreeFarmers : MB RX6 yX6_weighFreeFarmers cX6_weighFreeFarmers 0 3 none := ⟨tw_541, tw_21, tw_49, tw_542, by decide +kernel⟩
end
section
variable {p : Program} {l : Launch} {e : Env} {s : State} {m : MethodId} {args : Array Value} {below : List Frame} {meth : Method} {c : Code} {Y : LY}
theorem dX6_match_0 : decode cX6_match 0 = .ok (.iload_n 1, 1) := by decide +kernel
theorem dX6_match_1 : decode cX6_match 1 = .ok (.ifCond .eq 10, 3) := by decide +kernel
theorem dX6_match_4 : decode cX6_match 4 = .ok (.iload_n 1, 1) := by decide +kernel
theorem dX6_match_5 : decode cX6_match 5 = .ok (.iconst 1, 1) := by decide +kernel
theorem dX6_match_6 : decode cX6_match 6 = .ok (.if_icmp .eq 5, 3) := by decide +kernel
theorem dX6_match_9 : decode cX6_match 9 = .ok (.iconst (-1), 1) := by decide +kernel
theorem dX6_match_10 : decode cX6_match 10 = .ok (.ireturn, 1) := by decide +kernel
theorem dX6_match_11 : decode cX6_match 11 = .ok (.aload_n 0, 1) := by decide +kernel
theorem dX6_match_12 : decode cX6_match 12 = .ok (.invokevirtual 204, 3) := by decide +kernel
theorem dX6_match_15 : decode cX6_match 15 = .ok (.bipush (-9), 2) := by decide +kernel
theorem dX6_match_17 : decode cX6_match 17 = .ok (.istore_n 2, 1) := by decide +kernel
theorem dX6_match_18 : decode cX6_match 18 = .ok (.iconst 0, 1) := by decide +kernel
theorem dX6_match_19 : decode cX6_match 19 = .ok (.istore_n 3, 1) := by decide +kernel
theorem dX6_match_20 : decode cX6_match 20 = .ok (.iconst 0, 1) := by decide +kernel
theorem dX6_match_21 : decode cX6_match 21 = .ok (.istore 4, 2) := by decide +kernel
theorem dX6_match_23 : decode cX6_match 23 = .ok (.iload 4, 2) := by decide +kernel
theorem dX6_match_25 : decode cX6_match 25 = .ok (.aload_n 0, 1) := by decide +kernel
theorem dX6_match_26 : decode cX6_match 26 = .ok (.getfield 19, 3) := by decide +kernel
theorem dX6_match_29 : decode cX6_match 29 = .ok (.getfield 207, 3) := by decide +kernel
theorem dX6_match_32 : decode cX6_match 32 = .ok (.if_icmp .ge 68, 3) := by decide +kernel
theorem dX6_match_35 : decode cX6_match 35 = .ok (.iconst 0, 1) := by decide +kernel
theorem dX6_match_36 : decode cX6_match 36 = .ok (.istore 5, 2) := by decide +kernel
theorem dX6_match_38 : decode cX6_match 38 = .ok (.iload 5, 2) := by decide +kernel
theorem dX6_match_40 : decode cX6_match 40 = .ok (.aload_n 0, 1) := by decide +kernel
theorem dX6_match_41 : decode cX6_match 41 = .ok (.getfield 19, 3) := by decide +kernel
theorem dX6_match_44 : decode cX6_match 44 = .ok (.getfield 207, 3) := by decide +kernel
theorem dX6_match_47 : decode cX6_match 47 = .ok (.if_icmp .ge 47, 3) := by decide +kernel
theorem dX6_match_50 : decode cX6_match 50 = .ok (.aload_n 0, 1) := by decide +kernel
theorem dX6_match_51 : decode cX6_match 51 = .ok (.getfield 62, 3) := by decide +kernel
theorem dX6_match_54 : decode cX6_match 54 = .ok (.iload 4, 2) := by decide +kernel
theorem dX6_match_56 : decode cX6_match 56 = .ok (.iaload, 1) := by decide +kernel
theorem dX6_match_57 : decode cX6_match 57 = .ok (.ineg, 1) := by decide +kernel
theorem dX6_match_58 : decode cX6_match 58 = .ok (.aload_n 0, 1) := by decide +kernel
theorem dX6_match_59 : decode cX6_match 59 = .ok (.getfield 62, 3) := by decide +kernel
theorem dX6_match_62 : decode cX6_match 62 = .ok (.iload 5, 2) := by decide +kernel
theorem dX6_match_64 : decode cX6_match 64 = .ok (.iaload, 1) := by decide +kernel
theorem dX6_match_65 : decode cX6_match 65 = .ok (.invokestatic 210, 3) := by decide +kernel
theorem dX6_match_68 : decode cX6_match 68 = .ok (.istore 6, 2) := by decide +kernel
theorem dX6_match_70 : decode cX6_match 70 = .ok (.iload 6, 2) := by decide +kernel
theorem dX6_match_72 : decode cX6_match 72 = .ok (.iload_n 3, 1) := by decide +kernel
theorem dX6_match_73 : decode cX6_match 73 = .ok (.if_icmp .le 15, 3) := by decide +kernel
theorem dX6_match_76 : decode cX6_match 76 = .ok (.iload 6, 2) := by decide +kernel
theorem dX6_match_78 : decode cX6_match 78 = .ok (.istore_n 3, 1) := by decide +kernel
theorem dX6_match_79 : decode cX6_match 79 = .ok (.bipush 10, 2) := by decide +kernel
theorem dX6_match_81 : decode cX6_match 81 = .ok (.iload 4, 2) := by decide +kernel
theorem dX6_match_83 : decode cX6_match 83 = .ok (.imul, 1) := by decide +kernel
theorem dX6_match_84 : decode cX6_match 84 = .ok (.iload 5, 2) := by decide +kernel
theorem dX6_match_86 : decode cX6_match 86 = .ok (.iadd, 1) := by decide +kernel
theorem dX6_match_87 : decode cX6_match 87 = .ok (.istore_n 2, 1) := by decide +kernel
theorem dX6_match_88 : decode cX6_match 88 = .ok (.iinc 5 1, 3) := by decide +kernel
theorem dX6_match_91 : decode cX6_match 91 = .ok (.goto (-53), 3) := by decide +kernel
theorem dX6_match_94 : decode cX6_match 94 = .ok (.iinc 4 1, 3) := by decide +kernel
theorem dX6_match_97 : decode cX6_match 97 = .ok (.goto (-74), 3) := by decide +kernel
theorem dX6_match_100 : decode cX6_match 100 = .ok (.iload_n 1, 1) := by decide +kernel
theorem dX6_match_101 : decode cX6_match 101 = .ok (.ifCond .eq 9, 3) := by decide +kernel
theorem dX6_match_104 : decode cX6_match 104 = .ok (.iload_n 2, 1) := by decide +kernel
theorem dX6_match_105 : decode cX6_match 105 = .ok (.bipush (-9), 2) := by decide +kernel
theorem dX6_match_107 : decode cX6_match 107 = .ok (.if_icmp .ne 7, 3) := by decide +kernel
theorem dX6_match_110 : decode cX6_match 110 = .ok (.iload_n 2, 1) := by decide +kernel
theorem dX6_match_111 : decode cX6_match 111 = .ok (.goto 4, 3) := by decide +kernel
theorem dX6_match_114 : decode cX6_match 114 = .ok (.iload_n 3, 1) := by decide +kernel
theorem dX6_match_115 : decode cX6_match 115 = .ok (.ireturn, 1) := by decide +kernel
def bX6_match_88 (R_23 : Int32 × Int32 × Int32 × Int32 × St → Prop) (R_38 : Int32 × Int32 × Int32 × Int32 × Int32 × St → Prop) (y1 : Int32) (y2 : Int32) (y3 : Int32) (y4 : Int32) (y5 : Int32) (σ : St) (Q : Int32 → St → Prop) : Prop :=
  (∀ x1 : Int32, x1 = y5 + 1 → R_38 (y1, y2, y3, y4, x1, σ))
set_option maxHeartbeats 4000000 in
set_option maxRecDepth 100000 in
theorem tX6_match_88 {R_23 : Int32 × Int32 × Int32 × Int32 × St → Prop} {R_38 : Int32 × Int32 × Int32 × Int32 × Int32 × St → Prop} {Q : Int32 → St → Prop} (M : MC p s m args meth c cX6_match 7 (some .int) RX6 Y) (hN : yN Y = 108) (h0 : c0s Y 3 9) (hR_23 : ∀ (y1 y2 y3 y4 : Int32) (σ : St) (H : Heap) (locs : List Loc) (ls : Array Slot), WS Y (AD Y) s.heap σ H locs → lv_has ls 7 [(0, .ref (yA Y 0)), (1, .int y1), (2, .int y2), (3, .int y3), (4, .int y4)] → R_23 (y1, y2, y3, y4, σ) → W p l e { frames := 6, cells := 0, slots := 0, locals := 141 } s m args below meth c H locs 0 0 (MQ below (QI Y Q) args s 0 0 (AD Y)) (F0 m 23 ls [])) (hR_38 : ∀ (y1 y2 y3 y4 y5 : Int32) (σ : St) (H : Heap) (locs : List Loc) (ls : Array Slot), WS Y (AD Y) s.heap σ H locs → lv_has ls 7 [(0, .ref (yA Y 0)), (1, .int y1), (2, .int y2), (3, .int y3), (4, .int y4), (5, .int y5)] → R_38 (y1, y2, y3, y4, y5, σ) → W p l e { frames := 6, cells := 0, slots := 0, locals := 141 } s m args below meth c H locs 0 0 (MQ below (QI Y Q) args s 0 0 (AD Y)) (F0 m 38 ls [])) (y1 : Int32) (y2 : Int32) (y3 : Int32) (y4 : Int32) (y5 : Int32) (σ : St) (H : Heap) (locs : List Loc) (ls : Array Slot) (hw : WS Y (AD Y) s.heap σ H locs) (hl : lv_has ls 7 [(0, .ref (yA Y 0)), (1, .int y1), (2, .int y2), (3, .int y3), (4, .int y4), (5, .int y5)]) (h : bX6_match_88 R_23 R_38 y1 y2 y3 y4 y5 σ Q) : W p l e { frames := 6, cells := 0, slots := 0, locals := 141 } s m args below meth c H locs 0 0 (MQ below (QI Y Q) args s 0 0 (AD Y)) (F0 m 88 ls []) := by
  obtain ⟨hx, hb, hr, hml, hown, hlk, hT, hK, hB⟩ := id M
  unfold bX6_match_88 at h
  obtain ⟨x1, ex1⟩ : ∃ y : Int32, y = y5 + 1 := ⟨_, rfl⟩
  have h := h x1 ex1
  refine lv_iinc (v := x1) (lv' := [(5, .int x1), (0, .ref (yA Y 0)), (1, .int y1), (2, .int y2), (3, .int y3), (4, .int y4)]) hx hb dX6_match_88 hl (k := 5) rfl (by rw [ex1]; rfl) (by decide) rfl (fun ls hl => ?_)
  refine lv_goto (tgt := 38) hx hb dX6_match_91 (by decide) ?_
  exact hR_38 y1 y2 y3 y4 x1 σ _ _ _ hw (lv_sub hl [1, 2, 3, 4, 5, 0] rfl) h
def bX6_match_38 (R_23 : Int32 × Int32 × Int32 × Int32 × St → Prop) (R_38 : Int32 × Int32 × Int32 × Int32 × Int32 × St → Prop) (y1 : Int32) (y2 : Int32) (y3 : Int32) (y4 : Int32) (y5 : Int32) (σ : St) (Q : Int32 → St → Prop) : Prop :=
  (((σ.1 3 5) ≤ y5 → (∀ x2 : Int32, x2 = y4 + 1 → R_23 (y1, y2, y3, x2, σ))) ∧ (¬ (σ.1 3 5) ≤ y5 → (vp_in y4 5 ∧ (vp_in y5 5 ∧ (∀ x5 : Int32, x5 = (if (σ.1 91 y5.toNatClampNeg) < (-(σ.1 91 y4.toNatClampNeg)) then (σ.1 91 y5.toNatClampNeg) else (-(σ.1 91 y4.toNatClampNeg))) → ((x5 ≤ y3 → bX6_match_88 R_23 R_38 y1 y2 y3 y4 y5 σ Q) ∧ (¬ x5 ≤ y3 → (∀ x7 : Int32, x7 = ((10 * y4) + y5) → bX6_match_88 R_23 R_38 y1 x7 x5 y4 y5 σ Q))))))))
set_option maxHeartbeats 4000000 in
set_option maxRecDepth 100000 in
theorem tX6_match_38 {R_23 : Int32 × Int32 × Int32 × Int32 × St → Prop} {R_38 : Int32 × Int32 × Int32 × Int32 × Int32 × St → Prop} {Q : Int32 → St → Prop} (M : MC p s m args meth c cX6_match 7 (some .int) RX6 Y) (hN : yN Y = 108) (h0 : c0s Y 3 9) (hR_23 : ∀ (y1 y2 y3 y4 : Int32) (σ : St) (H : Heap) (locs : List Loc) (ls : Array Slot), WS Y (AD Y) s.heap σ H locs → lv_has ls 7 [(0, .ref (yA Y 0)), (1, .int y1), (2, .int y2), (3, .int y3), (4, .int y4)] → R_23 (y1, y2, y3, y4, σ) → W p l e { frames := 6, cells := 0, slots := 0, locals := 141 } s m args below meth c H locs 0 0 (MQ below (QI Y Q) args s 0 0 (AD Y)) (F0 m 23 ls [])) (hR_38 : ∀ (y1 y2 y3 y4 y5 : Int32) (σ : St) (H : Heap) (locs : List Loc) (ls : Array Slot), WS Y (AD Y) s.heap σ H locs → lv_has ls 7 [(0, .ref (yA Y 0)), (1, .int y1), (2, .int y2), (3, .int y3), (4, .int y4), (5, .int y5)] → R_38 (y1, y2, y3, y4, y5, σ) → W p l e { frames := 6, cells := 0, slots := 0, locals := 141 } s m args below meth c H locs 0 0 (MQ below (QI Y Q) args s 0 0 (AD Y)) (F0 m 38 ls [])) (y1 : Int32) (y2 : Int32) (y3 : Int32) (y4 : Int32) (y5 : Int32) (σ : St) (H : Heap) (locs : List Loc) (ls : Array Slot) (hw : WS Y (AD Y) s.heap σ H locs) (hl : lv_has ls 7 [(0, .ref (yA Y 0)), (1, .int y1), (2, .int y2), (3, .int y3), (4, .int y4), (5, .int y5)]) (h : bX6_match_38 R_23 R_38 y1 y2 y3 y4 y5 σ Q) : W p l e { frames := 6, cells := 0, slots := 0, locals := 141 } s m args below meth c H locs 0 0 (MQ below (QI Y Q) args s 0 0 (AD Y)) (F0 m 38 ls []) := by
  obtain ⟨hx, hb, hr, hml, hown, hlk, hT, hK, hB⟩ := id M
  unfold bX6_match_38 at h
  refine lv_iload hx hb dX6_match_38 (lv_at hl 5 rfl) ?_
  refine lv_aload_n hx hb dX6_match_40 rfl (lv_at hl 0 rfl) ?_
  refine q_get (v := .ref (yA Y 3)) M hw (ob_0 hN h0) rfl inq_6 1 (by decide) tw_258 rfl dX6_match_41 ?_
  refine q_get (v := .int (σ.1 3 5)) M hw (ph_ob (ph_3 hN)) rfl inq_3 5 (by decide) tw_119 rfl dX6_match_44 ?_
  refine lv_icmp_ge (tgt := 94) hx hb dX6_match_47 (by decide) (fun c1 => ?_) (fun c1 => ?_)
  · have h := h.1 c1
    obtain ⟨x2, ex2⟩ : ∃ y : Int32, y = y4 + 1 := ⟨_, rfl⟩
    have h := h x2 ex2
    refine lv_iinc (v := x2) (lv' := [(4, .int x2), (0, .ref (yA Y 0)), (1, .int y1), (2, .int y2), (3, .int y3), (5, .int y5)]) hx hb dX6_match_94 hl (k := 4) rfl (by rw [ex2]; rfl) (by decide) rfl (fun ls hl => ?_)
    refine lv_goto (tgt := 23) hx hb dX6_match_97 (by decide) ?_
    exact hR_23 y1 y2 y3 x2 σ _ _ _ hw (lv_sub hl [1, 2, 3, 4, 0] rfl) h
  · have h := h.2 c1
    refine lv_aload_n hx hb dX6_match_50 rfl (lv_at hl 0 rfl) ?_
    refine q_get (v := .ref (yA Y 91)) M hw (ob_0 hN h0) rfl inq_6 9 (by decide) tw_266 rfl dX6_match_51 ?_
    refine lv_iload hx hb dX6_match_54 (lv_at hl 4 rfl) ?_
    have c3 := h.1
    have h := h.2
    refine q_ild M hw (ar_91 hN) c3 dX6_match_56 ?_
    refine lv_ineg hx hb dX6_match_57 ?_
    refine lv_aload_n hx hb dX6_match_58 rfl (lv_at hl 0 rfl) ?_
    refine q_get (v := .ref (yA Y 91)) M hw (ob_0 hN h0) rfl inq_6 9 (by decide) tw_266 rfl dX6_match_59 ?_
    refine lv_iload hx hb dX6_match_62 (lv_at hl 5 rfl) ?_
    have c4 := h.1
    have h := h.2
    refine q_ild M hw (ar_91 hN) c4 dX6_match_64 ?_
    refine va_mmin hx hb (by rw [hl.1]; exact hml) hown (hT _ tw_543) (hT _ tw_433) (hT _ tw_57) (hT _ tw_434) (Nat.le_of_ble_eq_true rfl) (Nat.le_of_ble_eq_true rfl) (Nat.le_refl _) (Nat.le_refl _) dX6_match_65 ?_
    refine lv_topi (fun x5 ex5 => ?_)
    have h := h x5 ex5
    refine lv_istore (lv' := [(6, .int x5), (0, .ref (yA Y 0)), (1, .int y1), (2, .int y2), (3, .int y3), (4, .int y4), (5, .int y5)]) hx hb dX6_match_68 hl (by decide) rfl (fun ls hl => ?_)
    refine lv_iload hx hb dX6_match_70 (lv_at hl 0 rfl) ?_
    refine lv_iload_n hx hb dX6_match_72 rfl (lv_at hl 4 rfl) ?_
    refine lv_icmp_le (tgt := 88) hx hb dX6_match_73 (by decide) (fun c6 => ?_) (fun c6 => ?_)
    · have h := h.1 c6
      exact tX6_match_88 M hN h0 hR_23 hR_38 y1 y2 y3 y4 y5 σ _ _ _ hw (lv_sub hl [1, 2, 3, 4, 5, 6] rfl) h
    · have h := h.2 c6
      refine lv_iload hx hb dX6_match_76 (lv_at hl 0 rfl) ?_
      refine lv_istore_n (lv' := [(3, .int x5), (6, .int x5), (0, .ref (yA Y 0)), (1, .int y1), (2, .int y2), (4, .int y4), (5, .int y5)]) hx hb dX6_match_78 rfl hl (by decide) rfl (fun ls hl => ?_)
      refine lv_bipush (v := 10) hx hb dX6_match_79 (by decide) ?_
      refine lv_iload hx hb dX6_match_81 (lv_at hl 5 rfl) ?_
      refine lv_imul hx hb dX6_match_83 ?_
      refine lv_iload hx hb dX6_match_84 (lv_at hl 6 rfl) ?_
      refine lv_iadd hx hb dX6_match_86 ?_
      refine lv_topi (fun x7 ex7 => ?_)
      have h := h x7 ex7
      refine lv_istore_n (lv' := [(2, .int x7), (3, .int x5), (6, .int x5), (0, .ref (yA Y 0)), (1, .int y1), (4, .int y4), (5, .int y5)]) hx hb dX6_match_87 rfl hl (by decide) rfl (fun ls hl => ?_)
      exact tX6_match_88 M hN h0 hR_23 hR_38 y1 x7 x5 y4 y5 σ _ _ _ hw (lv_sub hl [3, 4, 0, 1, 5, 6] rfl) h
def lX6_match_38 (R_23 : Int32 × Int32 × Int32 × Int32 × St → Prop) (Q : Int32 → St → Prop) : (Int32 × Int32 × Int32 × Int32 × Int32 × St → Prop) → Int32 × Int32 × Int32 × Int32 × Int32 × St → Prop := fun R a => bX6_match_38 R_23 R a.1 a.2.1 a.2.2.1 a.2.2.2.1 a.2.2.2.2.1 a.2.2.2.2.2 Q
theorem tlX6_match_38 {R_23 : Int32 × Int32 × Int32 × Int32 × St → Prop} {Q : Int32 → St → Prop} (M : MC p s m args meth c cX6_match 7 (some .int) RX6 Y) (hN : yN Y = 108) (h0 : c0s Y 3 9) (hR_23 : ∀ (y1 y2 y3 y4 : Int32) (σ : St) (H : Heap) (locs : List Loc) (ls : Array Slot), WS Y (AD Y) s.heap σ H locs → lv_has ls 7 [(0, .ref (yA Y 0)), (1, .int y1), (2, .int y2), (3, .int y3), (4, .int y4)] → R_23 (y1, y2, y3, y4, σ) → W p l e { frames := 6, cells := 0, slots := 0, locals := 141 } s m args below meth c H locs 0 0 (MQ below (QI Y Q) args s 0 0 (AD Y)) (F0 m 23 ls [])) (n : Nat) : ∀ (y1 : Int32) (y2 : Int32) (y3 : Int32) (y4 : Int32) (y5 : Int32) (σ : St) (H : Heap) (locs : List Loc) (ls : Array Slot) (hw : WS Y (AD Y) s.heap σ H locs) (hl : lv_has ls 7 [(0, .ref (yA Y 0)), (1, .int y1), (2, .int y2), (3, .int y3), (4, .int y4), (5, .int y5)]) (h : Lp (lX6_match_38 R_23 Q) n (y1, y2, y3, y4, y5, σ)), W p l e { frames := 6, cells := 0, slots := 0, locals := 141 } s m args below meth c H locs 0 0 (MQ below (QI Y Q) args s 0 0 (AD Y)) (F0 m 38 ls []) := by
  induction n with
  | zero => intro y1 y2 y3 y4 y5 σ H locs ls hw hl h; exact h.elim
  | succ n ih =>
    intro y1 y2 y3 y4 y5 σ H locs ls hw hl h
    exact tX6_match_38 M hN h0 hR_23 ih y1 y2 y3 y4 y5 σ H locs ls hw hl h
def bX6_match_110 (y2 : Int32) (σ : St) (Q : Int32 → St → Prop) : Prop :=
  Q y2 σ
set_option maxHeartbeats 4000000 in
set_option maxRecDepth 100000 in
theorem tX6_match_110 {Q : Int32 → St → Prop} (M : MC p s m args meth c cX6_match 7 (some .int) RX6 Y) (hN : yN Y = 108) (h0 : c0s Y 3 9) (y2 : Int32) (σ : St) (H : Heap) (locs : List Loc) (ls : Array Slot) (hw : WS Y (AD Y) s.heap σ H locs) (hl : lv_has ls 7 [(2, .int y2)]) (h : bX6_match_110 y2 σ Q) : W p l e { frames := 6, cells := 0, slots := 0, locals := 141 } s m args below meth c H locs 0 0 (MQ below (QI Y Q) args s 0 0 (AD Y)) (F0 m 110 ls []) := by
  obtain ⟨hx, hb, hr, hml, hown, hlk, hT, hK, hB⟩ := id M
  unfold bX6_match_110 at h
  refine lv_iload_n hx hb dX6_match_110 rfl (lv_at hl 0 rfl) ?_
  refine lv_goto (tgt := 115) hx hb dX6_match_111 (by decide) ?_
  exact q_iret M hw h dX6_match_115
def bX6_match_23 (R_23 : Int32 × Int32 × Int32 × Int32 × St → Prop) (y1 : Int32) (y2 : Int32) (y3 : Int32) (y4 : Int32) (σ : St) (Q : Int32 → St → Prop) : Prop :=
  (((σ.1 3 5) ≤ y4 → ((y1 = 0 → bX6_match_110 y2 σ Q) ∧ (¬ y1 = 0 → ((y2 = (-9) → bX6_match_110 y2 σ Q) ∧ (¬ y2 = (-9) → Q y3 σ))))) ∧ (¬ (σ.1 3 5) ≤ y4 → ∃ n : Nat, Lp (lX6_match_38 R_23 Q) n (y1, y2, y3, y4, 0, σ)))
set_option maxHeartbeats 4000000 in
set_option maxRecDepth 100000 in
theorem tX6_match_23 {R_23 : Int32 × Int32 × Int32 × Int32 × St → Prop} {Q : Int32 → St → Prop} (M : MC p s m args meth c cX6_match 7 (some .int) RX6 Y) (hN : yN Y = 108) (h0 : c0s Y 3 9) (hR_23 : ∀ (y1 y2 y3 y4 : Int32) (σ : St) (H : Heap) (locs : List Loc) (ls : Array Slot), WS Y (AD Y) s.heap σ H locs → lv_has ls 7 [(0, .ref (yA Y 0)), (1, .int y1), (2, .int y2), (3, .int y3), (4, .int y4)] → R_23 (y1, y2, y3, y4, σ) → W p l e { frames := 6, cells := 0, slots := 0, locals := 141 } s m args below meth c H locs 0 0 (MQ below (QI Y Q) args s 0 0 (AD Y)) (F0 m 23 ls [])) (y1 : Int32) (y2 : Int32) (y3 : Int32) (y4 : Int32) (σ : St) (H : Heap) (locs : List Loc) (ls : Array Slot) (hw : WS Y (AD Y) s.heap σ H locs) (hl : lv_has ls 7 [(0, .ref (yA Y 0)), (1, .int y1), (2, .int y2), (3, .int y3), (4, .int y4)]) (h : bX6_match_23 R_23 y1 y2 y3 y4 σ Q) : W p l e { frames := 6, cells := 0, slots := 0, locals := 141 } s m args below meth c H locs 0 0 (MQ below (QI Y Q) args s 0 0 (AD Y)) (F0 m 23 ls []) := by
  obtain ⟨hx, hb, hr, hml, hown, hlk, hT, hK, hB⟩ := id M
  unfold bX6_match_23 at h
  refine lv_iload hx hb dX6_match_23 (lv_at hl 4 rfl) ?_
  refine lv_aload_n hx hb dX6_match_25 rfl (lv_at hl 0 rfl) ?_
  refine q_get (v := .ref (yA Y 3)) M hw (ob_0 hN h0) rfl inq_6 1 (by decide) tw_258 rfl dX6_match_26 ?_
  refine q_get (v := .int (σ.1 3 5)) M hw (ph_ob (ph_3 hN)) rfl inq_3 5 (by decide) tw_119 rfl dX6_match_29 ?_
  refine lv_icmp_ge (tgt := 100) hx hb dX6_match_32 (by decide) (fun c1 => ?_) (fun c1 => ?_)
  · have h := h.1 c1
    refine lv_iload_n hx hb dX6_match_100 rfl (lv_at hl 1 rfl) ?_
    refine lv_if_eq (tgt := 110) hx hb dX6_match_101 (by decide) (fun c2 => ?_) (fun c2 => ?_)
    · have h := h.1 c2
      exact tX6_match_110 M hN h0 y2 σ _ _ _ hw (lv_sub hl [2] rfl) h
    · have h := h.2 c2
      refine lv_iload_n hx hb dX6_match_104 rfl (lv_at hl 2 rfl) ?_
      refine lv_bipush (v := (-9)) hx hb dX6_match_105 (by decide) ?_
      refine lv_icmp_ne (tgt := 114) hx hb dX6_match_107 (by decide) (fun c3 => ?_) (fun c3 => ?_)
      · have h := h.2 c3
        refine lv_iload_n hx hb dX6_match_114 rfl (lv_at hl 3 rfl) ?_
        exact q_iret M hw h dX6_match_115
      · have h := h.1 c3
        exact tX6_match_110 M hN h0 y2 σ _ _ _ hw (lv_sub hl [2] rfl) h
  · have h := h.2 c1
    refine lv_iconst (v := 0) hx hb dX6_match_35 (by decide) ?_
    refine lv_istore (lv' := [(5, .int 0), (0, .ref (yA Y 0)), (1, .int y1), (2, .int y2), (3, .int y3), (4, .int y4)]) hx hb dX6_match_36 hl (by decide) rfl (fun ls hl => ?_)
    obtain ⟨n, h⟩ := h
    exact tlX6_match_38 M hN h0 hR_23 n y1 y2 y3 y4 0 σ _ _ _ hw (lv_sub hl [1, 2, 3, 4, 5, 0] rfl) h
def lX6_match_23 (Q : Int32 → St → Prop) : (Int32 × Int32 × Int32 × Int32 × St → Prop) → Int32 × Int32 × Int32 × Int32 × St → Prop := fun R a => bX6_match_23 R a.1 a.2.1 a.2.2.1 a.2.2.2.1 a.2.2.2.2 Q
theorem tlX6_match_23 {Q : Int32 → St → Prop} (M : MC p s m args meth c cX6_match 7 (some .int) RX6 Y) (hN : yN Y = 108) (h0 : c0s Y 3 9) (n : Nat) : ∀ (y1 : Int32) (y2 : Int32) (y3 : Int32) (y4 : Int32) (σ : St) (H : Heap) (locs : List Loc) (ls : Array Slot) (hw : WS Y (AD Y) s.heap σ H locs) (hl : lv_has ls 7 [(0, .ref (yA Y 0)), (1, .int y1), (2, .int y2), (3, .int y3), (4, .int y4)]) (h : Lp (lX6_match_23 Q) n (y1, y2, y3, y4, σ)), W p l e { frames := 6, cells := 0, slots := 0, locals := 141 } s m args below meth c H locs 0 0 (MQ below (QI Y Q) args s 0 0 (AD Y)) (F0 m 23 ls []) := by
  induction n with
  | zero => intro y1 y2 y3 y4 σ H locs ls hw hl h; exact h.elim
  | succ n ih =>
    intro y1 y2 y3 y4 σ H locs ls hw hl h
    exact tX6_match_23 M hN h0 ih y1 y2 y3 y4 σ H locs ls hw hl h
def bX6_match_11 (y1 : Int32) (σ : St) (Q : Int32 → St → Prop) : Prop :=
  wX6_weighFreeFarmers σ (fun σ1 => ∃ n : Nat, Lp (lX6_match_23 Q) n (y1, (-9), 0, 0, σ1))
set_option maxHeartbeats 4000000 in
set_option maxRecDepth 100000 in
theorem tX6_match_11 {Q : Int32 → St → Prop} (M : MC p s m args meth c cX6_match 7 (some .int) RX6 Y) (hN : yN Y = 108) (h0 : c0s Y 3 9) (y1 : Int32) (σ : St) (H : Heap) (locs : List Loc) (ls : Array Slot) (hw : WS Y (AD Y) s.heap σ H locs) (hl : lv_has ls 7 [(0, .ref (yA Y 0)), (1, .int y1)]) (h : bX6_match_11 y1 σ Q) : W p l e { frames := 6, cells := 0, slots := 0, locals := 141 } s m args below meth c H locs 0 0 (MQ below (QI Y Q) args s 0 0 (AD Y)) (F0 m 11 ls []) := by
  obtain ⟨hx, hb, hr, hml, hown, hlk, hT, hK, hB⟩ := id M
  unfold bX6_match_11 at h
  refine lv_aload_n hx hb dX6_match_11 rfl (lv_at hl 0 rfl) ?_
  refine q_goV hw (q_runV (rest := []) M hw (ctX6_weighFreeFarmers l hB hN h0 σ _ h) mbX6_weighFreeFarmers (ob_0 hN h0) rfl tw_539 rfl hl.1 rfl (Nat.le_of_ble_eq_true rfl) ⟨Nat.le_of_ble_eq_true rfl, Nat.le_of_ble_eq_true rfl⟩ ⟨Nat.le_refl _, Nat.le_refl _⟩ dX6_match_12) (fun σ1 H locs h hw => ?_)
  refine lv_bipush (v := (-9)) hx hb dX6_match_15 (by decide) ?_
  refine lv_istore_n (lv' := [(2, .int (-9)), (0, .ref (yA Y 0)), (1, .int y1)]) hx hb dX6_match_17 rfl hl (by decide) rfl (fun ls hl => ?_)
  refine lv_iconst (v := 0) hx hb dX6_match_18 (by decide) ?_
  refine lv_istore_n (lv' := [(3, .int 0), (2, .int (-9)), (0, .ref (yA Y 0)), (1, .int y1)]) hx hb dX6_match_19 rfl hl (by decide) rfl (fun ls hl => ?_)
  refine lv_iconst (v := 0) hx hb dX6_match_20 (by decide) ?_
  refine lv_istore (lv' := [(4, .int 0), (3, .int 0), (2, .int (-9)), (0, .ref (yA Y 0)), (1, .int y1)]) hx hb dX6_match_21 hl (by decide) rfl (fun ls hl => ?_)
  obtain ⟨n, h⟩ := h
  exact tlX6_match_23 M hN h0 n y1 (-9) 0 0 σ1 _ _ _ hw (lv_sub hl [3, 4, 2, 1, 0] rfl) h
def wX6_match (a0 : Int32) (σ : St) (Q : Int32 → St → Prop) : Prop :=
  ((a0 = 0 → bX6_match_11 a0 σ Q) ∧ (¬ a0 = 0 → ((a0 = 1 → bX6_match_11 a0 σ Q) ∧ (¬ a0 = 1 → Q (-1) σ))))
set_option maxHeartbeats 4000000 in
set_option maxRecDepth 100000 in
theorem tX6_match_E {Q : Int32 → St → Prop} (M : MC p s m args meth c cX6_match 7 (some .int) RX6 Y) (hN : yN Y = 108) (h0 : c0s Y 3 9) (a0 : Int32) (σ : St) (H : Heap) (locs : List Loc) (ls : Array Slot) (hw : WS Y (AD Y) s.heap σ H locs) (hl : lv_has ls 7 [(0, .ref (yA Y 0)), (1, .int a0)]) (h : wX6_match a0 σ Q) : W p l e { frames := 6, cells := 0, slots := 0, locals := 141 } s m args below meth c H locs 0 0 (MQ below (QI Y Q) args s 0 0 (AD Y)) (F0 m 0 ls []) := by
  obtain ⟨hx, hb, hr, hml, hown, hlk, hT, hK, hB⟩ := id M
  unfold wX6_match at h
  refine lv_iload_n hx hb dX6_match_0 rfl (lv_at hl 1 rfl) ?_
  refine lv_if_eq (tgt := 11) hx hb dX6_match_1 (by decide) (fun c1 => ?_) (fun c1 => ?_)
  · have h := h.1 c1
    exact tX6_match_11 M hN h0 a0 σ _ _ _ hw (lv_sub hl [0, 1] rfl) h
  · have h := h.2 c1
    refine lv_iload_n hx hb dX6_match_4 rfl (lv_at hl 1 rfl) ?_
    refine lv_iconst (v := 1) hx hb dX6_match_5 (by decide) ?_
    refine lv_icmp_eq (tgt := 11) hx hb dX6_match_6 (by decide) (fun c2 => ?_) (fun c2 => ?_)
    · have h := h.1 c2
      exact tX6_match_11 M hN h0 a0 σ _ _ _ hw (lv_sub hl [0, 1] rfl) h
    · have h := h.2 c2
      refine lv_iconst (v := (-1)) hx hb dX6_match_9 (by decide) ?_
      exact q_iret M hw h dX6_match_10
set_option maxRecDepth 100000 in
theorem ctX6_match (l : Launch) {Y : LY} (hB : YB Y) (hN : yN Y = 108) (h0 : c0s Y 3 9) (a0 : Int32) (σ : St) (Q : Int32 → St → Prop) (h : wX6_match a0 σ Q) : CT l yX6_match (Cond.code yX6_match cX6_match 7 (some .int)) { frames := 6, cells := 0, slots := 0, locals := 141 } Y [.ref (yA Y 0), .int a0] σ (QI Y Q) :=
  q_ent hB (by decide +kernel) (Nat.le_of_ble_eq_true rfl) (fun p e s m below meth c ls M hw hl => tX6_match_E M hN h0 a0 σ _ _ ls hw hl h)
theorem mbX6_match : MB RX6 yX6_match cX6_match 1 7 (some .int) := ⟨tw_536, tw_537, tw_49, tw_538, by decide +kernel⟩
end
section
variable {p : Program} {l : Launch} {e : Env} {s : State} {m : MethodId} {args : Array Value} {below : List Frame} {meth : Method} {c : Code} {Y : LY}
theorem dX6_cuts_0 : decode cX6_cuts 0 = .ok (.aload_n 0, 1) := by decide +kernel
theorem dX6_cuts_1 : decode cX6_cuts 1 = .ok (.iload_n 1, 1) := by decide +kernel
theorem dX6_cuts_2 : decode cX6_cuts 2 = .ok (.invokevirtual 92, 3) := by decide +kernel
theorem dX6_cuts_5 : decode cX6_cuts 5 = .ok (.ifCond .eq 20, 3) := by decide +kernel
theorem dX6_cuts_8 : decode cX6_cuts 8 = .ok (.iload_n 2, 1) := by decide +kernel
theorem dX6_cuts_9 : decode cX6_cuts 9 = .ok (.invokestatic 123, 3) := by decide +kernel
theorem dX6_cuts_12 : decode cX6_cuts 12 = .ok (.ifCond .eq 13, 3) := by decide +kernel
theorem dX6_cuts_15 : decode cX6_cuts 15 = .ok (.iload_n 3, 1) := by decide +kernel
theorem dX6_cuts_16 : decode cX6_cuts 16 = .ok (.ifCond .lt 9, 3) := by decide +kernel
theorem dX6_cuts_19 : decode cX6_cuts 19 = .ok (.iload_n 3, 1) := by decide +kernel
theorem dX6_cuts_20 : decode cX6_cuts 20 = .ok (.bipush 16, 2) := by decide +kernel
theorem dX6_cuts_22 : decode cX6_cuts 22 = .ok (.if_icmp .le 5, 3) := by decide +kernel
theorem dX6_cuts_25 : decode cX6_cuts 25 = .ok (.iconst (-1), 1) := by decide +kernel
theorem dX6_cuts_26 : decode cX6_cuts 26 = .ok (.ireturn, 1) := by decide +kernel
theorem dX6_cuts_27 : decode cX6_cuts 27 = .ok (.aload_n 0, 1) := by decide +kernel
theorem dX6_cuts_28 : decode cX6_cuts 28 = .ok (.getfield 58, 3) := by decide +kernel
theorem dX6_cuts_31 : decode cX6_cuts 31 = .ok (.iload_n 1, 1) := by decide +kernel
theorem dX6_cuts_32 : decode cX6_cuts 32 = .ok (.iload_n 2, 1) := by decide +kernel
theorem dX6_cuts_33 : decode cX6_cuts 33 = .ok (.iload_n 3, 1) := by decide +kernel
theorem dX6_cuts_34 : decode cX6_cuts 34 = .ok (.invokevirtual 213, 3) := by decide +kernel
theorem dX6_cuts_37 : decode cX6_cuts 37 = .ok (.ifCond .eq 13, 3) := by decide +kernel
theorem dX6_cuts_40 : decode cX6_cuts 40 = .ok (.aload_n 0, 1) := by decide +kernel
theorem dX6_cuts_41 : decode cX6_cuts 41 = .ok (.getfield 58, 3) := by decide +kernel
theorem dX6_cuts_44 : decode cX6_cuts 44 = .ok (.getfield 89, 3) := by decide +kernel
theorem dX6_cuts_47 : decode cX6_cuts 47 = .ok (.goto 5, 3) := by decide +kernel
theorem dX6_cuts_50 : decode cX6_cuts 50 = .ok (.bipush (-3), 2) := by decide +kernel
theorem dX6_cuts_52 : decode cX6_cuts 52 = .ok (.ireturn, 1) := by decide +kernel
def wX6_cuts (a0 : Int32) (a1 : Int32) (a2 : Int32) (σ : St) (Q : Int32 → St → Prop) : Prop :=
  wX6_isFarmer a0 σ (fun r2 σ1 => ((r2 = 0 → Q (-1) σ1) ∧ (¬ r2 = 0 → wX6_isNight a1 σ1 (fun r5 σ4 => ((r5 = 0 → Q (-1) σ4) ∧ (¬ r5 = 0 → ((a2 < 0 → Q (-1) σ4) ∧ (¬ a2 < 0 → ((a2 ≤ 16 → wX1_add a0 a1 a2 σ4 (fun r10 σ9 => ((r10 = 0 → Q (-3) σ9) ∧ (¬ r10 = 0 → Q (σ9.1 87 3) σ9)))) ∧ (¬ a2 ≤ 16 → Q (-1) σ4))))))))))
set_option maxHeartbeats 4000000 in
set_option maxRecDepth 100000 in
theorem tX6_cuts_E {Q : Int32 → St → Prop} (M : MC p s m args meth c cX6_cuts 4 (some .int) RX6 Y) (hN : yN Y = 108) (h0 : c0s Y 3 9) (a0 : Int32) (a1 : Int32) (a2 : Int32) (σ : St) (H : Heap) (locs : List Loc) (ls : Array Slot) (hw : WS Y (AD Y) s.heap σ H locs) (hl : lv_has ls 4 [(0, .ref (yA Y 0)), (1, .int a0), (2, .int a1), (3, .int a2)]) (h : wX6_cuts a0 a1 a2 σ Q) : W p l e { frames := 1, cells := 0, slots := 0, locals := 23 } s m args below meth c H locs 0 0 (MQ below (QI Y Q) args s 0 0 (AD Y)) (F0 m 0 ls []) := by
  obtain ⟨hx, hb, hr, hml, hown, hlk, hT, hK, hB⟩ := id M
  unfold wX6_cuts at h
  refine lv_aload_n hx hb dX6_cuts_0 rfl (lv_at hl 0 rfl) ?_
  refine lv_iload_n hx hb dX6_cuts_1 rfl (lv_at hl 1 rfl) ?_
  refine q_goI hw (q_runV (rest := []) M hw (ctX6_isFarmer l hB hN h0 a0 σ _ h) mbX6_isFarmer (ob_0 hN h0) rfl tw_367 rfl hl.1 rfl (Nat.le_of_ble_eq_true rfl) ⟨Nat.le_of_ble_eq_true rfl, Nat.le_of_ble_eq_true rfl⟩ ⟨Nat.le_refl _, Nat.le_refl _⟩ dX6_cuts_2) (fun r2 σ1 H locs h hw => ?_)
  refine lv_if_eq (tgt := 25) hx hb dX6_cuts_5 (by decide) (fun c3 => ?_) (fun c3 => ?_)
  · have h := h.1 c3
    refine lv_iconst (v := (-1)) hx hb dX6_cuts_25 (by decide) ?_
    exact q_iret M hw h dX6_cuts_26
  · have h := h.2 c3
    refine lv_iload_n hx hb dX6_cuts_8 rfl (lv_at hl 2 rfl) ?_
    refine q_goI hw (q_runS (rest := []) M hw (ctX6_isNight l hB a1 σ1 _ h) mbX6_isNight tw_391 rfl hl.1 rfl (Nat.le_of_ble_eq_true rfl) ⟨Nat.le_of_ble_eq_true rfl, Nat.le_of_ble_eq_true rfl⟩ ⟨Nat.le_refl _, Nat.le_refl _⟩ dX6_cuts_9) (fun r5 σ4 H locs h hw => ?_)
    refine lv_if_eq (tgt := 25) hx hb dX6_cuts_12 (by decide) (fun c6 => ?_) (fun c6 => ?_)
    · have h := h.1 c6
      refine lv_iconst (v := (-1)) hx hb dX6_cuts_25 (by decide) ?_
      exact q_iret M hw h dX6_cuts_26
    · have h := h.2 c6
      refine lv_iload_n hx hb dX6_cuts_15 rfl (lv_at hl 3 rfl) ?_
      refine lv_if_lt (tgt := 25) hx hb dX6_cuts_16 (by decide) (fun c7 => ?_) (fun c7 => ?_)
      · have h := h.1 c7
        refine lv_iconst (v := (-1)) hx hb dX6_cuts_25 (by decide) ?_
        exact q_iret M hw h dX6_cuts_26
      · have h := h.2 c7
        refine lv_iload_n hx hb dX6_cuts_19 rfl (lv_at hl 3 rfl) ?_
        refine lv_bipush (v := 16) hx hb dX6_cuts_20 (by decide) ?_
        refine lv_icmp_le (tgt := 27) hx hb dX6_cuts_22 (by decide) (fun c8 => ?_) (fun c8 => ?_)
        · have h := h.1 c8
          refine lv_aload_n hx hb dX6_cuts_27 rfl (lv_at hl 0 rfl) ?_
          refine q_get (v := .ref (yA Y 87)) M hw (ob_0 hN h0) rfl inq_6 8 (by decide) tw_265 rfl dX6_cuts_28 ?_
          refine lv_iload_n hx hb dX6_cuts_31 rfl (lv_at hl 1 rfl) ?_
          refine lv_iload_n hx hb dX6_cuts_32 rfl (lv_at hl 2 rfl) ?_
          refine lv_iload_n hx hb dX6_cuts_33 rfl (lv_at hl 3 rfl) ?_
          refine q_goI hw (q_runV (rest := []) M hw (ctX1_add l hB hN a0 a1 a2 σ4 _ h) mbX1_add (ob_87 hN) rfl tw_548 rfl hl.1 rfl (Nat.le_of_ble_eq_true rfl) ⟨Nat.le_of_ble_eq_true rfl, Nat.le_of_ble_eq_true rfl⟩ ⟨Nat.le_refl _, Nat.le_refl _⟩ dX6_cuts_34) (fun r10 σ9 H locs h hw => ?_)
          refine lv_if_eq (tgt := 50) hx hb dX6_cuts_37 (by decide) (fun c11 => ?_) (fun c11 => ?_)
          · have h := h.1 c11
            refine lv_bipush (v := (-3)) hx hb dX6_cuts_50 (by decide) ?_
            exact q_iret M hw h dX6_cuts_52
          · have h := h.2 c11
            refine lv_aload_n hx hb dX6_cuts_40 rfl (lv_at hl 0 rfl) ?_
            refine q_get (v := .ref (yA Y 87)) M hw (ob_0 hN h0) rfl inq_6 8 (by decide) tw_265 rfl dX6_cuts_41 ?_
            refine q_get (v := .int (σ9.1 87 3)) M hw (ob_87 hN) rfl inq_1 3 (by decide) tw_247 rfl dX6_cuts_44 ?_
            refine lv_goto (tgt := 52) hx hb dX6_cuts_47 (by decide) ?_
            exact q_iret M hw h dX6_cuts_52
        · have h := h.2 c8
          refine lv_iconst (v := (-1)) hx hb dX6_cuts_25 (by decide) ?_
          exact q_iret M hw h dX6_cuts_26
set_option maxRecDepth 100000 in
theorem ctX6_cuts (l : Launch) {Y : LY} (hB : YB Y) (hN : yN Y = 108) (h0 : c0s Y 3 9) (a0 : Int32) (a1 : Int32) (a2 : Int32) (σ : St) (Q : Int32 → St → Prop) (h : wX6_cuts a0 a1 a2 σ Q) : CT l yX6_cuts (Cond.code yX6_cuts cX6_cuts 4 (some .int)) { frames := 1, cells := 0, slots := 0, locals := 23 } Y [.ref (yA Y 0), .int a0, .int a1, .int a2] σ (QI Y Q) :=
  q_ent hB (by decide +kernel) (Nat.le_of_ble_eq_true rfl) (fun p e s m below meth c ls M hw hl => tX6_cuts_E M hN h0 a0 a1 a2 σ _ _ ls hw hl h)
theorem mbX6_cuts : MB RX6 yX6_cuts cX6_cuts 3 4 (some .int) := ⟨tw_545, tw_546, tw_49, tw_547, by decide +kernel⟩
end
section
variable {p : Program} {l : Launch} {e : Env} {s : State} {m : MethodId} {args : Array Value} {below : List Frame} {meth : Method} {c : Code} {Y : LY}
theorem dX6_forget_0 : decode cX6_forget 0 = .ok (.aload_n 0, 1) := by decide +kernel
theorem dX6_forget_1 : decode cX6_forget 1 = .ok (.getfield 58, 3) := by decide +kernel
theorem dX6_forget_4 : decode cX6_forget 4 = .ok (.getfield 89, 3) := by decide +kernel
theorem dX6_forget_7 : decode cX6_forget 7 = .ok (.istore_n 1, 1) := by decide +kernel
theorem dX6_forget_8 : decode cX6_forget 8 = .ok (.aload_n 0, 1) := by decide +kernel
theorem dX6_forget_9 : decode cX6_forget 9 = .ok (.getfield 58, 3) := by decide +kernel
theorem dX6_forget_12 : decode cX6_forget 12 = .ok (.iconst 0, 1) := by decide +kernel
theorem dX6_forget_13 : decode cX6_forget 13 = .ok (.putfield 89, 3) := by decide +kernel
theorem dX6_forget_16 : decode cX6_forget 16 = .ok (.iload_n 1, 1) := by decide +kernel
theorem dX6_forget_17 : decode cX6_forget 17 = .ok (.ireturn, 1) := by decide +kernel
def wX6_forget (σ : St) (Q : Int32 → St → Prop) : Prop :=
  (∀ x1 : Int32, x1 = (σ.1 87 3) → (∀ σ2 : St, σ2 = up σ 87 3 0 → Q x1 σ2))
set_option maxHeartbeats 4000000 in
set_option maxRecDepth 100000 in
theorem tX6_forget_E {Q : Int32 → St → Prop} (M : MC p s m args meth c cX6_forget 2 (some .int) RX6 Y) (hN : yN Y = 108) (h0 : c0s Y 3 9)  (σ : St) (H : Heap) (locs : List Loc) (ls : Array Slot) (hw : WS Y (AD Y) s.heap σ H locs) (hl : lv_has ls 2 [(0, .ref (yA Y 0))]) (h : wX6_forget σ Q) : W p l e { frames := 0, cells := 0, slots := 0, locals := 0 } s m args below meth c H locs 0 0 (MQ below (QI Y Q) args s 0 0 (AD Y)) (F0 m 0 ls []) := by
  obtain ⟨hx, hb, hr, hml, hown, hlk, hT, hK, hB⟩ := id M
  unfold wX6_forget at h
  refine lv_aload_n hx hb dX6_forget_0 rfl (lv_at hl 0 rfl) ?_
  refine q_get (v := .ref (yA Y 87)) M hw (ob_0 hN h0) rfl inq_6 8 (by decide) tw_265 rfl dX6_forget_1 ?_
  refine q_get (v := .int (σ.1 87 3)) M hw (ob_87 hN) rfl inq_1 3 (by decide) tw_247 rfl dX6_forget_4 ?_
  refine lv_topi (fun x1 ex1 => ?_)
  have h := h x1 ex1
  refine lv_istore_n (lv' := [(1, .int x1), (0, .ref (yA Y 0))]) hx hb dX6_forget_7 rfl hl (by decide) rfl (fun ls hl => ?_)
  refine lv_aload_n hx hb dX6_forget_8 rfl (lv_at hl 1 rfl) ?_
  refine q_get (v := .ref (yA Y 87)) M hw (ob_0 hN h0) rfl inq_6 8 (by decide) tw_265 rfl dX6_forget_9 ?_
  refine lv_iconst (v := 0) hx hb dX6_forget_12 (by decide) ?_
  refine q_put (v := 0) M hw (ob_87 hN) rfl inq_1 tyX1 tyX1_ok nmX1 3 (by decide) tw_247 rfl rfl rfl (Nat.le_of_ble_eq_true rfl) (by simp [up, upd, f0]) dX6_forget_13 (fun σ2 H locs es hw => ?_)
  have h := h σ2 es
  refine lv_iload_n hx hb dX6_forget_16 rfl (lv_at hl 0 rfl) ?_
  exact q_iret M hw h dX6_forget_17
set_option maxRecDepth 100000 in
theorem ctX6_forget (l : Launch) {Y : LY} (hB : YB Y) (hN : yN Y = 108) (h0 : c0s Y 3 9) (σ : St) (Q : Int32 → St → Prop) (h : wX6_forget σ Q) : CT l yX6_forget (Cond.code yX6_forget cX6_forget 2 (some .int)) { frames := 0, cells := 0, slots := 0, locals := 0 } Y [.ref (yA Y 0)] σ (QI Y Q) :=
  q_ent hB (by decide +kernel) (Nat.le_of_ble_eq_true rfl) (fun p e s m below meth c ls M hw hl => tX6_forget_E M hN h0 σ _ _ ls hw hl h)
theorem mbX6_forget : MB RX6 yX6_forget cX6_forget 0 2 (some .int) := ⟨tw_553, tw_554, tw_49, tw_555, by decide +kernel⟩
end
section
variable {p : Program} {l : Launch} {e : Env} {s : State} {m : MethodId} {args : Array Value} {below : List Frame} {meth : Method} {c : Code} {Y : LY}
theorem dX6_lit_0 : decode cX6_lit 0 = .ok (.iconst 0, 1) := by decide +kernel
theorem dX6_lit_1 : decode cX6_lit 1 = .ok (.istore_n 1, 1) := by decide +kernel
theorem dX6_lit_2 : decode cX6_lit 2 = .ok (.iconst 0, 1) := by decide +kernel
theorem dX6_lit_3 : decode cX6_lit 3 = .ok (.istore_n 2, 1) := by decide +kernel
theorem dX6_lit_4 : decode cX6_lit 4 = .ok (.iload_n 2, 1) := by decide +kernel
theorem dX6_lit_5 : decode cX6_lit 5 = .ok (.aload_n 0, 1) := by decide +kernel
theorem dX6_lit_6 : decode cX6_lit 6 = .ok (.getfield 58, 3) := by decide +kernel
theorem dX6_lit_9 : decode cX6_lit 9 = .ok (.getfield 89, 3) := by decide +kernel
theorem dX6_lit_12 : decode cX6_lit 12 = .ok (.if_icmp .ge 88, 3) := by decide +kernel
theorem dX6_lit_15 : decode cX6_lit 15 = .ok (.aload_n 0, 1) := by decide +kernel
theorem dX6_lit_16 : decode cX6_lit 16 = .ok (.getfield 58, 3) := by decide +kernel
theorem dX6_lit_19 : decode cX6_lit 19 = .ok (.getfield 215, 3) := by decide +kernel
theorem dX6_lit_22 : decode cX6_lit 22 = .ok (.iload_n 2, 1) := by decide +kernel
theorem dX6_lit_23 : decode cX6_lit 23 = .ok (.iaload, 1) := by decide +kernel
theorem dX6_lit_24 : decode cX6_lit 24 = .ok (.istore_n 3, 1) := by decide +kernel
theorem dX6_lit_25 : decode cX6_lit 25 = .ok (.aload_n 0, 1) := by decide +kernel
theorem dX6_lit_26 : decode cX6_lit 26 = .ok (.getfield 58, 3) := by decide +kernel
theorem dX6_lit_29 : decode cX6_lit 29 = .ok (.getfield 217, 3) := by decide +kernel
theorem dX6_lit_32 : decode cX6_lit 32 = .ok (.iload_n 2, 1) := by decide +kernel
theorem dX6_lit_33 : decode cX6_lit 33 = .ok (.iaload, 1) := by decide +kernel
theorem dX6_lit_34 : decode cX6_lit 34 = .ok (.istore 4, 2) := by decide +kernel
theorem dX6_lit_36 : decode cX6_lit 36 = .ok (.aload_n 0, 1) := by decide +kernel
theorem dX6_lit_37 : decode cX6_lit 37 = .ok (.getfield 19, 3) := by decide +kernel
theorem dX6_lit_40 : decode cX6_lit 40 = .ok (.getfield 130, 3) := by decide +kernel
theorem dX6_lit_43 : decode cX6_lit 43 = .ok (.iload 4, 2) := by decide +kernel
theorem dX6_lit_45 : decode cX6_lit 45 = .ok (.baload, 1) := by decide +kernel
theorem dX6_lit_46 : decode cX6_lit 46 = .ok (.ifCond .eq 7, 3) := by decide +kernel
theorem dX6_lit_49 : decode cX6_lit 49 = .ok (.iconst 0, 1) := by decide +kernel
theorem dX6_lit_50 : decode cX6_lit 50 = .ok (.goto 22, 3) := by decide +kernel
theorem dX6_lit_53 : decode cX6_lit 53 = .ok (.aload_n 0, 1) := by decide +kernel
theorem dX6_lit_54 : decode cX6_lit 54 = .ok (.getfield 19, 3) := by decide +kernel
theorem dX6_lit_57 : decode cX6_lit 57 = .ok (.iload 4, 2) := by decide +kernel
theorem dX6_lit_59 : decode cX6_lit 59 = .ok (.invokevirtual 126, 3) := by decide +kernel
theorem dX6_lit_62 : decode cX6_lit 62 = .ok (.aload_n 0, 1) := by decide +kernel
theorem dX6_lit_63 : decode cX6_lit 63 = .ok (.getfield 19, 3) := by decide +kernel
theorem dX6_lit_66 : decode cX6_lit 66 = .ok (.getfield 99, 3) := by decide +kernel
theorem dX6_lit_69 : decode cX6_lit 69 = .ok (.iload_n 3, 1) := by decide +kernel
theorem dX6_lit_70 : decode cX6_lit 70 = .ok (.iaload, 1) := by decide +kernel
theorem dX6_lit_71 : decode cX6_lit 71 = .ok (.imul, 1) := by decide +kernel
theorem dX6_lit_72 : decode cX6_lit 72 = .ok (.istore 5, 2) := by decide +kernel
theorem dX6_lit_74 : decode cX6_lit 74 = .ok (.aload_n 0, 1) := by decide +kernel
theorem dX6_lit_75 : decode cX6_lit 75 = .ok (.getfield 58, 3) := by decide +kernel
theorem dX6_lit_78 : decode cX6_lit 78 = .ok (.getfield 220, 3) := by decide +kernel
theorem dX6_lit_81 : decode cX6_lit 81 = .ok (.iload_n 2, 1) := by decide +kernel
theorem dX6_lit_82 : decode cX6_lit 82 = .ok (.iaload, 1) := by decide +kernel
theorem dX6_lit_83 : decode cX6_lit 83 = .ok (.iload 5, 2) := by decide +kernel
theorem dX6_lit_85 : decode cX6_lit 85 = .ok (.if_icmp .le 9, 3) := by decide +kernel
theorem dX6_lit_88 : decode cX6_lit 88 = .ok (.iload_n 1, 1) := by decide +kernel
theorem dX6_lit_89 : decode cX6_lit 89 = .ok (.iconst 1, 1) := by decide +kernel
theorem dX6_lit_90 : decode cX6_lit 90 = .ok (.iload_n 3, 1) := by decide +kernel
theorem dX6_lit_91 : decode cX6_lit 91 = .ok (.ishl, 1) := by decide +kernel
theorem dX6_lit_92 : decode cX6_lit 92 = .ok (.ior, 1) := by decide +kernel
theorem dX6_lit_93 : decode cX6_lit 93 = .ok (.istore_n 1, 1) := by decide +kernel
theorem dX6_lit_94 : decode cX6_lit 94 = .ok (.iinc 2 1, 3) := by decide +kernel
theorem dX6_lit_97 : decode cX6_lit 97 = .ok (.goto (-93), 3) := by decide +kernel
theorem dX6_lit_100 : decode cX6_lit 100 = .ok (.iload_n 1, 1) := by decide +kernel
theorem dX6_lit_101 : decode cX6_lit 101 = .ok (.ireturn, 1) := by decide +kernel
def bX6_lit_94 (R_4 : Int32 × Int32 × St → Prop) (y1 : Int32) (y2 : Int32) (σ : St) (Q : Int32 → St → Prop) : Prop :=
  (∀ x1 : Int32, x1 = y2 + 1 → R_4 (y1, x1, σ))
set_option maxHeartbeats 4000000 in
set_option maxRecDepth 100000 in
theorem tX6_lit_94 {R_4 : Int32 × Int32 × St → Prop} {Q : Int32 → St → Prop} (M : MC p s m args meth c cX6_lit 6 (some .int) RX6 Y) (hN : yN Y = 108) (h0 : c0s Y 3 9) (hR_4 : ∀ (y1 y2 : Int32) (σ : St) (H : Heap) (locs : List Loc) (ls : Array Slot), WS Y (AD Y) s.heap σ H locs → lv_has ls 6 [(0, .ref (yA Y 0)), (1, .int y1), (2, .int y2)] → R_4 (y1, y2, σ) → W p l e { frames := 1, cells := 0, slots := 0, locals := 22 } s m args below meth c H locs 0 0 (MQ below (QI Y Q) args s 0 0 (AD Y)) (F0 m 4 ls [])) (y1 : Int32) (y2 : Int32) (σ : St) (H : Heap) (locs : List Loc) (ls : Array Slot) (hw : WS Y (AD Y) s.heap σ H locs) (hl : lv_has ls 6 [(0, .ref (yA Y 0)), (1, .int y1), (2, .int y2)]) (h : bX6_lit_94 R_4 y1 y2 σ Q) : W p l e { frames := 1, cells := 0, slots := 0, locals := 22 } s m args below meth c H locs 0 0 (MQ below (QI Y Q) args s 0 0 (AD Y)) (F0 m 94 ls []) := by
  obtain ⟨hx, hb, hr, hml, hown, hlk, hT, hK, hB⟩ := id M
  unfold bX6_lit_94 at h
  obtain ⟨x1, ex1⟩ : ∃ y : Int32, y = y2 + 1 := ⟨_, rfl⟩
  have h := h x1 ex1
  refine lv_iinc (v := x1) (lv' := [(2, .int x1), (0, .ref (yA Y 0)), (1, .int y1)]) hx hb dX6_lit_94 hl (k := 2) rfl (by rw [ex1]; rfl) (by decide) rfl (fun ls hl => ?_)
  refine lv_goto (tgt := 4) hx hb dX6_lit_97 (by decide) ?_
  exact hR_4 y1 x1 σ _ _ _ hw (lv_sub hl [1, 2, 0] rfl) h
def bX6_lit_72 (R_4 : Int32 × Int32 × St → Prop) (y1 : Int32) (y2 : Int32) (y3 : Int32) (z0 : Int32) (σ : St) (Q : Int32 → St → Prop) : Prop :=
  (vp_in y2 6 ∧ (((σ.1 90 y2.toNatClampNeg) ≤ z0 → bX6_lit_94 R_4 y1 y2 σ Q) ∧ (¬ (σ.1 90 y2.toNatClampNeg) ≤ z0 → (∀ x3 : Int32, x3 = (y1 ||| (1 <<< (y3 &&& 31))) → bX6_lit_94 R_4 x3 y2 σ Q))))
set_option maxHeartbeats 4000000 in
set_option maxRecDepth 100000 in
theorem tX6_lit_72 {R_4 : Int32 × Int32 × St → Prop} {Q : Int32 → St → Prop} (M : MC p s m args meth c cX6_lit 6 (some .int) RX6 Y) (hN : yN Y = 108) (h0 : c0s Y 3 9) (hR_4 : ∀ (y1 y2 : Int32) (σ : St) (H : Heap) (locs : List Loc) (ls : Array Slot), WS Y (AD Y) s.heap σ H locs → lv_has ls 6 [(0, .ref (yA Y 0)), (1, .int y1), (2, .int y2)] → R_4 (y1, y2, σ) → W p l e { frames := 1, cells := 0, slots := 0, locals := 22 } s m args below meth c H locs 0 0 (MQ below (QI Y Q) args s 0 0 (AD Y)) (F0 m 4 ls [])) (y1 : Int32) (y2 : Int32) (y3 : Int32) (z0 : Int32) (σ : St) (H : Heap) (locs : List Loc) (ls : Array Slot) (hw : WS Y (AD Y) s.heap σ H locs) (hl : lv_has ls 6 [(0, .ref (yA Y 0)), (1, .int y1), (2, .int y2), (3, .int y3)]) (h : bX6_lit_72 R_4 y1 y2 y3 z0 σ Q) : W p l e { frames := 1, cells := 0, slots := 0, locals := 22 } s m args below meth c H locs 0 0 (MQ below (QI Y Q) args s 0 0 (AD Y)) (F0 m 72 ls [.int z0]) := by
  obtain ⟨hx, hb, hr, hml, hown, hlk, hT, hK, hB⟩ := id M
  unfold bX6_lit_72 at h
  refine lv_istore (lv' := [(5, .int z0), (0, .ref (yA Y 0)), (1, .int y1), (2, .int y2), (3, .int y3)]) hx hb dX6_lit_72 hl (by decide) rfl (fun ls hl => ?_)
  refine lv_aload_n hx hb dX6_lit_74 rfl (lv_at hl 1 rfl) ?_
  refine q_get (v := .ref (yA Y 87)) M hw (ob_0 hN h0) rfl inq_6 8 (by decide) tw_265 rfl dX6_lit_75 ?_
  refine q_get (v := .ref (yA Y 90)) M hw (ob_87 hN) rfl inq_1 2 (by decide) tw_245 rfl dX6_lit_78 ?_
  refine lv_iload_n hx hb dX6_lit_81 rfl (lv_at hl 3 rfl) ?_
  have c1 := h.1
  have h := h.2
  refine q_ild M hw (ar_90 hN) c1 dX6_lit_82 ?_
  refine lv_iload hx hb dX6_lit_83 (lv_at hl 0 rfl) ?_
  refine lv_icmp_le (tgt := 94) hx hb dX6_lit_85 (by decide) (fun c2 => ?_) (fun c2 => ?_)
  · have h := h.1 c2
    exact tX6_lit_94 M hN h0 hR_4 y1 y2 σ _ _ _ hw (lv_sub hl [1, 2, 3] rfl) h
  · have h := h.2 c2
    refine lv_iload_n hx hb dX6_lit_88 rfl (lv_at hl 2 rfl) ?_
    refine lv_iconst (v := 1) hx hb dX6_lit_89 (by decide) ?_
    refine lv_iload_n hx hb dX6_lit_90 rfl (lv_at hl 4 rfl) ?_
    refine lv_ishl hx hb dX6_lit_91 ?_
    refine lv_ior hx hb dX6_lit_92 ?_
    refine lv_topi (fun x3 ex3 => ?_)
    have h := h x3 ex3
    refine lv_istore_n (lv' := [(1, .int x3), (5, .int z0), (0, .ref (yA Y 0)), (2, .int y2), (3, .int y3)]) hx hb dX6_lit_93 rfl hl (by decide) rfl (fun ls hl => ?_)
    exact tX6_lit_94 M hN h0 hR_4 x3 y2 σ _ _ _ hw (lv_sub hl [2, 0, 3] rfl) h
def bX6_lit_4 (R_4 : Int32 × Int32 × St → Prop) (y1 : Int32) (y2 : Int32) (σ : St) (Q : Int32 → St → Prop) : Prop :=
  (((σ.1 87 3) ≤ y2 → Q y1 σ) ∧ (¬ (σ.1 87 3) ≤ y2 → (vp_in y2 6 ∧ (∀ x3 : Int32, x3 = (σ.1 88 y2.toNatClampNeg) → (vp_in y2 6 ∧ (∀ x5 : Int32, x5 = (σ.1 89 y2.toNatClampNeg) → (vp_in x5 100 ∧ (((σ.1 8 x5.toNatClampNeg) = 0 → wX3_moon 3 x5 σ (fun r9 σ8 => (vp_in x3 5 ∧ bX6_lit_72 R_4 y1 y2 x3 (r9 * (σ8.1 5 x3.toNatClampNeg)) σ8 Q))) ∧ (¬ (σ.1 8 x5.toNatClampNeg) = 0 → bX6_lit_72 R_4 y1 y2 x3 0 σ Q)))))))))
set_option maxHeartbeats 4000000 in
set_option maxRecDepth 100000 in
theorem tX6_lit_4 {R_4 : Int32 × Int32 × St → Prop} {Q : Int32 → St → Prop} (M : MC p s m args meth c cX6_lit 6 (some .int) RX6 Y) (hN : yN Y = 108) (h0 : c0s Y 3 9) (hR_4 : ∀ (y1 y2 : Int32) (σ : St) (H : Heap) (locs : List Loc) (ls : Array Slot), WS Y (AD Y) s.heap σ H locs → lv_has ls 6 [(0, .ref (yA Y 0)), (1, .int y1), (2, .int y2)] → R_4 (y1, y2, σ) → W p l e { frames := 1, cells := 0, slots := 0, locals := 22 } s m args below meth c H locs 0 0 (MQ below (QI Y Q) args s 0 0 (AD Y)) (F0 m 4 ls [])) (y1 : Int32) (y2 : Int32) (σ : St) (H : Heap) (locs : List Loc) (ls : Array Slot) (hw : WS Y (AD Y) s.heap σ H locs) (hl : lv_has ls 6 [(0, .ref (yA Y 0)), (1, .int y1), (2, .int y2)]) (h : bX6_lit_4 R_4 y1 y2 σ Q) : W p l e { frames := 1, cells := 0, slots := 0, locals := 22 } s m args below meth c H locs 0 0 (MQ below (QI Y Q) args s 0 0 (AD Y)) (F0 m 4 ls []) := by
  obtain ⟨hx, hb, hr, hml, hown, hlk, hT, hK, hB⟩ := id M
  unfold bX6_lit_4 at h
  refine lv_iload_n hx hb dX6_lit_4 rfl (lv_at hl 2 rfl) ?_
  refine lv_aload_n hx hb dX6_lit_5 rfl (lv_at hl 0 rfl) ?_
  refine q_get (v := .ref (yA Y 87)) M hw (ob_0 hN h0) rfl inq_6 8 (by decide) tw_265 rfl dX6_lit_6 ?_
  refine q_get (v := .int (σ.1 87 3)) M hw (ob_87 hN) rfl inq_1 3 (by decide) tw_247 rfl dX6_lit_9 ?_
  refine lv_icmp_ge (tgt := 100) hx hb dX6_lit_12 (by decide) (fun c1 => ?_) (fun c1 => ?_)
  · have h := h.1 c1
    refine lv_iload_n hx hb dX6_lit_100 rfl (lv_at hl 1 rfl) ?_
    exact q_iret M hw h dX6_lit_101
  · have h := h.2 c1
    refine lv_aload_n hx hb dX6_lit_15 rfl (lv_at hl 0 rfl) ?_
    refine q_get (v := .ref (yA Y 87)) M hw (ob_0 hN h0) rfl inq_6 8 (by decide) tw_265 rfl dX6_lit_16 ?_
    refine q_get (v := .ref (yA Y 88)) M hw (ob_87 hN) rfl inq_1 0 (by decide) tw_241 rfl dX6_lit_19 ?_
    refine lv_iload_n hx hb dX6_lit_22 rfl (lv_at hl 2 rfl) ?_
    have c2 := h.1
    have h := h.2
    refine q_ild M hw (ar_88 hN) c2 dX6_lit_23 ?_
    refine lv_topi (fun x3 ex3 => ?_)
    have h := h x3 ex3
    refine lv_istore_n (lv' := [(3, .int x3), (0, .ref (yA Y 0)), (1, .int y1), (2, .int y2)]) hx hb dX6_lit_24 rfl hl (by decide) rfl (fun ls hl => ?_)
    refine lv_aload_n hx hb dX6_lit_25 rfl (lv_at hl 1 rfl) ?_
    refine q_get (v := .ref (yA Y 87)) M hw (ob_0 hN h0) rfl inq_6 8 (by decide) tw_265 rfl dX6_lit_26 ?_
    refine q_get (v := .ref (yA Y 89)) M hw (ob_87 hN) rfl inq_1 1 (by decide) tw_243 rfl dX6_lit_29 ?_
    refine lv_iload_n hx hb dX6_lit_32 rfl (lv_at hl 3 rfl) ?_
    have c4 := h.1
    have h := h.2
    refine q_ild M hw (ar_89 hN) c4 dX6_lit_33 ?_
    refine lv_topi (fun x5 ex5 => ?_)
    have h := h x5 ex5
    refine lv_istore (lv' := [(4, .int x5), (3, .int x3), (0, .ref (yA Y 0)), (1, .int y1), (2, .int y2)]) hx hb dX6_lit_34 hl (by decide) rfl (fun ls hl => ?_)
    refine lv_aload_n hx hb dX6_lit_36 rfl (lv_at hl 2 rfl) ?_
    refine q_get (v := .ref (yA Y 3)) M hw (ob_0 hN h0) rfl inq_6 1 (by decide) tw_258 rfl dX6_lit_37 ?_
    refine q_get (v := .ref (yA Y 8)) M hw (ph_ob (ph_3 hN)) rfl inq_3 4 (by decide) tw_115 rfl dX6_lit_40 ?_
    refine lv_iload hx hb dX6_lit_43 (lv_at hl 0 rfl) ?_
    have c6 := h.1
    have h := h.2
    refine q_zld M hw (ar_8 hN) c6 dX6_lit_45 ?_
    refine lv_if_eq (tgt := 53) hx hb dX6_lit_46 (by decide) (fun c7 => ?_) (fun c7 => ?_)
    · have h := h.1 c7
      refine lv_aload_n hx hb dX6_lit_53 rfl (lv_at hl 2 rfl) ?_
      refine q_get (v := .ref (yA Y 3)) M hw (ob_0 hN h0) rfl inq_6 1 (by decide) tw_258 rfl dX6_lit_54 ?_
      refine lv_iload hx hb dX6_lit_57 (lv_at hl 0 rfl) ?_
      refine q_goI hw (q_runV (rest := []) M hw (ctX3_moon l hB (ph_3 hN) x5 σ _ h) mbX3_moon (ph_ob (ph_3 hN)) rfl tw_394 rfl hl.1 rfl (Nat.le_of_ble_eq_true rfl) ⟨Nat.le_of_ble_eq_true rfl, Nat.le_of_ble_eq_true rfl⟩ ⟨Nat.le_refl _, Nat.le_refl _⟩ dX6_lit_59) (fun r9 σ8 H locs h hw => ?_)
      refine lv_aload_n hx hb dX6_lit_62 rfl (lv_at hl 2 rfl) ?_
      refine q_get (v := .ref (yA Y 3)) M hw (ob_0 hN h0) rfl inq_6 1 (by decide) tw_258 rfl dX6_lit_63 ?_
      refine q_get (v := .ref (yA Y 5)) M hw (ph_ob (ph_3 hN)) rfl inq_3 1 (by decide) tw_104 rfl dX6_lit_66 ?_
      refine lv_iload_n hx hb dX6_lit_69 rfl (lv_at hl 1 rfl) ?_
      have c10 := h.1
      have h := h.2
      refine q_ild M hw (ar_5 hN) c10 dX6_lit_70 ?_
      refine lv_imul hx hb dX6_lit_71 ?_
      exact tX6_lit_72 M hN h0 hR_4 y1 y2 x3 (r9 * (σ8.1 5 x3.toNatClampNeg)) σ8 _ _ _ hw (lv_sub hl [2, 3, 4, 1] rfl) h
    · have h := h.2 c7
      refine lv_iconst (v := 0) hx hb dX6_lit_49 (by decide) ?_
      refine lv_goto (tgt := 72) hx hb dX6_lit_50 (by decide) ?_
      exact tX6_lit_72 M hN h0 hR_4 y1 y2 x3 0 σ _ _ _ hw (lv_sub hl [2, 3, 4, 1] rfl) h
def lX6_lit_4 (Q : Int32 → St → Prop) : (Int32 × Int32 × St → Prop) → Int32 × Int32 × St → Prop := fun R a => bX6_lit_4 R a.1 a.2.1 a.2.2 Q
theorem tlX6_lit_4 {Q : Int32 → St → Prop} (M : MC p s m args meth c cX6_lit 6 (some .int) RX6 Y) (hN : yN Y = 108) (h0 : c0s Y 3 9) (n : Nat) : ∀ (y1 : Int32) (y2 : Int32) (σ : St) (H : Heap) (locs : List Loc) (ls : Array Slot) (hw : WS Y (AD Y) s.heap σ H locs) (hl : lv_has ls 6 [(0, .ref (yA Y 0)), (1, .int y1), (2, .int y2)]) (h : Lp (lX6_lit_4 Q) n (y1, y2, σ)), W p l e { frames := 1, cells := 0, slots := 0, locals := 22 } s m args below meth c H locs 0 0 (MQ below (QI Y Q) args s 0 0 (AD Y)) (F0 m 4 ls []) := by
  induction n with
  | zero => intro y1 y2 σ H locs ls hw hl h; exact h.elim
  | succ n ih =>
    intro y1 y2 σ H locs ls hw hl h
    exact tX6_lit_4 M hN h0 ih y1 y2 σ H locs ls hw hl h
def wX6_lit (σ : St) (Q : Int32 → St → Prop) : Prop :=
  ∃ n : Nat, Lp (lX6_lit_4 Q) n (0, 0, σ)
set_option maxHeartbeats 4000000 in
set_option maxRecDepth 100000 in
theorem tX6_lit_E {Q : Int32 → St → Prop} (M : MC p s m args meth c cX6_lit 6 (some .int) RX6 Y) (hN : yN Y = 108) (h0 : c0s Y 3 9)  (σ : St) (H : Heap) (locs : List Loc) (ls : Array Slot) (hw : WS Y (AD Y) s.heap σ H locs) (hl : lv_has ls 6 [(0, .ref (yA Y 0))]) (h : wX6_lit σ Q) : W p l e { frames := 1, cells := 0, slots := 0, locals := 22 } s m args below meth c H locs 0 0 (MQ below (QI Y Q) args s 0 0 (AD Y)) (F0 m 0 ls []) := by
  obtain ⟨hx, hb, hr, hml, hown, hlk, hT, hK, hB⟩ := id M
  unfold wX6_lit at h
  refine lv_iconst (v := 0) hx hb dX6_lit_0 (by decide) ?_
  refine lv_istore_n (lv' := [(1, .int 0), (0, .ref (yA Y 0))]) hx hb dX6_lit_1 rfl hl (by decide) rfl (fun ls hl => ?_)
  refine lv_iconst (v := 0) hx hb dX6_lit_2 (by decide) ?_
  refine lv_istore_n (lv' := [(2, .int 0), (1, .int 0), (0, .ref (yA Y 0))]) hx hb dX6_lit_3 rfl hl (by decide) rfl (fun ls hl => ?_)
  obtain ⟨n, h⟩ := h
  exact tlX6_lit_4 M hN h0 n 0 0 σ _ _ _ hw (lv_sub hl [2, 1, 0] rfl) h
set_option maxRecDepth 100000 in
theorem ctX6_lit (l : Launch) {Y : LY} (hB : YB Y) (hN : yN Y = 108) (h0 : c0s Y 3 9) (σ : St) (Q : Int32 → St → Prop) (h : wX6_lit σ Q) : CT l yX6_lit (Cond.code yX6_lit cX6_lit 6 (some .int)) { frames := 1, cells := 0, slots := 0, locals := 22 } Y [.ref (yA Y 0)] σ (QI Y Q) :=
  q_ent hB (by decide +kernel) (Nat.le_of_ble_eq_true rfl) (fun p e s m below meth c ls M hw hl => tX6_lit_E M hN h0 σ _ _ ls hw hl h)
theorem mbX6_lit : MB RX6 yX6_lit cX6_lit 0 6 (some .int) := ⟨tw_557, tw_558, tw_49, tw_559, by decide +kernel⟩
end
section
variable {p : Program} {l : Launch} {e : Env} {s : State} {m : MethodId} {args : Array Value} {below : List Frame} {meth : Method} {c : Code} {Y : LY}
theorem dX6_sharedWithTen_0 : decode cX6_sharedWithTen 0 = .ok (.iload_n 0, 1) := by decide +kernel
theorem dX6_sharedWithTen_1 : decode cX6_sharedWithTen 1 = .ok (.bipush 10, 2) := by decide +kernel
theorem dX6_sharedWithTen_3 : decode cX6_sharedWithTen 3 = .ok (.irem, 1) := by decide +kernel
theorem dX6_sharedWithTen_4 : decode cX6_sharedWithTen 4 = .ok (.ifCond .ne 6, 3) := by decide +kernel
theorem dX6_sharedWithTen_7 : decode cX6_sharedWithTen 7 = .ok (.bipush 10, 2) := by decide +kernel
theorem dX6_sharedWithTen_9 : decode cX6_sharedWithTen 9 = .ok (.ireturn, 1) := by decide +kernel
theorem dX6_sharedWithTen_10 : decode cX6_sharedWithTen 10 = .ok (.iload_n 0, 1) := by decide +kernel
theorem dX6_sharedWithTen_11 : decode cX6_sharedWithTen 11 = .ok (.iconst 5, 1) := by decide +kernel
theorem dX6_sharedWithTen_12 : decode cX6_sharedWithTen 12 = .ok (.irem, 1) := by decide +kernel
theorem dX6_sharedWithTen_13 : decode cX6_sharedWithTen 13 = .ok (.ifCond .ne 5, 3) := by decide +kernel
theorem dX6_sharedWithTen_16 : decode cX6_sharedWithTen 16 = .ok (.iconst 5, 1) := by decide +kernel
theorem dX6_sharedWithTen_17 : decode cX6_sharedWithTen 17 = .ok (.ireturn, 1) := by decide +kernel
theorem dX6_sharedWithTen_18 : decode cX6_sharedWithTen 18 = .ok (.iload_n 0, 1) := by decide +kernel
theorem dX6_sharedWithTen_19 : decode cX6_sharedWithTen 19 = .ok (.iconst 2, 1) := by decide +kernel
theorem dX6_sharedWithTen_20 : decode cX6_sharedWithTen 20 = .ok (.irem, 1) := by decide +kernel
theorem dX6_sharedWithTen_21 : decode cX6_sharedWithTen 21 = .ok (.ifCond .ne 7, 3) := by decide +kernel
theorem dX6_sharedWithTen_24 : decode cX6_sharedWithTen 24 = .ok (.iconst 2, 1) := by decide +kernel
theorem dX6_sharedWithTen_25 : decode cX6_sharedWithTen 25 = .ok (.goto 4, 3) := by decide +kernel
theorem dX6_sharedWithTen_28 : decode cX6_sharedWithTen 28 = .ok (.iconst 1, 1) := by decide +kernel
theorem dX6_sharedWithTen_29 : decode cX6_sharedWithTen 29 = .ok (.ireturn, 1) := by decide +kernel
def wX6_sharedWithTen (a0 : Int32) (σ : St) (Q : Int32 → St → Prop) : Prop :=
  (((a0 - a0 / 10 * 10) = 0 → Q 10 σ) ∧ (¬ (a0 - a0 / 10 * 10) = 0 → (((a0 - a0 / 5 * 5) = 0 → Q 5 σ) ∧ (¬ (a0 - a0 / 5 * 5) = 0 → (((a0 - a0 / 2 * 2) = 0 → Q 2 σ) ∧ (¬ (a0 - a0 / 2 * 2) = 0 → Q 1 σ))))))
set_option maxHeartbeats 4000000 in
set_option maxRecDepth 100000 in
theorem tX6_sharedWithTen_E {Q : Int32 → St → Prop} (M : MC p s m args meth c cX6_sharedWithTen 1 (some .int) RX6 Y)  (a0 : Int32) (σ : St) (H : Heap) (locs : List Loc) (ls : Array Slot) (hw : WS Y (AD Y) s.heap σ H locs) (hl : lv_has ls 1 [(0, .int a0)]) (h : wX6_sharedWithTen a0 σ Q) : W p l e { frames := 0, cells := 0, slots := 0, locals := 0 } s m args below meth c H locs 0 0 (MQ below (QI Y Q) args s 0 0 (AD Y)) (F0 m 0 ls []) := by
  obtain ⟨hx, hb, hr, hml, hown, hlk, hT, hK, hB⟩ := id M
  unfold wX6_sharedWithTen at h
  refine lv_iload_n hx hb dX6_sharedWithTen_0 rfl (lv_at hl 0 rfl) ?_
  refine lv_bipush (v := 10) hx hb dX6_sharedWithTen_1 (by decide) ?_
  refine lv_irem hx hb dX6_sharedWithTen_3 (by decide) ?_
  refine lv_if_ne (tgt := 10) hx hb dX6_sharedWithTen_4 (by decide) (fun c1 => ?_) (fun c1 => ?_)
  · have h := h.2 c1
    refine lv_iload_n hx hb dX6_sharedWithTen_10 rfl (lv_at hl 0 rfl) ?_
    refine lv_iconst (v := 5) hx hb dX6_sharedWithTen_11 (by decide) ?_
    refine lv_irem hx hb dX6_sharedWithTen_12 (by decide) ?_
    refine lv_if_ne (tgt := 18) hx hb dX6_sharedWithTen_13 (by decide) (fun c2 => ?_) (fun c2 => ?_)
    · have h := h.2 c2
      refine lv_iload_n hx hb dX6_sharedWithTen_18 rfl (lv_at hl 0 rfl) ?_
      refine lv_iconst (v := 2) hx hb dX6_sharedWithTen_19 (by decide) ?_
      refine lv_irem hx hb dX6_sharedWithTen_20 (by decide) ?_
      refine lv_if_ne (tgt := 28) hx hb dX6_sharedWithTen_21 (by decide) (fun c3 => ?_) (fun c3 => ?_)
      · have h := h.2 c3
        refine lv_iconst (v := 1) hx hb dX6_sharedWithTen_28 (by decide) ?_
        exact q_iret M hw h dX6_sharedWithTen_29
      · have h := h.1 c3
        refine lv_iconst (v := 2) hx hb dX6_sharedWithTen_24 (by decide) ?_
        refine lv_goto (tgt := 29) hx hb dX6_sharedWithTen_25 (by decide) ?_
        exact q_iret M hw h dX6_sharedWithTen_29
    · have h := h.1 c2
      refine lv_iconst (v := 5) hx hb dX6_sharedWithTen_16 (by decide) ?_
      exact q_iret M hw h dX6_sharedWithTen_17
  · have h := h.1 c1
    refine lv_bipush (v := 10) hx hb dX6_sharedWithTen_7 (by decide) ?_
    exact q_iret M hw h dX6_sharedWithTen_9
set_option maxRecDepth 100000 in
theorem ctX6_sharedWithTen (l : Launch) {Y : LY} (hB : YB Y) (a0 : Int32) (σ : St) (Q : Int32 → St → Prop) (h : wX6_sharedWithTen a0 σ Q) : CT l yX6_sharedWithTen (Cond.code yX6_sharedWithTen cX6_sharedWithTen 1 (some .int)) { frames := 0, cells := 0, slots := 0, locals := 0 } Y [.int a0] σ (QI Y Q) :=
  q_ent hB (by decide +kernel) (Nat.le_of_ble_eq_true rfl) (fun p e s m below meth c ls M hw hl => tX6_sharedWithTen_E M a0 σ _ _ ls hw hl h)
theorem mbX6_sharedWithTen : MBS yX6_sharedWithTen cX6_sharedWithTen 1 1 (some .int) := ⟨tw_565, tw_49, tw_566, by decide +kernel⟩
end
section
variable {p : Program} {l : Launch} {e : Env} {s : State} {m : MethodId} {args : Array Value} {below : List Frame} {meth : Method} {c : Code} {Y : LY}
theorem dX6_mean_0 : decode cX6_mean 0 = .ok (.aload_n 0, 1) := by decide +kernel
theorem dX6_mean_1 : decode cX6_mean 1 = .ok (.iload_n 1, 1) := by decide +kernel
theorem dX6_mean_2 : decode cX6_mean 2 = .ok (.invokevirtual 92, 3) := by decide +kernel
theorem dX6_mean_5 : decode cX6_mean 5 = .ok (.ifCond .eq 22, 3) := by decide +kernel
theorem dX6_mean_8 : decode cX6_mean 8 = .ok (.iload_n 2, 1) := by decide +kernel
theorem dX6_mean_9 : decode cX6_mean 9 = .ok (.ifCond .lt 18, 3) := by decide +kernel
theorem dX6_mean_12 : decode cX6_mean 12 = .ok (.iload_n 2, 1) := by decide +kernel
theorem dX6_mean_13 : decode cX6_mean 13 = .ok (.bipush 10, 2) := by decide +kernel
theorem dX6_mean_15 : decode cX6_mean 15 = .ok (.if_icmp .gt 12, 3) := by decide +kernel
theorem dX6_mean_18 : decode cX6_mean 18 = .ok (.iload_n 3, 1) := by decide +kernel
theorem dX6_mean_19 : decode cX6_mean 19 = .ok (.ifCond .eq 10, 3) := by decide +kernel
theorem dX6_mean_22 : decode cX6_mean 22 = .ok (.iload_n 3, 1) := by decide +kernel
theorem dX6_mean_23 : decode cX6_mean 23 = .ok (.iconst 1, 1) := by decide +kernel
theorem dX6_mean_24 : decode cX6_mean 24 = .ok (.if_icmp .eq 5, 3) := by decide +kernel
theorem dX6_mean_27 : decode cX6_mean 27 = .ok (.iconst (-1), 1) := by decide +kernel
theorem dX6_mean_28 : decode cX6_mean 28 = .ok (.ireturn, 1) := by decide +kernel
theorem dX6_mean_29 : decode cX6_mean 29 = .ok (.iconst 0, 1) := by decide +kernel
theorem dX6_mean_30 : decode cX6_mean 30 = .ok (.istore 4, 2) := by decide +kernel
theorem dX6_mean_32 : decode cX6_mean 32 = .ok (.aload_n 0, 1) := by decide +kernel
theorem dX6_mean_33 : decode cX6_mean 33 = .ok (.getfield 36, 3) := by decide +kernel
theorem dX6_mean_36 : decode cX6_mean 36 = .ok (.getfield 133, 3) := by decide +kernel
theorem dX6_mean_39 : decode cX6_mean 39 = .ok (.istore 5, 2) := by decide +kernel
theorem dX6_mean_41 : decode cX6_mean 41 = .ok (.iload 5, 2) := by decide +kernel
theorem dX6_mean_43 : decode cX6_mean 43 = .ok (.aload_n 0, 1) := by decide +kernel
theorem dX6_mean_44 : decode cX6_mean 44 = .ok (.getfield 19, 3) := by decide +kernel
theorem dX6_mean_47 : decode cX6_mean 47 = .ok (.getfield 221, 3) := by decide +kernel
theorem dX6_mean_50 : decode cX6_mean 50 = .ok (.if_icmp .ge 52, 3) := by decide +kernel
theorem dX6_mean_53 : decode cX6_mean 53 = .ok (.iload 4, 2) := by decide +kernel
theorem dX6_mean_55 : decode cX6_mean 55 = .ok (.aload_n 0, 1) := by decide +kernel
theorem dX6_mean_56 : decode cX6_mean 56 = .ok (.getfield 19, 3) := by decide +kernel
theorem dX6_mean_59 : decode cX6_mean 59 = .ok (.getfield 130, 3) := by decide +kernel
theorem dX6_mean_62 : decode cX6_mean 62 = .ok (.iload 5, 2) := by decide +kernel
theorem dX6_mean_64 : decode cX6_mean 64 = .ok (.baload, 1) := by decide +kernel
theorem dX6_mean_65 : decode cX6_mean 65 = .ok (.ifCond .eq 7, 3) := by decide +kernel
theorem dX6_mean_68 : decode cX6_mean 68 = .ok (.iconst 0, 1) := by decide +kernel
theorem dX6_mean_69 : decode cX6_mean 69 = .ok (.goto 24, 3) := by decide +kernel
theorem dX6_mean_72 : decode cX6_mean 72 = .ok (.aload_n 0, 1) := by decide +kernel
theorem dX6_mean_73 : decode cX6_mean 73 = .ok (.getfield 19, 3) := by decide +kernel
theorem dX6_mean_76 : decode cX6_mean 76 = .ok (.iload 5, 2) := by decide +kernel
theorem dX6_mean_78 : decode cX6_mean 78 = .ok (.invokevirtual 126, 3) := by decide +kernel
theorem dX6_mean_81 : decode cX6_mean 81 = .ok (.aload_n 0, 1) := by decide +kernel
theorem dX6_mean_82 : decode cX6_mean 82 = .ok (.getfield 19, 3) := by decide +kernel
theorem dX6_mean_85 : decode cX6_mean 85 = .ok (.getfield 99, 3) := by decide +kernel
theorem dX6_mean_88 : decode cX6_mean 88 = .ok (.iload_n 1, 1) := by decide +kernel
theorem dX6_mean_89 : decode cX6_mean 89 = .ok (.iaload, 1) := by decide +kernel
theorem dX6_mean_90 : decode cX6_mean 90 = .ok (.imul, 1) := by decide +kernel
theorem dX6_mean_91 : decode cX6_mean 91 = .ok (.iload_n 2, 1) := by decide +kernel
theorem dX6_mean_92 : decode cX6_mean 92 = .ok (.imul, 1) := by decide +kernel
theorem dX6_mean_93 : decode cX6_mean 93 = .ok (.iadd, 1) := by decide +kernel
theorem dX6_mean_94 : decode cX6_mean 94 = .ok (.istore 4, 2) := by decide +kernel
theorem dX6_mean_96 : decode cX6_mean 96 = .ok (.iinc 5 1, 3) := by decide +kernel
theorem dX6_mean_99 : decode cX6_mean 99 = .ok (.goto (-58), 3) := by decide +kernel
theorem dX6_mean_102 : decode cX6_mean 102 = .ok (.iload 4, 2) := by decide +kernel
theorem dX6_mean_104 : decode cX6_mean 104 = .ok (.invokestatic 224, 3) := by decide +kernel
theorem dX6_mean_107 : decode cX6_mean 107 = .ok (.istore 5, 2) := by decide +kernel
theorem dX6_mean_109 : decode cX6_mean 109 = .ok (.iload_n 3, 1) := by decide +kernel
theorem dX6_mean_110 : decode cX6_mean 110 = .ok (.ifCond .ne 11, 3) := by decide +kernel
theorem dX6_mean_113 : decode cX6_mean 113 = .ok (.iload 4, 2) := by decide +kernel
theorem dX6_mean_115 : decode cX6_mean 115 = .ok (.iload 5, 2) := by decide +kernel
theorem dX6_mean_117 : decode cX6_mean 117 = .ok (.idiv, 1) := by decide +kernel
theorem dX6_mean_118 : decode cX6_mean 118 = .ok (.goto 8, 3) := by decide +kernel
theorem dX6_mean_121 : decode cX6_mean 121 = .ok (.bipush 10, 2) := by decide +kernel
theorem dX6_mean_123 : decode cX6_mean 123 = .ok (.iload 5, 2) := by decide +kernel
theorem dX6_mean_125 : decode cX6_mean 125 = .ok (.idiv, 1) := by decide +kernel
theorem dX6_mean_126 : decode cX6_mean 126 = .ok (.ireturn, 1) := by decide +kernel
def bX6_mean_93 (R_41 : Int32 × Int32 × Int32 × Int32 × Int32 × St → Prop) (y1 : Int32) (y2 : Int32) (y3 : Int32) (y5 : Int32) (z0 : Int32) (z1 : Int32) (σ : St) (Q : Int32 → St → Prop) : Prop :=
  (∀ x1 : Int32, x1 = (z1 + z0) → (∀ x2 : Int32, x2 = y5 + 1 → R_41 (y1, y2, y3, x1, x2, σ)))
set_option maxHeartbeats 4000000 in
set_option maxRecDepth 100000 in
theorem tX6_mean_93 {R_41 : Int32 × Int32 × Int32 × Int32 × Int32 × St → Prop} {Q : Int32 → St → Prop} (M : MC p s m args meth c cX6_mean 6 (some .int) RX6 Y) (hN : yN Y = 108) (h0 : c0s Y 3 9) (hR_41 : ∀ (y1 y2 y3 y4 y5 : Int32) (σ : St) (H : Heap) (locs : List Loc) (ls : Array Slot), WS Y (AD Y) s.heap σ H locs → lv_has ls 6 [(0, .ref (yA Y 0)), (1, .int y1), (2, .int y2), (3, .int y3), (4, .int y4), (5, .int y5)] → R_41 (y1, y2, y3, y4, y5, σ) → W p l e { frames := 1, cells := 0, slots := 0, locals := 22 } s m args below meth c H locs 0 0 (MQ below (QI Y Q) args s 0 0 (AD Y)) (F0 m 41 ls [])) (y1 : Int32) (y2 : Int32) (y3 : Int32) (y5 : Int32) (z0 : Int32) (z1 : Int32) (σ : St) (H : Heap) (locs : List Loc) (ls : Array Slot) (hw : WS Y (AD Y) s.heap σ H locs) (hl : lv_has ls 6 [(0, .ref (yA Y 0)), (1, .int y1), (2, .int y2), (3, .int y3), (5, .int y5)]) (h : bX6_mean_93 R_41 y1 y2 y3 y5 z0 z1 σ Q) : W p l e { frames := 1, cells := 0, slots := 0, locals := 22 } s m args below meth c H locs 0 0 (MQ below (QI Y Q) args s 0 0 (AD Y)) (F0 m 93 ls [.int z0, .int z1]) := by
  obtain ⟨hx, hb, hr, hml, hown, hlk, hT, hK, hB⟩ := id M
  unfold bX6_mean_93 at h
  refine lv_iadd hx hb dX6_mean_93 ?_
  refine lv_topi (fun x1 ex1 => ?_)
  have h := h x1 ex1
  refine lv_istore (lv' := [(4, .int x1), (0, .ref (yA Y 0)), (1, .int y1), (2, .int y2), (3, .int y3), (5, .int y5)]) hx hb dX6_mean_94 hl (by decide) rfl (fun ls hl => ?_)
  obtain ⟨x2, ex2⟩ : ∃ y : Int32, y = y5 + 1 := ⟨_, rfl⟩
  have h := h x2 ex2
  refine lv_iinc (v := x2) (lv' := [(5, .int x2), (4, .int x1), (0, .ref (yA Y 0)), (1, .int y1), (2, .int y2), (3, .int y3)]) hx hb dX6_mean_96 hl (k := 5) rfl (by rw [ex2]; rfl) (by decide) rfl (fun ls hl => ?_)
  refine lv_goto (tgt := 41) hx hb dX6_mean_99 (by decide) ?_
  exact hR_41 y1 y2 y3 x1 x2 σ _ _ _ hw (lv_sub hl [2, 3, 4, 5, 1, 0] rfl) h
def bX6_mean_41 (R_41 : Int32 × Int32 × Int32 × Int32 × Int32 × St → Prop) (y1 : Int32) (y2 : Int32) (y3 : Int32) (y4 : Int32) (y5 : Int32) (σ : St) (Q : Int32 → St → Prop) : Prop :=
  (((σ.1 3 8) ≤ y5 → wX6_sharedWithTen y4 σ (fun r3 σ2 => ((y3 = 0 → (¬ r3 = 0 ∧ Q (y4 / r3) σ2)) ∧ (¬ y3 = 0 → (¬ r3 = 0 ∧ Q (10 / r3) σ2))))) ∧ (¬ (σ.1 3 8) ≤ y5 → (vp_in y5 100 ∧ (((σ.1 8 y5.toNatClampNeg) = 0 → wX3_moon 3 y5 σ (fun r10 σ9 => (vp_in y1 5 ∧ bX6_mean_93 R_41 y1 y2 y3 y5 ((r10 * (σ9.1 5 y1.toNatClampNeg)) * y2) y4 σ9 Q))) ∧ (¬ (σ.1 8 y5.toNatClampNeg) = 0 → bX6_mean_93 R_41 y1 y2 y3 y5 0 y4 σ Q)))))
set_option maxHeartbeats 4000000 in
set_option maxRecDepth 100000 in
theorem tX6_mean_41 {R_41 : Int32 × Int32 × Int32 × Int32 × Int32 × St → Prop} {Q : Int32 → St → Prop} (M : MC p s m args meth c cX6_mean 6 (some .int) RX6 Y) (hN : yN Y = 108) (h0 : c0s Y 3 9) (hR_41 : ∀ (y1 y2 y3 y4 y5 : Int32) (σ : St) (H : Heap) (locs : List Loc) (ls : Array Slot), WS Y (AD Y) s.heap σ H locs → lv_has ls 6 [(0, .ref (yA Y 0)), (1, .int y1), (2, .int y2), (3, .int y3), (4, .int y4), (5, .int y5)] → R_41 (y1, y2, y3, y4, y5, σ) → W p l e { frames := 1, cells := 0, slots := 0, locals := 22 } s m args below meth c H locs 0 0 (MQ below (QI Y Q) args s 0 0 (AD Y)) (F0 m 41 ls [])) (y1 : Int32) (y2 : Int32) (y3 : Int32) (y4 : Int32) (y5 : Int32) (σ : St) (H : Heap) (locs : List Loc) (ls : Array Slot) (hw : WS Y (AD Y) s.heap σ H locs) (hl : lv_has ls 6 [(0, .ref (yA Y 0)), (1, .int y1), (2, .int y2), (3, .int y3), (4, .int y4), (5, .int y5)]) (h : bX6_mean_41 R_41 y1 y2 y3 y4 y5 σ Q) : W p l e { frames := 1, cells := 0, slots := 0, locals := 22 } s m args below meth c H locs 0 0 (MQ below (QI Y Q) args s 0 0 (AD Y)) (F0 m 41 ls []) := by
  obtain ⟨hx, hb, hr, hml, hown, hlk, hT, hK, hB⟩ := id M
  unfold bX6_mean_41 at h
  refine lv_iload hx hb dX6_mean_41 (lv_at hl 5 rfl) ?_
  refine lv_aload_n hx hb dX6_mean_43 rfl (lv_at hl 0 rfl) ?_
  refine q_get (v := .ref (yA Y 3)) M hw (ob_0 hN h0) rfl inq_6 1 (by decide) tw_258 rfl dX6_mean_44 ?_
  refine q_get (v := .int (σ.1 3 8)) M hw (ph_ob (ph_3 hN)) rfl inq_3 8 (by decide) tw_129 rfl dX6_mean_47 ?_
  refine lv_icmp_ge (tgt := 102) hx hb dX6_mean_50 (by decide) (fun c1 => ?_) (fun c1 => ?_)
  · have h := h.1 c1
    refine lv_iload hx hb dX6_mean_102 (lv_at hl 4 rfl) ?_
    refine q_goI hw (q_runS (rest := []) M hw (ctX6_sharedWithTen l hB y4 σ _ h) mbX6_sharedWithTen tw_564 rfl hl.1 rfl (Nat.le_of_ble_eq_true rfl) ⟨Nat.le_of_ble_eq_true rfl, Nat.le_of_ble_eq_true rfl⟩ ⟨Nat.le_refl _, Nat.le_refl _⟩ dX6_mean_104) (fun r3 σ2 H locs h hw => ?_)
    refine lv_istore (lv' := [(5, .int r3), (0, .ref (yA Y 0)), (1, .int y1), (2, .int y2), (3, .int y3), (4, .int y4)]) hx hb dX6_mean_107 hl (by decide) rfl (fun ls hl => ?_)
    refine lv_iload_n hx hb dX6_mean_109 rfl (lv_at hl 4 rfl) ?_
    refine lv_if_ne (tgt := 121) hx hb dX6_mean_110 (by decide) (fun c4 => ?_) (fun c4 => ?_)
    · have h := h.2 c4
      refine lv_bipush (v := 10) hx hb dX6_mean_121 (by decide) ?_
      refine lv_iload hx hb dX6_mean_123 (lv_at hl 0 rfl) ?_
      have c5 := h.1
      have h := h.2
      refine lv_idiv hx hb dX6_mean_125 c5 ?_
      exact q_iret M hw h dX6_mean_126
    · have h := h.1 c4
      refine lv_iload hx hb dX6_mean_113 (lv_at hl 5 rfl) ?_
      refine lv_iload hx hb dX6_mean_115 (lv_at hl 0 rfl) ?_
      have c6 := h.1
      have h := h.2
      refine lv_idiv hx hb dX6_mean_117 c6 ?_
      refine lv_goto (tgt := 126) hx hb dX6_mean_118 (by decide) ?_
      exact q_iret M hw h dX6_mean_126
  · have h := h.2 c1
    refine lv_iload hx hb dX6_mean_53 (lv_at hl 4 rfl) ?_
    refine lv_aload_n hx hb dX6_mean_55 rfl (lv_at hl 0 rfl) ?_
    refine q_get (v := .ref (yA Y 3)) M hw (ob_0 hN h0) rfl inq_6 1 (by decide) tw_258 rfl dX6_mean_56 ?_
    refine q_get (v := .ref (yA Y 8)) M hw (ph_ob (ph_3 hN)) rfl inq_3 4 (by decide) tw_115 rfl dX6_mean_59 ?_
    refine lv_iload hx hb dX6_mean_62 (lv_at hl 5 rfl) ?_
    have c7 := h.1
    have h := h.2
    refine q_zld M hw (ar_8 hN) c7 dX6_mean_64 ?_
    refine lv_if_eq (tgt := 72) hx hb dX6_mean_65 (by decide) (fun c8 => ?_) (fun c8 => ?_)
    · have h := h.1 c8
      refine lv_aload_n hx hb dX6_mean_72 rfl (lv_at hl 0 rfl) ?_
      refine q_get (v := .ref (yA Y 3)) M hw (ob_0 hN h0) rfl inq_6 1 (by decide) tw_258 rfl dX6_mean_73 ?_
      refine lv_iload hx hb dX6_mean_76 (lv_at hl 5 rfl) ?_
      refine q_goI hw (q_runV (rest := [.int y4]) M hw (ctX3_moon l hB (ph_3 hN) y5 σ _ h) mbX3_moon (ph_ob (ph_3 hN)) rfl tw_394 rfl hl.1 rfl (Nat.le_of_ble_eq_true rfl) ⟨Nat.le_of_ble_eq_true rfl, Nat.le_of_ble_eq_true rfl⟩ ⟨Nat.le_refl _, Nat.le_refl _⟩ dX6_mean_78) (fun r10 σ9 H locs h hw => ?_)
      refine lv_aload_n hx hb dX6_mean_81 rfl (lv_at hl 0 rfl) ?_
      refine q_get (v := .ref (yA Y 3)) M hw (ob_0 hN h0) rfl inq_6 1 (by decide) tw_258 rfl dX6_mean_82 ?_
      refine q_get (v := .ref (yA Y 5)) M hw (ph_ob (ph_3 hN)) rfl inq_3 1 (by decide) tw_104 rfl dX6_mean_85 ?_
      refine lv_iload_n hx hb dX6_mean_88 rfl (lv_at hl 1 rfl) ?_
      have c11 := h.1
      have h := h.2
      refine q_ild M hw (ar_5 hN) c11 dX6_mean_89 ?_
      refine lv_imul hx hb dX6_mean_90 ?_
      refine lv_iload_n hx hb dX6_mean_91 rfl (lv_at hl 2 rfl) ?_
      refine lv_imul hx hb dX6_mean_92 ?_
      exact tX6_mean_93 M hN h0 hR_41 y1 y2 y3 y5 ((r10 * (σ9.1 5 y1.toNatClampNeg)) * y2) y4 σ9 _ _ _ hw (lv_sub hl [0, 1, 2, 3, 5] rfl) h
    · have h := h.2 c8
      refine lv_iconst (v := 0) hx hb dX6_mean_68 (by decide) ?_
      refine lv_goto (tgt := 93) hx hb dX6_mean_69 (by decide) ?_
      exact tX6_mean_93 M hN h0 hR_41 y1 y2 y3 y5 0 y4 σ _ _ _ hw (lv_sub hl [0, 1, 2, 3, 5] rfl) h
def lX6_mean_41 (Q : Int32 → St → Prop) : (Int32 × Int32 × Int32 × Int32 × Int32 × St → Prop) → Int32 × Int32 × Int32 × Int32 × Int32 × St → Prop := fun R a => bX6_mean_41 R a.1 a.2.1 a.2.2.1 a.2.2.2.1 a.2.2.2.2.1 a.2.2.2.2.2 Q
theorem tlX6_mean_41 {Q : Int32 → St → Prop} (M : MC p s m args meth c cX6_mean 6 (some .int) RX6 Y) (hN : yN Y = 108) (h0 : c0s Y 3 9) (n : Nat) : ∀ (y1 : Int32) (y2 : Int32) (y3 : Int32) (y4 : Int32) (y5 : Int32) (σ : St) (H : Heap) (locs : List Loc) (ls : Array Slot) (hw : WS Y (AD Y) s.heap σ H locs) (hl : lv_has ls 6 [(0, .ref (yA Y 0)), (1, .int y1), (2, .int y2), (3, .int y3), (4, .int y4), (5, .int y5)]) (h : Lp (lX6_mean_41 Q) n (y1, y2, y3, y4, y5, σ)), W p l e { frames := 1, cells := 0, slots := 0, locals := 22 } s m args below meth c H locs 0 0 (MQ below (QI Y Q) args s 0 0 (AD Y)) (F0 m 41 ls []) := by
  induction n with
  | zero => intro y1 y2 y3 y4 y5 σ H locs ls hw hl h; exact h.elim
  | succ n ih =>
    intro y1 y2 y3 y4 y5 σ H locs ls hw hl h
    exact tX6_mean_41 M hN h0 ih y1 y2 y3 y4 y5 σ H locs ls hw hl h
def bX6_mean_29 (y1 : Int32) (y2 : Int32) (y3 : Int32) (σ : St) (Q : Int32 → St → Prop) : Prop :=
  (∀ x1 : Int32, x1 = (σ.1 18 4) → ∃ n : Nat, Lp (lX6_mean_41 Q) n (y1, y2, y3, 0, x1, σ))
set_option maxHeartbeats 4000000 in
set_option maxRecDepth 100000 in
theorem tX6_mean_29 {Q : Int32 → St → Prop} (M : MC p s m args meth c cX6_mean 6 (some .int) RX6 Y) (hN : yN Y = 108) (h0 : c0s Y 3 9) (y1 : Int32) (y2 : Int32) (y3 : Int32) (σ : St) (H : Heap) (locs : List Loc) (ls : Array Slot) (hw : WS Y (AD Y) s.heap σ H locs) (hl : lv_has ls 6 [(0, .ref (yA Y 0)), (1, .int y1), (2, .int y2), (3, .int y3)]) (h : bX6_mean_29 y1 y2 y3 σ Q) : W p l e { frames := 1, cells := 0, slots := 0, locals := 22 } s m args below meth c H locs 0 0 (MQ below (QI Y Q) args s 0 0 (AD Y)) (F0 m 29 ls []) := by
  obtain ⟨hx, hb, hr, hml, hown, hlk, hT, hK, hB⟩ := id M
  unfold bX6_mean_29 at h
  refine lv_iconst (v := 0) hx hb dX6_mean_29 (by decide) ?_
  refine lv_istore (lv' := [(4, .int 0), (0, .ref (yA Y 0)), (1, .int y1), (2, .int y2), (3, .int y3)]) hx hb dX6_mean_30 hl (by decide) rfl (fun ls hl => ?_)
  refine lv_aload_n hx hb dX6_mean_32 rfl (lv_at hl 1 rfl) ?_
  refine q_get (v := .ref (yA Y 18)) M hw (ob_0 hN h0) rfl inq_6 4 (by decide) tw_261 rfl dX6_mean_33 ?_
  refine q_get (v := .int (σ.1 18 4)) M hw (sh_ob (sh_18 hN)) rfl inq_4 4 (by decide) tw_194 rfl dX6_mean_36 ?_
  refine lv_topi (fun x1 ex1 => ?_)
  have h := h x1 ex1
  refine lv_istore (lv' := [(5, .int x1), (4, .int 0), (0, .ref (yA Y 0)), (1, .int y1), (2, .int y2), (3, .int y3)]) hx hb dX6_mean_39 hl (by decide) rfl (fun ls hl => ?_)
  obtain ⟨n, h⟩ := h
  exact tlX6_mean_41 M hN h0 n y1 y2 y3 0 x1 σ _ _ _ hw (lv_sub hl [2, 3, 4, 5, 1, 0] rfl) h
def wX6_mean (a0 : Int32) (a1 : Int32) (a2 : Int32) (σ : St) (Q : Int32 → St → Prop) : Prop :=
  wX6_isFarmer a0 σ (fun r2 σ1 => ((r2 = 0 → Q (-1) σ1) ∧ (¬ r2 = 0 → ((a1 < 0 → Q (-1) σ1) ∧ (¬ a1 < 0 → ((10 < a1 → Q (-1) σ1) ∧ (¬ 10 < a1 → ((a2 = 0 → bX6_mean_29 a0 a1 a2 σ1 Q) ∧ (¬ a2 = 0 → ((a2 = 1 → bX6_mean_29 a0 a1 a2 σ1 Q) ∧ (¬ a2 = 1 → Q (-1) σ1)))))))))))
set_option maxHeartbeats 4000000 in
set_option maxRecDepth 100000 in
theorem tX6_mean_E {Q : Int32 → St → Prop} (M : MC p s m args meth c cX6_mean 6 (some .int) RX6 Y) (hN : yN Y = 108) (h0 : c0s Y 3 9) (a0 : Int32) (a1 : Int32) (a2 : Int32) (σ : St) (H : Heap) (locs : List Loc) (ls : Array Slot) (hw : WS Y (AD Y) s.heap σ H locs) (hl : lv_has ls 6 [(0, .ref (yA Y 0)), (1, .int a0), (2, .int a1), (3, .int a2)]) (h : wX6_mean a0 a1 a2 σ Q) : W p l e { frames := 1, cells := 0, slots := 0, locals := 22 } s m args below meth c H locs 0 0 (MQ below (QI Y Q) args s 0 0 (AD Y)) (F0 m 0 ls []) := by
  obtain ⟨hx, hb, hr, hml, hown, hlk, hT, hK, hB⟩ := id M
  unfold wX6_mean at h
  refine lv_aload_n hx hb dX6_mean_0 rfl (lv_at hl 0 rfl) ?_
  refine lv_iload_n hx hb dX6_mean_1 rfl (lv_at hl 1 rfl) ?_
  refine q_goI hw (q_runV (rest := []) M hw (ctX6_isFarmer l hB hN h0 a0 σ _ h) mbX6_isFarmer (ob_0 hN h0) rfl tw_367 rfl hl.1 rfl (Nat.le_of_ble_eq_true rfl) ⟨Nat.le_of_ble_eq_true rfl, Nat.le_of_ble_eq_true rfl⟩ ⟨Nat.le_refl _, Nat.le_refl _⟩ dX6_mean_2) (fun r2 σ1 H locs h hw => ?_)
  refine lv_if_eq (tgt := 27) hx hb dX6_mean_5 (by decide) (fun c3 => ?_) (fun c3 => ?_)
  · have h := h.1 c3
    refine lv_iconst (v := (-1)) hx hb dX6_mean_27 (by decide) ?_
    exact q_iret M hw h dX6_mean_28
  · have h := h.2 c3
    refine lv_iload_n hx hb dX6_mean_8 rfl (lv_at hl 2 rfl) ?_
    refine lv_if_lt (tgt := 27) hx hb dX6_mean_9 (by decide) (fun c4 => ?_) (fun c4 => ?_)
    · have h := h.1 c4
      refine lv_iconst (v := (-1)) hx hb dX6_mean_27 (by decide) ?_
      exact q_iret M hw h dX6_mean_28
    · have h := h.2 c4
      refine lv_iload_n hx hb dX6_mean_12 rfl (lv_at hl 2 rfl) ?_
      refine lv_bipush (v := 10) hx hb dX6_mean_13 (by decide) ?_
      refine lv_icmp_gt (tgt := 27) hx hb dX6_mean_15 (by decide) (fun c5 => ?_) (fun c5 => ?_)
      · have h := h.1 c5
        refine lv_iconst (v := (-1)) hx hb dX6_mean_27 (by decide) ?_
        exact q_iret M hw h dX6_mean_28
      · have h := h.2 c5
        refine lv_iload_n hx hb dX6_mean_18 rfl (lv_at hl 3 rfl) ?_
        refine lv_if_eq (tgt := 29) hx hb dX6_mean_19 (by decide) (fun c6 => ?_) (fun c6 => ?_)
        · have h := h.1 c6
          exact tX6_mean_29 M hN h0 a0 a1 a2 σ1 _ _ _ hw (lv_sub hl [0, 1, 2, 3] rfl) h
        · have h := h.2 c6
          refine lv_iload_n hx hb dX6_mean_22 rfl (lv_at hl 3 rfl) ?_
          refine lv_iconst (v := 1) hx hb dX6_mean_23 (by decide) ?_
          refine lv_icmp_eq (tgt := 29) hx hb dX6_mean_24 (by decide) (fun c7 => ?_) (fun c7 => ?_)
          · have h := h.1 c7
            exact tX6_mean_29 M hN h0 a0 a1 a2 σ1 _ _ _ hw (lv_sub hl [0, 1, 2, 3] rfl) h
          · have h := h.2 c7
            refine lv_iconst (v := (-1)) hx hb dX6_mean_27 (by decide) ?_
            exact q_iret M hw h dX6_mean_28
set_option maxRecDepth 100000 in
theorem ctX6_mean (l : Launch) {Y : LY} (hB : YB Y) (hN : yN Y = 108) (h0 : c0s Y 3 9) (a0 : Int32) (a1 : Int32) (a2 : Int32) (σ : St) (Q : Int32 → St → Prop) (h : wX6_mean a0 a1 a2 σ Q) : CT l yX6_mean (Cond.code yX6_mean cX6_mean 6 (some .int)) { frames := 1, cells := 0, slots := 0, locals := 22 } Y [.ref (yA Y 0), .int a0, .int a1, .int a2] σ (QI Y Q) :=
  q_ent hB (by decide +kernel) (Nat.le_of_ble_eq_true rfl) (fun p e s m below meth c ls M hw hl => tX6_mean_E M hN h0 a0 a1 a2 σ _ _ ls hw hl h)
theorem mbX6_mean : MB RX6 yX6_mean cX6_mean 3 6 (some .int) := ⟨tw_561, tw_562, tw_49, tw_563, by decide +kernel⟩
end
section
variable {p : Program} {l : Launch} {e : Env} {s : State} {m : MethodId} {args : Array Value} {below : List Frame} {meth : Method} {c : Code} {Y : LY}
theorem dX6_asStrip_0 : decode cX6_asStrip 0 = .ok (.aload_n 0, 1) := by decide +kernel
theorem dX6_asStrip_1 : decode cX6_asStrip 1 = .ok (.dup, 1) := by decide +kernel
theorem dX6_asStrip_2 : decode cX6_asStrip 2 = .ok (.getfield 258, 3) := by decide +kernel
theorem dX6_asStrip_5 : decode cX6_asStrip 5 = .ok (.lconst 1, 1) := by decide +kernel
theorem dX6_asStrip_6 : decode cX6_asStrip 6 = .ok (.ladd, 1) := by decide +kernel
theorem dX6_asStrip_7 : decode cX6_asStrip 7 = .ok (.putfield 258, 3) := by decide +kernel
theorem dX6_asStrip_10 : decode cX6_asStrip 10 = .ok (.aload_n 0, 1) := by decide +kernel
theorem dX6_asStrip_11 : decode cX6_asStrip 11 = .ok (.getfield 36, 3) := by decide +kernel
theorem dX6_asStrip_14 : decode cX6_asStrip 14 = .ok (.getfield 117, 3) := by decide +kernel
theorem dX6_asStrip_17 : decode cX6_asStrip 17 = .ok (.iload_n 1, 1) := by decide +kernel
theorem dX6_asStrip_18 : decode cX6_asStrip 18 = .ok (.iaload, 1) := by decide +kernel
theorem dX6_asStrip_19 : decode cX6_asStrip 19 = .ok (.ireturn, 1) := by decide +kernel
def wX6_asStrip (a0 : Int32) (σ : St) (Q : Int32 → St → Prop) : Prop :=
  (∀ σ1 : St, σ1 = upT σ ((σ.2.1) + 1) → (vp_in a0 7 ∧ Q (σ1.1 22 a0.toNatClampNeg) σ1))
set_option maxHeartbeats 4000000 in
set_option maxRecDepth 100000 in
theorem tX6_asStrip_E {Q : Int32 → St → Prop} (M : MC p s m args meth c cX6_asStrip 2 (some .int) RX6 Y) (hN : yN Y = 108) (h0 : c0s Y 3 9) (a0 : Int32) (σ : St) (H : Heap) (locs : List Loc) (ls : Array Slot) (hw : WS Y (AD Y) s.heap σ H locs) (hl : lv_has ls 2 [(0, .ref (yA Y 0)), (1, .int a0)]) (h : wX6_asStrip a0 σ Q) : W p l e { frames := 0, cells := 0, slots := 0, locals := 0 } s m args below meth c H locs 0 0 (MQ below (QI Y Q) args s 0 0 (AD Y)) (F0 m 0 ls []) := by
  obtain ⟨hx, hb, hr, hml, hown, hlk, hT, hK, hB⟩ := id M
  unfold wX6_asStrip at h
  refine lv_aload_n hx hb dX6_asStrip_0 rfl (lv_at hl 0 rfl) ?_
  refine lv_dup hx hb dX6_asStrip_1 rfl ?_
  refine q_get (v := .long (σ.2.1)) M hw (ob_0 hN h0) rfl inq_6 10 (by decide) tw_267 rfl dX6_asStrip_2 ?_
  refine lv_lconst (v := 1) hx hb dX6_asStrip_5 (by decide) ?_
  refine lv_ladd hx hb dX6_asStrip_6 ?_
  refine q_putT (v := ((σ.2.1) + 1)) M hw (ob_0 hN h0) rfl inq_6 tyX6 tyX6_ok nmX6 10 (by decide) tw_267 rfl rfl rfl (Nat.le_of_ble_eq_true rfl) rfl dX6_asStrip_7 (fun σ1 H locs es hw => ?_)
  have h := h σ1 es
  refine lv_aload_n hx hb dX6_asStrip_10 rfl (lv_at hl 0 rfl) ?_
  refine q_get (v := .ref (yA Y 18)) M hw (ob_0 hN h0) rfl inq_6 4 (by decide) tw_261 rfl dX6_asStrip_11 ?_
  refine q_get (v := .ref (yA Y 22)) M hw (sh_ob (sh_18 hN)) rfl inq_4 3 (by decide) tw_192 rfl dX6_asStrip_14 ?_
  refine lv_iload_n hx hb dX6_asStrip_17 rfl (lv_at hl 1 rfl) ?_
  have c2 := h.1
  have h := h.2
  refine q_ild M hw (ar_22 hN) c2 dX6_asStrip_18 ?_
  exact q_iret M hw h dX6_asStrip_19
set_option maxRecDepth 100000 in
theorem ctX6_asStrip (l : Launch) {Y : LY} (hB : YB Y) (hN : yN Y = 108) (h0 : c0s Y 3 9) (a0 : Int32) (σ : St) (Q : Int32 → St → Prop) (h : wX6_asStrip a0 σ Q) : CT l yX6_asStrip (Cond.code yX6_asStrip cX6_asStrip 2 (some .int)) { frames := 0, cells := 0, slots := 0, locals := 0 } Y [.ref (yA Y 0), .int a0] σ (QI Y Q) :=
  q_ent hB (by decide +kernel) (Nat.le_of_ble_eq_true rfl) (fun p e s m below meth c ls M hw hl => tX6_asStrip_E M hN h0 a0 σ _ _ ls hw hl h)
theorem mbX6_asStrip : MB RX6 yX6_asStrip cX6_asStrip 1 2 (some .int) := ⟨tw_574, tw_22, tw_49, tw_575, by decide +kernel⟩
end
section
variable {p : Program} {l : Launch} {e : Env} {s : State} {m : MethodId} {args : Array Value} {below : List Frame} {meth : Method} {c : Code} {Y : LY}
theorem dX6_asClay_0 : decode cX6_asClay 0 = .ok (.aload_n 0, 1) := by decide +kernel
theorem dX6_asClay_1 : decode cX6_asClay 1 = .ok (.dup, 1) := by decide +kernel
theorem dX6_asClay_2 : decode cX6_asClay 2 = .ok (.getfield 258, 3) := by decide +kernel
theorem dX6_asClay_5 : decode cX6_asClay 5 = .ok (.ldc2_w 266, 3) := by decide +kernel
theorem dX6_asClay_8 : decode cX6_asClay 8 = .ok (.ladd, 1) := by decide +kernel
theorem dX6_asClay_9 : decode cX6_asClay 9 = .ok (.putfield 258, 3) := by decide +kernel
theorem dX6_asClay_12 : decode cX6_asClay 12 = .ok (.aload_n 0, 1) := by decide +kernel
theorem dX6_asClay_13 : decode cX6_asClay 13 = .ok (.iload_n 1, 1) := by decide +kernel
theorem dX6_asClay_14 : decode cX6_asClay 14 = .ok (.invokevirtual 228, 3) := by decide +kernel
theorem dX6_asClay_17 : decode cX6_asClay 17 = .ok (.aload_n 0, 1) := by decide +kernel
theorem dX6_asClay_18 : decode cX6_asClay 18 = .ok (.getfield 19, 3) := by decide +kernel
theorem dX6_asClay_21 : decode cX6_asClay 21 = .ok (.aload_n 0, 1) := by decide +kernel
theorem dX6_asClay_22 : decode cX6_asClay 22 = .ok (.getfield 36, 3) := by decide +kernel
theorem dX6_asClay_25 : decode cX6_asClay 25 = .ok (.getfield 133, 3) := by decide +kernel
theorem dX6_asClay_28 : decode cX6_asClay 28 = .ok (.invokevirtual 126, 3) := by decide +kernel
theorem dX6_asClay_31 : decode cX6_asClay 31 = .ok (.iadd, 1) := by decide +kernel
theorem dX6_asClay_32 : decode cX6_asClay 32 = .ok (.ireturn, 1) := by decide +kernel
def wX6_asClay (a0 : Int32) (σ : St) (Q : Int32 → St → Prop) : Prop :=
  (∀ σ1 : St, σ1 = upT σ ((σ.2.1) + 10) → wX6_asStrip a0 σ1 (fun r3 σ2 => wX3_moon 3 (σ2.1 18 4) σ2 (fun r5 σ4 => Q (r3 + r5) σ4)))
set_option maxHeartbeats 4000000 in
set_option maxRecDepth 100000 in
theorem tX6_asClay_E {Q : Int32 → St → Prop} (M : MC p s m args meth c cX6_asClay 2 (some .int) RX6 Y) (hN : yN Y = 108) (h0 : c0s Y 3 9) (a0 : Int32) (σ : St) (H : Heap) (locs : List Loc) (ls : Array Slot) (hw : WS Y (AD Y) s.heap σ H locs) (hl : lv_has ls 2 [(0, .ref (yA Y 0)), (1, .int a0)]) (h : wX6_asClay a0 σ Q) : W p l e { frames := 1, cells := 0, slots := 0, locals := 22 } s m args below meth c H locs 0 0 (MQ below (QI Y Q) args s 0 0 (AD Y)) (F0 m 0 ls []) := by
  obtain ⟨hx, hb, hr, hml, hown, hlk, hT, hK, hB⟩ := id M
  unfold wX6_asClay at h
  refine lv_aload_n hx hb dX6_asClay_0 rfl (lv_at hl 0 rfl) ?_
  refine lv_dup hx hb dX6_asClay_1 rfl ?_
  refine q_get (v := .long (σ.2.1)) M hw (ob_0 hN h0) rfl inq_6 10 (by decide) tw_267 rfl dX6_asClay_2 ?_
  refine lv_ldc2 (v := 10) hx hb hown (hT _ tw_580) dX6_asClay_5 ?_
  refine lv_ladd hx hb dX6_asClay_8 ?_
  refine q_putT (v := ((σ.2.1) + 10)) M hw (ob_0 hN h0) rfl inq_6 tyX6 tyX6_ok nmX6 10 (by decide) tw_267 rfl rfl rfl (Nat.le_of_ble_eq_true rfl) rfl dX6_asClay_9 (fun σ1 H locs es hw => ?_)
  have h := h σ1 es
  refine lv_aload_n hx hb dX6_asClay_12 rfl (lv_at hl 0 rfl) ?_
  refine lv_iload_n hx hb dX6_asClay_13 rfl (lv_at hl 1 rfl) ?_
  refine q_goI hw (q_runV (rest := []) M hw (ctX6_asStrip l hB hN h0 a0 σ1 _ h) mbX6_asStrip (ob_0 hN h0) rfl tw_572 rfl hl.1 rfl (Nat.le_of_ble_eq_true rfl) ⟨Nat.le_of_ble_eq_true rfl, Nat.le_of_ble_eq_true rfl⟩ ⟨Nat.le_refl _, Nat.le_refl _⟩ dX6_asClay_14) (fun r3 σ2 H locs h hw => ?_)
  refine lv_aload_n hx hb dX6_asClay_17 rfl (lv_at hl 0 rfl) ?_
  refine q_get (v := .ref (yA Y 3)) M hw (ob_0 hN h0) rfl inq_6 1 (by decide) tw_258 rfl dX6_asClay_18 ?_
  refine lv_aload_n hx hb dX6_asClay_21 rfl (lv_at hl 0 rfl) ?_
  refine q_get (v := .ref (yA Y 18)) M hw (ob_0 hN h0) rfl inq_6 4 (by decide) tw_261 rfl dX6_asClay_22 ?_
  refine q_get (v := .int (σ2.1 18 4)) M hw (sh_ob (sh_18 hN)) rfl inq_4 4 (by decide) tw_194 rfl dX6_asClay_25 ?_
  refine q_goI hw (q_runV (rest := [.int r3]) M hw (ctX3_moon l hB (ph_3 hN) (σ2.1 18 4) σ2 _ h) mbX3_moon (ph_ob (ph_3 hN)) rfl tw_394 rfl hl.1 rfl (Nat.le_of_ble_eq_true rfl) ⟨Nat.le_of_ble_eq_true rfl, Nat.le_of_ble_eq_true rfl⟩ ⟨Nat.le_refl _, Nat.le_refl _⟩ dX6_asClay_28) (fun r5 σ4 H locs h hw => ?_)
  refine lv_iadd hx hb dX6_asClay_31 ?_
  exact q_iret M hw h dX6_asClay_32
set_option maxRecDepth 100000 in
theorem ctX6_asClay (l : Launch) {Y : LY} (hB : YB Y) (hN : yN Y = 108) (h0 : c0s Y 3 9) (a0 : Int32) (σ : St) (Q : Int32 → St → Prop) (h : wX6_asClay a0 σ Q) : CT l yX6_asClay (Cond.code yX6_asClay cX6_asClay 2 (some .int)) { frames := 1, cells := 0, slots := 0, locals := 22 } Y [.ref (yA Y 0), .int a0] σ (QI Y Q) :=
  q_ent hB (by decide +kernel) (Nat.le_of_ble_eq_true rfl) (fun p e s m below meth c ls M hw hl => tX6_asClay_E M hN h0 a0 σ _ _ ls hw hl h)
theorem mbX6_asClay : MB RX6 yX6_asClay cX6_asClay 1 2 (some .int) := ⟨tw_578, tw_23, tw_49, tw_579, by decide +kernel⟩
end
section
variable {p : Program} {l : Launch} {e : Env} {s : State} {m : MethodId} {args : Array Value} {below : List Frame} {meth : Method} {c : Code} {Y : LY}
theorem dX6_asSand_0 : decode cX6_asSand 0 = .ok (.aload_n 0, 1) := by decide +kernel
theorem dX6_asSand_1 : decode cX6_asSand 1 = .ok (.dup, 1) := by decide +kernel
theorem dX6_asSand_2 : decode cX6_asSand 2 = .ok (.getfield 258, 3) := by decide +kernel
theorem dX6_asSand_5 : decode cX6_asSand 5 = .ok (.ldc2_w 268, 3) := by decide +kernel
theorem dX6_asSand_8 : decode cX6_asSand 8 = .ok (.ladd, 1) := by decide +kernel
theorem dX6_asSand_9 : decode cX6_asSand 9 = .ok (.putfield 258, 3) := by decide +kernel
theorem dX6_asSand_12 : decode cX6_asSand 12 = .ok (.aload_n 0, 1) := by decide +kernel
theorem dX6_asSand_13 : decode cX6_asSand 13 = .ok (.iload_n 1, 1) := by decide +kernel
theorem dX6_asSand_14 : decode cX6_asSand 14 = .ok (.invokevirtual 228, 3) := by decide +kernel
theorem dX6_asSand_17 : decode cX6_asSand 17 = .ok (.aload_n 0, 1) := by decide +kernel
theorem dX6_asSand_18 : decode cX6_asSand 18 = .ok (.getfield 19, 3) := by decide +kernel
theorem dX6_asSand_21 : decode cX6_asSand 21 = .ok (.getfield 99, 3) := by decide +kernel
theorem dX6_asSand_24 : decode cX6_asSand 24 = .ok (.aload_n 0, 1) := by decide +kernel
theorem dX6_asSand_25 : decode cX6_asSand 25 = .ok (.getfield 36, 3) := by decide +kernel
theorem dX6_asSand_28 : decode cX6_asSand 28 = .ok (.getfield 114, 3) := by decide +kernel
theorem dX6_asSand_31 : decode cX6_asSand 31 = .ok (.iload_n 1, 1) := by decide +kernel
theorem dX6_asSand_32 : decode cX6_asSand 32 = .ok (.iaload, 1) := by decide +kernel
theorem dX6_asSand_33 : decode cX6_asSand 33 = .ok (.iaload, 1) := by decide +kernel
theorem dX6_asSand_34 : decode cX6_asSand 34 = .ok (.isub, 1) := by decide +kernel
theorem dX6_asSand_35 : decode cX6_asSand 35 = .ok (.ireturn, 1) := by decide +kernel
def wX6_asSand (a0 : Int32) (σ : St) (Q : Int32 → St → Prop) : Prop :=
  (∀ σ1 : St, σ1 = upT σ ((σ.2.1) + 100) → wX6_asStrip a0 σ1 (fun r3 σ2 => (vp_in a0 7 ∧ (vp_in (σ2.1 21 a0.toNatClampNeg) 5 ∧ Q (r3 - (σ2.1 5 (σ2.1 21 a0.toNatClampNeg).toNatClampNeg)) σ2))))
set_option maxHeartbeats 4000000 in
set_option maxRecDepth 100000 in
theorem tX6_asSand_E {Q : Int32 → St → Prop} (M : MC p s m args meth c cX6_asSand 2 (some .int) RX6 Y) (hN : yN Y = 108) (h0 : c0s Y 3 9) (a0 : Int32) (σ : St) (H : Heap) (locs : List Loc) (ls : Array Slot) (hw : WS Y (AD Y) s.heap σ H locs) (hl : lv_has ls 2 [(0, .ref (yA Y 0)), (1, .int a0)]) (h : wX6_asSand a0 σ Q) : W p l e { frames := 1, cells := 0, slots := 0, locals := 21 } s m args below meth c H locs 0 0 (MQ below (QI Y Q) args s 0 0 (AD Y)) (F0 m 0 ls []) := by
  obtain ⟨hx, hb, hr, hml, hown, hlk, hT, hK, hB⟩ := id M
  unfold wX6_asSand at h
  refine lv_aload_n hx hb dX6_asSand_0 rfl (lv_at hl 0 rfl) ?_
  refine lv_dup hx hb dX6_asSand_1 rfl ?_
  refine q_get (v := .long (σ.2.1)) M hw (ob_0 hN h0) rfl inq_6 10 (by decide) tw_267 rfl dX6_asSand_2 ?_
  refine lv_ldc2 (v := 100) hx hb hown (hT _ tw_585) dX6_asSand_5 ?_
  refine lv_ladd hx hb dX6_asSand_8 ?_
  refine q_putT (v := ((σ.2.1) + 100)) M hw (ob_0 hN h0) rfl inq_6 tyX6 tyX6_ok nmX6 10 (by decide) tw_267 rfl rfl rfl (Nat.le_of_ble_eq_true rfl) rfl dX6_asSand_9 (fun σ1 H locs es hw => ?_)
  have h := h σ1 es
  refine lv_aload_n hx hb dX6_asSand_12 rfl (lv_at hl 0 rfl) ?_
  refine lv_iload_n hx hb dX6_asSand_13 rfl (lv_at hl 1 rfl) ?_
  refine q_goI hw (q_runV (rest := []) M hw (ctX6_asStrip l hB hN h0 a0 σ1 _ h) mbX6_asStrip (ob_0 hN h0) rfl tw_572 rfl hl.1 rfl (Nat.le_of_ble_eq_true rfl) ⟨Nat.le_of_ble_eq_true rfl, Nat.le_of_ble_eq_true rfl⟩ ⟨Nat.le_refl _, Nat.le_refl _⟩ dX6_asSand_14) (fun r3 σ2 H locs h hw => ?_)
  refine lv_aload_n hx hb dX6_asSand_17 rfl (lv_at hl 0 rfl) ?_
  refine q_get (v := .ref (yA Y 3)) M hw (ob_0 hN h0) rfl inq_6 1 (by decide) tw_258 rfl dX6_asSand_18 ?_
  refine q_get (v := .ref (yA Y 5)) M hw (ph_ob (ph_3 hN)) rfl inq_3 1 (by decide) tw_104 rfl dX6_asSand_21 ?_
  refine lv_aload_n hx hb dX6_asSand_24 rfl (lv_at hl 0 rfl) ?_
  refine q_get (v := .ref (yA Y 18)) M hw (ob_0 hN h0) rfl inq_6 4 (by decide) tw_261 rfl dX6_asSand_25 ?_
  refine q_get (v := .ref (yA Y 21)) M hw (sh_ob (sh_18 hN)) rfl inq_4 2 (by decide) tw_190 rfl dX6_asSand_28 ?_
  refine lv_iload_n hx hb dX6_asSand_31 rfl (lv_at hl 1 rfl) ?_
  have c4 := h.1
  have h := h.2
  refine q_ild M hw (ar_21 hN) c4 dX6_asSand_32 ?_
  have c5 := h.1
  have h := h.2
  refine q_ild M hw (ar_5 hN) c5 dX6_asSand_33 ?_
  refine lv_isub hx hb dX6_asSand_34 ?_
  exact q_iret M hw h dX6_asSand_35
set_option maxRecDepth 100000 in
theorem ctX6_asSand (l : Launch) {Y : LY} (hB : YB Y) (hN : yN Y = 108) (h0 : c0s Y 3 9) (a0 : Int32) (σ : St) (Q : Int32 → St → Prop) (h : wX6_asSand a0 σ Q) : CT l yX6_asSand (Cond.code yX6_asSand cX6_asSand 2 (some .int)) { frames := 1, cells := 0, slots := 0, locals := 21 } Y [.ref (yA Y 0), .int a0] σ (QI Y Q) :=
  q_ent hB (by decide +kernel) (Nat.le_of_ble_eq_true rfl) (fun p e s m below meth c ls M hw hl => tX6_asSand_E M hN h0 a0 σ _ _ ls hw hl h)
theorem mbX6_asSand : MB RX6 yX6_asSand cX6_asSand 1 2 (some .int) := ⟨tw_583, tw_24, tw_49, tw_584, by decide +kernel⟩
end
section
variable {p : Program} {l : Launch} {e : Env} {s : State} {m : MethodId} {args : Array Value} {below : List Frame} {meth : Method} {c : Code} {Y : LY}
theorem dX6_asHill_0 : decode cX6_asHill 0 = .ok (.aload_n 0, 1) := by decide +kernel
theorem dX6_asHill_1 : decode cX6_asHill 1 = .ok (.dup, 1) := by decide +kernel
theorem dX6_asHill_2 : decode cX6_asHill 2 = .ok (.getfield 258, 3) := by decide +kernel
theorem dX6_asHill_5 : decode cX6_asHill 5 = .ok (.ldc2_w 272, 3) := by decide +kernel
theorem dX6_asHill_8 : decode cX6_asHill 8 = .ok (.ladd, 1) := by decide +kernel
theorem dX6_asHill_9 : decode cX6_asHill 9 = .ok (.putfield 258, 3) := by decide +kernel
theorem dX6_asHill_12 : decode cX6_asHill 12 = .ok (.aload_n 0, 1) := by decide +kernel
theorem dX6_asHill_13 : decode cX6_asHill 13 = .ok (.iload_n 1, 1) := by decide +kernel
theorem dX6_asHill_14 : decode cX6_asHill 14 = .ok (.invokevirtual 234, 3) := by decide +kernel
theorem dX6_asHill_17 : decode cX6_asHill 17 = .ok (.iload_n 1, 1) := by decide +kernel
theorem dX6_asHill_18 : decode cX6_asHill 18 = .ok (.iadd, 1) := by decide +kernel
theorem dX6_asHill_19 : decode cX6_asHill 19 = .ok (.ireturn, 1) := by decide +kernel
def wX6_asHill (a0 : Int32) (σ : St) (Q : Int32 → St → Prop) : Prop :=
  (∀ σ1 : St, σ1 = upT σ ((σ.2.1) + 10000) → wX6_asSand a0 σ1 (fun r3 σ2 => Q (r3 + a0) σ2))
set_option maxHeartbeats 4000000 in
set_option maxRecDepth 100000 in
theorem tX6_asHill_E {Q : Int32 → St → Prop} (M : MC p s m args meth c cX6_asHill 2 (some .int) RX6 Y) (hN : yN Y = 108) (h0 : c0s Y 3 9) (a0 : Int32) (σ : St) (H : Heap) (locs : List Loc) (ls : Array Slot) (hw : WS Y (AD Y) s.heap σ H locs) (hl : lv_has ls 2 [(0, .ref (yA Y 0)), (1, .int a0)]) (h : wX6_asHill a0 σ Q) : W p l e { frames := 2, cells := 0, slots := 0, locals := 42 } s m args below meth c H locs 0 0 (MQ below (QI Y Q) args s 0 0 (AD Y)) (F0 m 0 ls []) := by
  obtain ⟨hx, hb, hr, hml, hown, hlk, hT, hK, hB⟩ := id M
  unfold wX6_asHill at h
  refine lv_aload_n hx hb dX6_asHill_0 rfl (lv_at hl 0 rfl) ?_
  refine lv_dup hx hb dX6_asHill_1 rfl ?_
  refine q_get (v := .long (σ.2.1)) M hw (ob_0 hN h0) rfl inq_6 10 (by decide) tw_267 rfl dX6_asHill_2 ?_
  refine lv_ldc2 (v := 10000) hx hb hown (hT _ tw_595) dX6_asHill_5 ?_
  refine lv_ladd hx hb dX6_asHill_8 ?_
  refine q_putT (v := ((σ.2.1) + 10000)) M hw (ob_0 hN h0) rfl inq_6 tyX6 tyX6_ok nmX6 10 (by decide) tw_267 rfl rfl rfl (Nat.le_of_ble_eq_true rfl) rfl dX6_asHill_9 (fun σ1 H locs es hw => ?_)
  have h := h σ1 es
  refine lv_aload_n hx hb dX6_asHill_12 rfl (lv_at hl 0 rfl) ?_
  refine lv_iload_n hx hb dX6_asHill_13 rfl (lv_at hl 1 rfl) ?_
  refine q_goI hw (q_runV (rest := []) M hw (ctX6_asSand l hB hN h0 a0 σ1 _ h) mbX6_asSand (ob_0 hN h0) rfl tw_581 rfl hl.1 rfl (Nat.le_of_ble_eq_true rfl) ⟨Nat.le_of_ble_eq_true rfl, Nat.le_of_ble_eq_true rfl⟩ ⟨Nat.le_refl _, Nat.le_refl _⟩ dX6_asHill_14) (fun r3 σ2 H locs h hw => ?_)
  refine lv_iload_n hx hb dX6_asHill_17 rfl (lv_at hl 1 rfl) ?_
  refine lv_iadd hx hb dX6_asHill_18 ?_
  exact q_iret M hw h dX6_asHill_19
set_option maxRecDepth 100000 in
theorem ctX6_asHill (l : Launch) {Y : LY} (hB : YB Y) (hN : yN Y = 108) (h0 : c0s Y 3 9) (a0 : Int32) (σ : St) (Q : Int32 → St → Prop) (h : wX6_asHill a0 σ Q) : CT l yX6_asHill (Cond.code yX6_asHill cX6_asHill 2 (some .int)) { frames := 2, cells := 0, slots := 0, locals := 42 } Y [.ref (yA Y 0), .int a0] σ (QI Y Q) :=
  q_ent hB (by decide +kernel) (Nat.le_of_ble_eq_true rfl) (fun p e s m below meth c ls M hw hl => tX6_asHill_E M hN h0 a0 σ _ _ ls hw hl h)
theorem mbX6_asHill : MB RX6 yX6_asHill cX6_asHill 1 2 (some .int) := ⟨tw_593, tw_26, tw_49, tw_594, by decide +kernel⟩
end
section
variable {p : Program} {l : Launch} {e : Env} {s : State} {m : MethodId} {args : Array Value} {below : List Frame} {meth : Method} {c : Code} {Y : LY}
theorem dX6_asMarsh_0 : decode cX6_asMarsh 0 = .ok (.aload_n 0, 1) := by decide +kernel
theorem dX6_asMarsh_1 : decode cX6_asMarsh 1 = .ok (.dup, 1) := by decide +kernel
theorem dX6_asMarsh_2 : decode cX6_asMarsh 2 = .ok (.getfield 258, 3) := by decide +kernel
theorem dX6_asMarsh_5 : decode cX6_asMarsh 5 = .ok (.ldc2_w 270, 3) := by decide +kernel
theorem dX6_asMarsh_8 : decode cX6_asMarsh 8 = .ok (.ladd, 1) := by decide +kernel
theorem dX6_asMarsh_9 : decode cX6_asMarsh 9 = .ok (.putfield 258, 3) := by decide +kernel
theorem dX6_asMarsh_12 : decode cX6_asMarsh 12 = .ok (.iconst 2, 1) := by decide +kernel
theorem dX6_asMarsh_13 : decode cX6_asMarsh 13 = .ok (.aload_n 0, 1) := by decide +kernel
theorem dX6_asMarsh_14 : decode cX6_asMarsh 14 = .ok (.iload_n 1, 1) := by decide +kernel
theorem dX6_asMarsh_15 : decode cX6_asMarsh 15 = .ok (.invokevirtual 231, 3) := by decide +kernel
theorem dX6_asMarsh_18 : decode cX6_asMarsh 18 = .ok (.imul, 1) := by decide +kernel
theorem dX6_asMarsh_19 : decode cX6_asMarsh 19 = .ok (.ireturn, 1) := by decide +kernel
def wX6_asMarsh (a0 : Int32) (σ : St) (Q : Int32 → St → Prop) : Prop :=
  (∀ σ1 : St, σ1 = upT σ ((σ.2.1) + 1000) → wX6_asClay a0 σ1 (fun r3 σ2 => Q (2 * r3) σ2))
set_option maxHeartbeats 4000000 in
set_option maxRecDepth 100000 in
theorem tX6_asMarsh_E {Q : Int32 → St → Prop} (M : MC p s m args meth c cX6_asMarsh 2 (some .int) RX6 Y) (hN : yN Y = 108) (h0 : c0s Y 3 9) (a0 : Int32) (σ : St) (H : Heap) (locs : List Loc) (ls : Array Slot) (hw : WS Y (AD Y) s.heap σ H locs) (hl : lv_has ls 2 [(0, .ref (yA Y 0)), (1, .int a0)]) (h : wX6_asMarsh a0 σ Q) : W p l e { frames := 2, cells := 0, slots := 0, locals := 43 } s m args below meth c H locs 0 0 (MQ below (QI Y Q) args s 0 0 (AD Y)) (F0 m 0 ls []) := by
  obtain ⟨hx, hb, hr, hml, hown, hlk, hT, hK, hB⟩ := id M
  unfold wX6_asMarsh at h
  refine lv_aload_n hx hb dX6_asMarsh_0 rfl (lv_at hl 0 rfl) ?_
  refine lv_dup hx hb dX6_asMarsh_1 rfl ?_
  refine q_get (v := .long (σ.2.1)) M hw (ob_0 hN h0) rfl inq_6 10 (by decide) tw_267 rfl dX6_asMarsh_2 ?_
  refine lv_ldc2 (v := 1000) hx hb hown (hT _ tw_590) dX6_asMarsh_5 ?_
  refine lv_ladd hx hb dX6_asMarsh_8 ?_
  refine q_putT (v := ((σ.2.1) + 1000)) M hw (ob_0 hN h0) rfl inq_6 tyX6 tyX6_ok nmX6 10 (by decide) tw_267 rfl rfl rfl (Nat.le_of_ble_eq_true rfl) rfl dX6_asMarsh_9 (fun σ1 H locs es hw => ?_)
  have h := h σ1 es
  refine lv_iconst (v := 2) hx hb dX6_asMarsh_12 (by decide) ?_
  refine lv_aload_n hx hb dX6_asMarsh_13 rfl (lv_at hl 0 rfl) ?_
  refine lv_iload_n hx hb dX6_asMarsh_14 rfl (lv_at hl 1 rfl) ?_
  refine q_goI hw (q_runV (rest := [.int 2]) M hw (ctX6_asClay l hB hN h0 a0 σ1 _ h) mbX6_asClay (ob_0 hN h0) rfl tw_576 rfl hl.1 rfl (Nat.le_of_ble_eq_true rfl) ⟨Nat.le_of_ble_eq_true rfl, Nat.le_of_ble_eq_true rfl⟩ ⟨Nat.le_refl _, Nat.le_refl _⟩ dX6_asMarsh_15) (fun r3 σ2 H locs h hw => ?_)
  refine lv_imul hx hb dX6_asMarsh_18 ?_
  exact q_iret M hw h dX6_asMarsh_19
set_option maxRecDepth 100000 in
theorem ctX6_asMarsh (l : Launch) {Y : LY} (hB : YB Y) (hN : yN Y = 108) (h0 : c0s Y 3 9) (a0 : Int32) (σ : St) (Q : Int32 → St → Prop) (h : wX6_asMarsh a0 σ Q) : CT l yX6_asMarsh (Cond.code yX6_asMarsh cX6_asMarsh 2 (some .int)) { frames := 2, cells := 0, slots := 0, locals := 43 } Y [.ref (yA Y 0), .int a0] σ (QI Y Q) :=
  q_ent hB (by decide +kernel) (Nat.le_of_ble_eq_true rfl) (fun p e s m below meth c ls M hw hl => tX6_asMarsh_E M hN h0 a0 σ _ _ ls hw hl h)
theorem mbX6_asMarsh : MB RX6 yX6_asMarsh cX6_asMarsh 1 2 (some .int) := ⟨tw_588, tw_25, tw_49, tw_589, by decide +kernel⟩
end
section
variable {p : Program} {l : Launch} {e : Env} {s : State} {m : MethodId} {args : Array Value} {below : List Frame} {meth : Method} {c : Code} {Y : LY}
theorem dX6_asMoor_0 : decode cX6_asMoor 0 = .ok (.aload_n 0, 1) := by decide +kernel
theorem dX6_asMoor_1 : decode cX6_asMoor 1 = .ok (.dup, 1) := by decide +kernel
theorem dX6_asMoor_2 : decode cX6_asMoor 2 = .ok (.getfield 258, 3) := by decide +kernel
theorem dX6_asMoor_5 : decode cX6_asMoor 5 = .ok (.ldc2_w 274, 3) := by decide +kernel
theorem dX6_asMoor_8 : decode cX6_asMoor 8 = .ok (.ladd, 1) := by decide +kernel
theorem dX6_asMoor_9 : decode cX6_asMoor 9 = .ok (.putfield 258, 3) := by decide +kernel
theorem dX6_asMoor_12 : decode cX6_asMoor 12 = .ok (.aload_n 0, 1) := by decide +kernel
theorem dX6_asMoor_13 : decode cX6_asMoor 13 = .ok (.iload_n 1, 1) := by decide +kernel
theorem dX6_asMoor_14 : decode cX6_asMoor 14 = .ok (.invokevirtual 228, 3) := by decide +kernel
theorem dX6_asMoor_17 : decode cX6_asMoor 17 = .ok (.aload_n 0, 1) := by decide +kernel
theorem dX6_asMoor_18 : decode cX6_asMoor 18 = .ok (.getfield 36, 3) := by decide +kernel
theorem dX6_asMoor_21 : decode cX6_asMoor 21 = .ok (.getfield 133, 3) := by decide +kernel
theorem dX6_asMoor_24 : decode cX6_asMoor 24 = .ok (.iadd, 1) := by decide +kernel
theorem dX6_asMoor_25 : decode cX6_asMoor 25 = .ok (.ireturn, 1) := by decide +kernel
def wX6_asMoor (a0 : Int32) (σ : St) (Q : Int32 → St → Prop) : Prop :=
  (∀ σ1 : St, σ1 = upT σ ((σ.2.1) + 100000) → wX6_asStrip a0 σ1 (fun r3 σ2 => Q (r3 + (σ2.1 18 4)) σ2))
set_option maxHeartbeats 4000000 in
set_option maxRecDepth 100000 in
theorem tX6_asMoor_E {Q : Int32 → St → Prop} (M : MC p s m args meth c cX6_asMoor 2 (some .int) RX6 Y) (hN : yN Y = 108) (h0 : c0s Y 3 9) (a0 : Int32) (σ : St) (H : Heap) (locs : List Loc) (ls : Array Slot) (hw : WS Y (AD Y) s.heap σ H locs) (hl : lv_has ls 2 [(0, .ref (yA Y 0)), (1, .int a0)]) (h : wX6_asMoor a0 σ Q) : W p l e { frames := 1, cells := 0, slots := 0, locals := 21 } s m args below meth c H locs 0 0 (MQ below (QI Y Q) args s 0 0 (AD Y)) (F0 m 0 ls []) := by
  obtain ⟨hx, hb, hr, hml, hown, hlk, hT, hK, hB⟩ := id M
  unfold wX6_asMoor at h
  refine lv_aload_n hx hb dX6_asMoor_0 rfl (lv_at hl 0 rfl) ?_
  refine lv_dup hx hb dX6_asMoor_1 rfl ?_
  refine q_get (v := .long (σ.2.1)) M hw (ob_0 hN h0) rfl inq_6 10 (by decide) tw_267 rfl dX6_asMoor_2 ?_
  refine lv_ldc2 (v := 100000) hx hb hown (hT _ tw_600) dX6_asMoor_5 ?_
  refine lv_ladd hx hb dX6_asMoor_8 ?_
  refine q_putT (v := ((σ.2.1) + 100000)) M hw (ob_0 hN h0) rfl inq_6 tyX6 tyX6_ok nmX6 10 (by decide) tw_267 rfl rfl rfl (Nat.le_of_ble_eq_true rfl) rfl dX6_asMoor_9 (fun σ1 H locs es hw => ?_)
  have h := h σ1 es
  refine lv_aload_n hx hb dX6_asMoor_12 rfl (lv_at hl 0 rfl) ?_
  refine lv_iload_n hx hb dX6_asMoor_13 rfl (lv_at hl 1 rfl) ?_
  refine q_goI hw (q_runV (rest := []) M hw (ctX6_asStrip l hB hN h0 a0 σ1 _ h) mbX6_asStrip (ob_0 hN h0) rfl tw_572 rfl hl.1 rfl (Nat.le_of_ble_eq_true rfl) ⟨Nat.le_of_ble_eq_true rfl, Nat.le_of_ble_eq_true rfl⟩ ⟨Nat.le_refl _, Nat.le_refl _⟩ dX6_asMoor_14) (fun r3 σ2 H locs h hw => ?_)
  refine lv_aload_n hx hb dX6_asMoor_17 rfl (lv_at hl 0 rfl) ?_
  refine q_get (v := .ref (yA Y 18)) M hw (ob_0 hN h0) rfl inq_6 4 (by decide) tw_261 rfl dX6_asMoor_18 ?_
  refine q_get (v := .int (σ2.1 18 4)) M hw (sh_ob (sh_18 hN)) rfl inq_4 4 (by decide) tw_194 rfl dX6_asMoor_21 ?_
  refine lv_iadd hx hb dX6_asMoor_24 ?_
  exact q_iret M hw h dX6_asMoor_25
set_option maxRecDepth 100000 in
theorem ctX6_asMoor (l : Launch) {Y : LY} (hB : YB Y) (hN : yN Y = 108) (h0 : c0s Y 3 9) (a0 : Int32) (σ : St) (Q : Int32 → St → Prop) (h : wX6_asMoor a0 σ Q) : CT l yX6_asMoor (Cond.code yX6_asMoor cX6_asMoor 2 (some .int)) { frames := 1, cells := 0, slots := 0, locals := 21 } Y [.ref (yA Y 0), .int a0] σ (QI Y Q) :=
  q_ent hB (by decide +kernel) (Nat.le_of_ble_eq_true rfl) (fun p e s m below meth c ls M hw hl => tX6_asMoor_E M hN h0 a0 σ _ _ ls hw hl h)
theorem mbX6_asMoor : MB RX6 yX6_asMoor cX6_asMoor 1 2 (some .int) := ⟨tw_598, tw_27, tw_49, tw_599, by decide +kernel⟩
end
section
variable {p : Program} {l : Launch} {e : Env} {s : State} {m : MethodId} {args : Array Value} {below : List Frame} {meth : Method} {c : Code} {Y : LY}
theorem dX6_rate_0 : decode cX6_rate 0 = .ok (.aload_n 0, 1) := by decide +kernel
theorem dX6_rate_1 : decode cX6_rate 1 = .ok (.iload_n 2, 1) := by decide +kernel
theorem dX6_rate_2 : decode cX6_rate 2 = .ok (.invokevirtual 111, 3) := by decide +kernel
theorem dX6_rate_5 : decode cX6_rate 5 = .ok (.ifCond .ne 6, 3) := by decide +kernel
theorem dX6_rate_8 : decode cX6_rate 8 = .ok (.ldc 227, 2) := by decide +kernel
theorem dX6_rate_10 : decode cX6_rate 10 = .ok (.ireturn, 1) := by decide +kernel
theorem dX6_rate_11 : decode cX6_rate 11 = .ok (.iload_n 1, 1) := by decide +kernel
theorem dX6_rate_12 : decode cX6_rate 12 = .ok (.tableswitch 76 0 5 #[40, 46, 52, 58, 64, 70], 40) := by decide +kernel
theorem dX6_rate_52 : decode cX6_rate 52 = .ok (.aload_n 0, 1) := by decide +kernel
theorem dX6_rate_53 : decode cX6_rate 53 = .ok (.iload_n 2, 1) := by decide +kernel
theorem dX6_rate_54 : decode cX6_rate 54 = .ok (.invokevirtual 228, 3) := by decide +kernel
theorem dX6_rate_57 : decode cX6_rate 57 = .ok (.ireturn, 1) := by decide +kernel
theorem dX6_rate_58 : decode cX6_rate 58 = .ok (.aload_n 0, 1) := by decide +kernel
theorem dX6_rate_59 : decode cX6_rate 59 = .ok (.iload_n 2, 1) := by decide +kernel
theorem dX6_rate_60 : decode cX6_rate 60 = .ok (.invokevirtual 231, 3) := by decide +kernel
theorem dX6_rate_63 : decode cX6_rate 63 = .ok (.ireturn, 1) := by decide +kernel
theorem dX6_rate_64 : decode cX6_rate 64 = .ok (.aload_n 0, 1) := by decide +kernel
theorem dX6_rate_65 : decode cX6_rate 65 = .ok (.iload_n 2, 1) := by decide +kernel
theorem dX6_rate_66 : decode cX6_rate 66 = .ok (.invokevirtual 234, 3) := by decide +kernel
theorem dX6_rate_69 : decode cX6_rate 69 = .ok (.ireturn, 1) := by decide +kernel
theorem dX6_rate_70 : decode cX6_rate 70 = .ok (.aload_n 0, 1) := by decide +kernel
theorem dX6_rate_71 : decode cX6_rate 71 = .ok (.iload_n 2, 1) := by decide +kernel
theorem dX6_rate_72 : decode cX6_rate 72 = .ok (.invokevirtual 237, 3) := by decide +kernel
theorem dX6_rate_75 : decode cX6_rate 75 = .ok (.ireturn, 1) := by decide +kernel
theorem dX6_rate_76 : decode cX6_rate 76 = .ok (.aload_n 0, 1) := by decide +kernel
theorem dX6_rate_77 : decode cX6_rate 77 = .ok (.iload_n 2, 1) := by decide +kernel
theorem dX6_rate_78 : decode cX6_rate 78 = .ok (.invokevirtual 240, 3) := by decide +kernel
theorem dX6_rate_81 : decode cX6_rate 81 = .ok (.ireturn, 1) := by decide +kernel
theorem dX6_rate_82 : decode cX6_rate 82 = .ok (.aload_n 0, 1) := by decide +kernel
theorem dX6_rate_83 : decode cX6_rate 83 = .ok (.iload_n 2, 1) := by decide +kernel
theorem dX6_rate_84 : decode cX6_rate 84 = .ok (.invokevirtual 243, 3) := by decide +kernel
theorem dX6_rate_87 : decode cX6_rate 87 = .ok (.ireturn, 1) := by decide +kernel
theorem dX6_rate_88 : decode cX6_rate 88 = .ok (.ldc 227, 2) := by decide +kernel
theorem dX6_rate_90 : decode cX6_rate 90 = .ok (.ireturn, 1) := by decide +kernel
def wX6_rate (a0 : Int32) (a1 : Int32) (σ : St) (Q : Int32 → St → Prop) : Prop :=
  wX6_isStrip a1 σ (fun r2 σ1 => ((r2 = 0 → Q (-1000000) σ1) ∧ (¬ r2 = 0 → ((a0 = 0 → wX6_asStrip a1 σ1 (fun r6 σ5 => Q r6 σ5)) ∧ (¬ a0 = 0 → ((a0 = 1 → wX6_asClay a1 σ1 (fun r9 σ8 => Q r9 σ8)) ∧ (¬ a0 = 1 → ((a0 = 2 → wX6_asSand a1 σ1 (fun r12 σ11 => Q r12 σ11)) ∧ (¬ a0 = 2 → ((a0 = 3 → wX6_asMarsh a1 σ1 (fun r15 σ14 => Q r15 σ14)) ∧ (¬ a0 = 3 → ((a0 = 4 → wX6_asHill a1 σ1 (fun r18 σ17 => Q r18 σ17)) ∧ (¬ a0 = 4 → ((a0 = 5 → wX6_asMoor a1 σ1 (fun r21 σ20 => Q r21 σ20)) ∧ (¬ a0 = 5 → Q (-1000000) σ1)))))))))))))))
set_option maxHeartbeats 4000000 in
set_option maxRecDepth 100000 in
theorem tX6_rate_E {Q : Int32 → St → Prop} (M : MC p s m args meth c cX6_rate 3 (some .int) RX6 Y) (hN : yN Y = 108) (h0 : c0s Y 3 9) (a0 : Int32) (a1 : Int32) (σ : St) (H : Heap) (locs : List Loc) (ls : Array Slot) (hw : WS Y (AD Y) s.heap σ H locs) (hl : lv_has ls 3 [(0, .ref (yA Y 0)), (1, .int a0), (2, .int a1)]) (h : wX6_rate a0 a1 σ Q) : W p l e { frames := 3, cells := 0, slots := 0, locals := 64 } s m args below meth c H locs 0 0 (MQ below (QI Y Q) args s 0 0 (AD Y)) (F0 m 0 ls []) := by
  obtain ⟨hx, hb, hr, hml, hown, hlk, hT, hK, hB⟩ := id M
  unfold wX6_rate at h
  refine lv_aload_n hx hb dX6_rate_0 rfl (lv_at hl 0 rfl) ?_
  refine lv_iload_n hx hb dX6_rate_1 rfl (lv_at hl 2 rfl) ?_
  refine q_goI hw (q_runV (rest := []) M hw (ctX6_isStrip l hB hN h0 a1 σ _ h) mbX6_isStrip (ob_0 hN h0) rfl tw_383 rfl hl.1 rfl (Nat.le_of_ble_eq_true rfl) ⟨Nat.le_of_ble_eq_true rfl, Nat.le_of_ble_eq_true rfl⟩ ⟨Nat.le_refl _, Nat.le_refl _⟩ dX6_rate_2) (fun r2 σ1 H locs h hw => ?_)
  refine lv_if_ne (tgt := 11) hx hb dX6_rate_5 (by decide) (fun c3 => ?_) (fun c3 => ?_)
  · have h := h.2 c3
    refine lv_iload_n hx hb dX6_rate_11 rfl (lv_at hl 1 rfl) ?_
    by_cases c4 : a0 = 0
    · have h := h.1 c4
      refine lv_tableIn (tgt := 52) hx hb dX6_rate_12 (by rw [c4]; decide) (by rw [c4]; decide) (by rw [c4]; first | done | rfl) (by decide) ?_
      refine lv_aload_n hx hb dX6_rate_52 rfl (lv_at hl 0 rfl) ?_
      refine lv_iload_n hx hb dX6_rate_53 rfl (lv_at hl 2 rfl) ?_
      refine q_goI hw (q_runV (rest := []) M hw (ctX6_asStrip l hB hN h0 a1 σ1 _ h) mbX6_asStrip (ob_0 hN h0) rfl tw_572 rfl hl.1 rfl (Nat.le_of_ble_eq_true rfl) ⟨Nat.le_of_ble_eq_true rfl, Nat.le_of_ble_eq_true rfl⟩ ⟨Nat.le_refl _, Nat.le_refl _⟩ dX6_rate_54) (fun r6 σ5 H locs h hw => ?_)
      exact q_iret M hw h dX6_rate_57
    · have h := h.2 c4
      by_cases c7 : a0 = 1
      · have h := h.1 c7
        refine lv_tableIn (tgt := 58) hx hb dX6_rate_12 (by rw [c7]; decide) (by rw [c7]; decide) (by rw [c7]; first | done | rfl) (by decide) ?_
        refine lv_aload_n hx hb dX6_rate_58 rfl (lv_at hl 0 rfl) ?_
        refine lv_iload_n hx hb dX6_rate_59 rfl (lv_at hl 2 rfl) ?_
        refine q_goI hw (q_runV (rest := []) M hw (ctX6_asClay l hB hN h0 a1 σ1 _ h) mbX6_asClay (ob_0 hN h0) rfl tw_576 rfl hl.1 rfl (Nat.le_of_ble_eq_true rfl) ⟨Nat.le_of_ble_eq_true rfl, Nat.le_of_ble_eq_true rfl⟩ ⟨Nat.le_refl _, Nat.le_refl _⟩ dX6_rate_60) (fun r9 σ8 H locs h hw => ?_)
        exact q_iret M hw h dX6_rate_63
      · have h := h.2 c7
        by_cases c10 : a0 = 2
        · have h := h.1 c10
          refine lv_tableIn (tgt := 64) hx hb dX6_rate_12 (by rw [c10]; decide) (by rw [c10]; decide) (by rw [c10]; first | done | rfl) (by decide) ?_
          refine lv_aload_n hx hb dX6_rate_64 rfl (lv_at hl 0 rfl) ?_
          refine lv_iload_n hx hb dX6_rate_65 rfl (lv_at hl 2 rfl) ?_
          refine q_goI hw (q_runV (rest := []) M hw (ctX6_asSand l hB hN h0 a1 σ1 _ h) mbX6_asSand (ob_0 hN h0) rfl tw_581 rfl hl.1 rfl (Nat.le_of_ble_eq_true rfl) ⟨Nat.le_of_ble_eq_true rfl, Nat.le_of_ble_eq_true rfl⟩ ⟨Nat.le_refl _, Nat.le_refl _⟩ dX6_rate_66) (fun r12 σ11 H locs h hw => ?_)
          exact q_iret M hw h dX6_rate_69
        · have h := h.2 c10
          by_cases c13 : a0 = 3
          · have h := h.1 c13
            refine lv_tableIn (tgt := 70) hx hb dX6_rate_12 (by rw [c13]; decide) (by rw [c13]; decide) (by rw [c13]; first | done | rfl) (by decide) ?_
            refine lv_aload_n hx hb dX6_rate_70 rfl (lv_at hl 0 rfl) ?_
            refine lv_iload_n hx hb dX6_rate_71 rfl (lv_at hl 2 rfl) ?_
            refine q_goI hw (q_runV (rest := []) M hw (ctX6_asMarsh l hB hN h0 a1 σ1 _ h) mbX6_asMarsh (ob_0 hN h0) rfl tw_586 rfl hl.1 rfl (Nat.le_of_ble_eq_true rfl) ⟨Nat.le_of_ble_eq_true rfl, Nat.le_of_ble_eq_true rfl⟩ ⟨Nat.le_refl _, Nat.le_refl _⟩ dX6_rate_72) (fun r15 σ14 H locs h hw => ?_)
            exact q_iret M hw h dX6_rate_75
          · have h := h.2 c13
            by_cases c16 : a0 = 4
            · have h := h.1 c16
              refine lv_tableIn (tgt := 76) hx hb dX6_rate_12 (by rw [c16]; decide) (by rw [c16]; decide) (by rw [c16]; first | done | rfl) (by decide) ?_
              refine lv_aload_n hx hb dX6_rate_76 rfl (lv_at hl 0 rfl) ?_
              refine lv_iload_n hx hb dX6_rate_77 rfl (lv_at hl 2 rfl) ?_
              refine q_goI hw (q_runV (rest := []) M hw (ctX6_asHill l hB hN h0 a1 σ1 _ h) mbX6_asHill (ob_0 hN h0) rfl tw_591 rfl hl.1 rfl (Nat.le_of_ble_eq_true rfl) ⟨Nat.le_of_ble_eq_true rfl, Nat.le_of_ble_eq_true rfl⟩ ⟨Nat.le_refl _, Nat.le_refl _⟩ dX6_rate_78) (fun r18 σ17 H locs h hw => ?_)
              exact q_iret M hw h dX6_rate_81
            · have h := h.2 c16
              by_cases c19 : a0 = 5
              · have h := h.1 c19
                refine lv_tableIn (tgt := 82) hx hb dX6_rate_12 (by rw [c19]; decide) (by rw [c19]; decide) (by rw [c19]; first | done | rfl) (by decide) ?_
                refine lv_aload_n hx hb dX6_rate_82 rfl (lv_at hl 0 rfl) ?_
                refine lv_iload_n hx hb dX6_rate_83 rfl (lv_at hl 2 rfl) ?_
                refine q_goI hw (q_runV (rest := []) M hw (ctX6_asMoor l hB hN h0 a1 σ1 _ h) mbX6_asMoor (ob_0 hN h0) rfl tw_596 rfl hl.1 rfl (Nat.le_of_ble_eq_true rfl) ⟨Nat.le_of_ble_eq_true rfl, Nat.le_of_ble_eq_true rfl⟩ ⟨Nat.le_refl _, Nat.le_refl _⟩ dX6_rate_84) (fun r21 σ20 H locs h hw => ?_)
                exact q_iret M hw h dX6_rate_87
              · have h := h.2 c19
                refine lv_tableOut (tgt := 88) hx hb dX6_rate_12 (sw_out 5 (by decide) (fun k hk => ?_)) (by decide) ?_
                · rcases (by omega : k = 0 ∨ k = 1 ∨ k = 2 ∨ k = 3 ∨ k = 4 ∨ k = 5) with rfl | rfl | rfl | rfl | rfl | rfl
                  · exact c4
                  · exact c7
                  · exact c10
                  · exact c13
                  · exact c16
                  · exact c19
                · refine lv_ldc (v := (-1000000)) hx hb hown (hT _ tw_571) dX6_rate_88 ?_
                  exact q_iret M hw h dX6_rate_90
  · have h := h.1 c3
    refine lv_ldc (v := (-1000000)) hx hb hown (hT _ tw_571) dX6_rate_8 ?_
    exact q_iret M hw h dX6_rate_10
set_option maxRecDepth 100000 in
theorem ctX6_rate (l : Launch) {Y : LY} (hB : YB Y) (hN : yN Y = 108) (h0 : c0s Y 3 9) (a0 : Int32) (a1 : Int32) (σ : St) (Q : Int32 → St → Prop) (h : wX6_rate a0 a1 σ Q) : CT l yX6_rate (Cond.code yX6_rate cX6_rate 3 (some .int)) { frames := 3, cells := 0, slots := 0, locals := 64 } Y [.ref (yA Y 0), .int a0, .int a1] σ (QI Y Q) :=
  q_ent hB (by decide +kernel) (Nat.le_of_ble_eq_true rfl) (fun p e s m below meth c ls M hw hl => tX6_rate_E M hN h0 a0 a1 σ _ _ ls hw hl h)
theorem mbX6_rate : MB RX6 yX6_rate cX6_rate 2 3 (some .int) := ⟨tw_568, tw_569, tw_49, tw_570, by decide +kernel⟩
end
section
variable {p : Program} {l : Launch} {e : Env} {s : State} {m : MethodId} {args : Array Value} {below : List Frame} {meth : Method} {c : Code} {Y : LY}
theorem dX6_isImage_0 : decode cX6_isImage 0 = .ok (.iload_n 0, 1) := by decide +kernel
theorem dX6_isImage_1 : decode cX6_isImage 1 = .ok (.ifCond .lt 12, 3) := by decide +kernel
theorem dX6_isImage_4 : decode cX6_isImage 4 = .ok (.iload_n 0, 1) := by decide +kernel
theorem dX6_isImage_5 : decode cX6_isImage 5 = .ok (.iconst 2, 1) := by decide +kernel
theorem dX6_isImage_6 : decode cX6_isImage 6 = .ok (.if_icmp .ge 7, 3) := by decide +kernel
theorem dX6_isImage_9 : decode cX6_isImage 9 = .ok (.iconst 1, 1) := by decide +kernel
theorem dX6_isImage_10 : decode cX6_isImage 10 = .ok (.goto 4, 3) := by decide +kernel
theorem dX6_isImage_13 : decode cX6_isImage 13 = .ok (.iconst 0, 1) := by decide +kernel
theorem dX6_isImage_14 : decode cX6_isImage 14 = .ok (.ireturn, 1) := by decide +kernel
def wX6_isImage (a0 : Int32) (σ : St) (Q : Int32 → St → Prop) : Prop :=
  ((a0 < 0 → Q 0 σ) ∧ (¬ a0 < 0 → ((2 ≤ a0 → Q 0 σ) ∧ (¬ 2 ≤ a0 → Q 1 σ))))
set_option maxHeartbeats 4000000 in
set_option maxRecDepth 100000 in
theorem tX6_isImage_E {Q : Int32 → St → Prop} (M : MC p s m args meth c cX6_isImage 1 (some .boolean) RX6 Y)  (a0 : Int32) (σ : St) (H : Heap) (locs : List Loc) (ls : Array Slot) (hw : WS Y (AD Y) s.heap σ H locs) (hl : lv_has ls 1 [(0, .int a0)]) (h : wX6_isImage a0 σ Q) : W p l e { frames := 0, cells := 0, slots := 0, locals := 0 } s m args below meth c H locs 0 0 (MQ below (QI Y Q) args s 0 0 (AD Y)) (F0 m 0 ls []) := by
  obtain ⟨hx, hb, hr, hml, hown, hlk, hT, hK, hB⟩ := id M
  unfold wX6_isImage at h
  refine lv_iload_n hx hb dX6_isImage_0 rfl (lv_at hl 0 rfl) ?_
  refine lv_if_lt (tgt := 13) hx hb dX6_isImage_1 (by decide) (fun c1 => ?_) (fun c1 => ?_)
  · have h := h.1 c1
    refine lv_iconst (v := 0) hx hb dX6_isImage_13 (by decide) ?_
    exact q_zret M hw (by decide) h dX6_isImage_14
  · have h := h.2 c1
    refine lv_iload_n hx hb dX6_isImage_4 rfl (lv_at hl 0 rfl) ?_
    refine lv_iconst (v := 2) hx hb dX6_isImage_5 (by decide) ?_
    refine lv_icmp_ge (tgt := 13) hx hb dX6_isImage_6 (by decide) (fun c2 => ?_) (fun c2 => ?_)
    · have h := h.1 c2
      refine lv_iconst (v := 0) hx hb dX6_isImage_13 (by decide) ?_
      exact q_zret M hw (by decide) h dX6_isImage_14
    · have h := h.2 c2
      refine lv_iconst (v := 1) hx hb dX6_isImage_9 (by decide) ?_
      refine lv_goto (tgt := 14) hx hb dX6_isImage_10 (by decide) ?_
      exact q_zret M hw (by decide) h dX6_isImage_14
set_option maxRecDepth 100000 in
theorem ctX6_isImage (l : Launch) {Y : LY} (hB : YB Y) (a0 : Int32) (σ : St) (Q : Int32 → St → Prop) (h : wX6_isImage a0 σ Q) : CT l yX6_isImage (Cond.code yX6_isImage cX6_isImage 1 (some .boolean)) { frames := 0, cells := 0, slots := 0, locals := 0 } Y [.int a0] σ (QI Y Q) :=
  q_ent hB (by decide +kernel) (Nat.le_of_ble_eq_true rfl) (fun p e s m below meth c ls M hw hl => tX6_isImage_E M a0 σ _ _ ls hw hl h)
theorem mbX6_isImage : MBS yX6_isImage cX6_isImage 1 1 (some .boolean) := ⟨tw_606, tw_49, tw_607, by decide +kernel⟩
end
section
variable {p : Program} {l : Launch} {e : Env} {s : State} {m : MethodId} {args : Array Value} {below : List Frame} {meth : Method} {c : Code} {Y : LY}
theorem dX6_keep_0 : decode cX6_keep 0 = .ok (.iload_n 1, 1) := by decide +kernel
theorem dX6_keep_1 : decode cX6_keep 1 = .ok (.invokestatic 246, 3) := by decide +kernel
theorem dX6_keep_4 : decode cX6_keep 4 = .ok (.ifCond .ne 5, 3) := by decide +kernel
theorem dX6_keep_7 : decode cX6_keep 7 = .ok (.iconst (-1), 1) := by decide +kernel
theorem dX6_keep_8 : decode cX6_keep 8 = .ok (.ireturn, 1) := by decide +kernel
theorem dX6_keep_9 : decode cX6_keep 9 = .ok (.aload_n 0, 1) := by decide +kernel
theorem dX6_keep_10 : decode cX6_keep 10 = .ok (.getfield 47, 3) := by decide +kernel
theorem dX6_keep_13 : decode cX6_keep 13 = .ok (.iload_n 1, 1) := by decide +kernel
theorem dX6_keep_14 : decode cX6_keep 14 = .ok (.aaload, 1) := by decide +kernel
theorem dX6_keep_15 : decode cX6_keep 15 = .ok (.aload_n 0, 1) := by decide +kernel
theorem dX6_keep_16 : decode cX6_keep 16 = .ok (.getfield 36, 3) := by decide +kernel
theorem dX6_keep_19 : decode cX6_keep 19 = .ok (.invokevirtual 249, 3) := by decide +kernel
theorem dX6_keep_22 : decode cX6_keep 22 = .ok (.aload_n 0, 1) := by decide +kernel
theorem dX6_keep_23 : decode cX6_keep 23 = .ok (.getfield 51, 3) := by decide +kernel
theorem dX6_keep_26 : decode cX6_keep 26 = .ok (.iload_n 1, 1) := by decide +kernel
theorem dX6_keep_27 : decode cX6_keep 27 = .ok (.iconst 1, 1) := by decide +kernel
theorem dX6_keep_28 : decode cX6_keep 28 = .ok (.bastore, 1) := by decide +kernel
theorem dX6_keep_29 : decode cX6_keep 29 = .ok (.aload_n 0, 1) := by decide +kernel
theorem dX6_keep_30 : decode cX6_keep 30 = .ok (.getfield 36, 3) := by decide +kernel
theorem dX6_keep_33 : decode cX6_keep 33 = .ok (.getfield 133, 3) := by decide +kernel
theorem dX6_keep_36 : decode cX6_keep 36 = .ok (.ireturn, 1) := by decide +kernel
def wX6_keep (a0 : Int32) (σ : St) (Q : Int32 → St → Prop) : Prop :=
  wX6_isImage a0 σ (fun r2 σ1 => ((r2 = 0 → Q (-1) σ1) ∧ (¬ r2 = 0 → (vp_in a0 2 ∧ wX4_copy (75 + 1 + 5 * a0.toNatClampNeg) 18 σ1 (fun σ5 => (vp_in a0 2 ∧ ∀ σ7 : St, σ7 = up σ5 86 a0.toNatClampNeg (vp_nar .boolean 1) → Q (σ7.1 18 4) σ7))))))
set_option maxHeartbeats 4000000 in
set_option maxRecDepth 100000 in
theorem tX6_keep_E {Q : Int32 → St → Prop} (M : MC p s m args meth c cX6_keep 2 (some .int) RX6 Y) (hN : yN Y = 108) (h0 : c0s Y 3 9) (a0 : Int32) (σ : St) (H : Heap) (locs : List Loc) (ls : Array Slot) (hw : WS Y (AD Y) s.heap σ H locs) (hl : lv_has ls 2 [(0, .ref (yA Y 0)), (1, .int a0)]) (h : wX6_keep a0 σ Q) : W p l e { frames := 1, cells := 0, slots := 0, locals := 22 } s m args below meth c H locs 0 0 (MQ below (QI Y Q) args s 0 0 (AD Y)) (F0 m 0 ls []) := by
  obtain ⟨hx, hb, hr, hml, hown, hlk, hT, hK, hB⟩ := id M
  unfold wX6_keep at h
  refine lv_iload_n hx hb dX6_keep_0 rfl (lv_at hl 1 rfl) ?_
  refine q_goI hw (q_runS (rest := []) M hw (ctX6_isImage l hB a0 σ _ h) mbX6_isImage tw_605 rfl hl.1 rfl (Nat.le_of_ble_eq_true rfl) ⟨Nat.le_of_ble_eq_true rfl, Nat.le_of_ble_eq_true rfl⟩ ⟨Nat.le_refl _, Nat.le_refl _⟩ dX6_keep_1) (fun r2 σ1 H locs h hw => ?_)
  refine lv_if_ne (tgt := 9) hx hb dX6_keep_4 (by decide) (fun c3 => ?_) (fun c3 => ?_)
  · have h := h.2 c3
    refine lv_aload_n hx hb dX6_keep_9 rfl (lv_at hl 0 rfl) ?_
    refine q_get (v := .ref (yA Y 75)) M hw (ob_0 hN h0) rfl inq_6 6 (by decide) tw_263 rfl dX6_keep_10 ?_
    refine lv_iload_n hx hb dX6_keep_13 rfl (lv_at hl 1 rfl) ?_
    have c4 := h.1
    have h := h.2
    refine q_sld M hw (i := 75) (n := 2) (by rw [hN]; decide) (fun _ => rfl) c4 dX6_keep_14 ?_
    refine lv_aload_n hx hb dX6_keep_15 rfl (lv_at hl 0 rfl) ?_
    refine q_get (v := .ref (yA Y 18)) M hw (ob_0 hN h0) rfl inq_6 4 (by decide) tw_261 rfl dX6_keep_16 ?_
    refine q_goV hw (q_runV (rest := []) M hw (ctX4_copy l hB (sh_imag hN c4) (sh_18 hN) σ1 _ h) mbX4_copy (sh_ob (sh_imag hN c4)) rfl tw_608 rfl hl.1 rfl (Nat.le_of_ble_eq_true rfl) ⟨Nat.le_of_ble_eq_true rfl, Nat.le_of_ble_eq_true rfl⟩ ⟨Nat.le_refl _, Nat.le_refl _⟩ dX6_keep_19) (fun σ5 H locs h hw => ?_)
    refine lv_aload_n hx hb dX6_keep_22 rfl (lv_at hl 0 rfl) ?_
    refine q_get (v := .ref (yA Y 86)) M hw (ob_0 hN h0) rfl inq_6 7 (by decide) tw_264 rfl dX6_keep_23 ?_
    refine lv_iload_n hx hb dX6_keep_26 rfl (lv_at hl 1 rfl) ?_
    refine lv_iconst (v := 1) hx hb dX6_keep_27 (by decide) ?_
    have c6 := h.1
    refine q_zst M hw (ar_86 hN) c6 dX6_keep_28 (fun σ7 H locs es hw => ?_)
    have h := h.2 σ7 es
    refine lv_aload_n hx hb dX6_keep_29 rfl (lv_at hl 0 rfl) ?_
    refine q_get (v := .ref (yA Y 18)) M hw (ob_0 hN h0) rfl inq_6 4 (by decide) tw_261 rfl dX6_keep_30 ?_
    refine q_get (v := .int (σ7.1 18 4)) M hw (sh_ob (sh_18 hN)) rfl inq_4 4 (by decide) tw_194 rfl dX6_keep_33 ?_
    exact q_iret M hw h dX6_keep_36
  · have h := h.1 c3
    refine lv_iconst (v := (-1)) hx hb dX6_keep_7 (by decide) ?_
    exact q_iret M hw h dX6_keep_8
set_option maxRecDepth 100000 in
theorem ctX6_keep (l : Launch) {Y : LY} (hB : YB Y) (hN : yN Y = 108) (h0 : c0s Y 3 9) (a0 : Int32) (σ : St) (Q : Int32 → St → Prop) (h : wX6_keep a0 σ Q) : CT l yX6_keep (Cond.code yX6_keep cX6_keep 2 (some .int)) { frames := 1, cells := 0, slots := 0, locals := 22 } Y [.ref (yA Y 0), .int a0] σ (QI Y Q) :=
  q_ent hB (by decide +kernel) (Nat.le_of_ble_eq_true rfl) (fun p e s m below meth c ls M hw hl => tX6_keep_E M hN h0 a0 σ _ _ ls hw hl h)
theorem mbX6_keep : MB RX6 yX6_keep cX6_keep 1 2 (some .int) := ⟨tw_602, tw_603, tw_49, tw_604, by decide +kernel⟩
end
section
variable {p : Program} {l : Launch} {e : Env} {s : State} {m : MethodId} {args : Array Value} {below : List Frame} {meth : Method} {c : Code} {Y : LY}
theorem dX6_back_0 : decode cX6_back 0 = .ok (.iload_n 1, 1) := by decide +kernel
theorem dX6_back_1 : decode cX6_back 1 = .ok (.invokestatic 246, 3) := by decide +kernel
theorem dX6_back_4 : decode cX6_back 4 = .ok (.ifCond .ne 5, 3) := by decide +kernel
theorem dX6_back_7 : decode cX6_back 7 = .ok (.iconst (-1), 1) := by decide +kernel
theorem dX6_back_8 : decode cX6_back 8 = .ok (.ireturn, 1) := by decide +kernel
theorem dX6_back_9 : decode cX6_back 9 = .ok (.aload_n 0, 1) := by decide +kernel
theorem dX6_back_10 : decode cX6_back 10 = .ok (.getfield 51, 3) := by decide +kernel
theorem dX6_back_13 : decode cX6_back 13 = .ok (.iload_n 1, 1) := by decide +kernel
theorem dX6_back_14 : decode cX6_back 14 = .ok (.baload, 1) := by decide +kernel
theorem dX6_back_15 : decode cX6_back 15 = .ok (.ifCond .ne 6, 3) := by decide +kernel
theorem dX6_back_18 : decode cX6_back 18 = .ok (.bipush (-2), 2) := by decide +kernel
theorem dX6_back_20 : decode cX6_back 20 = .ok (.ireturn, 1) := by decide +kernel
theorem dX6_back_21 : decode cX6_back 21 = .ok (.aload_n 0, 1) := by decide +kernel
theorem dX6_back_22 : decode cX6_back 22 = .ok (.getfield 36, 3) := by decide +kernel
theorem dX6_back_25 : decode cX6_back 25 = .ok (.aload_n 0, 1) := by decide +kernel
theorem dX6_back_26 : decode cX6_back 26 = .ok (.getfield 47, 3) := by decide +kernel
theorem dX6_back_29 : decode cX6_back 29 = .ok (.iload_n 1, 1) := by decide +kernel
theorem dX6_back_30 : decode cX6_back 30 = .ok (.aaload, 1) := by decide +kernel
theorem dX6_back_31 : decode cX6_back 31 = .ok (.invokevirtual 249, 3) := by decide +kernel
theorem dX6_back_34 : decode cX6_back 34 = .ok (.aload_n 0, 1) := by decide +kernel
theorem dX6_back_35 : decode cX6_back 35 = .ok (.getfield 43, 3) := by decide +kernel
theorem dX6_back_38 : decode cX6_back 38 = .ok (.invokevirtual 86, 3) := by decide +kernel
theorem dX6_back_41 : decode cX6_back 41 = .ok (.aload_n 0, 1) := by decide +kernel
theorem dX6_back_42 : decode cX6_back 42 = .ok (.getfield 36, 3) := by decide +kernel
theorem dX6_back_45 : decode cX6_back 45 = .ok (.getfield 133, 3) := by decide +kernel
theorem dX6_back_48 : decode cX6_back 48 = .ok (.ireturn, 1) := by decide +kernel
def wX6_back (a0 : Int32) (σ : St) (Q : Int32 → St → Prop) : Prop :=
  wX6_isImage a0 σ (fun r2 σ1 => ((r2 = 0 → Q (-1) σ1) ∧ (¬ r2 = 0 → (vp_in a0 2 ∧ (((σ1.1 86 a0.toNatClampNeg) = 0 → Q (-2) σ1) ∧ (¬ (σ1.1 86 a0.toNatClampNeg) = 0 → (vp_in a0 2 ∧ wX4_copy 18 (75 + 1 + 5 * a0.toNatClampNeg) σ1 (fun σ7 => wX2_forgetAll σ7 (fun σ8 => Q (σ8.1 18 4) σ8)))))))))
set_option maxHeartbeats 4000000 in
set_option maxRecDepth 100000 in
theorem tX6_back_E {Q : Int32 → St → Prop} (M : MC p s m args meth c cX6_back 2 (some .int) RX6 Y) (hN : yN Y = 108) (h0 : c0s Y 3 9) (a0 : Int32) (σ : St) (H : Heap) (locs : List Loc) (ls : Array Slot) (hw : WS Y (AD Y) s.heap σ H locs) (hl : lv_has ls 2 [(0, .ref (yA Y 0)), (1, .int a0)]) (h : wX6_back a0 σ Q) : W p l e { frames := 1, cells := 0, slots := 0, locals := 22 } s m args below meth c H locs 0 0 (MQ below (QI Y Q) args s 0 0 (AD Y)) (F0 m 0 ls []) := by
  obtain ⟨hx, hb, hr, hml, hown, hlk, hT, hK, hB⟩ := id M
  unfold wX6_back at h
  refine lv_iload_n hx hb dX6_back_0 rfl (lv_at hl 1 rfl) ?_
  refine q_goI hw (q_runS (rest := []) M hw (ctX6_isImage l hB a0 σ _ h) mbX6_isImage tw_605 rfl hl.1 rfl (Nat.le_of_ble_eq_true rfl) ⟨Nat.le_of_ble_eq_true rfl, Nat.le_of_ble_eq_true rfl⟩ ⟨Nat.le_refl _, Nat.le_refl _⟩ dX6_back_1) (fun r2 σ1 H locs h hw => ?_)
  refine lv_if_ne (tgt := 9) hx hb dX6_back_4 (by decide) (fun c3 => ?_) (fun c3 => ?_)
  · have h := h.2 c3
    refine lv_aload_n hx hb dX6_back_9 rfl (lv_at hl 0 rfl) ?_
    refine q_get (v := .ref (yA Y 86)) M hw (ob_0 hN h0) rfl inq_6 7 (by decide) tw_264 rfl dX6_back_10 ?_
    refine lv_iload_n hx hb dX6_back_13 rfl (lv_at hl 1 rfl) ?_
    have c4 := h.1
    have h := h.2
    refine q_zld M hw (ar_86 hN) c4 dX6_back_14 ?_
    refine lv_if_ne (tgt := 21) hx hb dX6_back_15 (by decide) (fun c5 => ?_) (fun c5 => ?_)
    · have h := h.2 c5
      refine lv_aload_n hx hb dX6_back_21 rfl (lv_at hl 0 rfl) ?_
      refine q_get (v := .ref (yA Y 18)) M hw (ob_0 hN h0) rfl inq_6 4 (by decide) tw_261 rfl dX6_back_22 ?_
      refine lv_aload_n hx hb dX6_back_25 rfl (lv_at hl 0 rfl) ?_
      refine q_get (v := .ref (yA Y 75)) M hw (ob_0 hN h0) rfl inq_6 6 (by decide) tw_263 rfl dX6_back_26 ?_
      refine lv_iload_n hx hb dX6_back_29 rfl (lv_at hl 1 rfl) ?_
      have c6 := h.1
      have h := h.2
      refine q_sld M hw (i := 75) (n := 2) (by rw [hN]; decide) (fun _ => rfl) c6 dX6_back_30 ?_
      refine q_goV hw (q_runV (rest := []) M hw (ctX4_copy l hB (sh_18 hN) (sh_imag hN c6) σ1 _ h) mbX4_copy (sh_ob (sh_18 hN)) rfl tw_608 rfl hl.1 rfl (Nat.le_of_ble_eq_true rfl) ⟨Nat.le_of_ble_eq_true rfl, Nat.le_of_ble_eq_true rfl⟩ ⟨Nat.le_refl _, Nat.le_refl _⟩ dX6_back_31) (fun σ7 H locs h hw => ?_)
      refine lv_aload_n hx hb dX6_back_34 rfl (lv_at hl 0 rfl) ?_
      refine q_get (v := .ref (yA Y 23)) M hw (ob_0 hN h0) rfl inq_6 5 (by decide) tw_262 rfl dX6_back_35 ?_
      refine q_goV hw (q_runV (rest := []) M hw (ctX2_forgetAll l hB hN σ7 _ h) mbX2_forgetAll (ob_23 hN) rfl tw_359 rfl hl.1 rfl (Nat.le_of_ble_eq_true rfl) ⟨Nat.le_of_ble_eq_true rfl, Nat.le_of_ble_eq_true rfl⟩ ⟨Nat.le_refl _, Nat.le_refl _⟩ dX6_back_38) (fun σ8 H locs h hw => ?_)
      refine lv_aload_n hx hb dX6_back_41 rfl (lv_at hl 0 rfl) ?_
      refine q_get (v := .ref (yA Y 18)) M hw (ob_0 hN h0) rfl inq_6 4 (by decide) tw_261 rfl dX6_back_42 ?_
      refine q_get (v := .int (σ8.1 18 4)) M hw (sh_ob (sh_18 hN)) rfl inq_4 4 (by decide) tw_194 rfl dX6_back_45 ?_
      exact q_iret M hw h dX6_back_48
    · have h := h.1 c5
      refine lv_bipush (v := (-2)) hx hb dX6_back_18 (by decide) ?_
      exact q_iret M hw h dX6_back_20
  · have h := h.1 c3
    refine lv_iconst (v := (-1)) hx hb dX6_back_7 (by decide) ?_
    exact q_iret M hw h dX6_back_8
set_option maxRecDepth 100000 in
theorem ctX6_back (l : Launch) {Y : LY} (hB : YB Y) (hN : yN Y = 108) (h0 : c0s Y 3 9) (a0 : Int32) (σ : St) (Q : Int32 → St → Prop) (h : wX6_back a0 σ Q) : CT l yX6_back (Cond.code yX6_back cX6_back 2 (some .int)) { frames := 1, cells := 0, slots := 0, locals := 22 } Y [.ref (yA Y 0), .int a0] σ (QI Y Q) :=
  q_ent hB (by decide +kernel) (Nat.le_of_ble_eq_true rfl) (fun p e s m below meth c ls M hw hl => tX6_back_E M hN h0 a0 σ _ _ ls hw hl h)
theorem mbX6_back : MB RX6 yX6_back cX6_back 1 2 (some .int) := ⟨tw_610, tw_611, tw_49, tw_612, by decide +kernel⟩
end
section
variable {p : Program} {l : Launch} {e : Env} {s : State} {m : MethodId} {args : Array Value} {below : List Frame} {meth : Method} {c : Code} {Y : LY}
theorem dX6_count_0 : decode cX6_count 0 = .ok (.iload_n 1, 1) := by decide +kernel
theorem dX6_count_1 : decode cX6_count 1 = .ok (.tableswitch 87 0 5 #[39, 47, 55, 63, 71, 79], 39) := by decide +kernel
theorem dX6_count_40 : decode cX6_count 40 = .ok (.aload_n 0, 1) := by decide +kernel
theorem dX6_count_41 : decode cX6_count 41 = .ok (.getfield 19, 3) := by decide +kernel
theorem dX6_count_44 : decode cX6_count 44 = .ok (.getfield 207, 3) := by decide +kernel
theorem dX6_count_47 : decode cX6_count 47 = .ok (.ireturn, 1) := by decide +kernel
theorem dX6_count_48 : decode cX6_count 48 = .ok (.aload_n 0, 1) := by decide +kernel
theorem dX6_count_49 : decode cX6_count 49 = .ok (.getfield 19, 3) := by decide +kernel
theorem dX6_count_52 : decode cX6_count 52 = .ok (.getfield 252, 3) := by decide +kernel
theorem dX6_count_55 : decode cX6_count 55 = .ok (.ireturn, 1) := by decide +kernel
theorem dX6_count_56 : decode cX6_count 56 = .ok (.aload_n 0, 1) := by decide +kernel
theorem dX6_count_57 : decode cX6_count 57 = .ok (.getfield 19, 3) := by decide +kernel
theorem dX6_count_60 : decode cX6_count 60 = .ok (.getfield 255, 3) := by decide +kernel
theorem dX6_count_63 : decode cX6_count 63 = .ok (.ireturn, 1) := by decide +kernel
theorem dX6_count_64 : decode cX6_count 64 = .ok (.aload_n 0, 1) := by decide +kernel
theorem dX6_count_65 : decode cX6_count 65 = .ok (.getfield 19, 3) := by decide +kernel
theorem dX6_count_68 : decode cX6_count 68 = .ok (.getfield 221, 3) := by decide +kernel
theorem dX6_count_71 : decode cX6_count 71 = .ok (.ireturn, 1) := by decide +kernel
theorem dX6_count_72 : decode cX6_count 72 = .ok (.aload_n 0, 1) := by decide +kernel
theorem dX6_count_73 : decode cX6_count 73 = .ok (.getfield 58, 3) := by decide +kernel
theorem dX6_count_76 : decode cX6_count 76 = .ok (.getfield 89, 3) := by decide +kernel
theorem dX6_count_79 : decode cX6_count 79 = .ok (.ireturn, 1) := by decide +kernel
theorem dX6_count_80 : decode cX6_count 80 = .ok (.aload_n 0, 1) := by decide +kernel
theorem dX6_count_81 : decode cX6_count 81 = .ok (.getfield 10, 3) := by decide +kernel
theorem dX6_count_84 : decode cX6_count 84 = .ok (.getfield 70, 3) := by decide +kernel
theorem dX6_count_87 : decode cX6_count 87 = .ok (.ireturn, 1) := by decide +kernel
theorem dX6_count_88 : decode cX6_count 88 = .ok (.iconst (-1), 1) := by decide +kernel
theorem dX6_count_89 : decode cX6_count 89 = .ok (.ireturn, 1) := by decide +kernel
def wX6_count (a0 : Int32) (σ : St) (Q : Int32 → St → Prop) : Prop :=
  ((a0 = 0 → Q (σ.1 3 5) σ) ∧ (¬ a0 = 0 → ((a0 = 1 → Q (σ.1 3 6) σ) ∧ (¬ a0 = 1 → ((a0 = 2 → Q (σ.1 3 7) σ) ∧ (¬ a0 = 2 → ((a0 = 3 → Q (σ.1 3 8) σ) ∧ (¬ a0 = 3 → ((a0 = 4 → Q (σ.1 87 3) σ) ∧ (¬ a0 = 4 → ((a0 = 5 → Q (σ.1 2 1) σ) ∧ (¬ a0 = 5 → Q (-1) σ))))))))))))
set_option maxHeartbeats 4000000 in
set_option maxRecDepth 100000 in
theorem tX6_count_E {Q : Int32 → St → Prop} (M : MC p s m args meth c cX6_count 2 (some .int) RX6 Y) (hN : yN Y = 108) (h0 : c0s Y 3 9) (a0 : Int32) (σ : St) (H : Heap) (locs : List Loc) (ls : Array Slot) (hw : WS Y (AD Y) s.heap σ H locs) (hl : lv_has ls 2 [(0, .ref (yA Y 0)), (1, .int a0)]) (h : wX6_count a0 σ Q) : W p l e { frames := 0, cells := 0, slots := 0, locals := 0 } s m args below meth c H locs 0 0 (MQ below (QI Y Q) args s 0 0 (AD Y)) (F0 m 0 ls []) := by
  obtain ⟨hx, hb, hr, hml, hown, hlk, hT, hK, hB⟩ := id M
  unfold wX6_count at h
  refine lv_iload_n hx hb dX6_count_0 rfl (lv_at hl 1 rfl) ?_
  by_cases c1 : a0 = 0
  · have h := h.1 c1
    refine lv_tableIn (tgt := 40) hx hb dX6_count_1 (by rw [c1]; decide) (by rw [c1]; decide) (by rw [c1]; first | done | rfl) (by decide) ?_
    refine lv_aload_n hx hb dX6_count_40 rfl (lv_at hl 0 rfl) ?_
    refine q_get (v := .ref (yA Y 3)) M hw (ob_0 hN h0) rfl inq_6 1 (by decide) tw_258 rfl dX6_count_41 ?_
    refine q_get (v := .int (σ.1 3 5)) M hw (ph_ob (ph_3 hN)) rfl inq_3 5 (by decide) tw_119 rfl dX6_count_44 ?_
    exact q_iret M hw h dX6_count_47
  · have h := h.2 c1
    by_cases c2 : a0 = 1
    · have h := h.1 c2
      refine lv_tableIn (tgt := 48) hx hb dX6_count_1 (by rw [c2]; decide) (by rw [c2]; decide) (by rw [c2]; first | done | rfl) (by decide) ?_
      refine lv_aload_n hx hb dX6_count_48 rfl (lv_at hl 0 rfl) ?_
      refine q_get (v := .ref (yA Y 3)) M hw (ob_0 hN h0) rfl inq_6 1 (by decide) tw_258 rfl dX6_count_49 ?_
      refine q_get (v := .int (σ.1 3 6)) M hw (ph_ob (ph_3 hN)) rfl inq_3 6 (by decide) tw_122 rfl dX6_count_52 ?_
      exact q_iret M hw h dX6_count_55
    · have h := h.2 c2
      by_cases c3 : a0 = 2
      · have h := h.1 c3
        refine lv_tableIn (tgt := 56) hx hb dX6_count_1 (by rw [c3]; decide) (by rw [c3]; decide) (by rw [c3]; first | done | rfl) (by decide) ?_
        refine lv_aload_n hx hb dX6_count_56 rfl (lv_at hl 0 rfl) ?_
        refine q_get (v := .ref (yA Y 3)) M hw (ob_0 hN h0) rfl inq_6 1 (by decide) tw_258 rfl dX6_count_57 ?_
        refine q_get (v := .int (σ.1 3 7)) M hw (ph_ob (ph_3 hN)) rfl inq_3 7 (by decide) tw_125 rfl dX6_count_60 ?_
        exact q_iret M hw h dX6_count_63
      · have h := h.2 c3
        by_cases c4 : a0 = 3
        · have h := h.1 c4
          refine lv_tableIn (tgt := 64) hx hb dX6_count_1 (by rw [c4]; decide) (by rw [c4]; decide) (by rw [c4]; first | done | rfl) (by decide) ?_
          refine lv_aload_n hx hb dX6_count_64 rfl (lv_at hl 0 rfl) ?_
          refine q_get (v := .ref (yA Y 3)) M hw (ob_0 hN h0) rfl inq_6 1 (by decide) tw_258 rfl dX6_count_65 ?_
          refine q_get (v := .int (σ.1 3 8)) M hw (ph_ob (ph_3 hN)) rfl inq_3 8 (by decide) tw_129 rfl dX6_count_68 ?_
          exact q_iret M hw h dX6_count_71
        · have h := h.2 c4
          by_cases c5 : a0 = 4
          · have h := h.1 c5
            refine lv_tableIn (tgt := 72) hx hb dX6_count_1 (by rw [c5]; decide) (by rw [c5]; decide) (by rw [c5]; first | done | rfl) (by decide) ?_
            refine lv_aload_n hx hb dX6_count_72 rfl (lv_at hl 0 rfl) ?_
            refine q_get (v := .ref (yA Y 87)) M hw (ob_0 hN h0) rfl inq_6 8 (by decide) tw_265 rfl dX6_count_73 ?_
            refine q_get (v := .int (σ.1 87 3)) M hw (ob_87 hN) rfl inq_1 3 (by decide) tw_247 rfl dX6_count_76 ?_
            exact q_iret M hw h dX6_count_79
          · have h := h.2 c5
            by_cases c6 : a0 = 5
            · have h := h.1 c6
              refine lv_tableIn (tgt := 80) hx hb dX6_count_1 (by rw [c6]; decide) (by rw [c6]; decide) (by rw [c6]; first | done | rfl) (by decide) ?_
              refine lv_aload_n hx hb dX6_count_80 rfl (lv_at hl 0 rfl) ?_
              refine q_get (v := .ref (yA Y 2)) M hw (ob_0 hN h0) rfl inq_6 0 (by decide) tw_257 rfl dX6_count_81 ?_
              refine q_get (v := .int (σ.1 2 1)) M hw (ob_2 hN) rfl inq_5 1 (by decide) tw_74 rfl dX6_count_84 ?_
              exact q_iret M hw h dX6_count_87
            · have h := h.2 c6
              refine lv_tableOut (tgt := 88) hx hb dX6_count_1 (sw_out 5 (by decide) (fun k hk => ?_)) (by decide) ?_
              · rcases (by omega : k = 0 ∨ k = 1 ∨ k = 2 ∨ k = 3 ∨ k = 4 ∨ k = 5) with rfl | rfl | rfl | rfl | rfl | rfl
                · exact c1
                · exact c2
                · exact c3
                · exact c4
                · exact c5
                · exact c6
              · refine lv_iconst (v := (-1)) hx hb dX6_count_88 (by decide) ?_
                exact q_iret M hw h dX6_count_89
set_option maxRecDepth 100000 in
theorem ctX6_count (l : Launch) {Y : LY} (hB : YB Y) (hN : yN Y = 108) (h0 : c0s Y 3 9) (a0 : Int32) (σ : St) (Q : Int32 → St → Prop) (h : wX6_count a0 σ Q) : CT l yX6_count (Cond.code yX6_count cX6_count 2 (some .int)) { frames := 0, cells := 0, slots := 0, locals := 0 } Y [.ref (yA Y 0), .int a0] σ (QI Y Q) :=
  q_ent hB (by decide +kernel) (Nat.le_of_ble_eq_true rfl) (fun p e s m below meth c ls M hw hl => tX6_count_E M hN h0 a0 σ _ _ ls hw hl h)
theorem mbX6_count : MB RX6 yX6_count cX6_count 1 2 (some .int) := ⟨tw_614, tw_615, tw_49, tw_616, by decide +kernel⟩
end
section
variable {p : Program} {l : Launch} {e : Env} {s : State} {m : MethodId} {args : Array Value} {below : List Frame} {meth : Method} {c : Code} {Y : LY}
theorem dX6_trace_0 : decode cX6_trace 0 = .ok (.aload_n 0, 1) := by decide +kernel
theorem dX6_trace_1 : decode cX6_trace 1 = .ok (.getfield 258, 3) := by decide +kernel
theorem dX6_trace_4 : decode cX6_trace 4 = .ok (.lreturn, 1) := by decide +kernel
def wX6_trace (σ : St) (Q : Int64 → St → Prop) : Prop :=
  Q (σ.2.1) σ
set_option maxHeartbeats 4000000 in
set_option maxRecDepth 100000 in
theorem tX6_trace_E {Q : Int64 → St → Prop} (M : MC p s m args meth c cX6_trace 1 (some .long) RX6 Y) (hN : yN Y = 108) (h0 : c0s Y 3 9)  (σ : St) (H : Heap) (locs : List Loc) (ls : Array Slot) (hw : WS Y (AD Y) s.heap σ H locs) (hl : lv_has ls 1 [(0, .ref (yA Y 0))]) (h : wX6_trace σ Q) : W p l e { frames := 0, cells := 0, slots := 0, locals := 0 } s m args below meth c H locs 0 0 (MQ below (QL Y Q) args s 0 0 (AD Y)) (F0 m 0 ls []) := by
  obtain ⟨hx, hb, hr, hml, hown, hlk, hT, hK, hB⟩ := id M
  unfold wX6_trace at h
  refine lv_aload_n hx hb dX6_trace_0 rfl (lv_at hl 0 rfl) ?_
  refine q_get (v := .long (σ.2.1)) M hw (ob_0 hN h0) rfl inq_6 10 (by decide) tw_267 rfl dX6_trace_1 ?_
  exact q_lret M hw h dX6_trace_4
set_option maxRecDepth 100000 in
theorem ctX6_trace (l : Launch) {Y : LY} (hB : YB Y) (hN : yN Y = 108) (h0 : c0s Y 3 9) (σ : St) (Q : Int64 → St → Prop) (h : wX6_trace σ Q) : CT l yX6_trace (Cond.code yX6_trace cX6_trace 1 (some .long)) { frames := 0, cells := 0, slots := 0, locals := 0 } Y [.ref (yA Y 0)] σ (QL Y Q) :=
  q_ent hB (by decide +kernel) (Nat.le_of_ble_eq_true rfl) (fun p e s m below meth c ls M hw hl => tX6_trace_E M hN h0 σ _ _ ls hw hl h)
theorem mbX6_trace : MB RX6 yX6_trace cX6_trace 0 1 (some .long) := ⟨tw_618, tw_619, tw_49, tw_620, by decide +kernel⟩
end
