section
variable {p : Program} {l : Launch} {e : Env} {s : State} {m : MethodId} {args : Array Value} {below : List Frame} {meth : Method} {c : Code} {Y : LY}
theorem dX7_lends_0 : decode cX7_lends 0 = .ok (.aload_n 0, 1) := by decide +kernel
theorem dX7_lends_1 : decode cX7_lends 1 = .ok (.iconst 0, 1) := by decide +kernel
theorem dX7_lends_2 : decode cX7_lends 2 = .ok (.putfield 62, 3) := by decide +kernel
theorem dX7_lends_5 : decode cX7_lends 5 = .ok (.aload_n 0, 1) := by decide +kernel
theorem dX7_lends_6 : decode cX7_lends 6 = .ok (.iload_n 1, 1) := by decide +kernel
theorem dX7_lends_7 : decode cX7_lends 7 = .ok (.invokevirtual 127, 3) := by decide +kernel
theorem dX7_lends_10 : decode cX7_lends 10 = .ok (.ifCond .eq 26, 3) := by decide +kernel
theorem dX7_lends_13 : decode cX7_lends 13 = .ok (.aload_n 0, 1) := by decide +kernel
theorem dX7_lends_14 : decode cX7_lends 14 = .ok (.iload_n 2, 1) := by decide +kernel
theorem dX7_lends_15 : decode cX7_lends 15 = .ok (.invokevirtual 127, 3) := by decide +kernel
theorem dX7_lends_18 : decode cX7_lends 18 = .ok (.ifCond .eq 18, 3) := by decide +kernel
theorem dX7_lends_21 : decode cX7_lends 21 = .ok (.iload_n 1, 1) := by decide +kernel
theorem dX7_lends_22 : decode cX7_lends 22 = .ok (.iload_n 2, 1) := by decide +kernel
theorem dX7_lends_23 : decode cX7_lends 23 = .ok (.if_icmp .eq 13, 3) := by decide +kernel
theorem dX7_lends_26 : decode cX7_lends 26 = .ok (.iload_n 3, 1) := by decide +kernel
theorem dX7_lends_27 : decode cX7_lends 27 = .ok (.iconst 1, 1) := by decide +kernel
theorem dX7_lends_28 : decode cX7_lends 28 = .ok (.bipush 99, 2) := by decide +kernel
theorem dX7_lends_30 : decode cX7_lends 30 = .ok (.invokestatic 66, 3) := by decide +kernel
theorem dX7_lends_33 : decode cX7_lends 33 = .ok (.ifCond .ne 5, 3) := by decide +kernel
theorem dX7_lends_36 : decode cX7_lends 36 = .ok (.iconst (-1), 1) := by decide +kernel
theorem dX7_lends_37 : decode cX7_lends 37 = .ok (.ireturn, 1) := by decide +kernel
theorem dX7_lends_38 : decode cX7_lends 38 = .ok (.aload_n 0, 1) := by decide +kernel
theorem dX7_lends_39 : decode cX7_lends 39 = .ok (.iload_n 1, 1) := by decide +kernel
theorem dX7_lends_40 : decode cX7_lends 40 = .ok (.invokevirtual 136, 3) := by decide +kernel
theorem dX7_lends_43 : decode cX7_lends 43 = .ok (.ifCond .eq 39, 3) := by decide +kernel
theorem dX7_lends_46 : decode cX7_lends 46 = .ok (.aload_n 0, 1) := by decide +kernel
theorem dX7_lends_47 : decode cX7_lends 47 = .ok (.iload_n 2, 1) := by decide +kernel
theorem dX7_lends_48 : decode cX7_lends 48 = .ok (.invokevirtual 136, 3) := by decide +kernel
theorem dX7_lends_51 : decode cX7_lends 51 = .ok (.ifCond .eq 31, 3) := by decide +kernel
theorem dX7_lends_54 : decode cX7_lends 54 = .ok (.aload_n 0, 1) := by decide +kernel
theorem dX7_lends_55 : decode cX7_lends 55 = .ok (.getfield 32, 3) := by decide +kernel
theorem dX7_lends_58 : decode cX7_lends 58 = .ok (.iconst 1, 1) := by decide +kernel
theorem dX7_lends_59 : decode cX7_lends 59 = .ok (.iload_n 1, 1) := by decide +kernel
theorem dX7_lends_60 : decode cX7_lends 60 = .ok (.iadd, 1) := by decide +kernel
theorem dX7_lends_61 : decode cX7_lends 61 = .ok (.iaload, 1) := by decide +kernel
theorem dX7_lends_62 : decode cX7_lends 62 = .ok (.iload_n 3, 1) := by decide +kernel
theorem dX7_lends_63 : decode cX7_lends 63 = .ok (.if_icmp .lt 19, 3) := by decide +kernel
theorem dX7_lends_66 : decode cX7_lends 66 = .ok (.aload_n 0, 1) := by decide +kernel
theorem dX7_lends_67 : decode cX7_lends 67 = .ok (.getfield 32, 3) := by decide +kernel
theorem dX7_lends_70 : decode cX7_lends 70 = .ok (.iconst 1, 1) := by decide +kernel
theorem dX7_lends_71 : decode cX7_lends 71 = .ok (.iload_n 2, 1) := by decide +kernel
theorem dX7_lends_72 : decode cX7_lends 72 = .ok (.iadd, 1) := by decide +kernel
theorem dX7_lends_73 : decode cX7_lends 73 = .ok (.iaload, 1) := by decide +kernel
theorem dX7_lends_74 : decode cX7_lends 74 = .ok (.iload_n 3, 1) := by decide +kernel
theorem dX7_lends_75 : decode cX7_lends 75 = .ok (.iadd, 1) := by decide +kernel
theorem dX7_lends_76 : decode cX7_lends 76 = .ok (.sipush 999, 3) := by decide +kernel
theorem dX7_lends_79 : decode cX7_lends 79 = .ok (.if_icmp .le 6, 3) := by decide +kernel
theorem dX7_lends_82 : decode cX7_lends 82 = .ok (.bipush (-2), 2) := by decide +kernel
theorem dX7_lends_84 : decode cX7_lends 84 = .ok (.ireturn, 1) := by decide +kernel
theorem dX7_lends_85 : decode cX7_lends 85 = .ok (.aload_n 0, 1) := by decide +kernel
theorem dX7_lends_86 : decode cX7_lends 86 = .ok (.invokevirtual 139, 3) := by decide +kernel
theorem dX7_lends_89 : decode cX7_lends 89 = .ok (.aload_n 0, 1) := by decide +kernel
theorem dX7_lends_90 : decode cX7_lends 90 = .ok (.getfield 32, 3) := by decide +kernel
theorem dX7_lends_93 : decode cX7_lends 93 = .ok (.iconst 1, 1) := by decide +kernel
theorem dX7_lends_94 : decode cX7_lends 94 = .ok (.iload_n 1, 1) := by decide +kernel
theorem dX7_lends_95 : decode cX7_lends 95 = .ok (.iadd, 1) := by decide +kernel
theorem dX7_lends_96 : decode cX7_lends 96 = .ok (.dup2, 1) := by decide +kernel
theorem dX7_lends_97 : decode cX7_lends 97 = .ok (.iaload, 1) := by decide +kernel
theorem dX7_lends_98 : decode cX7_lends 98 = .ok (.iload_n 3, 1) := by decide +kernel
theorem dX7_lends_99 : decode cX7_lends 99 = .ok (.isub, 1) := by decide +kernel
theorem dX7_lends_100 : decode cX7_lends 100 = .ok (.iastore, 1) := by decide +kernel
theorem dX7_lends_101 : decode cX7_lends 101 = .ok (.aload_n 0, 1) := by decide +kernel
theorem dX7_lends_102 : decode cX7_lends 102 = .ok (.getfield 32, 3) := by decide +kernel
theorem dX7_lends_105 : decode cX7_lends 105 = .ok (.iconst 1, 1) := by decide +kernel
theorem dX7_lends_106 : decode cX7_lends 106 = .ok (.iload_n 2, 1) := by decide +kernel
theorem dX7_lends_107 : decode cX7_lends 107 = .ok (.iadd, 1) := by decide +kernel
theorem dX7_lends_108 : decode cX7_lends 108 = .ok (.dup2, 1) := by decide +kernel
theorem dX7_lends_109 : decode cX7_lends 109 = .ok (.iaload, 1) := by decide +kernel
theorem dX7_lends_110 : decode cX7_lends 110 = .ok (.iload_n 3, 1) := by decide +kernel
theorem dX7_lends_111 : decode cX7_lends 111 = .ok (.iadd, 1) := by decide +kernel
theorem dX7_lends_112 : decode cX7_lends 112 = .ok (.iastore, 1) := by decide +kernel
theorem dX7_lends_113 : decode cX7_lends 113 = .ok (.aload_n 0, 1) := by decide +kernel
theorem dX7_lends_114 : decode cX7_lends 114 = .ok (.getfield 32, 3) := by decide +kernel
theorem dX7_lends_117 : decode cX7_lends 117 = .ok (.iconst 1, 1) := by decide +kernel
theorem dX7_lends_118 : decode cX7_lends 118 = .ok (.iload_n 2, 1) := by decide +kernel
theorem dX7_lends_119 : decode cX7_lends 119 = .ok (.iadd, 1) := by decide +kernel
theorem dX7_lends_120 : decode cX7_lends 120 = .ok (.iaload, 1) := by decide +kernel
theorem dX7_lends_121 : decode cX7_lends 121 = .ok (.ireturn, 1) := by decide +kernel
def wX7_lends (a0 : Int32) (a1 : Int32) (a2 : Int32) (σ : St) (Q : Int32 → St → Prop) : Prop :=
  (∀ σ1 : St, σ1 = up σ 92 0 0 → wX7_isFarmer a0 σ1 (fun r3 σ2 => ((r3 = 0 → Q (-1) σ2) ∧ (¬ r3 = 0 → wX7_isFarmer a1 σ2 (fun r6 σ5 => ((r6 = 0 → Q (-1) σ5) ∧ (¬ r6 = 0 → ((a0 = a1 → Q (-1) σ5) ∧ (¬ a0 = a1 → wX7_in a2 1 99 σ5 (fun r10 σ9 => ((r10 = 0 → Q (-1) σ9) ∧ (¬ r10 = 0 → wX7_lives a0 σ9 (fun r13 σ12 => ((r13 = 0 → Q (-2) σ12) ∧ (¬ r13 = 0 → wX7_lives a1 σ12 (fun r16 σ15 => ((r16 = 0 → Q (-2) σ15) ∧ (¬ r16 = 0 → (vp_in (1 + a0) 27 ∧ (((σ15.1 100 (1 + a0).toNatClampNeg) < a2 → Q (-2) σ15) ∧ (¬ (σ15.1 100 (1 + a0).toNatClampNeg) < a2 → (vp_in (1 + a1) 27 ∧ ((((σ15.1 100 (1 + a1).toNatClampNeg) + a2) ≤ 999 → wX7_notes σ15 (fun σ22 => (vp_in (1 + a0) 27 ∧ (vp_in (1 + a0) 27 ∧ ∀ σ25 : St, σ25 = up σ22 100 (1 + a0).toNatClampNeg ((σ22.1 100 (1 + a0).toNatClampNeg) - a2) → (vp_in (1 + a1) 27 ∧ (vp_in (1 + a1) 27 ∧ ∀ σ28 : St, σ28 = up σ25 100 (1 + a1).toNatClampNeg ((σ25.1 100 (1 + a1).toNatClampNeg) + a2) → (vp_in (1 + a1) 27 ∧ Q (σ28.1 100 (1 + a1).toNatClampNeg) σ28))))))) ∧ (¬ ((σ15.1 100 (1 + a1).toNatClampNeg) + a2) ≤ 999 → Q (-2) σ15))))))))))))))))))))))))
set_option maxHeartbeats 4000000 in
set_option maxRecDepth 100000 in
theorem tX7_lends_E {Q : Int32 → St → Prop} (M : MC p s m args meth c cX7_lends 4 (some .int) RX7 Y) (hN : yN Y = 108) (a0 : Int32) (a1 : Int32) (a2 : Int32) (σ : St) (H : Heap) (locs : List Loc) (ls : Array Slot) (hw : WS Y (AD Y) s.heap σ H locs) (hl : lv_has ls 4 [(0, .ref (yA Y 92)), (1, .int a0), (2, .int a1), (3, .int a2)]) (h : wX7_lends a0 a1 a2 σ Q) : W p l e { frames := 2, cells := 0, slots := 0, locals := 43 } s m args below meth c H locs 0 0 (MQ below (QI Y Q) args s 0 0 (AD Y)) (F0 m 0 ls []) := by
  obtain ⟨hx, hb, hr, hml, hown, hlk, hT, hK, hB⟩ := id M
  unfold wX7_lends at h
  refine lv_aload_n hx hb dX7_lends_0 rfl (lv_at hl 0 rfl) ?_
  refine lv_iconst (v := 0) hx hb dX7_lends_1 (by decide) ?_
  refine q_put (v := 0) M hw (ob_92 hN) rfl inq_7 tyX7 tyX7_ok nmX7 0 (by decide) tw_635 rfl rfl rfl (Nat.le_of_ble_eq_true rfl) (by simp [up, upd, f0]) dX7_lends_2 (fun σ1 H locs es hw => ?_)
  have h := h σ1 es
  refine lv_aload_n hx hb dX7_lends_5 rfl (lv_at hl 0 rfl) ?_
  refine lv_iload_n hx hb dX7_lends_6 rfl (lv_at hl 1 rfl) ?_
  refine q_goI hw (q_runV (rest := []) M hw (ctX7_isFarmer l hB hN a0 σ1 _ h) mbX7_isFarmer (ob_92 hN) rfl tw_764 rfl hl.1 rfl (Nat.le_of_ble_eq_true rfl) ⟨Nat.le_of_ble_eq_true rfl, Nat.le_of_ble_eq_true rfl⟩ ⟨Nat.le_refl _, Nat.le_refl _⟩ dX7_lends_7) (fun r3 σ2 H locs h hw => ?_)
  refine lv_if_eq (tgt := 36) hx hb dX7_lends_10 (by decide) (fun c4 => ?_) (fun c4 => ?_)
  · have h := h.1 c4
    refine lv_iconst (v := (-1)) hx hb dX7_lends_36 (by decide) ?_
    exact q_iret M hw h dX7_lends_37
  · have h := h.2 c4
    refine lv_aload_n hx hb dX7_lends_13 rfl (lv_at hl 0 rfl) ?_
    refine lv_iload_n hx hb dX7_lends_14 rfl (lv_at hl 2 rfl) ?_
    refine q_goI hw (q_runV (rest := []) M hw (ctX7_isFarmer l hB hN a1 σ2 _ h) mbX7_isFarmer (ob_92 hN) rfl tw_764 rfl hl.1 rfl (Nat.le_of_ble_eq_true rfl) ⟨Nat.le_of_ble_eq_true rfl, Nat.le_of_ble_eq_true rfl⟩ ⟨Nat.le_refl _, Nat.le_refl _⟩ dX7_lends_15) (fun r6 σ5 H locs h hw => ?_)
    refine lv_if_eq (tgt := 36) hx hb dX7_lends_18 (by decide) (fun c7 => ?_) (fun c7 => ?_)
    · have h := h.1 c7
      refine lv_iconst (v := (-1)) hx hb dX7_lends_36 (by decide) ?_
      exact q_iret M hw h dX7_lends_37
    · have h := h.2 c7
      refine lv_iload_n hx hb dX7_lends_21 rfl (lv_at hl 1 rfl) ?_
      refine lv_iload_n hx hb dX7_lends_22 rfl (lv_at hl 2 rfl) ?_
      refine lv_icmp_eq (tgt := 36) hx hb dX7_lends_23 (by decide) (fun c8 => ?_) (fun c8 => ?_)
      · have h := h.1 c8
        refine lv_iconst (v := (-1)) hx hb dX7_lends_36 (by decide) ?_
        exact q_iret M hw h dX7_lends_37
      · have h := h.2 c8
        refine lv_iload_n hx hb dX7_lends_26 rfl (lv_at hl 3 rfl) ?_
        refine lv_iconst (v := 1) hx hb dX7_lends_27 (by decide) ?_
        refine lv_bipush (v := 99) hx hb dX7_lends_28 (by decide) ?_
        refine q_goI hw (q_runS (rest := []) M hw (ctX7_in l hB a2 1 99 σ5 _ h) mbX7_in tw_718 rfl hl.1 rfl (Nat.le_of_ble_eq_true rfl) ⟨Nat.le_of_ble_eq_true rfl, Nat.le_of_ble_eq_true rfl⟩ ⟨Nat.le_refl _, Nat.le_refl _⟩ dX7_lends_30) (fun r10 σ9 H locs h hw => ?_)
        refine lv_if_ne (tgt := 38) hx hb dX7_lends_33 (by decide) (fun c11 => ?_) (fun c11 => ?_)
        · have h := h.2 c11
          refine lv_aload_n hx hb dX7_lends_38 rfl (lv_at hl 0 rfl) ?_
          refine lv_iload_n hx hb dX7_lends_39 rfl (lv_at hl 1 rfl) ?_
          refine q_goI hw (q_runV (rest := []) M hw (ctX7_lives l hB hN a0 σ9 _ h) mbX7_lives (ob_92 hN) rfl tw_792 rfl hl.1 rfl (Nat.le_of_ble_eq_true rfl) ⟨Nat.le_of_ble_eq_true rfl, Nat.le_of_ble_eq_true rfl⟩ ⟨Nat.le_refl _, Nat.le_refl _⟩ dX7_lends_40) (fun r13 σ12 H locs h hw => ?_)
          refine lv_if_eq (tgt := 82) hx hb dX7_lends_43 (by decide) (fun c14 => ?_) (fun c14 => ?_)
          · have h := h.1 c14
            refine lv_bipush (v := (-2)) hx hb dX7_lends_82 (by decide) ?_
            exact q_iret M hw h dX7_lends_84
          · have h := h.2 c14
            refine lv_aload_n hx hb dX7_lends_46 rfl (lv_at hl 0 rfl) ?_
            refine lv_iload_n hx hb dX7_lends_47 rfl (lv_at hl 2 rfl) ?_
            refine q_goI hw (q_runV (rest := []) M hw (ctX7_lives l hB hN a1 σ12 _ h) mbX7_lives (ob_92 hN) rfl tw_792 rfl hl.1 rfl (Nat.le_of_ble_eq_true rfl) ⟨Nat.le_of_ble_eq_true rfl, Nat.le_of_ble_eq_true rfl⟩ ⟨Nat.le_refl _, Nat.le_refl _⟩ dX7_lends_48) (fun r16 σ15 H locs h hw => ?_)
            refine lv_if_eq (tgt := 82) hx hb dX7_lends_51 (by decide) (fun c17 => ?_) (fun c17 => ?_)
            · have h := h.1 c17
              refine lv_bipush (v := (-2)) hx hb dX7_lends_82 (by decide) ?_
              exact q_iret M hw h dX7_lends_84
            · have h := h.2 c17
              refine lv_aload_n hx hb dX7_lends_54 rfl (lv_at hl 0 rfl) ?_
              refine q_get (v := .ref (yA Y 100)) M hw (ob_92 hN) rfl inq_7 16 (by decide) tw_651 rfl dX7_lends_55 ?_
              refine lv_iconst (v := 1) hx hb dX7_lends_58 (by decide) ?_
              refine lv_iload_n hx hb dX7_lends_59 rfl (lv_at hl 1 rfl) ?_
              refine lv_iadd hx hb dX7_lends_60 ?_
              have c18 := h.1
              have h := h.2
              refine q_ild M hw (ar_100 hN) c18 dX7_lends_61 ?_
              refine lv_iload_n hx hb dX7_lends_62 rfl (lv_at hl 3 rfl) ?_
              refine lv_icmp_lt (tgt := 82) hx hb dX7_lends_63 (by decide) (fun c19 => ?_) (fun c19 => ?_)
              · have h := h.1 c19
                refine lv_bipush (v := (-2)) hx hb dX7_lends_82 (by decide) ?_
                exact q_iret M hw h dX7_lends_84
              · have h := h.2 c19
                refine lv_aload_n hx hb dX7_lends_66 rfl (lv_at hl 0 rfl) ?_
                refine q_get (v := .ref (yA Y 100)) M hw (ob_92 hN) rfl inq_7 16 (by decide) tw_651 rfl dX7_lends_67 ?_
                refine lv_iconst (v := 1) hx hb dX7_lends_70 (by decide) ?_
                refine lv_iload_n hx hb dX7_lends_71 rfl (lv_at hl 2 rfl) ?_
                refine lv_iadd hx hb dX7_lends_72 ?_
                have c20 := h.1
                have h := h.2
                refine q_ild M hw (ar_100 hN) c20 dX7_lends_73 ?_
                refine lv_iload_n hx hb dX7_lends_74 rfl (lv_at hl 3 rfl) ?_
                refine lv_iadd hx hb dX7_lends_75 ?_
                refine lv_sipush (v := 999) hx hb dX7_lends_76 (by decide) ?_
                refine lv_icmp_le (tgt := 85) hx hb dX7_lends_79 (by decide) (fun c21 => ?_) (fun c21 => ?_)
                · have h := h.1 c21
                  refine lv_aload_n hx hb dX7_lends_85 rfl (lv_at hl 0 rfl) ?_
                  refine q_goV hw (q_runV (rest := []) M hw (ctX7_notes l hB hN σ15 _ h) mbX7_notes (ob_92 hN) rfl tw_796 rfl hl.1 rfl (Nat.le_of_ble_eq_true rfl) ⟨Nat.le_of_ble_eq_true rfl, Nat.le_of_ble_eq_true rfl⟩ ⟨Nat.le_refl _, Nat.le_refl _⟩ dX7_lends_86) (fun σ22 H locs h hw => ?_)
                  refine lv_aload_n hx hb dX7_lends_89 rfl (lv_at hl 0 rfl) ?_
                  refine q_get (v := .ref (yA Y 100)) M hw (ob_92 hN) rfl inq_7 16 (by decide) tw_651 rfl dX7_lends_90 ?_
                  refine lv_iconst (v := 1) hx hb dX7_lends_93 (by decide) ?_
                  refine lv_iload_n hx hb dX7_lends_94 rfl (lv_at hl 1 rfl) ?_
                  refine lv_iadd hx hb dX7_lends_95 ?_
                  refine lv_dup2_11 hx hb dX7_lends_96 rfl rfl ?_
                  have c23 := h.1
                  have h := h.2
                  refine q_ild M hw (ar_100 hN) c23 dX7_lends_97 ?_
                  refine lv_iload_n hx hb dX7_lends_98 rfl (lv_at hl 3 rfl) ?_
                  refine lv_isub hx hb dX7_lends_99 ?_
                  have c24 := h.1
                  refine q_ist M hw (ar_100 hN) c24 dX7_lends_100 (fun σ25 H locs es hw => ?_)
                  have h := h.2 σ25 es
                  refine lv_aload_n hx hb dX7_lends_101 rfl (lv_at hl 0 rfl) ?_
                  refine q_get (v := .ref (yA Y 100)) M hw (ob_92 hN) rfl inq_7 16 (by decide) tw_651 rfl dX7_lends_102 ?_
                  refine lv_iconst (v := 1) hx hb dX7_lends_105 (by decide) ?_
                  refine lv_iload_n hx hb dX7_lends_106 rfl (lv_at hl 2 rfl) ?_
                  refine lv_iadd hx hb dX7_lends_107 ?_
                  refine lv_dup2_11 hx hb dX7_lends_108 rfl rfl ?_
                  have c26 := h.1
                  have h := h.2
                  refine q_ild M hw (ar_100 hN) c26 dX7_lends_109 ?_
                  refine lv_iload_n hx hb dX7_lends_110 rfl (lv_at hl 3 rfl) ?_
                  refine lv_iadd hx hb dX7_lends_111 ?_
                  have c27 := h.1
                  refine q_ist M hw (ar_100 hN) c27 dX7_lends_112 (fun σ28 H locs es hw => ?_)
                  have h := h.2 σ28 es
                  refine lv_aload_n hx hb dX7_lends_113 rfl (lv_at hl 0 rfl) ?_
                  refine q_get (v := .ref (yA Y 100)) M hw (ob_92 hN) rfl inq_7 16 (by decide) tw_651 rfl dX7_lends_114 ?_
                  refine lv_iconst (v := 1) hx hb dX7_lends_117 (by decide) ?_
                  refine lv_iload_n hx hb dX7_lends_118 rfl (lv_at hl 2 rfl) ?_
                  refine lv_iadd hx hb dX7_lends_119 ?_
                  have c29 := h.1
                  have h := h.2
                  refine q_ild M hw (ar_100 hN) c29 dX7_lends_120 ?_
                  exact q_iret M hw h dX7_lends_121
                · have h := h.2 c21
                  refine lv_bipush (v := (-2)) hx hb dX7_lends_82 (by decide) ?_
                  exact q_iret M hw h dX7_lends_84
        · have h := h.1 c11
          refine lv_iconst (v := (-1)) hx hb dX7_lends_36 (by decide) ?_
          exact q_iret M hw h dX7_lends_37
set_option maxRecDepth 100000 in
theorem ctX7_lends (l : Launch) {Y : LY} (hB : YB Y) (hN : yN Y = 108) (a0 : Int32) (a1 : Int32) (a2 : Int32) (σ : St) (Q : Int32 → St → Prop) (h : wX7_lends a0 a1 a2 σ Q) : CT l yX7_lends (Cond.code yX7_lends cX7_lends 4 (some .int)) { frames := 2, cells := 0, slots := 0, locals := 43 } Y [.ref (yA Y 92), .int a0, .int a1, .int a2] σ (QI Y Q) :=
  q_ent hB (by decide +kernel) (Nat.le_of_ble_eq_true rfl) (fun p e s m below meth c ls M hw hl => tX7_lends_E M hN a0 a1 a2 σ _ _ ls hw hl h)
theorem mbX7_lends : MB RX7 yX7_lends cX7_lends 3 4 (some .int) := ⟨tw_805, tw_806, tw_56, tw_807, by decide +kernel⟩
end
section
variable {p : Program} {l : Launch} {e : Env} {s : State} {m : MethodId} {args : Array Value} {below : List Frame} {meth : Method} {c : Code} {Y : LY}
theorem dX7_marries_0 : decode cX7_marries 0 = .ok (.aload_n 0, 1) := by decide +kernel
theorem dX7_marries_1 : decode cX7_marries 1 = .ok (.iconst 0, 1) := by decide +kernel
theorem dX7_marries_2 : decode cX7_marries 2 = .ok (.putfield 62, 3) := by decide +kernel
theorem dX7_marries_5 : decode cX7_marries 5 = .ok (.aload_n 0, 1) := by decide +kernel
theorem dX7_marries_6 : decode cX7_marries 6 = .ok (.iload_n 1, 1) := by decide +kernel
theorem dX7_marries_7 : decode cX7_marries 7 = .ok (.invokevirtual 127, 3) := by decide +kernel
theorem dX7_marries_10 : decode cX7_marries 10 = .ok (.ifCond .eq 16, 3) := by decide +kernel
theorem dX7_marries_13 : decode cX7_marries 13 = .ok (.aload_n 0, 1) := by decide +kernel
theorem dX7_marries_14 : decode cX7_marries 14 = .ok (.iload_n 2, 1) := by decide +kernel
theorem dX7_marries_15 : decode cX7_marries 15 = .ok (.invokevirtual 127, 3) := by decide +kernel
theorem dX7_marries_18 : decode cX7_marries 18 = .ok (.ifCond .eq 8, 3) := by decide +kernel
theorem dX7_marries_21 : decode cX7_marries 21 = .ok (.iload_n 1, 1) := by decide +kernel
theorem dX7_marries_22 : decode cX7_marries 22 = .ok (.iload_n 2, 1) := by decide +kernel
theorem dX7_marries_23 : decode cX7_marries 23 = .ok (.if_icmp .ne 5, 3) := by decide +kernel
theorem dX7_marries_26 : decode cX7_marries 26 = .ok (.iconst (-1), 1) := by decide +kernel
theorem dX7_marries_27 : decode cX7_marries 27 = .ok (.ireturn, 1) := by decide +kernel
theorem dX7_marries_28 : decode cX7_marries 28 = .ok (.aload_n 0, 1) := by decide +kernel
theorem dX7_marries_29 : decode cX7_marries 29 = .ok (.iload_n 1, 1) := by decide +kernel
theorem dX7_marries_30 : decode cX7_marries 30 = .ok (.invokevirtual 136, 3) := by decide +kernel
theorem dX7_marries_33 : decode cX7_marries 33 = .ok (.ifCond .eq 35, 3) := by decide +kernel
theorem dX7_marries_36 : decode cX7_marries 36 = .ok (.aload_n 0, 1) := by decide +kernel
theorem dX7_marries_37 : decode cX7_marries 37 = .ok (.iload_n 2, 1) := by decide +kernel
theorem dX7_marries_38 : decode cX7_marries 38 = .ok (.invokevirtual 136, 3) := by decide +kernel
theorem dX7_marries_41 : decode cX7_marries 41 = .ok (.ifCond .eq 27, 3) := by decide +kernel
theorem dX7_marries_44 : decode cX7_marries 44 = .ok (.aload_n 0, 1) := by decide +kernel
theorem dX7_marries_45 : decode cX7_marries 45 = .ok (.getfield 32, 3) := by decide +kernel
theorem dX7_marries_48 : decode cX7_marries 48 = .ok (.bipush 21, 2) := by decide +kernel
theorem dX7_marries_50 : decode cX7_marries 50 = .ok (.iload_n 1, 1) := by decide +kernel
theorem dX7_marries_51 : decode cX7_marries 51 = .ok (.iadd, 1) := by decide +kernel
theorem dX7_marries_52 : decode cX7_marries 52 = .ok (.iaload, 1) := by decide +kernel
theorem dX7_marries_53 : decode cX7_marries 53 = .ok (.ifCond .gt 15, 3) := by decide +kernel
theorem dX7_marries_56 : decode cX7_marries 56 = .ok (.aload_n 0, 1) := by decide +kernel
theorem dX7_marries_57 : decode cX7_marries 57 = .ok (.getfield 32, 3) := by decide +kernel
theorem dX7_marries_60 : decode cX7_marries 60 = .ok (.bipush 21, 2) := by decide +kernel
theorem dX7_marries_62 : decode cX7_marries 62 = .ok (.iload_n 2, 1) := by decide +kernel
theorem dX7_marries_63 : decode cX7_marries 63 = .ok (.iadd, 1) := by decide +kernel
theorem dX7_marries_64 : decode cX7_marries 64 = .ok (.iaload, 1) := by decide +kernel
theorem dX7_marries_65 : decode cX7_marries 65 = .ok (.ifCond .le 6, 3) := by decide +kernel
theorem dX7_marries_68 : decode cX7_marries 68 = .ok (.bipush (-2), 2) := by decide +kernel
theorem dX7_marries_70 : decode cX7_marries 70 = .ok (.ireturn, 1) := by decide +kernel
theorem dX7_marries_71 : decode cX7_marries 71 = .ok (.aload_n 0, 1) := by decide +kernel
theorem dX7_marries_72 : decode cX7_marries 72 = .ok (.invokevirtual 139, 3) := by decide +kernel
theorem dX7_marries_75 : decode cX7_marries 75 = .ok (.aload_n 0, 1) := by decide +kernel
theorem dX7_marries_76 : decode cX7_marries 76 = .ok (.getfield 32, 3) := by decide +kernel
theorem dX7_marries_79 : decode cX7_marries 79 = .ok (.bipush 21, 2) := by decide +kernel
theorem dX7_marries_81 : decode cX7_marries 81 = .ok (.iload_n 1, 1) := by decide +kernel
theorem dX7_marries_82 : decode cX7_marries 82 = .ok (.iadd, 1) := by decide +kernel
theorem dX7_marries_83 : decode cX7_marries 83 = .ok (.iload_n 2, 1) := by decide +kernel
theorem dX7_marries_84 : decode cX7_marries 84 = .ok (.iconst 1, 1) := by decide +kernel
theorem dX7_marries_85 : decode cX7_marries 85 = .ok (.iadd, 1) := by decide +kernel
theorem dX7_marries_86 : decode cX7_marries 86 = .ok (.iastore, 1) := by decide +kernel
theorem dX7_marries_87 : decode cX7_marries 87 = .ok (.aload_n 0, 1) := by decide +kernel
theorem dX7_marries_88 : decode cX7_marries 88 = .ok (.getfield 32, 3) := by decide +kernel
theorem dX7_marries_91 : decode cX7_marries 91 = .ok (.bipush 21, 2) := by decide +kernel
theorem dX7_marries_93 : decode cX7_marries 93 = .ok (.iload_n 2, 1) := by decide +kernel
theorem dX7_marries_94 : decode cX7_marries 94 = .ok (.iadd, 1) := by decide +kernel
theorem dX7_marries_95 : decode cX7_marries 95 = .ok (.iload_n 1, 1) := by decide +kernel
theorem dX7_marries_96 : decode cX7_marries 96 = .ok (.iconst 1, 1) := by decide +kernel
theorem dX7_marries_97 : decode cX7_marries 97 = .ok (.iadd, 1) := by decide +kernel
theorem dX7_marries_98 : decode cX7_marries 98 = .ok (.iastore, 1) := by decide +kernel
theorem dX7_marries_99 : decode cX7_marries 99 = .ok (.aload_n 0, 1) := by decide +kernel
theorem dX7_marries_100 : decode cX7_marries 100 = .ok (.getfield 32, 3) := by decide +kernel
theorem dX7_marries_103 : decode cX7_marries 103 = .ok (.iconst 1, 1) := by decide +kernel
theorem dX7_marries_104 : decode cX7_marries 104 = .ok (.iload_n 1, 1) := by decide +kernel
theorem dX7_marries_105 : decode cX7_marries 105 = .ok (.iadd, 1) := by decide +kernel
theorem dX7_marries_106 : decode cX7_marries 106 = .ok (.iaload, 1) := by decide +kernel
theorem dX7_marries_107 : decode cX7_marries 107 = .ok (.aload_n 0, 1) := by decide +kernel
theorem dX7_marries_108 : decode cX7_marries 108 = .ok (.getfield 32, 3) := by decide +kernel
theorem dX7_marries_111 : decode cX7_marries 111 = .ok (.iconst 1, 1) := by decide +kernel
theorem dX7_marries_112 : decode cX7_marries 112 = .ok (.iload_n 2, 1) := by decide +kernel
theorem dX7_marries_113 : decode cX7_marries 113 = .ok (.iadd, 1) := by decide +kernel
theorem dX7_marries_114 : decode cX7_marries 114 = .ok (.iaload, 1) := by decide +kernel
theorem dX7_marries_115 : decode cX7_marries 115 = .ok (.iadd, 1) := by decide +kernel
theorem dX7_marries_116 : decode cX7_marries 116 = .ok (.ireturn, 1) := by decide +kernel
def wX7_marries (a0 : Int32) (a1 : Int32) (σ : St) (Q : Int32 → St → Prop) : Prop :=
  (∀ σ1 : St, σ1 = up σ 92 0 0 → wX7_isFarmer a0 σ1 (fun r3 σ2 => ((r3 = 0 → Q (-1) σ2) ∧ (¬ r3 = 0 → wX7_isFarmer a1 σ2 (fun r6 σ5 => ((r6 = 0 → Q (-1) σ5) ∧ (¬ r6 = 0 → ((a0 = a1 → Q (-1) σ5) ∧ (¬ a0 = a1 → wX7_lives a0 σ5 (fun r10 σ9 => ((r10 = 0 → Q (-2) σ9) ∧ (¬ r10 = 0 → wX7_lives a1 σ9 (fun r13 σ12 => ((r13 = 0 → Q (-2) σ12) ∧ (¬ r13 = 0 → (vp_in (21 + a0) 27 ∧ ((0 < (σ12.1 100 (21 + a0).toNatClampNeg) → Q (-2) σ12) ∧ (¬ 0 < (σ12.1 100 (21 + a0).toNatClampNeg) → (vp_in (21 + a1) 27 ∧ (((σ12.1 100 (21 + a1).toNatClampNeg) ≤ 0 → wX7_notes σ12 (fun σ19 => (vp_in (21 + a0) 27 ∧ ∀ σ21 : St, σ21 = up σ19 100 (21 + a0).toNatClampNeg (a1 + 1) → (vp_in (21 + a1) 27 ∧ ∀ σ23 : St, σ23 = up σ21 100 (21 + a1).toNatClampNeg (a0 + 1) → (vp_in (1 + a0) 27 ∧ (vp_in (1 + a1) 27 ∧ Q ((σ23.1 100 (1 + a0).toNatClampNeg) + (σ23.1 100 (1 + a1).toNatClampNeg)) σ23)))))) ∧ (¬ (σ12.1 100 (21 + a1).toNatClampNeg) ≤ 0 → Q (-2) σ12)))))))))))))))))))))
set_option maxHeartbeats 4000000 in
set_option maxRecDepth 100000 in
theorem tX7_marries_E {Q : Int32 → St → Prop} (M : MC p s m args meth c cX7_marries 3 (some .int) RX7 Y) (hN : yN Y = 108) (a0 : Int32) (a1 : Int32) (σ : St) (H : Heap) (locs : List Loc) (ls : Array Slot) (hw : WS Y (AD Y) s.heap σ H locs) (hl : lv_has ls 3 [(0, .ref (yA Y 92)), (1, .int a0), (2, .int a1)]) (h : wX7_marries a0 a1 σ Q) : W p l e { frames := 2, cells := 0, slots := 0, locals := 43 } s m args below meth c H locs 0 0 (MQ below (QI Y Q) args s 0 0 (AD Y)) (F0 m 0 ls []) := by
  obtain ⟨hx, hb, hr, hml, hown, hlk, hT, hK, hB⟩ := id M
  unfold wX7_marries at h
  refine lv_aload_n hx hb dX7_marries_0 rfl (lv_at hl 0 rfl) ?_
  refine lv_iconst (v := 0) hx hb dX7_marries_1 (by decide) ?_
  refine q_put (v := 0) M hw (ob_92 hN) rfl inq_7 tyX7 tyX7_ok nmX7 0 (by decide) tw_635 rfl rfl rfl (Nat.le_of_ble_eq_true rfl) (by simp [up, upd, f0]) dX7_marries_2 (fun σ1 H locs es hw => ?_)
  have h := h σ1 es
  refine lv_aload_n hx hb dX7_marries_5 rfl (lv_at hl 0 rfl) ?_
  refine lv_iload_n hx hb dX7_marries_6 rfl (lv_at hl 1 rfl) ?_
  refine q_goI hw (q_runV (rest := []) M hw (ctX7_isFarmer l hB hN a0 σ1 _ h) mbX7_isFarmer (ob_92 hN) rfl tw_764 rfl hl.1 rfl (Nat.le_of_ble_eq_true rfl) ⟨Nat.le_of_ble_eq_true rfl, Nat.le_of_ble_eq_true rfl⟩ ⟨Nat.le_refl _, Nat.le_refl _⟩ dX7_marries_7) (fun r3 σ2 H locs h hw => ?_)
  refine lv_if_eq (tgt := 26) hx hb dX7_marries_10 (by decide) (fun c4 => ?_) (fun c4 => ?_)
  · have h := h.1 c4
    refine lv_iconst (v := (-1)) hx hb dX7_marries_26 (by decide) ?_
    exact q_iret M hw h dX7_marries_27
  · have h := h.2 c4
    refine lv_aload_n hx hb dX7_marries_13 rfl (lv_at hl 0 rfl) ?_
    refine lv_iload_n hx hb dX7_marries_14 rfl (lv_at hl 2 rfl) ?_
    refine q_goI hw (q_runV (rest := []) M hw (ctX7_isFarmer l hB hN a1 σ2 _ h) mbX7_isFarmer (ob_92 hN) rfl tw_764 rfl hl.1 rfl (Nat.le_of_ble_eq_true rfl) ⟨Nat.le_of_ble_eq_true rfl, Nat.le_of_ble_eq_true rfl⟩ ⟨Nat.le_refl _, Nat.le_refl _⟩ dX7_marries_15) (fun r6 σ5 H locs h hw => ?_)
    refine lv_if_eq (tgt := 26) hx hb dX7_marries_18 (by decide) (fun c7 => ?_) (fun c7 => ?_)
    · have h := h.1 c7
      refine lv_iconst (v := (-1)) hx hb dX7_marries_26 (by decide) ?_
      exact q_iret M hw h dX7_marries_27
    · have h := h.2 c7
      refine lv_iload_n hx hb dX7_marries_21 rfl (lv_at hl 1 rfl) ?_
      refine lv_iload_n hx hb dX7_marries_22 rfl (lv_at hl 2 rfl) ?_
      refine lv_icmp_ne (tgt := 28) hx hb dX7_marries_23 (by decide) (fun c8 => ?_) (fun c8 => ?_)
      · have h := h.2 c8
        refine lv_aload_n hx hb dX7_marries_28 rfl (lv_at hl 0 rfl) ?_
        refine lv_iload_n hx hb dX7_marries_29 rfl (lv_at hl 1 rfl) ?_
        refine q_goI hw (q_runV (rest := []) M hw (ctX7_lives l hB hN a0 σ5 _ h) mbX7_lives (ob_92 hN) rfl tw_792 rfl hl.1 rfl (Nat.le_of_ble_eq_true rfl) ⟨Nat.le_of_ble_eq_true rfl, Nat.le_of_ble_eq_true rfl⟩ ⟨Nat.le_refl _, Nat.le_refl _⟩ dX7_marries_30) (fun r10 σ9 H locs h hw => ?_)
        refine lv_if_eq (tgt := 68) hx hb dX7_marries_33 (by decide) (fun c11 => ?_) (fun c11 => ?_)
        · have h := h.1 c11
          refine lv_bipush (v := (-2)) hx hb dX7_marries_68 (by decide) ?_
          exact q_iret M hw h dX7_marries_70
        · have h := h.2 c11
          refine lv_aload_n hx hb dX7_marries_36 rfl (lv_at hl 0 rfl) ?_
          refine lv_iload_n hx hb dX7_marries_37 rfl (lv_at hl 2 rfl) ?_
          refine q_goI hw (q_runV (rest := []) M hw (ctX7_lives l hB hN a1 σ9 _ h) mbX7_lives (ob_92 hN) rfl tw_792 rfl hl.1 rfl (Nat.le_of_ble_eq_true rfl) ⟨Nat.le_of_ble_eq_true rfl, Nat.le_of_ble_eq_true rfl⟩ ⟨Nat.le_refl _, Nat.le_refl _⟩ dX7_marries_38) (fun r13 σ12 H locs h hw => ?_)
          refine lv_if_eq (tgt := 68) hx hb dX7_marries_41 (by decide) (fun c14 => ?_) (fun c14 => ?_)
          · have h := h.1 c14
            refine lv_bipush (v := (-2)) hx hb dX7_marries_68 (by decide) ?_
            exact q_iret M hw h dX7_marries_70
          · have h := h.2 c14
            refine lv_aload_n hx hb dX7_marries_44 rfl (lv_at hl 0 rfl) ?_
            refine q_get (v := .ref (yA Y 100)) M hw (ob_92 hN) rfl inq_7 16 (by decide) tw_651 rfl dX7_marries_45 ?_
            refine lv_bipush (v := 21) hx hb dX7_marries_48 (by decide) ?_
            refine lv_iload_n hx hb dX7_marries_50 rfl (lv_at hl 1 rfl) ?_
            refine lv_iadd hx hb dX7_marries_51 ?_
            have c15 := h.1
            have h := h.2
            refine q_ild M hw (ar_100 hN) c15 dX7_marries_52 ?_
            refine lv_if_gt (tgt := 68) hx hb dX7_marries_53 (by decide) (fun c16 => ?_) (fun c16 => ?_)
            · have h := h.1 c16
              refine lv_bipush (v := (-2)) hx hb dX7_marries_68 (by decide) ?_
              exact q_iret M hw h dX7_marries_70
            · have h := h.2 c16
              refine lv_aload_n hx hb dX7_marries_56 rfl (lv_at hl 0 rfl) ?_
              refine q_get (v := .ref (yA Y 100)) M hw (ob_92 hN) rfl inq_7 16 (by decide) tw_651 rfl dX7_marries_57 ?_
              refine lv_bipush (v := 21) hx hb dX7_marries_60 (by decide) ?_
              refine lv_iload_n hx hb dX7_marries_62 rfl (lv_at hl 2 rfl) ?_
              refine lv_iadd hx hb dX7_marries_63 ?_
              have c17 := h.1
              have h := h.2
              refine q_ild M hw (ar_100 hN) c17 dX7_marries_64 ?_
              refine lv_if_le (tgt := 71) hx hb dX7_marries_65 (by decide) (fun c18 => ?_) (fun c18 => ?_)
              · have h := h.1 c18
                refine lv_aload_n hx hb dX7_marries_71 rfl (lv_at hl 0 rfl) ?_
                refine q_goV hw (q_runV (rest := []) M hw (ctX7_notes l hB hN σ12 _ h) mbX7_notes (ob_92 hN) rfl tw_796 rfl hl.1 rfl (Nat.le_of_ble_eq_true rfl) ⟨Nat.le_of_ble_eq_true rfl, Nat.le_of_ble_eq_true rfl⟩ ⟨Nat.le_refl _, Nat.le_refl _⟩ dX7_marries_72) (fun σ19 H locs h hw => ?_)
                refine lv_aload_n hx hb dX7_marries_75 rfl (lv_at hl 0 rfl) ?_
                refine q_get (v := .ref (yA Y 100)) M hw (ob_92 hN) rfl inq_7 16 (by decide) tw_651 rfl dX7_marries_76 ?_
                refine lv_bipush (v := 21) hx hb dX7_marries_79 (by decide) ?_
                refine lv_iload_n hx hb dX7_marries_81 rfl (lv_at hl 1 rfl) ?_
                refine lv_iadd hx hb dX7_marries_82 ?_
                refine lv_iload_n hx hb dX7_marries_83 rfl (lv_at hl 2 rfl) ?_
                refine lv_iconst (v := 1) hx hb dX7_marries_84 (by decide) ?_
                refine lv_iadd hx hb dX7_marries_85 ?_
                have c20 := h.1
                refine q_ist M hw (ar_100 hN) c20 dX7_marries_86 (fun σ21 H locs es hw => ?_)
                have h := h.2 σ21 es
                refine lv_aload_n hx hb dX7_marries_87 rfl (lv_at hl 0 rfl) ?_
                refine q_get (v := .ref (yA Y 100)) M hw (ob_92 hN) rfl inq_7 16 (by decide) tw_651 rfl dX7_marries_88 ?_
                refine lv_bipush (v := 21) hx hb dX7_marries_91 (by decide) ?_
                refine lv_iload_n hx hb dX7_marries_93 rfl (lv_at hl 2 rfl) ?_
                refine lv_iadd hx hb dX7_marries_94 ?_
                refine lv_iload_n hx hb dX7_marries_95 rfl (lv_at hl 1 rfl) ?_
                refine lv_iconst (v := 1) hx hb dX7_marries_96 (by decide) ?_
                refine lv_iadd hx hb dX7_marries_97 ?_
                have c22 := h.1
                refine q_ist M hw (ar_100 hN) c22 dX7_marries_98 (fun σ23 H locs es hw => ?_)
                have h := h.2 σ23 es
                refine lv_aload_n hx hb dX7_marries_99 rfl (lv_at hl 0 rfl) ?_
                refine q_get (v := .ref (yA Y 100)) M hw (ob_92 hN) rfl inq_7 16 (by decide) tw_651 rfl dX7_marries_100 ?_
                refine lv_iconst (v := 1) hx hb dX7_marries_103 (by decide) ?_
                refine lv_iload_n hx hb dX7_marries_104 rfl (lv_at hl 1 rfl) ?_
                refine lv_iadd hx hb dX7_marries_105 ?_
                have c24 := h.1
                have h := h.2
                refine q_ild M hw (ar_100 hN) c24 dX7_marries_106 ?_
                refine lv_aload_n hx hb dX7_marries_107 rfl (lv_at hl 0 rfl) ?_
                refine q_get (v := .ref (yA Y 100)) M hw (ob_92 hN) rfl inq_7 16 (by decide) tw_651 rfl dX7_marries_108 ?_
                refine lv_iconst (v := 1) hx hb dX7_marries_111 (by decide) ?_
                refine lv_iload_n hx hb dX7_marries_112 rfl (lv_at hl 2 rfl) ?_
                refine lv_iadd hx hb dX7_marries_113 ?_
                have c25 := h.1
                have h := h.2
                refine q_ild M hw (ar_100 hN) c25 dX7_marries_114 ?_
                refine lv_iadd hx hb dX7_marries_115 ?_
                exact q_iret M hw h dX7_marries_116
              · have h := h.2 c18
                refine lv_bipush (v := (-2)) hx hb dX7_marries_68 (by decide) ?_
                exact q_iret M hw h dX7_marries_70
      · have h := h.1 c8
        refine lv_iconst (v := (-1)) hx hb dX7_marries_26 (by decide) ?_
        exact q_iret M hw h dX7_marries_27
set_option maxRecDepth 100000 in
theorem ctX7_marries (l : Launch) {Y : LY} (hB : YB Y) (hN : yN Y = 108) (a0 : Int32) (a1 : Int32) (σ : St) (Q : Int32 → St → Prop) (h : wX7_marries a0 a1 σ Q) : CT l yX7_marries (Cond.code yX7_marries cX7_marries 3 (some .int)) { frames := 2, cells := 0, slots := 0, locals := 43 } Y [.ref (yA Y 92), .int a0, .int a1] σ (QI Y Q) :=
  q_ent hB (by decide +kernel) (Nat.le_of_ble_eq_true rfl) (fun p e s m below meth c ls M hw hl => tX7_marries_E M hN a0 a1 σ _ _ ls hw hl h)
theorem mbX7_marries : MB RX7 yX7_marries cX7_marries 2 3 (some .int) := ⟨tw_809, tw_810, tw_56, tw_811, by decide +kernel⟩
end
section
variable {p : Program} {l : Launch} {e : Env} {s : State} {m : MethodId} {args : Array Value} {below : List Frame} {meth : Method} {c : Code} {Y : LY}
theorem dX7_inherits_0 : decode cX7_inherits 0 = .ok (.aload_n 0, 1) := by decide +kernel
theorem dX7_inherits_1 : decode cX7_inherits 1 = .ok (.getfield 32, 3) := by decide +kernel
theorem dX7_inherits_4 : decode cX7_inherits 4 = .ok (.iconst 1, 1) := by decide +kernel
theorem dX7_inherits_5 : decode cX7_inherits 5 = .ok (.iload_n 1, 1) := by decide +kernel
theorem dX7_inherits_6 : decode cX7_inherits 6 = .ok (.iadd, 1) := by decide +kernel
theorem dX7_inherits_7 : decode cX7_inherits 7 = .ok (.iaload, 1) := by decide +kernel
theorem dX7_inherits_8 : decode cX7_inherits 8 = .ok (.iload_n 2, 1) := by decide +kernel
theorem dX7_inherits_9 : decode cX7_inherits 9 = .ok (.iadd, 1) := by decide +kernel
theorem dX7_inherits_10 : decode cX7_inherits 10 = .ok (.istore_n 3, 1) := by decide +kernel
theorem dX7_inherits_11 : decode cX7_inherits 11 = .ok (.aload_n 0, 1) := by decide +kernel
theorem dX7_inherits_12 : decode cX7_inherits 12 = .ok (.getfield 32, 3) := by decide +kernel
theorem dX7_inherits_15 : decode cX7_inherits 15 = .ok (.iconst 1, 1) := by decide +kernel
theorem dX7_inherits_16 : decode cX7_inherits 16 = .ok (.iload_n 1, 1) := by decide +kernel
theorem dX7_inherits_17 : decode cX7_inherits 17 = .ok (.iadd, 1) := by decide +kernel
theorem dX7_inherits_18 : decode cX7_inherits 18 = .ok (.iload_n 3, 1) := by decide +kernel
theorem dX7_inherits_19 : decode cX7_inherits 19 = .ok (.sipush 999, 3) := by decide +kernel
theorem dX7_inherits_22 : decode cX7_inherits 22 = .ok (.if_icmp .le 9, 3) := by decide +kernel
theorem dX7_inherits_25 : decode cX7_inherits 25 = .ok (.sipush 999, 3) := by decide +kernel
theorem dX7_inherits_28 : decode cX7_inherits 28 = .ok (.goto 4, 3) := by decide +kernel
theorem dX7_inherits_31 : decode cX7_inherits 31 = .ok (.iload_n 3, 1) := by decide +kernel
theorem dX7_inherits_32 : decode cX7_inherits 32 = .ok (.iastore, 1) := by decide +kernel
theorem dX7_inherits_33 : decode cX7_inherits 33 = .ok (.return_, 1) := by decide +kernel
def bX7_inherits_32 (z0 : Int32) (z1 : Int32) (σ : St) (Q : St → Prop) : Prop :=
  (vp_in z1 27 ∧ ∀ σ2 : St, σ2 = up σ 100 z1.toNatClampNeg z0 → Q σ2)
set_option maxHeartbeats 4000000 in
set_option maxRecDepth 100000 in
theorem tX7_inherits_32 {Q : St → Prop} (M : MC p s m args meth c cX7_inherits 4 none RX7 Y) (hN : yN Y = 108) (z0 : Int32) (z1 : Int32) (σ : St) (H : Heap) (locs : List Loc) (ls : Array Slot) (hw : WS Y (AD Y) s.heap σ H locs) (hl : lv_has ls 4 []) (h : bX7_inherits_32 z0 z1 σ Q) : W p l e { frames := 0, cells := 0, slots := 0, locals := 0 } s m args below meth c H locs 0 0 (MQ below (QV Y Q) args s 0 0 (AD Y)) (F0 m 32 ls [.int z0, .int z1, .ref (yA Y 100)]) := by
  obtain ⟨hx, hb, hr, hml, hown, hlk, hT, hK, hB⟩ := id M
  unfold bX7_inherits_32 at h
  have c1 := h.1
  refine q_ist M hw (ar_100 hN) c1 dX7_inherits_32 (fun σ2 H locs es hw => ?_)
  have h := h.2 σ2 es
  exact q_vret M hw h dX7_inherits_33
def wX7_inherits (a0 : Int32) (a1 : Int32) (σ : St) (Q : St → Prop) : Prop :=
  (vp_in (1 + a0) 27 ∧ (∀ x2 : Int32, x2 = ((σ.1 100 (1 + a0).toNatClampNeg) + a1) → ((x2 ≤ 999 → bX7_inherits_32 x2 (1 + a0) σ Q) ∧ (¬ x2 ≤ 999 → bX7_inherits_32 999 (1 + a0) σ Q))))
set_option maxHeartbeats 4000000 in
set_option maxRecDepth 100000 in
theorem tX7_inherits_E {Q : St → Prop} (M : MC p s m args meth c cX7_inherits 4 none RX7 Y) (hN : yN Y = 108) (a0 : Int32) (a1 : Int32) (σ : St) (H : Heap) (locs : List Loc) (ls : Array Slot) (hw : WS Y (AD Y) s.heap σ H locs) (hl : lv_has ls 4 [(0, .ref (yA Y 92)), (1, .int a0), (2, .int a1)]) (h : wX7_inherits a0 a1 σ Q) : W p l e { frames := 0, cells := 0, slots := 0, locals := 0 } s m args below meth c H locs 0 0 (MQ below (QV Y Q) args s 0 0 (AD Y)) (F0 m 0 ls []) := by
  obtain ⟨hx, hb, hr, hml, hown, hlk, hT, hK, hB⟩ := id M
  unfold wX7_inherits at h
  refine lv_aload_n hx hb dX7_inherits_0 rfl (lv_at hl 0 rfl) ?_
  refine q_get (v := .ref (yA Y 100)) M hw (ob_92 hN) rfl inq_7 16 (by decide) tw_651 rfl dX7_inherits_1 ?_
  refine lv_iconst (v := 1) hx hb dX7_inherits_4 (by decide) ?_
  refine lv_iload_n hx hb dX7_inherits_5 rfl (lv_at hl 1 rfl) ?_
  refine lv_iadd hx hb dX7_inherits_6 ?_
  have c1 := h.1
  have h := h.2
  refine q_ild M hw (ar_100 hN) c1 dX7_inherits_7 ?_
  refine lv_iload_n hx hb dX7_inherits_8 rfl (lv_at hl 2 rfl) ?_
  refine lv_iadd hx hb dX7_inherits_9 ?_
  refine lv_topi (fun x2 ex2 => ?_)
  have h := h x2 ex2
  refine lv_istore_n (lv' := [(3, .int x2), (0, .ref (yA Y 92)), (1, .int a0), (2, .int a1)]) hx hb dX7_inherits_10 rfl hl (by decide) rfl (fun ls hl => ?_)
  refine lv_aload_n hx hb dX7_inherits_11 rfl (lv_at hl 1 rfl) ?_
  refine q_get (v := .ref (yA Y 100)) M hw (ob_92 hN) rfl inq_7 16 (by decide) tw_651 rfl dX7_inherits_12 ?_
  refine lv_iconst (v := 1) hx hb dX7_inherits_15 (by decide) ?_
  refine lv_iload_n hx hb dX7_inherits_16 rfl (lv_at hl 2 rfl) ?_
  refine lv_iadd hx hb dX7_inherits_17 ?_
  refine lv_iload_n hx hb dX7_inherits_18 rfl (lv_at hl 0 rfl) ?_
  refine lv_sipush (v := 999) hx hb dX7_inherits_19 (by decide) ?_
  refine lv_icmp_le (tgt := 31) hx hb dX7_inherits_22 (by decide) (fun c3 => ?_) (fun c3 => ?_)
  · have h := h.1 c3
    refine lv_iload_n hx hb dX7_inherits_31 rfl (lv_at hl 0 rfl) ?_
    exact tX7_inherits_32 M hN x2 (1 + a0) σ _ _ _ hw (lv_sub hl [] rfl) h
  · have h := h.2 c3
    refine lv_sipush (v := 999) hx hb dX7_inherits_25 (by decide) ?_
    refine lv_goto (tgt := 32) hx hb dX7_inherits_28 (by decide) ?_
    exact tX7_inherits_32 M hN 999 (1 + a0) σ _ _ _ hw (lv_sub hl [] rfl) h
set_option maxRecDepth 100000 in
theorem ctX7_inherits (l : Launch) {Y : LY} (hB : YB Y) (hN : yN Y = 108) (a0 : Int32) (a1 : Int32) (σ : St) (Q : St → Prop) (h : wX7_inherits a0 a1 σ Q) : CT l yX7_inherits (Cond.code yX7_inherits cX7_inherits 4 none) { frames := 0, cells := 0, slots := 0, locals := 0 } Y [.ref (yA Y 92), .int a0, .int a1] σ (QV Y Q) :=
  q_ent hB (by decide +kernel) (Nat.le_of_ble_eq_true rfl) (fun p e s m below meth c ls M hw hl => tX7_inherits_E M hN a0 a1 σ _ _ ls hw hl h)
theorem mbX7_inherits : MB RX7 yX7_inherits cX7_inherits 2 4 none := ⟨tw_818, tw_42, tw_56, tw_819, by decide +kernel⟩
end
section
variable {p : Program} {l : Launch} {e : Env} {s : State} {m : MethodId} {args : Array Value} {below : List Frame} {meth : Method} {c : Code} {Y : LY}
theorem dX7_dies_0 : decode cX7_dies 0 = .ok (.aload_n 0, 1) := by decide +kernel
theorem dX7_dies_1 : decode cX7_dies 1 = .ok (.iconst 0, 1) := by decide +kernel
theorem dX7_dies_2 : decode cX7_dies 2 = .ok (.putfield 62, 3) := by decide +kernel
theorem dX7_dies_5 : decode cX7_dies 5 = .ok (.aload_n 0, 1) := by decide +kernel
theorem dX7_dies_6 : decode cX7_dies 6 = .ok (.iload_n 1, 1) := by decide +kernel
theorem dX7_dies_7 : decode cX7_dies 7 = .ok (.invokevirtual 127, 3) := by decide +kernel
theorem dX7_dies_10 : decode cX7_dies 10 = .ok (.ifCond .ne 5, 3) := by decide +kernel
theorem dX7_dies_13 : decode cX7_dies 13 = .ok (.iconst (-1), 1) := by decide +kernel
theorem dX7_dies_14 : decode cX7_dies 14 = .ok (.ireturn, 1) := by decide +kernel
theorem dX7_dies_15 : decode cX7_dies 15 = .ok (.bipush (-9), 2) := by decide +kernel
theorem dX7_dies_17 : decode cX7_dies 17 = .ok (.istore_n 2, 1) := by decide +kernel
theorem dX7_dies_18 : decode cX7_dies 18 = .ok (.aload_n 0, 1) := by decide +kernel
theorem dX7_dies_19 : decode cX7_dies 19 = .ok (.getfield 13, 3) := by decide +kernel
theorem dX7_dies_22 : decode cX7_dies 22 = .ok (.iconst 0, 1) := by decide +kernel
theorem dX7_dies_23 : decode cX7_dies 23 = .ok (.iaload, 1) := by decide +kernel
theorem dX7_dies_24 : decode cX7_dies 24 = .ok (.iconst 1, 1) := by decide +kernel
theorem dX7_dies_25 : decode cX7_dies 25 = .ok (.isub, 1) := by decide +kernel
theorem dX7_dies_26 : decode cX7_dies 26 = .ok (.istore_n 3, 1) := by decide +kernel
theorem dX7_dies_27 : decode cX7_dies 27 = .ok (.iload_n 3, 1) := by decide +kernel
theorem dX7_dies_28 : decode cX7_dies 28 = .ok (.ifCond .lt 28, 3) := by decide +kernel
theorem dX7_dies_31 : decode cX7_dies 31 = .ok (.iload_n 3, 1) := by decide +kernel
theorem dX7_dies_32 : decode cX7_dies 32 = .ok (.iload_n 1, 1) := by decide +kernel
theorem dX7_dies_33 : decode cX7_dies 33 = .ok (.if_icmp .eq 15, 3) := by decide +kernel
theorem dX7_dies_36 : decode cX7_dies 36 = .ok (.aload_n 0, 1) := by decide +kernel
theorem dX7_dies_37 : decode cX7_dies 37 = .ok (.iload_n 3, 1) := by decide +kernel
theorem dX7_dies_38 : decode cX7_dies 38 = .ok (.invokevirtual 136, 3) := by decide +kernel
theorem dX7_dies_41 : decode cX7_dies 41 = .ok (.ifCond .eq 7, 3) := by decide +kernel
theorem dX7_dies_44 : decode cX7_dies 44 = .ok (.iload_n 3, 1) := by decide +kernel
theorem dX7_dies_45 : decode cX7_dies 45 = .ok (.goto 4, 3) := by decide +kernel
theorem dX7_dies_48 : decode cX7_dies 48 = .ok (.iload_n 2, 1) := by decide +kernel
theorem dX7_dies_49 : decode cX7_dies 49 = .ok (.istore_n 2, 1) := by decide +kernel
theorem dX7_dies_50 : decode cX7_dies 50 = .ok (.iinc 3 (-1), 3) := by decide +kernel
theorem dX7_dies_53 : decode cX7_dies 53 = .ok (.goto (-26), 3) := by decide +kernel
theorem dX7_dies_56 : decode cX7_dies 56 = .ok (.aload_n 0, 1) := by decide +kernel
theorem dX7_dies_57 : decode cX7_dies 57 = .ok (.iload_n 1, 1) := by decide +kernel
theorem dX7_dies_58 : decode cX7_dies 58 = .ok (.invokevirtual 136, 3) := by decide +kernel
theorem dX7_dies_61 : decode cX7_dies 61 = .ok (.ifCond .eq 9, 3) := by decide +kernel
theorem dX7_dies_64 : decode cX7_dies 64 = .ok (.iload_n 2, 1) := by decide +kernel
theorem dX7_dies_65 : decode cX7_dies 65 = .ok (.bipush (-9), 2) := by decide +kernel
theorem dX7_dies_67 : decode cX7_dies 67 = .ok (.if_icmp .ne 6, 3) := by decide +kernel
theorem dX7_dies_70 : decode cX7_dies 70 = .ok (.bipush (-2), 2) := by decide +kernel
theorem dX7_dies_72 : decode cX7_dies 72 = .ok (.ireturn, 1) := by decide +kernel
theorem dX7_dies_73 : decode cX7_dies 73 = .ok (.aload_n 0, 1) := by decide +kernel
theorem dX7_dies_74 : decode cX7_dies 74 = .ok (.invokevirtual 139, 3) := by decide +kernel
theorem dX7_dies_77 : decode cX7_dies 77 = .ok (.aload_n 0, 1) := by decide +kernel
theorem dX7_dies_78 : decode cX7_dies 78 = .ok (.getfield 32, 3) := by decide +kernel
theorem dX7_dies_81 : decode cX7_dies 81 = .ok (.bipush 21, 2) := by decide +kernel
theorem dX7_dies_83 : decode cX7_dies 83 = .ok (.iload_n 1, 1) := by decide +kernel
theorem dX7_dies_84 : decode cX7_dies 84 = .ok (.iadd, 1) := by decide +kernel
theorem dX7_dies_85 : decode cX7_dies 85 = .ok (.iaload, 1) := by decide +kernel
theorem dX7_dies_86 : decode cX7_dies 86 = .ok (.ifCond .le 17, 3) := by decide +kernel
theorem dX7_dies_89 : decode cX7_dies 89 = .ok (.aload_n 0, 1) := by decide +kernel
theorem dX7_dies_90 : decode cX7_dies 90 = .ok (.getfield 32, 3) := by decide +kernel
theorem dX7_dies_93 : decode cX7_dies 93 = .ok (.bipush 21, 2) := by decide +kernel
theorem dX7_dies_95 : decode cX7_dies 95 = .ok (.iload_n 1, 1) := by decide +kernel
theorem dX7_dies_96 : decode cX7_dies 96 = .ok (.iadd, 1) := by decide +kernel
theorem dX7_dies_97 : decode cX7_dies 97 = .ok (.iaload, 1) := by decide +kernel
theorem dX7_dies_98 : decode cX7_dies 98 = .ok (.iconst 1, 1) := by decide +kernel
theorem dX7_dies_99 : decode cX7_dies 99 = .ok (.isub, 1) := by decide +kernel
theorem dX7_dies_100 : decode cX7_dies 100 = .ok (.goto 4, 3) := by decide +kernel
theorem dX7_dies_103 : decode cX7_dies 103 = .ok (.iload_n 2, 1) := by decide +kernel
theorem dX7_dies_104 : decode cX7_dies 104 = .ok (.istore_n 3, 1) := by decide +kernel
theorem dX7_dies_105 : decode cX7_dies 105 = .ok (.aload_n 0, 1) := by decide +kernel
theorem dX7_dies_106 : decode cX7_dies 106 = .ok (.getfield 32, 3) := by decide +kernel
theorem dX7_dies_109 : decode cX7_dies 109 = .ok (.iconst 1, 1) := by decide +kernel
theorem dX7_dies_110 : decode cX7_dies 110 = .ok (.iload_n 1, 1) := by decide +kernel
theorem dX7_dies_111 : decode cX7_dies 111 = .ok (.iadd, 1) := by decide +kernel
theorem dX7_dies_112 : decode cX7_dies 112 = .ok (.iaload, 1) := by decide +kernel
theorem dX7_dies_113 : decode cX7_dies 113 = .ok (.iconst 2, 1) := by decide +kernel
theorem dX7_dies_114 : decode cX7_dies 114 = .ok (.idiv, 1) := by decide +kernel
theorem dX7_dies_115 : decode cX7_dies 115 = .ok (.istore 4, 2) := by decide +kernel
theorem dX7_dies_117 : decode cX7_dies 117 = .ok (.aload_n 0, 1) := by decide +kernel
theorem dX7_dies_118 : decode cX7_dies 118 = .ok (.iload_n 2, 1) := by decide +kernel
theorem dX7_dies_119 : decode cX7_dies 119 = .ok (.iload 4, 2) := by decide +kernel
theorem dX7_dies_121 : decode cX7_dies 121 = .ok (.invokevirtual 142, 3) := by decide +kernel
theorem dX7_dies_124 : decode cX7_dies 124 = .ok (.aload_n 0, 1) := by decide +kernel
theorem dX7_dies_125 : decode cX7_dies 125 = .ok (.iload_n 3, 1) := by decide +kernel
theorem dX7_dies_126 : decode cX7_dies 126 = .ok (.aload_n 0, 1) := by decide +kernel
theorem dX7_dies_127 : decode cX7_dies 127 = .ok (.getfield 32, 3) := by decide +kernel
theorem dX7_dies_130 : decode cX7_dies 130 = .ok (.iconst 1, 1) := by decide +kernel
theorem dX7_dies_131 : decode cX7_dies 131 = .ok (.iload_n 1, 1) := by decide +kernel
theorem dX7_dies_132 : decode cX7_dies 132 = .ok (.iadd, 1) := by decide +kernel
theorem dX7_dies_133 : decode cX7_dies 133 = .ok (.iaload, 1) := by decide +kernel
theorem dX7_dies_134 : decode cX7_dies 134 = .ok (.iload 4, 2) := by decide +kernel
theorem dX7_dies_136 : decode cX7_dies 136 = .ok (.isub, 1) := by decide +kernel
theorem dX7_dies_137 : decode cX7_dies 137 = .ok (.invokevirtual 142, 3) := by decide +kernel
theorem dX7_dies_140 : decode cX7_dies 140 = .ok (.aload_n 0, 1) := by decide +kernel
theorem dX7_dies_141 : decode cX7_dies 141 = .ok (.getfield 32, 3) := by decide +kernel
theorem dX7_dies_144 : decode cX7_dies 144 = .ok (.iconst 1, 1) := by decide +kernel
theorem dX7_dies_145 : decode cX7_dies 145 = .ok (.iload_n 1, 1) := by decide +kernel
theorem dX7_dies_146 : decode cX7_dies 146 = .ok (.iadd, 1) := by decide +kernel
theorem dX7_dies_147 : decode cX7_dies 147 = .ok (.iconst 0, 1) := by decide +kernel
theorem dX7_dies_148 : decode cX7_dies 148 = .ok (.iastore, 1) := by decide +kernel
theorem dX7_dies_149 : decode cX7_dies 149 = .ok (.aload_n 0, 1) := by decide +kernel
theorem dX7_dies_150 : decode cX7_dies 150 = .ok (.getfield 32, 3) := by decide +kernel
theorem dX7_dies_153 : decode cX7_dies 153 = .ok (.bipush 20, 2) := by decide +kernel
theorem dX7_dies_155 : decode cX7_dies 155 = .ok (.dup2, 1) := by decide +kernel
theorem dX7_dies_156 : decode cX7_dies 156 = .ok (.iaload, 1) := by decide +kernel
theorem dX7_dies_157 : decode cX7_dies 157 = .ok (.iconst 1, 1) := by decide +kernel
theorem dX7_dies_158 : decode cX7_dies 158 = .ok (.iload_n 1, 1) := by decide +kernel
theorem dX7_dies_159 : decode cX7_dies 159 = .ok (.ishl, 1) := by decide +kernel
theorem dX7_dies_160 : decode cX7_dies 160 = .ok (.iconst (-1), 1) := by decide +kernel
theorem dX7_dies_161 : decode cX7_dies 161 = .ok (.ixor, 1) := by decide +kernel
theorem dX7_dies_162 : decode cX7_dies 162 = .ok (.iand, 1) := by decide +kernel
theorem dX7_dies_163 : decode cX7_dies 163 = .ok (.iastore, 1) := by decide +kernel
theorem dX7_dies_164 : decode cX7_dies 164 = .ok (.iconst 0, 1) := by decide +kernel
theorem dX7_dies_165 : decode cX7_dies 165 = .ok (.istore 5, 2) := by decide +kernel
theorem dX7_dies_167 : decode cX7_dies 167 = .ok (.iload 5, 2) := by decide +kernel
theorem dX7_dies_169 : decode cX7_dies 169 = .ok (.iconst 5, 1) := by decide +kernel
theorem dX7_dies_170 : decode cX7_dies 170 = .ok (.if_icmp .ge 55, 3) := by decide +kernel
theorem dX7_dies_173 : decode cX7_dies 173 = .ok (.aload_n 0, 1) := by decide +kernel
theorem dX7_dies_174 : decode cX7_dies 174 = .ok (.getfield 32, 3) := by decide +kernel
theorem dX7_dies_177 : decode cX7_dies 177 = .ok (.bipush 21, 2) := by decide +kernel
theorem dX7_dies_179 : decode cX7_dies 179 = .ok (.iload 5, 2) := by decide +kernel
theorem dX7_dies_181 : decode cX7_dies 181 = .ok (.iadd, 1) := by decide +kernel
theorem dX7_dies_182 : decode cX7_dies 182 = .ok (.iload 5, 2) := by decide +kernel
theorem dX7_dies_184 : decode cX7_dies 184 = .ok (.iload_n 1, 1) := by decide +kernel
theorem dX7_dies_185 : decode cX7_dies 185 = .ok (.if_icmp .eq 19, 3) := by decide +kernel
theorem dX7_dies_188 : decode cX7_dies 188 = .ok (.aload_n 0, 1) := by decide +kernel
theorem dX7_dies_189 : decode cX7_dies 189 = .ok (.getfield 32, 3) := by decide +kernel
theorem dX7_dies_192 : decode cX7_dies 192 = .ok (.bipush 21, 2) := by decide +kernel
theorem dX7_dies_194 : decode cX7_dies 194 = .ok (.iload 5, 2) := by decide +kernel
theorem dX7_dies_196 : decode cX7_dies 196 = .ok (.iadd, 1) := by decide +kernel
theorem dX7_dies_197 : decode cX7_dies 197 = .ok (.iaload, 1) := by decide +kernel
theorem dX7_dies_198 : decode cX7_dies 198 = .ok (.iload_n 1, 1) := by decide +kernel
theorem dX7_dies_199 : decode cX7_dies 199 = .ok (.iconst 1, 1) := by decide +kernel
theorem dX7_dies_200 : decode cX7_dies 200 = .ok (.iadd, 1) := by decide +kernel
theorem dX7_dies_201 : decode cX7_dies 201 = .ok (.if_icmp .ne 7, 3) := by decide +kernel
theorem dX7_dies_204 : decode cX7_dies 204 = .ok (.iconst 0, 1) := by decide +kernel
theorem dX7_dies_205 : decode cX7_dies 205 = .ok (.goto 13, 3) := by decide +kernel
theorem dX7_dies_208 : decode cX7_dies 208 = .ok (.aload_n 0, 1) := by decide +kernel
theorem dX7_dies_209 : decode cX7_dies 209 = .ok (.getfield 32, 3) := by decide +kernel
theorem dX7_dies_212 : decode cX7_dies 212 = .ok (.bipush 21, 2) := by decide +kernel
theorem dX7_dies_214 : decode cX7_dies 214 = .ok (.iload 5, 2) := by decide +kernel
theorem dX7_dies_216 : decode cX7_dies 216 = .ok (.iadd, 1) := by decide +kernel
theorem dX7_dies_217 : decode cX7_dies 217 = .ok (.iaload, 1) := by decide +kernel
theorem dX7_dies_218 : decode cX7_dies 218 = .ok (.iastore, 1) := by decide +kernel
theorem dX7_dies_219 : decode cX7_dies 219 = .ok (.iinc 5 1, 3) := by decide +kernel
theorem dX7_dies_222 : decode cX7_dies 222 = .ok (.goto (-55), 3) := by decide +kernel
theorem dX7_dies_225 : decode cX7_dies 225 = .ok (.iconst 0, 1) := by decide +kernel
theorem dX7_dies_226 : decode cX7_dies 226 = .ok (.istore 5, 2) := by decide +kernel
theorem dX7_dies_228 : decode cX7_dies 228 = .ok (.iload 5, 2) := by decide +kernel
theorem dX7_dies_230 : decode cX7_dies 230 = .ok (.aload_n 0, 1) := by decide +kernel
theorem dX7_dies_231 : decode cX7_dies 231 = .ok (.getfield 13, 3) := by decide +kernel
theorem dX7_dies_234 : decode cX7_dies 234 = .ok (.iconst 1, 1) := by decide +kernel
theorem dX7_dies_235 : decode cX7_dies 235 = .ok (.iaload, 1) := by decide +kernel
theorem dX7_dies_236 : decode cX7_dies 236 = .ok (.if_icmp .ge 47, 3) := by decide +kernel
theorem dX7_dies_239 : decode cX7_dies 239 = .ok (.aload_n 0, 1) := by decide +kernel
theorem dX7_dies_240 : decode cX7_dies 240 = .ok (.getfield 32, 3) := by decide +kernel
theorem dX7_dies_243 : decode cX7_dies 243 = .ok (.bipush 13, 2) := by decide +kernel
theorem dX7_dies_245 : decode cX7_dies 245 = .ok (.iload 5, 2) := by decide +kernel
theorem dX7_dies_247 : decode cX7_dies 247 = .ok (.iadd, 1) := by decide +kernel
theorem dX7_dies_248 : decode cX7_dies 248 = .ok (.aload_n 0, 1) := by decide +kernel
theorem dX7_dies_249 : decode cX7_dies 249 = .ok (.getfield 32, 3) := by decide +kernel
theorem dX7_dies_252 : decode cX7_dies 252 = .ok (.bipush 13, 2) := by decide +kernel
theorem dX7_dies_254 : decode cX7_dies 254 = .ok (.iload 5, 2) := by decide +kernel
theorem dX7_dies_256 : decode cX7_dies 256 = .ok (.iadd, 1) := by decide +kernel
theorem dX7_dies_257 : decode cX7_dies 257 = .ok (.iaload, 1) := by decide +kernel
theorem dX7_dies_258 : decode cX7_dies 258 = .ok (.iload_n 1, 1) := by decide +kernel
theorem dX7_dies_259 : decode cX7_dies 259 = .ok (.if_icmp .ne 7, 3) := by decide +kernel
theorem dX7_dies_262 : decode cX7_dies 262 = .ok (.iload_n 3, 1) := by decide +kernel
theorem dX7_dies_263 : decode cX7_dies 263 = .ok (.goto 13, 3) := by decide +kernel
theorem dX7_dies_266 : decode cX7_dies 266 = .ok (.aload_n 0, 1) := by decide +kernel
theorem dX7_dies_267 : decode cX7_dies 267 = .ok (.getfield 32, 3) := by decide +kernel
theorem dX7_dies_270 : decode cX7_dies 270 = .ok (.bipush 13, 2) := by decide +kernel
theorem dX7_dies_272 : decode cX7_dies 272 = .ok (.iload 5, 2) := by decide +kernel
theorem dX7_dies_274 : decode cX7_dies 274 = .ok (.iadd, 1) := by decide +kernel
theorem dX7_dies_275 : decode cX7_dies 275 = .ok (.iaload, 1) := by decide +kernel
theorem dX7_dies_276 : decode cX7_dies 276 = .ok (.iastore, 1) := by decide +kernel
theorem dX7_dies_277 : decode cX7_dies 277 = .ok (.iinc 5 1, 3) := by decide +kernel
theorem dX7_dies_280 : decode cX7_dies 280 = .ok (.goto (-52), 3) := by decide +kernel
theorem dX7_dies_283 : decode cX7_dies 283 = .ok (.iload_n 3, 1) := by decide +kernel
theorem dX7_dies_284 : decode cX7_dies 284 = .ok (.ireturn, 1) := by decide +kernel
def bX7_dies_49 (R_27 : Int32 × Int32 × Int32 × St → Prop) (y1 : Int32) (y3 : Int32) (z0 : Int32) (σ : St) (Q : Int32 → St → Prop) : Prop :=
  (∀ x1 : Int32, x1 = y3 + (-1) → R_27 (y1, z0, x1, σ))
set_option maxHeartbeats 4000000 in
set_option maxRecDepth 100000 in
theorem tX7_dies_49 {R_27 : Int32 × Int32 × Int32 × St → Prop} {Q : Int32 → St → Prop} (M : MC p s m args meth c cX7_dies 6 (some .int) RX7 Y) (hN : yN Y = 108) (hR_27 : ∀ (y1 y2 y3 : Int32) (σ : St) (H : Heap) (locs : List Loc) (ls : Array Slot), WS Y (AD Y) s.heap σ H locs → lv_has ls 6 [(0, .ref (yA Y 92)), (1, .int y1), (2, .int y2), (3, .int y3)] → R_27 (y1, y2, y3, σ) → W p l e { frames := 2, cells := 0, slots := 0, locals := 43 } s m args below meth c H locs 0 0 (MQ below (QI Y Q) args s 0 0 (AD Y)) (F0 m 27 ls [])) (y1 : Int32) (y3 : Int32) (z0 : Int32) (σ : St) (H : Heap) (locs : List Loc) (ls : Array Slot) (hw : WS Y (AD Y) s.heap σ H locs) (hl : lv_has ls 6 [(0, .ref (yA Y 92)), (1, .int y1), (3, .int y3)]) (h : bX7_dies_49 R_27 y1 y3 z0 σ Q) : W p l e { frames := 2, cells := 0, slots := 0, locals := 43 } s m args below meth c H locs 0 0 (MQ below (QI Y Q) args s 0 0 (AD Y)) (F0 m 49 ls [.int z0]) := by
  obtain ⟨hx, hb, hr, hml, hown, hlk, hT, hK, hB⟩ := id M
  unfold bX7_dies_49 at h
  refine lv_istore_n (lv' := [(2, .int z0), (0, .ref (yA Y 92)), (1, .int y1), (3, .int y3)]) hx hb dX7_dies_49 rfl hl (by decide) rfl (fun ls hl => ?_)
  obtain ⟨x1, ex1⟩ : ∃ y : Int32, y = y3 + (-1) := ⟨_, rfl⟩
  have h := h x1 ex1
  refine lv_iinc (v := x1) (lv' := [(3, .int x1), (2, .int z0), (0, .ref (yA Y 92)), (1, .int y1)]) hx hb dX7_dies_50 hl (k := 3) rfl (by rw [ex1]; rfl) (by decide) rfl (fun ls hl => ?_)
  refine lv_goto (tgt := 27) hx hb dX7_dies_53 (by decide) ?_
  exact hR_27 y1 z0 x1 σ _ _ _ hw (lv_sub hl [2, 3, 1, 0] rfl) h
def bX7_dies_48 (R_27 : Int32 × Int32 × Int32 × St → Prop) (y1 : Int32) (y2 : Int32) (y3 : Int32) (σ : St) (Q : Int32 → St → Prop) : Prop :=
  bX7_dies_49 R_27 y1 y3 y2 σ Q
set_option maxHeartbeats 4000000 in
set_option maxRecDepth 100000 in
theorem tX7_dies_48 {R_27 : Int32 × Int32 × Int32 × St → Prop} {Q : Int32 → St → Prop} (M : MC p s m args meth c cX7_dies 6 (some .int) RX7 Y) (hN : yN Y = 108) (hR_27 : ∀ (y1 y2 y3 : Int32) (σ : St) (H : Heap) (locs : List Loc) (ls : Array Slot), WS Y (AD Y) s.heap σ H locs → lv_has ls 6 [(0, .ref (yA Y 92)), (1, .int y1), (2, .int y2), (3, .int y3)] → R_27 (y1, y2, y3, σ) → W p l e { frames := 2, cells := 0, slots := 0, locals := 43 } s m args below meth c H locs 0 0 (MQ below (QI Y Q) args s 0 0 (AD Y)) (F0 m 27 ls [])) (y1 : Int32) (y2 : Int32) (y3 : Int32) (σ : St) (H : Heap) (locs : List Loc) (ls : Array Slot) (hw : WS Y (AD Y) s.heap σ H locs) (hl : lv_has ls 6 [(0, .ref (yA Y 92)), (1, .int y1), (2, .int y2), (3, .int y3)]) (h : bX7_dies_48 R_27 y1 y2 y3 σ Q) : W p l e { frames := 2, cells := 0, slots := 0, locals := 43 } s m args below meth c H locs 0 0 (MQ below (QI Y Q) args s 0 0 (AD Y)) (F0 m 48 ls []) := by
  obtain ⟨hx, hb, hr, hml, hown, hlk, hT, hK, hB⟩ := id M
  unfold bX7_dies_48 at h
  refine lv_iload_n hx hb dX7_dies_48 rfl (lv_at hl 2 rfl) ?_
  exact tX7_dies_49 M hN hR_27 y1 y3 y2 σ _ _ _ hw (lv_sub hl [0, 1, 3] rfl) h
def bX7_dies_218 (R_167 : Int32 × Int32 × Int32 × St → Prop) (y1 : Int32) (y3 : Int32) (y5 : Int32) (z0 : Int32) (z1 : Int32) (σ : St) (Q : Int32 → St → Prop) : Prop :=
  (vp_in z1 27 ∧ ∀ σ2 : St, σ2 = up σ 100 z1.toNatClampNeg z0 → (∀ x3 : Int32, x3 = y5 + 1 → R_167 (y1, y3, x3, σ2)))
set_option maxHeartbeats 4000000 in
set_option maxRecDepth 100000 in
theorem tX7_dies_218 {R_167 : Int32 × Int32 × Int32 × St → Prop} {Q : Int32 → St → Prop} (M : MC p s m args meth c cX7_dies 6 (some .int) RX7 Y) (hN : yN Y = 108) (hR_167 : ∀ (y1 y3 y5 : Int32) (σ : St) (H : Heap) (locs : List Loc) (ls : Array Slot), WS Y (AD Y) s.heap σ H locs → lv_has ls 6 [(0, .ref (yA Y 92)), (1, .int y1), (3, .int y3), (5, .int y5)] → R_167 (y1, y3, y5, σ) → W p l e { frames := 2, cells := 0, slots := 0, locals := 43 } s m args below meth c H locs 0 0 (MQ below (QI Y Q) args s 0 0 (AD Y)) (F0 m 167 ls [])) (y1 : Int32) (y3 : Int32) (y5 : Int32) (z0 : Int32) (z1 : Int32) (σ : St) (H : Heap) (locs : List Loc) (ls : Array Slot) (hw : WS Y (AD Y) s.heap σ H locs) (hl : lv_has ls 6 [(0, .ref (yA Y 92)), (1, .int y1), (3, .int y3), (5, .int y5)]) (h : bX7_dies_218 R_167 y1 y3 y5 z0 z1 σ Q) : W p l e { frames := 2, cells := 0, slots := 0, locals := 43 } s m args below meth c H locs 0 0 (MQ below (QI Y Q) args s 0 0 (AD Y)) (F0 m 218 ls [.int z0, .int z1, .ref (yA Y 100)]) := by
  obtain ⟨hx, hb, hr, hml, hown, hlk, hT, hK, hB⟩ := id M
  unfold bX7_dies_218 at h
  have c1 := h.1
  refine q_ist M hw (ar_100 hN) c1 dX7_dies_218 (fun σ2 H locs es hw => ?_)
  have h := h.2 σ2 es
  obtain ⟨x3, ex3⟩ : ∃ y : Int32, y = y5 + 1 := ⟨_, rfl⟩
  have h := h x3 ex3
  refine lv_iinc (v := x3) (lv' := [(5, .int x3), (0, .ref (yA Y 92)), (1, .int y1), (3, .int y3)]) hx hb dX7_dies_219 hl (k := 3) rfl (by rw [ex3]; rfl) (by decide) rfl (fun ls hl => ?_)
  refine lv_goto (tgt := 167) hx hb dX7_dies_222 (by decide) ?_
  exact hR_167 y1 y3 x3 σ2 _ _ _ hw (lv_sub hl [1, 2, 3, 0] rfl) h
def bX7_dies_204 (R_167 : Int32 × Int32 × Int32 × St → Prop) (y1 : Int32) (y3 : Int32) (y5 : Int32) (z0 : Int32) (σ : St) (Q : Int32 → St → Prop) : Prop :=
  bX7_dies_218 R_167 y1 y3 y5 0 z0 σ Q
set_option maxHeartbeats 4000000 in
set_option maxRecDepth 100000 in
theorem tX7_dies_204 {R_167 : Int32 × Int32 × Int32 × St → Prop} {Q : Int32 → St → Prop} (M : MC p s m args meth c cX7_dies 6 (some .int) RX7 Y) (hN : yN Y = 108) (hR_167 : ∀ (y1 y3 y5 : Int32) (σ : St) (H : Heap) (locs : List Loc) (ls : Array Slot), WS Y (AD Y) s.heap σ H locs → lv_has ls 6 [(0, .ref (yA Y 92)), (1, .int y1), (3, .int y3), (5, .int y5)] → R_167 (y1, y3, y5, σ) → W p l e { frames := 2, cells := 0, slots := 0, locals := 43 } s m args below meth c H locs 0 0 (MQ below (QI Y Q) args s 0 0 (AD Y)) (F0 m 167 ls [])) (y1 : Int32) (y3 : Int32) (y5 : Int32) (z0 : Int32) (σ : St) (H : Heap) (locs : List Loc) (ls : Array Slot) (hw : WS Y (AD Y) s.heap σ H locs) (hl : lv_has ls 6 [(0, .ref (yA Y 92)), (1, .int y1), (3, .int y3), (5, .int y5)]) (h : bX7_dies_204 R_167 y1 y3 y5 z0 σ Q) : W p l e { frames := 2, cells := 0, slots := 0, locals := 43 } s m args below meth c H locs 0 0 (MQ below (QI Y Q) args s 0 0 (AD Y)) (F0 m 204 ls [.int z0, .ref (yA Y 100)]) := by
  obtain ⟨hx, hb, hr, hml, hown, hlk, hT, hK, hB⟩ := id M
  unfold bX7_dies_204 at h
  refine lv_iconst (v := 0) hx hb dX7_dies_204 (by decide) ?_
  refine lv_goto (tgt := 218) hx hb dX7_dies_205 (by decide) ?_
  exact tX7_dies_218 M hN hR_167 y1 y3 y5 0 z0 σ _ _ _ hw (lv_sub hl [0, 1, 2, 3] rfl) h
def bX7_dies_276 (R_228 : Int32 × Int32 × Int32 × St → Prop) (y1 : Int32) (y3 : Int32) (y5 : Int32) (z0 : Int32) (z1 : Int32) (σ : St) (Q : Int32 → St → Prop) : Prop :=
  (vp_in z1 27 ∧ ∀ σ2 : St, σ2 = up σ 100 z1.toNatClampNeg z0 → (∀ x3 : Int32, x3 = y5 + 1 → R_228 (y1, y3, x3, σ2)))
set_option maxHeartbeats 4000000 in
set_option maxRecDepth 100000 in
theorem tX7_dies_276 {R_228 : Int32 × Int32 × Int32 × St → Prop} {Q : Int32 → St → Prop} (M : MC p s m args meth c cX7_dies 6 (some .int) RX7 Y) (hN : yN Y = 108) (hR_228 : ∀ (y1 y3 y5 : Int32) (σ : St) (H : Heap) (locs : List Loc) (ls : Array Slot), WS Y (AD Y) s.heap σ H locs → lv_has ls 6 [(0, .ref (yA Y 92)), (1, .int y1), (3, .int y3), (5, .int y5)] → R_228 (y1, y3, y5, σ) → W p l e { frames := 2, cells := 0, slots := 0, locals := 43 } s m args below meth c H locs 0 0 (MQ below (QI Y Q) args s 0 0 (AD Y)) (F0 m 228 ls [])) (y1 : Int32) (y3 : Int32) (y5 : Int32) (z0 : Int32) (z1 : Int32) (σ : St) (H : Heap) (locs : List Loc) (ls : Array Slot) (hw : WS Y (AD Y) s.heap σ H locs) (hl : lv_has ls 6 [(0, .ref (yA Y 92)), (1, .int y1), (3, .int y3), (5, .int y5)]) (h : bX7_dies_276 R_228 y1 y3 y5 z0 z1 σ Q) : W p l e { frames := 2, cells := 0, slots := 0, locals := 43 } s m args below meth c H locs 0 0 (MQ below (QI Y Q) args s 0 0 (AD Y)) (F0 m 276 ls [.int z0, .int z1, .ref (yA Y 100)]) := by
  obtain ⟨hx, hb, hr, hml, hown, hlk, hT, hK, hB⟩ := id M
  unfold bX7_dies_276 at h
  have c1 := h.1
  refine q_ist M hw (ar_100 hN) c1 dX7_dies_276 (fun σ2 H locs es hw => ?_)
  have h := h.2 σ2 es
  obtain ⟨x3, ex3⟩ : ∃ y : Int32, y = y5 + 1 := ⟨_, rfl⟩
  have h := h x3 ex3
  refine lv_iinc (v := x3) (lv' := [(5, .int x3), (0, .ref (yA Y 92)), (1, .int y1), (3, .int y3)]) hx hb dX7_dies_277 hl (k := 3) rfl (by rw [ex3]; rfl) (by decide) rfl (fun ls hl => ?_)
  refine lv_goto (tgt := 228) hx hb dX7_dies_280 (by decide) ?_
  exact hR_228 y1 y3 x3 σ2 _ _ _ hw (lv_sub hl [1, 2, 3, 0] rfl) h
def bX7_dies_228 (R_228 : Int32 × Int32 × Int32 × St → Prop) (y1 : Int32) (y3 : Int32) (y5 : Int32) (σ : St) (Q : Int32 → St → Prop) : Prop :=
  (((σ.1 94 1) ≤ y5 → Q y3 σ) ∧ (¬ (σ.1 94 1) ≤ y5 → (vp_in (13 + y5) 27 ∧ (((σ.1 100 (13 + y5).toNatClampNeg) = y1 → bX7_dies_276 R_228 y1 y3 y5 y3 (13 + y5) σ Q) ∧ (¬ (σ.1 100 (13 + y5).toNatClampNeg) = y1 → (vp_in (13 + y5) 27 ∧ bX7_dies_276 R_228 y1 y3 y5 (σ.1 100 (13 + y5).toNatClampNeg) (13 + y5) σ Q))))))
set_option maxHeartbeats 4000000 in
set_option maxRecDepth 100000 in
theorem tX7_dies_228 {R_228 : Int32 × Int32 × Int32 × St → Prop} {Q : Int32 → St → Prop} (M : MC p s m args meth c cX7_dies 6 (some .int) RX7 Y) (hN : yN Y = 108) (hR_228 : ∀ (y1 y3 y5 : Int32) (σ : St) (H : Heap) (locs : List Loc) (ls : Array Slot), WS Y (AD Y) s.heap σ H locs → lv_has ls 6 [(0, .ref (yA Y 92)), (1, .int y1), (3, .int y3), (5, .int y5)] → R_228 (y1, y3, y5, σ) → W p l e { frames := 2, cells := 0, slots := 0, locals := 43 } s m args below meth c H locs 0 0 (MQ below (QI Y Q) args s 0 0 (AD Y)) (F0 m 228 ls [])) (y1 : Int32) (y3 : Int32) (y5 : Int32) (σ : St) (H : Heap) (locs : List Loc) (ls : Array Slot) (hw : WS Y (AD Y) s.heap σ H locs) (hl : lv_has ls 6 [(0, .ref (yA Y 92)), (1, .int y1), (3, .int y3), (5, .int y5)]) (h : bX7_dies_228 R_228 y1 y3 y5 σ Q) : W p l e { frames := 2, cells := 0, slots := 0, locals := 43 } s m args below meth c H locs 0 0 (MQ below (QI Y Q) args s 0 0 (AD Y)) (F0 m 228 ls []) := by
  obtain ⟨hx, hb, hr, hml, hown, hlk, hT, hK, hB⟩ := id M
  unfold bX7_dies_228 at h
  refine lv_iload hx hb dX7_dies_228 (lv_at hl 3 rfl) ?_
  refine lv_aload_n hx hb dX7_dies_230 rfl (lv_at hl 0 rfl) ?_
  refine q_get (v := .ref (yA Y 94)) M hw (ob_92 hN) rfl inq_7 9 (by decide) tw_644 rfl dX7_dies_231 ?_
  refine lv_iconst (v := 1) hx hb dX7_dies_234 (by decide) ?_
  refine q_ild' 1 M hw (ar_94 hN) (by unfold vp_in; decide) (by decide) dX7_dies_235 ?_
  refine lv_icmp_ge (tgt := 283) hx hb dX7_dies_236 (by decide) (fun c1 => ?_) (fun c1 => ?_)
  · have h := h.1 c1
    refine lv_iload_n hx hb dX7_dies_283 rfl (lv_at hl 2 rfl) ?_
    exact q_iret M hw h dX7_dies_284
  · have h := h.2 c1
    refine lv_aload_n hx hb dX7_dies_239 rfl (lv_at hl 0 rfl) ?_
    refine q_get (v := .ref (yA Y 100)) M hw (ob_92 hN) rfl inq_7 16 (by decide) tw_651 rfl dX7_dies_240 ?_
    refine lv_bipush (v := 13) hx hb dX7_dies_243 (by decide) ?_
    refine lv_iload hx hb dX7_dies_245 (lv_at hl 3 rfl) ?_
    refine lv_iadd hx hb dX7_dies_247 ?_
    refine lv_aload_n hx hb dX7_dies_248 rfl (lv_at hl 0 rfl) ?_
    refine q_get (v := .ref (yA Y 100)) M hw (ob_92 hN) rfl inq_7 16 (by decide) tw_651 rfl dX7_dies_249 ?_
    refine lv_bipush (v := 13) hx hb dX7_dies_252 (by decide) ?_
    refine lv_iload hx hb dX7_dies_254 (lv_at hl 3 rfl) ?_
    refine lv_iadd hx hb dX7_dies_256 ?_
    have c2 := h.1
    have h := h.2
    refine q_ild M hw (ar_100 hN) c2 dX7_dies_257 ?_
    refine lv_iload_n hx hb dX7_dies_258 rfl (lv_at hl 1 rfl) ?_
    refine lv_icmp_ne (tgt := 266) hx hb dX7_dies_259 (by decide) (fun c3 => ?_) (fun c3 => ?_)
    · have h := h.2 c3
      refine lv_aload_n hx hb dX7_dies_266 rfl (lv_at hl 0 rfl) ?_
      refine q_get (v := .ref (yA Y 100)) M hw (ob_92 hN) rfl inq_7 16 (by decide) tw_651 rfl dX7_dies_267 ?_
      refine lv_bipush (v := 13) hx hb dX7_dies_270 (by decide) ?_
      refine lv_iload hx hb dX7_dies_272 (lv_at hl 3 rfl) ?_
      refine lv_iadd hx hb dX7_dies_274 ?_
      have c4 := h.1
      have h := h.2
      refine q_ild M hw (ar_100 hN) c4 dX7_dies_275 ?_
      exact tX7_dies_276 M hN hR_228 y1 y3 y5 (σ.1 100 (13 + y5).toNatClampNeg) (13 + y5) σ _ _ _ hw (lv_sub hl [0, 1, 2, 3] rfl) h
    · have h := h.1 c3
      refine lv_iload_n hx hb dX7_dies_262 rfl (lv_at hl 2 rfl) ?_
      refine lv_goto (tgt := 276) hx hb dX7_dies_263 (by decide) ?_
      exact tX7_dies_276 M hN hR_228 y1 y3 y5 y3 (13 + y5) σ _ _ _ hw (lv_sub hl [0, 1, 2, 3] rfl) h
def lX7_dies_228 (Q : Int32 → St → Prop) : (Int32 × Int32 × Int32 × St → Prop) → Int32 × Int32 × Int32 × St → Prop := fun R a => bX7_dies_228 R a.1 a.2.1 a.2.2.1 a.2.2.2 Q
theorem tlX7_dies_228 {Q : Int32 → St → Prop} (M : MC p s m args meth c cX7_dies 6 (some .int) RX7 Y) (hN : yN Y = 108) (n : Nat) : ∀ (y1 : Int32) (y3 : Int32) (y5 : Int32) (σ : St) (H : Heap) (locs : List Loc) (ls : Array Slot) (hw : WS Y (AD Y) s.heap σ H locs) (hl : lv_has ls 6 [(0, .ref (yA Y 92)), (1, .int y1), (3, .int y3), (5, .int y5)]) (h : Lp (lX7_dies_228 Q) n (y1, y3, y5, σ)), W p l e { frames := 2, cells := 0, slots := 0, locals := 43 } s m args below meth c H locs 0 0 (MQ below (QI Y Q) args s 0 0 (AD Y)) (F0 m 228 ls []) := by
  induction n with
  | zero => intro y1 y3 y5 σ H locs ls hw hl h; exact h.elim
  | succ n ih =>
    intro y1 y3 y5 σ H locs ls hw hl h
    exact tX7_dies_228 M hN ih y1 y3 y5 σ H locs ls hw hl h
def bX7_dies_167 (R_167 : Int32 × Int32 × Int32 × St → Prop) (y1 : Int32) (y3 : Int32) (y5 : Int32) (σ : St) (Q : Int32 → St → Prop) : Prop :=
  ((5 ≤ y5 → ∃ n : Nat, Lp (lX7_dies_228 Q) n (y1, y3, 0, σ)) ∧ (¬ 5 ≤ y5 → ((y5 = y1 → bX7_dies_204 R_167 y1 y3 y5 (21 + y5) σ Q) ∧ (¬ y5 = y1 → (vp_in (21 + y5) 27 ∧ (((σ.1 100 (21 + y5).toNatClampNeg) = (y1 + 1) → bX7_dies_204 R_167 y1 y3 y5 (21 + y5) σ Q) ∧ (¬ (σ.1 100 (21 + y5).toNatClampNeg) = (y1 + 1) → (vp_in (21 + y5) 27 ∧ bX7_dies_218 R_167 y1 y3 y5 (σ.1 100 (21 + y5).toNatClampNeg) (21 + y5) σ Q))))))))
set_option maxHeartbeats 4000000 in
set_option maxRecDepth 100000 in
theorem tX7_dies_167 {R_167 : Int32 × Int32 × Int32 × St → Prop} {Q : Int32 → St → Prop} (M : MC p s m args meth c cX7_dies 6 (some .int) RX7 Y) (hN : yN Y = 108) (hR_167 : ∀ (y1 y3 y5 : Int32) (σ : St) (H : Heap) (locs : List Loc) (ls : Array Slot), WS Y (AD Y) s.heap σ H locs → lv_has ls 6 [(0, .ref (yA Y 92)), (1, .int y1), (3, .int y3), (5, .int y5)] → R_167 (y1, y3, y5, σ) → W p l e { frames := 2, cells := 0, slots := 0, locals := 43 } s m args below meth c H locs 0 0 (MQ below (QI Y Q) args s 0 0 (AD Y)) (F0 m 167 ls [])) (y1 : Int32) (y3 : Int32) (y5 : Int32) (σ : St) (H : Heap) (locs : List Loc) (ls : Array Slot) (hw : WS Y (AD Y) s.heap σ H locs) (hl : lv_has ls 6 [(0, .ref (yA Y 92)), (1, .int y1), (3, .int y3), (5, .int y5)]) (h : bX7_dies_167 R_167 y1 y3 y5 σ Q) : W p l e { frames := 2, cells := 0, slots := 0, locals := 43 } s m args below meth c H locs 0 0 (MQ below (QI Y Q) args s 0 0 (AD Y)) (F0 m 167 ls []) := by
  obtain ⟨hx, hb, hr, hml, hown, hlk, hT, hK, hB⟩ := id M
  unfold bX7_dies_167 at h
  refine lv_iload hx hb dX7_dies_167 (lv_at hl 3 rfl) ?_
  refine lv_iconst (v := 5) hx hb dX7_dies_169 (by decide) ?_
  refine lv_icmp_ge (tgt := 225) hx hb dX7_dies_170 (by decide) (fun c1 => ?_) (fun c1 => ?_)
  · have h := h.1 c1
    refine lv_iconst (v := 0) hx hb dX7_dies_225 (by decide) ?_
    refine lv_istore (lv' := [(5, .int 0), (0, .ref (yA Y 92)), (1, .int y1), (3, .int y3)]) hx hb dX7_dies_226 hl (by decide) rfl (fun ls hl => ?_)
    obtain ⟨n, h⟩ := h
    exact tlX7_dies_228 M hN n y1 y3 0 σ _ _ _ hw (lv_sub hl [1, 2, 3, 0] rfl) h
  · have h := h.2 c1
    refine lv_aload_n hx hb dX7_dies_173 rfl (lv_at hl 0 rfl) ?_
    refine q_get (v := .ref (yA Y 100)) M hw (ob_92 hN) rfl inq_7 16 (by decide) tw_651 rfl dX7_dies_174 ?_
    refine lv_bipush (v := 21) hx hb dX7_dies_177 (by decide) ?_
    refine lv_iload hx hb dX7_dies_179 (lv_at hl 3 rfl) ?_
    refine lv_iadd hx hb dX7_dies_181 ?_
    refine lv_iload hx hb dX7_dies_182 (lv_at hl 3 rfl) ?_
    refine lv_iload_n hx hb dX7_dies_184 rfl (lv_at hl 1 rfl) ?_
    refine lv_icmp_eq (tgt := 204) hx hb dX7_dies_185 (by decide) (fun c2 => ?_) (fun c2 => ?_)
    · have h := h.1 c2
      exact tX7_dies_204 M hN hR_167 y1 y3 y5 (21 + y5) σ _ _ _ hw (lv_sub hl [0, 1, 2, 3] rfl) h
    · have h := h.2 c2
      refine lv_aload_n hx hb dX7_dies_188 rfl (lv_at hl 0 rfl) ?_
      refine q_get (v := .ref (yA Y 100)) M hw (ob_92 hN) rfl inq_7 16 (by decide) tw_651 rfl dX7_dies_189 ?_
      refine lv_bipush (v := 21) hx hb dX7_dies_192 (by decide) ?_
      refine lv_iload hx hb dX7_dies_194 (lv_at hl 3 rfl) ?_
      refine lv_iadd hx hb dX7_dies_196 ?_
      have c3 := h.1
      have h := h.2
      refine q_ild M hw (ar_100 hN) c3 dX7_dies_197 ?_
      refine lv_iload_n hx hb dX7_dies_198 rfl (lv_at hl 1 rfl) ?_
      refine lv_iconst (v := 1) hx hb dX7_dies_199 (by decide) ?_
      refine lv_iadd hx hb dX7_dies_200 ?_
      refine lv_icmp_ne (tgt := 208) hx hb dX7_dies_201 (by decide) (fun c4 => ?_) (fun c4 => ?_)
      · have h := h.2 c4
        refine lv_aload_n hx hb dX7_dies_208 rfl (lv_at hl 0 rfl) ?_
        refine q_get (v := .ref (yA Y 100)) M hw (ob_92 hN) rfl inq_7 16 (by decide) tw_651 rfl dX7_dies_209 ?_
        refine lv_bipush (v := 21) hx hb dX7_dies_212 (by decide) ?_
        refine lv_iload hx hb dX7_dies_214 (lv_at hl 3 rfl) ?_
        refine lv_iadd hx hb dX7_dies_216 ?_
        have c5 := h.1
        have h := h.2
        refine q_ild M hw (ar_100 hN) c5 dX7_dies_217 ?_
        exact tX7_dies_218 M hN hR_167 y1 y3 y5 (σ.1 100 (21 + y5).toNatClampNeg) (21 + y5) σ _ _ _ hw (lv_sub hl [0, 1, 2, 3] rfl) h
      · have h := h.1 c4
        exact tX7_dies_204 M hN hR_167 y1 y3 y5 (21 + y5) σ _ _ _ hw (lv_sub hl [0, 1, 2, 3] rfl) h
def lX7_dies_167 (Q : Int32 → St → Prop) : (Int32 × Int32 × Int32 × St → Prop) → Int32 × Int32 × Int32 × St → Prop := fun R a => bX7_dies_167 R a.1 a.2.1 a.2.2.1 a.2.2.2 Q
theorem tlX7_dies_167 {Q : Int32 → St → Prop} (M : MC p s m args meth c cX7_dies 6 (some .int) RX7 Y) (hN : yN Y = 108) (n : Nat) : ∀ (y1 : Int32) (y3 : Int32) (y5 : Int32) (σ : St) (H : Heap) (locs : List Loc) (ls : Array Slot) (hw : WS Y (AD Y) s.heap σ H locs) (hl : lv_has ls 6 [(0, .ref (yA Y 92)), (1, .int y1), (3, .int y3), (5, .int y5)]) (h : Lp (lX7_dies_167 Q) n (y1, y3, y5, σ)), W p l e { frames := 2, cells := 0, slots := 0, locals := 43 } s m args below meth c H locs 0 0 (MQ below (QI Y Q) args s 0 0 (AD Y)) (F0 m 167 ls []) := by
  induction n with
  | zero => intro y1 y3 y5 σ H locs ls hw hl h; exact h.elim
  | succ n ih =>
    intro y1 y3 y5 σ H locs ls hw hl h
    exact tX7_dies_167 M hN ih y1 y3 y5 σ H locs ls hw hl h
def bX7_dies_104 (y1 : Int32) (y2 : Int32) (z0 : Int32) (σ : St) (Q : Int32 → St → Prop) : Prop :=
  (vp_in (1 + y1) 27 ∧ (∀ x2 : Int32, x2 = ((σ.1 100 (1 + y1).toNatClampNeg) / 2) → wX7_inherits y2 x2 σ (fun σ3 => (vp_in (1 + y1) 27 ∧ wX7_inherits z0 ((σ3.1 100 (1 + y1).toNatClampNeg) - x2) σ3 (fun σ5 => (vp_in (1 + y1) 27 ∧ ∀ σ7 : St, σ7 = up σ5 100 (1 + y1).toNatClampNeg 0 → (∀ σ9 : St, σ9 = up σ7 100 20 ((σ7.1 100 20) &&& ((1 <<< (y1 &&& 31)) ^^^ (-1))) → ∃ n : Nat, Lp (lX7_dies_167 Q) n (y1, z0, 0, σ9))))))))
set_option maxHeartbeats 4000000 in
set_option maxRecDepth 100000 in
theorem tX7_dies_104 {Q : Int32 → St → Prop} (M : MC p s m args meth c cX7_dies 6 (some .int) RX7 Y) (hN : yN Y = 108) (y1 : Int32) (y2 : Int32) (z0 : Int32) (σ : St) (H : Heap) (locs : List Loc) (ls : Array Slot) (hw : WS Y (AD Y) s.heap σ H locs) (hl : lv_has ls 6 [(0, .ref (yA Y 92)), (1, .int y1), (2, .int y2)]) (h : bX7_dies_104 y1 y2 z0 σ Q) : W p l e { frames := 2, cells := 0, slots := 0, locals := 43 } s m args below meth c H locs 0 0 (MQ below (QI Y Q) args s 0 0 (AD Y)) (F0 m 104 ls [.int z0]) := by
  obtain ⟨hx, hb, hr, hml, hown, hlk, hT, hK, hB⟩ := id M
  unfold bX7_dies_104 at h
  refine lv_istore_n (lv' := [(3, .int z0), (0, .ref (yA Y 92)), (1, .int y1), (2, .int y2)]) hx hb dX7_dies_104 rfl hl (by decide) rfl (fun ls hl => ?_)
  refine lv_aload_n hx hb dX7_dies_105 rfl (lv_at hl 1 rfl) ?_
  refine q_get (v := .ref (yA Y 100)) M hw (ob_92 hN) rfl inq_7 16 (by decide) tw_651 rfl dX7_dies_106 ?_
  refine lv_iconst (v := 1) hx hb dX7_dies_109 (by decide) ?_
  refine lv_iload_n hx hb dX7_dies_110 rfl (lv_at hl 2 rfl) ?_
  refine lv_iadd hx hb dX7_dies_111 ?_
  have c1 := h.1
  have h := h.2
  refine q_ild M hw (ar_100 hN) c1 dX7_dies_112 ?_
  refine lv_iconst (v := 2) hx hb dX7_dies_113 (by decide) ?_
  refine lv_idiv hx hb dX7_dies_114 (by decide) ?_
  refine lv_topi (fun x2 ex2 => ?_)
  have h := h x2 ex2
  refine lv_istore (lv' := [(4, .int x2), (3, .int z0), (0, .ref (yA Y 92)), (1, .int y1), (2, .int y2)]) hx hb dX7_dies_115 hl (by decide) rfl (fun ls hl => ?_)
  refine lv_aload_n hx hb dX7_dies_117 rfl (lv_at hl 2 rfl) ?_
  refine lv_iload_n hx hb dX7_dies_118 rfl (lv_at hl 4 rfl) ?_
  refine lv_iload hx hb dX7_dies_119 (lv_at hl 0 rfl) ?_
  refine q_goV hw (q_runV (rest := []) M hw (ctX7_inherits l hB hN y2 x2 σ _ h) mbX7_inherits (ob_92 hN) rfl tw_816 rfl hl.1 rfl (Nat.le_of_ble_eq_true rfl) ⟨Nat.le_of_ble_eq_true rfl, Nat.le_of_ble_eq_true rfl⟩ ⟨Nat.le_refl _, Nat.le_refl _⟩ dX7_dies_121) (fun σ3 H locs h hw => ?_)
  refine lv_aload_n hx hb dX7_dies_124 rfl (lv_at hl 2 rfl) ?_
  refine lv_iload_n hx hb dX7_dies_125 rfl (lv_at hl 1 rfl) ?_
  refine lv_aload_n hx hb dX7_dies_126 rfl (lv_at hl 2 rfl) ?_
  refine q_get (v := .ref (yA Y 100)) M hw (ob_92 hN) rfl inq_7 16 (by decide) tw_651 rfl dX7_dies_127 ?_
  refine lv_iconst (v := 1) hx hb dX7_dies_130 (by decide) ?_
  refine lv_iload_n hx hb dX7_dies_131 rfl (lv_at hl 3 rfl) ?_
  refine lv_iadd hx hb dX7_dies_132 ?_
  have c4 := h.1
  have h := h.2
  refine q_ild M hw (ar_100 hN) c4 dX7_dies_133 ?_
  refine lv_iload hx hb dX7_dies_134 (lv_at hl 0 rfl) ?_
  refine lv_isub hx hb dX7_dies_136 ?_
  refine q_goV hw (q_runV (rest := []) M hw (ctX7_inherits l hB hN z0 ((σ3.1 100 (1 + y1).toNatClampNeg) - x2) σ3 _ h) mbX7_inherits (ob_92 hN) rfl tw_816 rfl hl.1 rfl (Nat.le_of_ble_eq_true rfl) ⟨Nat.le_of_ble_eq_true rfl, Nat.le_of_ble_eq_true rfl⟩ ⟨Nat.le_refl _, Nat.le_refl _⟩ dX7_dies_137) (fun σ5 H locs h hw => ?_)
  refine lv_aload_n hx hb dX7_dies_140 rfl (lv_at hl 2 rfl) ?_
  refine q_get (v := .ref (yA Y 100)) M hw (ob_92 hN) rfl inq_7 16 (by decide) tw_651 rfl dX7_dies_141 ?_
  refine lv_iconst (v := 1) hx hb dX7_dies_144 (by decide) ?_
  refine lv_iload_n hx hb dX7_dies_145 rfl (lv_at hl 3 rfl) ?_
  refine lv_iadd hx hb dX7_dies_146 ?_
  refine lv_iconst (v := 0) hx hb dX7_dies_147 (by decide) ?_
  have c6 := h.1
  refine q_ist M hw (ar_100 hN) c6 dX7_dies_148 (fun σ7 H locs es hw => ?_)
  have h := h.2 σ7 es
  refine lv_aload_n hx hb dX7_dies_149 rfl (lv_at hl 2 rfl) ?_
  refine q_get (v := .ref (yA Y 100)) M hw (ob_92 hN) rfl inq_7 16 (by decide) tw_651 rfl dX7_dies_150 ?_
  refine lv_bipush (v := 20) hx hb dX7_dies_153 (by decide) ?_
  refine lv_dup2_11 hx hb dX7_dies_155 rfl rfl ?_
  refine q_ild' 20 M hw (ar_100 hN) (by unfold vp_in; decide) (by decide) dX7_dies_156 ?_
  refine lv_iconst (v := 1) hx hb dX7_dies_157 (by decide) ?_
  refine lv_iload_n hx hb dX7_dies_158 rfl (lv_at hl 3 rfl) ?_
  refine lv_ishl hx hb dX7_dies_159 ?_
  refine lv_iconst (v := (-1)) hx hb dX7_dies_160 (by decide) ?_
  refine lv_ixor hx hb dX7_dies_161 ?_
  refine lv_iand hx hb dX7_dies_162 ?_
  refine q_ist' 20 M hw (ar_100 hN) (by unfold vp_in; decide) (by decide) dX7_dies_163 (fun σ9 H locs es hw => ?_)
  have h := h σ9 es
  refine lv_iconst (v := 0) hx hb dX7_dies_164 (by decide) ?_
  refine lv_istore (lv' := [(5, .int 0), (4, .int x2), (3, .int z0), (0, .ref (yA Y 92)), (1, .int y1), (2, .int y2)]) hx hb dX7_dies_165 hl (by decide) rfl (fun ls hl => ?_)
  obtain ⟨n, h⟩ := h
  exact tlX7_dies_167 M hN n y1 z0 0 σ9 _ _ _ hw (lv_sub hl [3, 4, 2, 0] rfl) h
def bX7_dies_27 (R_27 : Int32 × Int32 × Int32 × St → Prop) (y1 : Int32) (y2 : Int32) (y3 : Int32) (σ : St) (Q : Int32 → St → Prop) : Prop :=
  ((y3 < 0 → wX7_lives y1 σ (fun r3 σ2 => ((r3 = 0 → Q (-2) σ2) ∧ (¬ r3 = 0 → ((y2 = (-9) → Q (-2) σ2) ∧ (¬ y2 = (-9) → wX7_notes σ2 (fun σ6 => (vp_in (21 + y1) 27 ∧ (((σ6.1 100 (21 + y1).toNatClampNeg) ≤ 0 → bX7_dies_104 y1 y2 y2 σ6 Q) ∧ (¬ (σ6.1 100 (21 + y1).toNatClampNeg) ≤ 0 → (vp_in (21 + y1) 27 ∧ bX7_dies_104 y1 y2 ((σ6.1 100 (21 + y1).toNatClampNeg) - 1) σ6 Q))))))))))) ∧ (¬ y3 < 0 → ((y3 = y1 → bX7_dies_48 R_27 y1 y2 y3 σ Q) ∧ (¬ y3 = y1 → wX7_lives y3 σ (fun r12 σ11 => ((r12 = 0 → bX7_dies_48 R_27 y1 y2 y3 σ11 Q) ∧ (¬ r12 = 0 → bX7_dies_49 R_27 y1 y3 y3 σ11 Q)))))))
set_option maxHeartbeats 4000000 in
set_option maxRecDepth 100000 in
theorem tX7_dies_27 {R_27 : Int32 × Int32 × Int32 × St → Prop} {Q : Int32 → St → Prop} (M : MC p s m args meth c cX7_dies 6 (some .int) RX7 Y) (hN : yN Y = 108) (hR_27 : ∀ (y1 y2 y3 : Int32) (σ : St) (H : Heap) (locs : List Loc) (ls : Array Slot), WS Y (AD Y) s.heap σ H locs → lv_has ls 6 [(0, .ref (yA Y 92)), (1, .int y1), (2, .int y2), (3, .int y3)] → R_27 (y1, y2, y3, σ) → W p l e { frames := 2, cells := 0, slots := 0, locals := 43 } s m args below meth c H locs 0 0 (MQ below (QI Y Q) args s 0 0 (AD Y)) (F0 m 27 ls [])) (y1 : Int32) (y2 : Int32) (y3 : Int32) (σ : St) (H : Heap) (locs : List Loc) (ls : Array Slot) (hw : WS Y (AD Y) s.heap σ H locs) (hl : lv_has ls 6 [(0, .ref (yA Y 92)), (1, .int y1), (2, .int y2), (3, .int y3)]) (h : bX7_dies_27 R_27 y1 y2 y3 σ Q) : W p l e { frames := 2, cells := 0, slots := 0, locals := 43 } s m args below meth c H locs 0 0 (MQ below (QI Y Q) args s 0 0 (AD Y)) (F0 m 27 ls []) := by
  obtain ⟨hx, hb, hr, hml, hown, hlk, hT, hK, hB⟩ := id M
  unfold bX7_dies_27 at h
  refine lv_iload_n hx hb dX7_dies_27 rfl (lv_at hl 3 rfl) ?_
  refine lv_if_lt (tgt := 56) hx hb dX7_dies_28 (by decide) (fun c1 => ?_) (fun c1 => ?_)
  · have h := h.1 c1
    refine lv_aload_n hx hb dX7_dies_56 rfl (lv_at hl 0 rfl) ?_
    refine lv_iload_n hx hb dX7_dies_57 rfl (lv_at hl 1 rfl) ?_
    refine q_goI hw (q_runV (rest := []) M hw (ctX7_lives l hB hN y1 σ _ h) mbX7_lives (ob_92 hN) rfl tw_792 rfl hl.1 rfl (Nat.le_of_ble_eq_true rfl) ⟨Nat.le_of_ble_eq_true rfl, Nat.le_of_ble_eq_true rfl⟩ ⟨Nat.le_refl _, Nat.le_refl _⟩ dX7_dies_58) (fun r3 σ2 H locs h hw => ?_)
    refine lv_if_eq (tgt := 70) hx hb dX7_dies_61 (by decide) (fun c4 => ?_) (fun c4 => ?_)
    · have h := h.1 c4
      refine lv_bipush (v := (-2)) hx hb dX7_dies_70 (by decide) ?_
      exact q_iret M hw h dX7_dies_72
    · have h := h.2 c4
      refine lv_iload_n hx hb dX7_dies_64 rfl (lv_at hl 2 rfl) ?_
      refine lv_bipush (v := (-9)) hx hb dX7_dies_65 (by decide) ?_
      refine lv_icmp_ne (tgt := 73) hx hb dX7_dies_67 (by decide) (fun c5 => ?_) (fun c5 => ?_)
      · have h := h.2 c5
        refine lv_aload_n hx hb dX7_dies_73 rfl (lv_at hl 0 rfl) ?_
        refine q_goV hw (q_runV (rest := []) M hw (ctX7_notes l hB hN σ2 _ h) mbX7_notes (ob_92 hN) rfl tw_796 rfl hl.1 rfl (Nat.le_of_ble_eq_true rfl) ⟨Nat.le_of_ble_eq_true rfl, Nat.le_of_ble_eq_true rfl⟩ ⟨Nat.le_refl _, Nat.le_refl _⟩ dX7_dies_74) (fun σ6 H locs h hw => ?_)
        refine lv_aload_n hx hb dX7_dies_77 rfl (lv_at hl 0 rfl) ?_
        refine q_get (v := .ref (yA Y 100)) M hw (ob_92 hN) rfl inq_7 16 (by decide) tw_651 rfl dX7_dies_78 ?_
        refine lv_bipush (v := 21) hx hb dX7_dies_81 (by decide) ?_
        refine lv_iload_n hx hb dX7_dies_83 rfl (lv_at hl 1 rfl) ?_
        refine lv_iadd hx hb dX7_dies_84 ?_
        have c7 := h.1
        have h := h.2
        refine q_ild M hw (ar_100 hN) c7 dX7_dies_85 ?_
        refine lv_if_le (tgt := 103) hx hb dX7_dies_86 (by decide) (fun c8 => ?_) (fun c8 => ?_)
        · have h := h.1 c8
          refine lv_iload_n hx hb dX7_dies_103 rfl (lv_at hl 2 rfl) ?_
          exact tX7_dies_104 M hN y1 y2 y2 σ6 _ _ _ hw (lv_sub hl [0, 1, 2] rfl) h
        · have h := h.2 c8
          refine lv_aload_n hx hb dX7_dies_89 rfl (lv_at hl 0 rfl) ?_
          refine q_get (v := .ref (yA Y 100)) M hw (ob_92 hN) rfl inq_7 16 (by decide) tw_651 rfl dX7_dies_90 ?_
          refine lv_bipush (v := 21) hx hb dX7_dies_93 (by decide) ?_
          refine lv_iload_n hx hb dX7_dies_95 rfl (lv_at hl 1 rfl) ?_
          refine lv_iadd hx hb dX7_dies_96 ?_
          have c9 := h.1
          have h := h.2
          refine q_ild M hw (ar_100 hN) c9 dX7_dies_97 ?_
          refine lv_iconst (v := 1) hx hb dX7_dies_98 (by decide) ?_
          refine lv_isub hx hb dX7_dies_99 ?_
          refine lv_goto (tgt := 104) hx hb dX7_dies_100 (by decide) ?_
          exact tX7_dies_104 M hN y1 y2 ((σ6.1 100 (21 + y1).toNatClampNeg) - 1) σ6 _ _ _ hw (lv_sub hl [0, 1, 2] rfl) h
      · have h := h.1 c5
        refine lv_bipush (v := (-2)) hx hb dX7_dies_70 (by decide) ?_
        exact q_iret M hw h dX7_dies_72
  · have h := h.2 c1
    refine lv_iload_n hx hb dX7_dies_31 rfl (lv_at hl 3 rfl) ?_
    refine lv_iload_n hx hb dX7_dies_32 rfl (lv_at hl 1 rfl) ?_
    refine lv_icmp_eq (tgt := 48) hx hb dX7_dies_33 (by decide) (fun c10 => ?_) (fun c10 => ?_)
    · have h := h.1 c10
      exact tX7_dies_48 M hN hR_27 y1 y2 y3 σ _ _ _ hw (lv_sub hl [0, 1, 2, 3] rfl) h
    · have h := h.2 c10
      refine lv_aload_n hx hb dX7_dies_36 rfl (lv_at hl 0 rfl) ?_
      refine lv_iload_n hx hb dX7_dies_37 rfl (lv_at hl 3 rfl) ?_
      refine q_goI hw (q_runV (rest := []) M hw (ctX7_lives l hB hN y3 σ _ h) mbX7_lives (ob_92 hN) rfl tw_792 rfl hl.1 rfl (Nat.le_of_ble_eq_true rfl) ⟨Nat.le_of_ble_eq_true rfl, Nat.le_of_ble_eq_true rfl⟩ ⟨Nat.le_refl _, Nat.le_refl _⟩ dX7_dies_38) (fun r12 σ11 H locs h hw => ?_)
      refine lv_if_eq (tgt := 48) hx hb dX7_dies_41 (by decide) (fun c13 => ?_) (fun c13 => ?_)
      · have h := h.1 c13
        exact tX7_dies_48 M hN hR_27 y1 y2 y3 σ11 _ _ _ hw (lv_sub hl [0, 1, 2, 3] rfl) h
      · have h := h.2 c13
        refine lv_iload_n hx hb dX7_dies_44 rfl (lv_at hl 3 rfl) ?_
        refine lv_goto (tgt := 49) hx hb dX7_dies_45 (by decide) ?_
        exact tX7_dies_49 M hN hR_27 y1 y3 y3 σ11 _ _ _ hw (lv_sub hl [0, 1, 3] rfl) h
def lX7_dies_27 (Q : Int32 → St → Prop) : (Int32 × Int32 × Int32 × St → Prop) → Int32 × Int32 × Int32 × St → Prop := fun R a => bX7_dies_27 R a.1 a.2.1 a.2.2.1 a.2.2.2 Q
theorem tlX7_dies_27 {Q : Int32 → St → Prop} (M : MC p s m args meth c cX7_dies 6 (some .int) RX7 Y) (hN : yN Y = 108) (n : Nat) : ∀ (y1 : Int32) (y2 : Int32) (y3 : Int32) (σ : St) (H : Heap) (locs : List Loc) (ls : Array Slot) (hw : WS Y (AD Y) s.heap σ H locs) (hl : lv_has ls 6 [(0, .ref (yA Y 92)), (1, .int y1), (2, .int y2), (3, .int y3)]) (h : Lp (lX7_dies_27 Q) n (y1, y2, y3, σ)), W p l e { frames := 2, cells := 0, slots := 0, locals := 43 } s m args below meth c H locs 0 0 (MQ below (QI Y Q) args s 0 0 (AD Y)) (F0 m 27 ls []) := by
  induction n with
  | zero => intro y1 y2 y3 σ H locs ls hw hl h; exact h.elim
  | succ n ih =>
    intro y1 y2 y3 σ H locs ls hw hl h
    exact tX7_dies_27 M hN ih y1 y2 y3 σ H locs ls hw hl h
def wX7_dies (a0 : Int32) (σ : St) (Q : Int32 → St → Prop) : Prop :=
  (∀ σ1 : St, σ1 = up σ 92 0 0 → wX7_isFarmer a0 σ1 (fun r3 σ2 => ((r3 = 0 → Q (-1) σ2) ∧ (¬ r3 = 0 → (∀ x5 : Int32, x5 = ((σ2.1 94 0) - 1) → ∃ n : Nat, Lp (lX7_dies_27 Q) n (a0, (-9), x5, σ2))))))
set_option maxHeartbeats 4000000 in
set_option maxRecDepth 100000 in
theorem tX7_dies_E {Q : Int32 → St → Prop} (M : MC p s m args meth c cX7_dies 6 (some .int) RX7 Y) (hN : yN Y = 108) (a0 : Int32) (σ : St) (H : Heap) (locs : List Loc) (ls : Array Slot) (hw : WS Y (AD Y) s.heap σ H locs) (hl : lv_has ls 6 [(0, .ref (yA Y 92)), (1, .int a0)]) (h : wX7_dies a0 σ Q) : W p l e { frames := 2, cells := 0, slots := 0, locals := 43 } s m args below meth c H locs 0 0 (MQ below (QI Y Q) args s 0 0 (AD Y)) (F0 m 0 ls []) := by
  obtain ⟨hx, hb, hr, hml, hown, hlk, hT, hK, hB⟩ := id M
  unfold wX7_dies at h
  refine lv_aload_n hx hb dX7_dies_0 rfl (lv_at hl 0 rfl) ?_
  refine lv_iconst (v := 0) hx hb dX7_dies_1 (by decide) ?_
  refine q_put (v := 0) M hw (ob_92 hN) rfl inq_7 tyX7 tyX7_ok nmX7 0 (by decide) tw_635 rfl rfl rfl (Nat.le_of_ble_eq_true rfl) (by simp [up, upd, f0]) dX7_dies_2 (fun σ1 H locs es hw => ?_)
  have h := h σ1 es
  refine lv_aload_n hx hb dX7_dies_5 rfl (lv_at hl 0 rfl) ?_
  refine lv_iload_n hx hb dX7_dies_6 rfl (lv_at hl 1 rfl) ?_
  refine q_goI hw (q_runV (rest := []) M hw (ctX7_isFarmer l hB hN a0 σ1 _ h) mbX7_isFarmer (ob_92 hN) rfl tw_764 rfl hl.1 rfl (Nat.le_of_ble_eq_true rfl) ⟨Nat.le_of_ble_eq_true rfl, Nat.le_of_ble_eq_true rfl⟩ ⟨Nat.le_refl _, Nat.le_refl _⟩ dX7_dies_7) (fun r3 σ2 H locs h hw => ?_)
  refine lv_if_ne (tgt := 15) hx hb dX7_dies_10 (by decide) (fun c4 => ?_) (fun c4 => ?_)
  · have h := h.2 c4
    refine lv_bipush (v := (-9)) hx hb dX7_dies_15 (by decide) ?_
    refine lv_istore_n (lv' := [(2, .int (-9)), (0, .ref (yA Y 92)), (1, .int a0)]) hx hb dX7_dies_17 rfl hl (by decide) rfl (fun ls hl => ?_)
    refine lv_aload_n hx hb dX7_dies_18 rfl (lv_at hl 1 rfl) ?_
    refine q_get (v := .ref (yA Y 94)) M hw (ob_92 hN) rfl inq_7 9 (by decide) tw_644 rfl dX7_dies_19 ?_
    refine lv_iconst (v := 0) hx hb dX7_dies_22 (by decide) ?_
    refine q_ild' 0 M hw (ar_94 hN) (by unfold vp_in; decide) (by decide) dX7_dies_23 ?_
    refine lv_iconst (v := 1) hx hb dX7_dies_24 (by decide) ?_
    refine lv_isub hx hb dX7_dies_25 ?_
    refine lv_topi (fun x5 ex5 => ?_)
    have h := h x5 ex5
    refine lv_istore_n (lv' := [(3, .int x5), (2, .int (-9)), (0, .ref (yA Y 92)), (1, .int a0)]) hx hb dX7_dies_26 rfl hl (by decide) rfl (fun ls hl => ?_)
    obtain ⟨n, h⟩ := h
    exact tlX7_dies_27 M hN n a0 (-9) x5 σ2 _ _ _ hw (lv_sub hl [2, 3, 1, 0] rfl) h
  · have h := h.1 c4
    refine lv_iconst (v := (-1)) hx hb dX7_dies_13 (by decide) ?_
    exact q_iret M hw h dX7_dies_14
set_option maxRecDepth 100000 in
theorem ctX7_dies (l : Launch) {Y : LY} (hB : YB Y) (hN : yN Y = 108) (a0 : Int32) (σ : St) (Q : Int32 → St → Prop) (h : wX7_dies a0 σ Q) : CT l yX7_dies (Cond.code yX7_dies cX7_dies 6 (some .int)) { frames := 2, cells := 0, slots := 0, locals := 43 } Y [.ref (yA Y 92), .int a0] σ (QI Y Q) :=
  q_ent hB (by decide +kernel) (Nat.le_of_ble_eq_true rfl) (fun p e s m below meth c ls M hw hl => tX7_dies_E M hN a0 σ _ _ ls hw hl h)
theorem mbX7_dies : MB RX7 yX7_dies cX7_dies 1 6 (some .int) := ⟨tw_813, tw_814, tw_56, tw_815, by decide +kernel⟩
end
section
variable {p : Program} {l : Launch} {e : Env} {s : State} {m : MethodId} {args : Array Value} {below : List Frame} {meth : Method} {c : Code} {Y : LY}
theorem dX7_undo_0 : decode cX7_undo 0 = .ok (.aload_n 0, 1) := by decide +kernel
theorem dX7_undo_1 : decode cX7_undo 1 = .ok (.iconst 0, 1) := by decide +kernel
theorem dX7_undo_2 : decode cX7_undo 2 = .ok (.putfield 62, 3) := by decide +kernel
theorem dX7_undo_5 : decode cX7_undo 5 = .ok (.aload_n 0, 1) := by decide +kernel
theorem dX7_undo_6 : decode cX7_undo 6 = .ok (.getfield 124, 3) := by decide +kernel
theorem dX7_undo_9 : decode cX7_undo 9 = .ok (.ifCond .ne 6, 3) := by decide +kernel
theorem dX7_undo_12 : decode cX7_undo 12 = .ok (.bipush (-2), 2) := by decide +kernel
theorem dX7_undo_14 : decode cX7_undo 14 = .ok (.ireturn, 1) := by decide +kernel
theorem dX7_undo_15 : decode cX7_undo 15 = .ok (.aload_n 0, 1) := by decide +kernel
theorem dX7_undo_16 : decode cX7_undo 16 = .ok (.dup, 1) := by decide +kernel
theorem dX7_undo_17 : decode cX7_undo 17 = .ok (.getfield 124, 3) := by decide +kernel
theorem dX7_undo_20 : decode cX7_undo 20 = .ok (.iconst 1, 1) := by decide +kernel
theorem dX7_undo_21 : decode cX7_undo 21 = .ok (.isub, 1) := by decide +kernel
theorem dX7_undo_22 : decode cX7_undo 22 = .ok (.putfield 124, 3) := by decide +kernel
theorem dX7_undo_25 : decode cX7_undo 25 = .ok (.iconst 0, 1) := by decide +kernel
theorem dX7_undo_26 : decode cX7_undo 26 = .ok (.istore_n 1, 1) := by decide +kernel
theorem dX7_undo_27 : decode cX7_undo 27 = .ok (.iload_n 1, 1) := by decide +kernel
theorem dX7_undo_28 : decode cX7_undo 28 = .ok (.bipush 27, 2) := by decide +kernel
theorem dX7_undo_30 : decode cX7_undo 30 = .ok (.if_icmp .ge 29, 3) := by decide +kernel
theorem dX7_undo_33 : decode cX7_undo 33 = .ok (.aload_n 0, 1) := by decide +kernel
theorem dX7_undo_34 : decode cX7_undo 34 = .ok (.getfield 32, 3) := by decide +kernel
theorem dX7_undo_37 : decode cX7_undo 37 = .ok (.iload_n 1, 1) := by decide +kernel
theorem dX7_undo_38 : decode cX7_undo 38 = .ok (.aload_n 0, 1) := by decide +kernel
theorem dX7_undo_39 : decode cX7_undo 39 = .ok (.getfield 41, 3) := by decide +kernel
theorem dX7_undo_42 : decode cX7_undo 42 = .ok (.bipush 27, 2) := by decide +kernel
theorem dX7_undo_44 : decode cX7_undo 44 = .ok (.aload_n 0, 1) := by decide +kernel
theorem dX7_undo_45 : decode cX7_undo 45 = .ok (.getfield 124, 3) := by decide +kernel
theorem dX7_undo_48 : decode cX7_undo 48 = .ok (.imul, 1) := by decide +kernel
theorem dX7_undo_49 : decode cX7_undo 49 = .ok (.iload_n 1, 1) := by decide +kernel
theorem dX7_undo_50 : decode cX7_undo 50 = .ok (.iadd, 1) := by decide +kernel
theorem dX7_undo_51 : decode cX7_undo 51 = .ok (.iaload, 1) := by decide +kernel
theorem dX7_undo_52 : decode cX7_undo 52 = .ok (.iastore, 1) := by decide +kernel
theorem dX7_undo_53 : decode cX7_undo 53 = .ok (.iinc 1 1, 3) := by decide +kernel
theorem dX7_undo_56 : decode cX7_undo 56 = .ok (.goto (-29), 3) := by decide +kernel
theorem dX7_undo_59 : decode cX7_undo 59 = .ok (.aload_n 0, 1) := by decide +kernel
theorem dX7_undo_60 : decode cX7_undo 60 = .ok (.getfield 124, 3) := by decide +kernel
theorem dX7_undo_63 : decode cX7_undo 63 = .ok (.ireturn, 1) := by decide +kernel
def bX7_undo_27 (R_27 : Int32 × St → Prop) (y1 : Int32) (σ : St) (Q : Int32 → St → Prop) : Prop :=
  ((27 ≤ y1 → Q (σ.1 92 20) σ) ∧ (¬ 27 ≤ y1 → (vp_in ((27 * (σ.1 92 20)) + y1) 270 ∧ (vp_in y1 27 ∧ ∀ σ4 : St, σ4 = up σ 100 y1.toNatClampNeg (σ.1 103 ((27 * (σ.1 92 20)) + y1).toNatClampNeg) → (∀ x5 : Int32, x5 = y1 + 1 → R_27 (x5, σ4))))))
set_option maxHeartbeats 4000000 in
set_option maxRecDepth 100000 in
theorem tX7_undo_27 {R_27 : Int32 × St → Prop} {Q : Int32 → St → Prop} (M : MC p s m args meth c cX7_undo 2 (some .int) RX7 Y) (hN : yN Y = 108) (hR_27 : ∀ (y1 : Int32) (σ : St) (H : Heap) (locs : List Loc) (ls : Array Slot), WS Y (AD Y) s.heap σ H locs → lv_has ls 2 [(0, .ref (yA Y 92)), (1, .int y1)] → R_27 (y1, σ) → W p l e { frames := 0, cells := 0, slots := 0, locals := 0 } s m args below meth c H locs 0 0 (MQ below (QI Y Q) args s 0 0 (AD Y)) (F0 m 27 ls [])) (y1 : Int32) (σ : St) (H : Heap) (locs : List Loc) (ls : Array Slot) (hw : WS Y (AD Y) s.heap σ H locs) (hl : lv_has ls 2 [(0, .ref (yA Y 92)), (1, .int y1)]) (h : bX7_undo_27 R_27 y1 σ Q) : W p l e { frames := 0, cells := 0, slots := 0, locals := 0 } s m args below meth c H locs 0 0 (MQ below (QI Y Q) args s 0 0 (AD Y)) (F0 m 27 ls []) := by
  obtain ⟨hx, hb, hr, hml, hown, hlk, hT, hK, hB⟩ := id M
  unfold bX7_undo_27 at h
  refine lv_iload_n hx hb dX7_undo_27 rfl (lv_at hl 1 rfl) ?_
  refine lv_bipush (v := 27) hx hb dX7_undo_28 (by decide) ?_
  refine lv_icmp_ge (tgt := 59) hx hb dX7_undo_30 (by decide) (fun c1 => ?_) (fun c1 => ?_)
  · have h := h.1 c1
    refine lv_aload_n hx hb dX7_undo_59 rfl (lv_at hl 0 rfl) ?_
    refine q_get (v := .int (σ.1 92 20)) M hw (ob_92 hN) rfl inq_7 20 (by decide) tw_655 rfl dX7_undo_60 ?_
    exact q_iret M hw h dX7_undo_63
  · have h := h.2 c1
    refine lv_aload_n hx hb dX7_undo_33 rfl (lv_at hl 0 rfl) ?_
    refine q_get (v := .ref (yA Y 100)) M hw (ob_92 hN) rfl inq_7 16 (by decide) tw_651 rfl dX7_undo_34 ?_
    refine lv_iload_n hx hb dX7_undo_37 rfl (lv_at hl 1 rfl) ?_
    refine lv_aload_n hx hb dX7_undo_38 rfl (lv_at hl 0 rfl) ?_
    refine q_get (v := .ref (yA Y 103)) M hw (ob_92 hN) rfl inq_7 19 (by decide) tw_654 rfl dX7_undo_39 ?_
    refine lv_bipush (v := 27) hx hb dX7_undo_42 (by decide) ?_
    refine lv_aload_n hx hb dX7_undo_44 rfl (lv_at hl 0 rfl) ?_
    refine q_get (v := .int (σ.1 92 20)) M hw (ob_92 hN) rfl inq_7 20 (by decide) tw_655 rfl dX7_undo_45 ?_
    refine lv_imul hx hb dX7_undo_48 ?_
    refine lv_iload_n hx hb dX7_undo_49 rfl (lv_at hl 1 rfl) ?_
    refine lv_iadd hx hb dX7_undo_50 ?_
    have c2 := h.1
    have h := h.2
    refine q_ild M hw (ar_103 hN) c2 dX7_undo_51 ?_
    have c3 := h.1
    refine q_ist M hw (ar_100 hN) c3 dX7_undo_52 (fun σ4 H locs es hw => ?_)
    have h := h.2 σ4 es
    obtain ⟨x5, ex5⟩ : ∃ y : Int32, y = y1 + 1 := ⟨_, rfl⟩
    have h := h x5 ex5
    refine lv_iinc (v := x5) (lv' := [(1, .int x5), (0, .ref (yA Y 92))]) hx hb dX7_undo_53 hl (k := 1) rfl (by rw [ex5]; rfl) (by decide) rfl (fun ls hl => ?_)
    refine lv_goto (tgt := 27) hx hb dX7_undo_56 (by decide) ?_
    exact hR_27 x5 σ4 _ _ _ hw (lv_sub hl [1, 0] rfl) h
def lX7_undo_27 (Q : Int32 → St → Prop) : (Int32 × St → Prop) → Int32 × St → Prop := fun R a => bX7_undo_27 R a.1 a.2 Q
theorem tlX7_undo_27 {Q : Int32 → St → Prop} (M : MC p s m args meth c cX7_undo 2 (some .int) RX7 Y) (hN : yN Y = 108) (n : Nat) : ∀ (y1 : Int32) (σ : St) (H : Heap) (locs : List Loc) (ls : Array Slot) (hw : WS Y (AD Y) s.heap σ H locs) (hl : lv_has ls 2 [(0, .ref (yA Y 92)), (1, .int y1)]) (h : Lp (lX7_undo_27 Q) n (y1, σ)), W p l e { frames := 0, cells := 0, slots := 0, locals := 0 } s m args below meth c H locs 0 0 (MQ below (QI Y Q) args s 0 0 (AD Y)) (F0 m 27 ls []) := by
  induction n with
  | zero => intro y1 σ H locs ls hw hl h; exact h.elim
  | succ n ih =>
    intro y1 σ H locs ls hw hl h
    exact tX7_undo_27 M hN ih y1 σ H locs ls hw hl h
def wX7_undo (σ : St) (Q : Int32 → St → Prop) : Prop :=
  (∀ σ1 : St, σ1 = up σ 92 0 0 → (((σ1.1 92 20) = 0 → Q (-2) σ1) ∧ (¬ (σ1.1 92 20) = 0 → (∀ σ3 : St, σ3 = up σ1 92 20 ((σ1.1 92 20) - 1) → ∃ n : Nat, Lp (lX7_undo_27 Q) n (0, σ3)))))
set_option maxHeartbeats 4000000 in
set_option maxRecDepth 100000 in
theorem tX7_undo_E {Q : Int32 → St → Prop} (M : MC p s m args meth c cX7_undo 2 (some .int) RX7 Y) (hN : yN Y = 108)  (σ : St) (H : Heap) (locs : List Loc) (ls : Array Slot) (hw : WS Y (AD Y) s.heap σ H locs) (hl : lv_has ls 2 [(0, .ref (yA Y 92))]) (h : wX7_undo σ Q) : W p l e { frames := 0, cells := 0, slots := 0, locals := 0 } s m args below meth c H locs 0 0 (MQ below (QI Y Q) args s 0 0 (AD Y)) (F0 m 0 ls []) := by
  obtain ⟨hx, hb, hr, hml, hown, hlk, hT, hK, hB⟩ := id M
  unfold wX7_undo at h
  refine lv_aload_n hx hb dX7_undo_0 rfl (lv_at hl 0 rfl) ?_
  refine lv_iconst (v := 0) hx hb dX7_undo_1 (by decide) ?_
  refine q_put (v := 0) M hw (ob_92 hN) rfl inq_7 tyX7 tyX7_ok nmX7 0 (by decide) tw_635 rfl rfl rfl (Nat.le_of_ble_eq_true rfl) (by simp [up, upd, f0]) dX7_undo_2 (fun σ1 H locs es hw => ?_)
  have h := h σ1 es
  refine lv_aload_n hx hb dX7_undo_5 rfl (lv_at hl 0 rfl) ?_
  refine q_get (v := .int (σ1.1 92 20)) M hw (ob_92 hN) rfl inq_7 20 (by decide) tw_655 rfl dX7_undo_6 ?_
  refine lv_if_ne (tgt := 15) hx hb dX7_undo_9 (by decide) (fun c2 => ?_) (fun c2 => ?_)
  · have h := h.2 c2
    refine lv_aload_n hx hb dX7_undo_15 rfl (lv_at hl 0 rfl) ?_
    refine lv_dup hx hb dX7_undo_16 rfl ?_
    refine q_get (v := .int (σ1.1 92 20)) M hw (ob_92 hN) rfl inq_7 20 (by decide) tw_655 rfl dX7_undo_17 ?_
    refine lv_iconst (v := 1) hx hb dX7_undo_20 (by decide) ?_
    refine lv_isub hx hb dX7_undo_21 ?_
    refine q_put (v := ((σ1.1 92 20) - 1)) M hw (ob_92 hN) rfl inq_7 tyX7 tyX7_ok nmX7 20 (by decide) tw_655 rfl rfl rfl (Nat.le_of_ble_eq_true rfl) (by simp [up, upd, f0]) dX7_undo_22 (fun σ3 H locs es hw => ?_)
    have h := h σ3 es
    refine lv_iconst (v := 0) hx hb dX7_undo_25 (by decide) ?_
    refine lv_istore_n (lv' := [(1, .int 0), (0, .ref (yA Y 92))]) hx hb dX7_undo_26 rfl hl (by decide) rfl (fun ls hl => ?_)
    obtain ⟨n, h⟩ := h
    exact tlX7_undo_27 M hN n 0 σ3 _ _ _ hw (lv_sub hl [1, 0] rfl) h
  · have h := h.1 c2
    refine lv_bipush (v := (-2)) hx hb dX7_undo_12 (by decide) ?_
    exact q_iret M hw h dX7_undo_14
set_option maxRecDepth 100000 in
theorem ctX7_undo (l : Launch) {Y : LY} (hB : YB Y) (hN : yN Y = 108) (σ : St) (Q : Int32 → St → Prop) (h : wX7_undo σ Q) : CT l yX7_undo (Cond.code yX7_undo cX7_undo 2 (some .int)) { frames := 0, cells := 0, slots := 0, locals := 0 } Y [.ref (yA Y 92)] σ (QI Y Q) :=
  q_ent hB (by decide +kernel) (Nat.le_of_ble_eq_true rfl) (fun p e s m below meth c ls M hw hl => tX7_undo_E M hN σ _ _ ls hw hl h)
theorem mbX7_undo : MB RX7 yX7_undo cX7_undo 0 2 (some .int) := ⟨tw_821, tw_822, tw_56, tw_823, by decide +kernel⟩
end
section
variable {p : Program} {l : Launch} {e : Env} {s : State} {m : MethodId} {args : Array Value} {below : List Frame} {meth : Method} {c : Code} {Y : LY}
theorem dX7_moonOf_0 : decode cX7_moonOf 0 = .ok (.aload_n 0, 1) := by decide +kernel
theorem dX7_moonOf_1 : decode cX7_moonOf 1 = .ok (.getfield 28, 3) := by decide +kernel
theorem dX7_moonOf_4 : decode cX7_moonOf 4 = .ok (.iload_n 1, 1) := by decide +kernel
theorem dX7_moonOf_5 : decode cX7_moonOf 5 = .ok (.baload, 1) := by decide +kernel
theorem dX7_moonOf_6 : decode cX7_moonOf 6 = .ok (.ifCond .eq 7, 3) := by decide +kernel
theorem dX7_moonOf_9 : decode cX7_moonOf 9 = .ok (.iconst 0, 1) := by decide +kernel
theorem dX7_moonOf_10 : decode cX7_moonOf 10 = .ok (.goto 8, 3) := by decide +kernel
theorem dX7_moonOf_13 : decode cX7_moonOf 13 = .ok (.aload_n 0, 1) := by decide +kernel
theorem dX7_moonOf_14 : decode cX7_moonOf 14 = .ok (.iload_n 1, 1) := by decide +kernel
theorem dX7_moonOf_15 : decode cX7_moonOf 15 = .ok (.invokevirtual 133, 3) := by decide +kernel
theorem dX7_moonOf_18 : decode cX7_moonOf 18 = .ok (.ireturn, 1) := by decide +kernel
def wX7_moonOf (a0 : Int32) (σ : St) (Q : Int32 → St → Prop) : Prop :=
  (vp_in a0 200 ∧ (((σ.1 99 a0.toNatClampNeg) = 0 → wX7_moon a0 σ (fun r4 σ3 => Q r4 σ3)) ∧ (¬ (σ.1 99 a0.toNatClampNeg) = 0 → Q 0 σ)))
set_option maxHeartbeats 4000000 in
set_option maxRecDepth 100000 in
theorem tX7_moonOf_E {Q : Int32 → St → Prop} (M : MC p s m args meth c cX7_moonOf 2 (some .int) RX7 Y) (hN : yN Y = 108) (a0 : Int32) (σ : St) (H : Heap) (locs : List Loc) (ls : Array Slot) (hw : WS Y (AD Y) s.heap σ H locs) (hl : lv_has ls 2 [(0, .ref (yA Y 92)), (1, .int a0)]) (h : wX7_moonOf a0 σ Q) : W p l e { frames := 1, cells := 0, slots := 0, locals := 22 } s m args below meth c H locs 0 0 (MQ below (QI Y Q) args s 0 0 (AD Y)) (F0 m 0 ls []) := by
  obtain ⟨hx, hb, hr, hml, hown, hlk, hT, hK, hB⟩ := id M
  unfold wX7_moonOf at h
  refine lv_aload_n hx hb dX7_moonOf_0 rfl (lv_at hl 0 rfl) ?_
  refine q_get (v := .ref (yA Y 99)) M hw (ob_92 hN) rfl inq_7 15 (by decide) tw_650 rfl dX7_moonOf_1 ?_
  refine lv_iload_n hx hb dX7_moonOf_4 rfl (lv_at hl 1 rfl) ?_
  have c1 := h.1
  have h := h.2
  refine q_zld M hw (ar_99 hN) c1 dX7_moonOf_5 ?_
  refine lv_if_eq (tgt := 13) hx hb dX7_moonOf_6 (by decide) (fun c2 => ?_) (fun c2 => ?_)
  · have h := h.1 c2
    refine lv_aload_n hx hb dX7_moonOf_13 rfl (lv_at hl 0 rfl) ?_
    refine lv_iload_n hx hb dX7_moonOf_14 rfl (lv_at hl 1 rfl) ?_
    refine q_goI hw (q_runV (rest := []) M hw (ctX7_moon l hB hN a0 σ _ h) mbX7_moon (ob_92 hN) rfl tw_780 rfl hl.1 rfl (Nat.le_of_ble_eq_true rfl) ⟨Nat.le_of_ble_eq_true rfl, Nat.le_of_ble_eq_true rfl⟩ ⟨Nat.le_refl _, Nat.le_refl _⟩ dX7_moonOf_15) (fun r4 σ3 H locs h hw => ?_)
    exact q_iret M hw h dX7_moonOf_18
  · have h := h.2 c2
    refine lv_iconst (v := 0) hx hb dX7_moonOf_9 (by decide) ?_
    refine lv_goto (tgt := 18) hx hb dX7_moonOf_10 (by decide) ?_
    exact q_iret M hw h dX7_moonOf_18
set_option maxRecDepth 100000 in
theorem ctX7_moonOf (l : Launch) {Y : LY} (hB : YB Y) (hN : yN Y = 108) (a0 : Int32) (σ : St) (Q : Int32 → St → Prop) (h : wX7_moonOf a0 σ Q) : CT l yX7_moonOf (Cond.code yX7_moonOf cX7_moonOf 2 (some .int)) { frames := 1, cells := 0, slots := 0, locals := 22 } Y [.ref (yA Y 92), .int a0] σ (QI Y Q) :=
  q_ent hB (by decide +kernel) (Nat.le_of_ble_eq_true rfl) (fun p e s m below meth c ls M hw hl => tX7_moonOf_E M hN a0 σ _ _ ls hw hl h)
theorem mbX7_moonOf : MB RX7 yX7_moonOf cX7_moonOf 1 2 (some .int) := ⟨tw_835, tw_44, tw_56, tw_836, by decide +kernel⟩
end
section
variable {p : Program} {l : Launch} {e : Env} {s : State} {m : MethodId} {args : Array Value} {below : List Frame} {meth : Method} {c : Code} {Y : LY}
theorem dX7_from_0 : decode cX7_from 0 = .ok (.iload_n 2, 1) := by decide +kernel
theorem dX7_from_1 : decode cX7_from 1 = .ok (.ifCond .ge 8, 3) := by decide +kernel
theorem dX7_from_4 : decode cX7_from 4 = .ok (.ldc 146, 2) := by decide +kernel
theorem dX7_from_6 : decode cX7_from 6 = .ok (.goto 14, 3) := by decide +kernel
theorem dX7_from_9 : decode cX7_from 9 = .ok (.aload_n 0, 1) := by decide +kernel
theorem dX7_from_10 : decode cX7_from 10 = .ok (.getfield 53, 3) := by decide +kernel
theorem dX7_from_13 : decode cX7_from 13 = .ok (.bipush 64, 2) := by decide +kernel
theorem dX7_from_15 : decode cX7_from 15 = .ok (.iload_n 1, 1) := by decide +kernel
theorem dX7_from_16 : decode cX7_from 16 = .ok (.imul, 1) := by decide +kernel
theorem dX7_from_17 : decode cX7_from 17 = .ok (.iload_n 2, 1) := by decide +kernel
theorem dX7_from_18 : decode cX7_from 18 = .ok (.iadd, 1) := by decide +kernel
theorem dX7_from_19 : decode cX7_from 19 = .ok (.iaload, 1) := by decide +kernel
theorem dX7_from_20 : decode cX7_from 20 = .ok (.ireturn, 1) := by decide +kernel
def wX7_from (a0 : Int32) (a1 : Int32) (σ : St) (Q : Int32 → St → Prop) : Prop :=
  ((0 ≤ a1 → (vp_in ((64 * a0) + a1) 3904 ∧ Q (σ.1 107 ((64 * a0) + a1).toNatClampNeg) σ)) ∧ (¬ 0 ≤ a1 → Q 1000000 σ))
set_option maxHeartbeats 4000000 in
set_option maxRecDepth 100000 in
theorem tX7_from_E {Q : Int32 → St → Prop} (M : MC p s m args meth c cX7_from 3 (some .int) RX7 Y) (hN : yN Y = 108) (a0 : Int32) (a1 : Int32) (σ : St) (H : Heap) (locs : List Loc) (ls : Array Slot) (hw : WS Y (AD Y) s.heap σ H locs) (hl : lv_has ls 3 [(0, .ref (yA Y 92)), (1, .int a0), (2, .int a1)]) (h : wX7_from a0 a1 σ Q) : W p l e { frames := 0, cells := 0, slots := 0, locals := 0 } s m args below meth c H locs 0 0 (MQ below (QI Y Q) args s 0 0 (AD Y)) (F0 m 0 ls []) := by
  obtain ⟨hx, hb, hr, hml, hown, hlk, hT, hK, hB⟩ := id M
  unfold wX7_from at h
  refine lv_iload_n hx hb dX7_from_0 rfl (lv_at hl 2 rfl) ?_
  refine lv_if_ge (tgt := 9) hx hb dX7_from_1 (by decide) (fun c1 => ?_) (fun c1 => ?_)
  · have h := h.1 c1
    refine lv_aload_n hx hb dX7_from_9 rfl (lv_at hl 0 rfl) ?_
    refine q_get (v := .ref (yA Y 107)) M hw (ob_92 hN) rfl inq_7 25 (by decide) tw_660 rfl dX7_from_10 ?_
    refine lv_bipush (v := 64) hx hb dX7_from_13 (by decide) ?_
    refine lv_iload_n hx hb dX7_from_15 rfl (lv_at hl 1 rfl) ?_
    refine lv_imul hx hb dX7_from_16 ?_
    refine lv_iload_n hx hb dX7_from_17 rfl (lv_at hl 2 rfl) ?_
    refine lv_iadd hx hb dX7_from_18 ?_
    have c2 := h.1
    have h := h.2
    refine q_ild M hw (ar_107 hN) c2 dX7_from_19 ?_
    exact q_iret M hw h dX7_from_20
  · have h := h.2 c1
    refine lv_ldc (v := 1000000) hx hb hown (hT _ tw_832) dX7_from_4 ?_
    refine lv_goto (tgt := 20) hx hb dX7_from_6 (by decide) ?_
    exact q_iret M hw h dX7_from_20
set_option maxRecDepth 100000 in
theorem ctX7_from (l : Launch) {Y : LY} (hB : YB Y) (hN : yN Y = 108) (a0 : Int32) (a1 : Int32) (σ : St) (Q : Int32 → St → Prop) (h : wX7_from a0 a1 σ Q) : CT l yX7_from (Cond.code yX7_from cX7_from 3 (some .int)) { frames := 0, cells := 0, slots := 0, locals := 0 } Y [.ref (yA Y 92), .int a0, .int a1] σ (QI Y Q) :=
  q_ent hB (by decide +kernel) (Nat.le_of_ble_eq_true rfl) (fun p e s m below meth c ls M hw hl => tX7_from_E M hN a0 a1 σ _ _ ls hw hl h)
theorem mbX7_from : MB RX7 yX7_from cX7_from 2 3 (some .int) := ⟨tw_839, tw_45, tw_56, tw_840, by decide +kernel⟩
end
section
variable {p : Program} {l : Launch} {e : Env} {s : State} {m : MethodId} {args : Array Value} {below : List Frame} {meth : Method} {c : Code} {Y : LY}
theorem dX7_measures_0 : decode cX7_measures 0 = .ok (.aload_n 0, 1) := by decide +kernel
theorem dX7_measures_1 : decode cX7_measures 1 = .ok (.getfield 13, 3) := by decide +kernel
theorem dX7_measures_4 : decode cX7_measures 4 = .ok (.iconst 3, 1) := by decide +kernel
theorem dX7_measures_5 : decode cX7_measures 5 = .ok (.iaload, 1) := by decide +kernel
theorem dX7_measures_6 : decode cX7_measures 6 = .ok (.istore_n 3, 1) := by decide +kernel
theorem dX7_measures_7 : decode cX7_measures 7 = .ok (.iconst 0, 1) := by decide +kernel
theorem dX7_measures_8 : decode cX7_measures 8 = .ok (.istore 4, 2) := by decide +kernel
theorem dX7_measures_10 : decode cX7_measures 10 = .ok (.iload 4, 2) := by decide +kernel
theorem dX7_measures_12 : decode cX7_measures 12 = .ok (.bipush 64, 2) := by decide +kernel
theorem dX7_measures_14 : decode cX7_measures 14 = .ok (.if_icmp .ge 32, 3) := by decide +kernel
theorem dX7_measures_17 : decode cX7_measures 17 = .ok (.aload_n 0, 1) := by decide +kernel
theorem dX7_measures_18 : decode cX7_measures 18 = .ok (.getfield 53, 3) := by decide +kernel
theorem dX7_measures_21 : decode cX7_measures 21 = .ok (.bipush 64, 2) := by decide +kernel
theorem dX7_measures_23 : decode cX7_measures 23 = .ok (.iload_n 3, 1) := by decide +kernel
theorem dX7_measures_24 : decode cX7_measures 24 = .ok (.imul, 1) := by decide +kernel
theorem dX7_measures_25 : decode cX7_measures 25 = .ok (.iload 4, 2) := by decide +kernel
theorem dX7_measures_27 : decode cX7_measures 27 = .ok (.iadd, 1) := by decide +kernel
theorem dX7_measures_28 : decode cX7_measures 28 = .ok (.iload 4, 2) := by decide +kernel
theorem dX7_measures_30 : decode cX7_measures 30 = .ok (.ifCond .ne 7, 3) := by decide +kernel
theorem dX7_measures_33 : decode cX7_measures 33 = .ok (.iconst 0, 1) := by decide +kernel
theorem dX7_measures_34 : decode cX7_measures 34 = .ok (.goto 5, 3) := by decide +kernel
theorem dX7_measures_37 : decode cX7_measures 37 = .ok (.ldc 146, 2) := by decide +kernel
theorem dX7_measures_39 : decode cX7_measures 39 = .ok (.iastore, 1) := by decide +kernel
theorem dX7_measures_40 : decode cX7_measures 40 = .ok (.iinc 4 1, 3) := by decide +kernel
theorem dX7_measures_43 : decode cX7_measures 43 = .ok (.goto (-33), 3) := by decide +kernel
theorem dX7_measures_46 : decode cX7_measures 46 = .ok (.iload_n 3, 1) := by decide +kernel
theorem dX7_measures_47 : decode cX7_measures 47 = .ok (.iconst 1, 1) := by decide +kernel
theorem dX7_measures_48 : decode cX7_measures 48 = .ok (.isub, 1) := by decide +kernel
theorem dX7_measures_49 : decode cX7_measures 49 = .ok (.istore 4, 2) := by decide +kernel
theorem dX7_measures_51 : decode cX7_measures 51 = .ok (.iload 4, 2) := by decide +kernel
theorem dX7_measures_53 : decode cX7_measures 53 = .ok (.aload_n 0, 1) := by decide +kernel
theorem dX7_measures_54 : decode cX7_measures 54 = .ok (.getfield 32, 3) := by decide +kernel
theorem dX7_measures_57 : decode cX7_measures 57 = .ok (.iconst 0, 1) := by decide +kernel
theorem dX7_measures_58 : decode cX7_measures 58 = .ok (.iaload, 1) := by decide +kernel
theorem dX7_measures_59 : decode cX7_measures 59 = .ok (.if_icmp .lt 103, 3) := by decide +kernel
theorem dX7_measures_62 : decode cX7_measures 62 = .ok (.iconst 0, 1) := by decide +kernel
theorem dX7_measures_63 : decode cX7_measures 63 = .ok (.istore 5, 2) := by decide +kernel
theorem dX7_measures_65 : decode cX7_measures 65 = .ok (.iload 5, 2) := by decide +kernel
theorem dX7_measures_67 : decode cX7_measures 67 = .ok (.bipush 64, 2) := by decide +kernel
theorem dX7_measures_69 : decode cX7_measures 69 = .ok (.if_icmp .ge 87, 3) := by decide +kernel
theorem dX7_measures_72 : decode cX7_measures 72 = .ok (.aload_n 0, 1) := by decide +kernel
theorem dX7_measures_73 : decode cX7_measures 73 = .ok (.iload 4, 2) := by decide +kernel
theorem dX7_measures_75 : decode cX7_measures 75 = .ok (.invokevirtual 147, 3) := by decide +kernel
theorem dX7_measures_78 : decode cX7_measures 78 = .ok (.ifCond .ne 8, 3) := by decide +kernel
theorem dX7_measures_81 : decode cX7_measures 81 = .ok (.ldc 146, 2) := by decide +kernel
theorem dX7_measures_83 : decode cX7_measures 83 = .ok (.goto 22, 3) := by decide +kernel
theorem dX7_measures_86 : decode cX7_measures 86 = .ok (.iconst 1, 1) := by decide +kernel
theorem dX7_measures_87 : decode cX7_measures 87 = .ok (.aload_n 0, 1) := by decide +kernel
theorem dX7_measures_88 : decode cX7_measures 88 = .ok (.iload 4, 2) := by decide +kernel
theorem dX7_measures_90 : decode cX7_measures 90 = .ok (.iconst 1, 1) := by decide +kernel
theorem dX7_measures_91 : decode cX7_measures 91 = .ok (.iadd, 1) := by decide +kernel
theorem dX7_measures_92 : decode cX7_measures 92 = .ok (.iload 5, 2) := by decide +kernel
theorem dX7_measures_94 : decode cX7_measures 94 = .ok (.aload_n 0, 1) := by decide +kernel
theorem dX7_measures_95 : decode cX7_measures 95 = .ok (.iload 4, 2) := by decide +kernel
theorem dX7_measures_97 : decode cX7_measures 97 = .ok (.invokevirtual 147, 3) := by decide +kernel
theorem dX7_measures_100 : decode cX7_measures 100 = .ok (.isub, 1) := by decide +kernel
theorem dX7_measures_101 : decode cX7_measures 101 = .ok (.invokevirtual 150, 3) := by decide +kernel
theorem dX7_measures_104 : decode cX7_measures 104 = .ok (.iadd, 1) := by decide +kernel
theorem dX7_measures_105 : decode cX7_measures 105 = .ok (.istore 6, 2) := by decide +kernel
theorem dX7_measures_107 : decode cX7_measures 107 = .ok (.aload_n 0, 1) := by decide +kernel
theorem dX7_measures_108 : decode cX7_measures 108 = .ok (.getfield 53, 3) := by decide +kernel
theorem dX7_measures_111 : decode cX7_measures 111 = .ok (.bipush 64, 2) := by decide +kernel
theorem dX7_measures_113 : decode cX7_measures 113 = .ok (.iload 4, 2) := by decide +kernel
theorem dX7_measures_115 : decode cX7_measures 115 = .ok (.imul, 1) := by decide +kernel
theorem dX7_measures_116 : decode cX7_measures 116 = .ok (.iload 5, 2) := by decide +kernel
theorem dX7_measures_118 : decode cX7_measures 118 = .ok (.iadd, 1) := by decide +kernel
theorem dX7_measures_119 : decode cX7_measures 119 = .ok (.iload 6, 2) := by decide +kernel
theorem dX7_measures_121 : decode cX7_measures 121 = .ok (.aload_n 0, 1) := by decide +kernel
theorem dX7_measures_122 : decode cX7_measures 122 = .ok (.iload 4, 2) := by decide +kernel
theorem dX7_measures_124 : decode cX7_measures 124 = .ok (.iconst 1, 1) := by decide +kernel
theorem dX7_measures_125 : decode cX7_measures 125 = .ok (.iadd, 1) := by decide +kernel
theorem dX7_measures_126 : decode cX7_measures 126 = .ok (.iload 5, 2) := by decide +kernel
theorem dX7_measures_128 : decode cX7_measures 128 = .ok (.invokevirtual 150, 3) := by decide +kernel
theorem dX7_measures_131 : decode cX7_measures 131 = .ok (.if_icmp .ge 8, 3) := by decide +kernel
theorem dX7_measures_134 : decode cX7_measures 134 = .ok (.iload 6, 2) := by decide +kernel
theorem dX7_measures_136 : decode cX7_measures 136 = .ok (.goto 13, 3) := by decide +kernel
theorem dX7_measures_139 : decode cX7_measures 139 = .ok (.aload_n 0, 1) := by decide +kernel
theorem dX7_measures_140 : decode cX7_measures 140 = .ok (.iload 4, 2) := by decide +kernel
theorem dX7_measures_142 : decode cX7_measures 142 = .ok (.iconst 1, 1) := by decide +kernel
theorem dX7_measures_143 : decode cX7_measures 143 = .ok (.iadd, 1) := by decide +kernel
theorem dX7_measures_144 : decode cX7_measures 144 = .ok (.iload 5, 2) := by decide +kernel
theorem dX7_measures_146 : decode cX7_measures 146 = .ok (.invokevirtual 150, 3) := by decide +kernel
theorem dX7_measures_149 : decode cX7_measures 149 = .ok (.iastore, 1) := by decide +kernel
theorem dX7_measures_150 : decode cX7_measures 150 = .ok (.iinc 5 1, 3) := by decide +kernel
theorem dX7_measures_153 : decode cX7_measures 153 = .ok (.goto (-88), 3) := by decide +kernel
theorem dX7_measures_156 : decode cX7_measures 156 = .ok (.iinc 4 (-1), 3) := by decide +kernel
theorem dX7_measures_159 : decode cX7_measures 159 = .ok (.goto (-108), 3) := by decide +kernel
theorem dX7_measures_162 : decode cX7_measures 162 = .ok (.aload_n 0, 1) := by decide +kernel
theorem dX7_measures_163 : decode cX7_measures 163 = .ok (.getfield 32, 3) := by decide +kernel
theorem dX7_measures_166 : decode cX7_measures 166 = .ok (.iconst 0, 1) := by decide +kernel
theorem dX7_measures_167 : decode cX7_measures 167 = .ok (.iaload, 1) := by decide +kernel
theorem dX7_measures_168 : decode cX7_measures 168 = .ok (.iload_n 3, 1) := by decide +kernel
theorem dX7_measures_169 : decode cX7_measures 169 = .ok (.if_icmp .le 22, 3) := by decide +kernel
theorem dX7_measures_172 : decode cX7_measures 172 = .ok (.aload_n 0, 1) := by decide +kernel
theorem dX7_measures_173 : decode cX7_measures 173 = .ok (.getfield 32, 3) := by decide +kernel
theorem dX7_measures_176 : decode cX7_measures 176 = .ok (.bipush 6, 2) := by decide +kernel
theorem dX7_measures_178 : decode cX7_measures 178 = .ok (.iload_n 2, 1) := by decide +kernel
theorem dX7_measures_179 : decode cX7_measures 179 = .ok (.iadd, 1) := by decide +kernel
theorem dX7_measures_180 : decode cX7_measures 180 = .ok (.iaload, 1) := by decide +kernel
theorem dX7_measures_181 : decode cX7_measures 181 = .ok (.ifCond .ne 7, 3) := by decide +kernel
theorem dX7_measures_184 : decode cX7_measures 184 = .ok (.iconst 0, 1) := by decide +kernel
theorem dX7_measures_185 : decode cX7_measures 185 = .ok (.goto 5, 3) := by decide +kernel
theorem dX7_measures_188 : decode cX7_measures 188 = .ok (.ldc 146, 2) := by decide +kernel
theorem dX7_measures_190 : decode cX7_measures 190 = .ok (.ireturn, 1) := by decide +kernel
theorem dX7_measures_191 : decode cX7_measures 191 = .ok (.aload_n 0, 1) := by decide +kernel
theorem dX7_measures_192 : decode cX7_measures 192 = .ok (.getfield 32, 3) := by decide +kernel
theorem dX7_measures_195 : decode cX7_measures 195 = .ok (.bipush 6, 2) := by decide +kernel
theorem dX7_measures_197 : decode cX7_measures 197 = .ok (.iload_n 2, 1) := by decide +kernel
theorem dX7_measures_198 : decode cX7_measures 198 = .ok (.iadd, 1) := by decide +kernel
theorem dX7_measures_199 : decode cX7_measures 199 = .ok (.iaload, 1) := by decide +kernel
theorem dX7_measures_200 : decode cX7_measures 200 = .ok (.aload_n 0, 1) := by decide +kernel
theorem dX7_measures_201 : decode cX7_measures 201 = .ok (.getfield 19, 3) := by decide +kernel
theorem dX7_measures_204 : decode cX7_measures 204 = .ok (.iload_n 1, 1) := by decide +kernel
theorem dX7_measures_205 : decode cX7_measures 205 = .ok (.iaload, 1) := by decide +kernel
theorem dX7_measures_206 : decode cX7_measures 206 = .ok (.iadd, 1) := by decide +kernel
theorem dX7_measures_207 : decode cX7_measures 207 = .ok (.iconst 1, 1) := by decide +kernel
theorem dX7_measures_208 : decode cX7_measures 208 = .ok (.isub, 1) := by decide +kernel
theorem dX7_measures_209 : decode cX7_measures 209 = .ok (.aload_n 0, 1) := by decide +kernel
theorem dX7_measures_210 : decode cX7_measures 210 = .ok (.getfield 19, 3) := by decide +kernel
theorem dX7_measures_213 : decode cX7_measures 213 = .ok (.iload_n 1, 1) := by decide +kernel
theorem dX7_measures_214 : decode cX7_measures 214 = .ok (.iaload, 1) := by decide +kernel
theorem dX7_measures_215 : decode cX7_measures 215 = .ok (.idiv, 1) := by decide +kernel
theorem dX7_measures_216 : decode cX7_measures 216 = .ok (.istore 4, 2) := by decide +kernel
theorem dX7_measures_218 : decode cX7_measures 218 = .ok (.iload 4, 2) := by decide +kernel
theorem dX7_measures_220 : decode cX7_measures 220 = .ok (.bipush 64, 2) := by decide +kernel
theorem dX7_measures_222 : decode cX7_measures 222 = .ok (.if_icmp .ge 29, 3) := by decide +kernel
theorem dX7_measures_225 : decode cX7_measures 225 = .ok (.aload_n 0, 1) := by decide +kernel
theorem dX7_measures_226 : decode cX7_measures 226 = .ok (.aload_n 0, 1) := by decide +kernel
theorem dX7_measures_227 : decode cX7_measures 227 = .ok (.getfield 32, 3) := by decide +kernel
theorem dX7_measures_230 : decode cX7_measures 230 = .ok (.iconst 0, 1) := by decide +kernel
theorem dX7_measures_231 : decode cX7_measures 231 = .ok (.iaload, 1) := by decide +kernel
theorem dX7_measures_232 : decode cX7_measures 232 = .ok (.iload 4, 2) := by decide +kernel
theorem dX7_measures_234 : decode cX7_measures 234 = .ok (.invokevirtual 150, 3) := by decide +kernel
theorem dX7_measures_237 : decode cX7_measures 237 = .ok (.ldc 146, 2) := by decide +kernel
theorem dX7_measures_239 : decode cX7_measures 239 = .ok (.if_icmp .ge 6, 3) := by decide +kernel
theorem dX7_measures_242 : decode cX7_measures 242 = .ok (.iload 4, 2) := by decide +kernel
theorem dX7_measures_244 : decode cX7_measures 244 = .ok (.ireturn, 1) := by decide +kernel
theorem dX7_measures_245 : decode cX7_measures 245 = .ok (.iinc 4 1, 3) := by decide +kernel
theorem dX7_measures_248 : decode cX7_measures 248 = .ok (.goto (-30), 3) := by decide +kernel
theorem dX7_measures_251 : decode cX7_measures 251 = .ok (.ldc 146, 2) := by decide +kernel
theorem dX7_measures_253 : decode cX7_measures 253 = .ok (.ireturn, 1) := by decide +kernel
def bX7_measures_39 (R_10 : Int32 × Int32 × Int32 × Int32 × St → Prop) (y1 : Int32) (y2 : Int32) (y3 : Int32) (y4 : Int32) (z0 : Int32) (z1 : Int32) (σ : St) (Q : Int32 → St → Prop) : Prop :=
  (vp_in z1 3904 ∧ ∀ σ2 : St, σ2 = up σ 107 z1.toNatClampNeg z0 → (∀ x3 : Int32, x3 = y4 + 1 → R_10 (y1, y2, y3, x3, σ2)))
set_option maxHeartbeats 4000000 in
set_option maxRecDepth 100000 in
theorem tX7_measures_39 {R_10 : Int32 × Int32 × Int32 × Int32 × St → Prop} {Q : Int32 → St → Prop} (M : MC p s m args meth c cX7_measures 7 (some .int) RX7 Y) (hN : yN Y = 108) (hR_10 : ∀ (y1 y2 y3 y4 : Int32) (σ : St) (H : Heap) (locs : List Loc) (ls : Array Slot), WS Y (AD Y) s.heap σ H locs → lv_has ls 7 [(0, .ref (yA Y 92)), (1, .int y1), (2, .int y2), (3, .int y3), (4, .int y4)] → R_10 (y1, y2, y3, y4, σ) → W p l e { frames := 2, cells := 0, slots := 0, locals := 43 } s m args below meth c H locs 0 0 (MQ below (QI Y Q) args s 0 0 (AD Y)) (F0 m 10 ls [])) (y1 : Int32) (y2 : Int32) (y3 : Int32) (y4 : Int32) (z0 : Int32) (z1 : Int32) (σ : St) (H : Heap) (locs : List Loc) (ls : Array Slot) (hw : WS Y (AD Y) s.heap σ H locs) (hl : lv_has ls 7 [(0, .ref (yA Y 92)), (1, .int y1), (2, .int y2), (3, .int y3), (4, .int y4)]) (h : bX7_measures_39 R_10 y1 y2 y3 y4 z0 z1 σ Q) : W p l e { frames := 2, cells := 0, slots := 0, locals := 43 } s m args below meth c H locs 0 0 (MQ below (QI Y Q) args s 0 0 (AD Y)) (F0 m 39 ls [.int z0, .int z1, .ref (yA Y 107)]) := by
  obtain ⟨hx, hb, hr, hml, hown, hlk, hT, hK, hB⟩ := id M
  unfold bX7_measures_39 at h
  have c1 := h.1
  refine q_ist M hw (ar_107 hN) c1 dX7_measures_39 (fun σ2 H locs es hw => ?_)
  have h := h.2 σ2 es
  obtain ⟨x3, ex3⟩ : ∃ y : Int32, y = y4 + 1 := ⟨_, rfl⟩
  have h := h x3 ex3
  refine lv_iinc (v := x3) (lv' := [(4, .int x3), (0, .ref (yA Y 92)), (1, .int y1), (2, .int y2), (3, .int y3)]) hx hb dX7_measures_40 hl (k := 4) rfl (by rw [ex3]; rfl) (by decide) rfl (fun ls hl => ?_)
  refine lv_goto (tgt := 10) hx hb dX7_measures_43 (by decide) ?_
  exact hR_10 y1 y2 y3 x3 σ2 _ _ _ hw (lv_sub hl [1, 2, 3, 4, 0] rfl) h
def bX7_measures_149 (R_51 : Int32 × Int32 × Int32 × Int32 × St → Prop) (R_65 : Int32 × Int32 × Int32 × Int32 × Int32 × St → Prop) (y1 : Int32) (y2 : Int32) (y3 : Int32) (y4 : Int32) (y5 : Int32) (z0 : Int32) (z1 : Int32) (σ : St) (Q : Int32 → St → Prop) : Prop :=
  (vp_in z1 3904 ∧ ∀ σ2 : St, σ2 = up σ 107 z1.toNatClampNeg z0 → (∀ x3 : Int32, x3 = y5 + 1 → R_65 (y1, y2, y3, y4, x3, σ2)))
set_option maxHeartbeats 4000000 in
set_option maxRecDepth 100000 in
theorem tX7_measures_149 {R_51 : Int32 × Int32 × Int32 × Int32 × St → Prop} {R_65 : Int32 × Int32 × Int32 × Int32 × Int32 × St → Prop} {Q : Int32 → St → Prop} (M : MC p s m args meth c cX7_measures 7 (some .int) RX7 Y) (hN : yN Y = 108) (hR_51 : ∀ (y1 y2 y3 y4 : Int32) (σ : St) (H : Heap) (locs : List Loc) (ls : Array Slot), WS Y (AD Y) s.heap σ H locs → lv_has ls 7 [(0, .ref (yA Y 92)), (1, .int y1), (2, .int y2), (3, .int y3), (4, .int y4)] → R_51 (y1, y2, y3, y4, σ) → W p l e { frames := 2, cells := 0, slots := 0, locals := 43 } s m args below meth c H locs 0 0 (MQ below (QI Y Q) args s 0 0 (AD Y)) (F0 m 51 ls [])) (hR_65 : ∀ (y1 y2 y3 y4 y5 : Int32) (σ : St) (H : Heap) (locs : List Loc) (ls : Array Slot), WS Y (AD Y) s.heap σ H locs → lv_has ls 7 [(0, .ref (yA Y 92)), (1, .int y1), (2, .int y2), (3, .int y3), (4, .int y4), (5, .int y5)] → R_65 (y1, y2, y3, y4, y5, σ) → W p l e { frames := 2, cells := 0, slots := 0, locals := 43 } s m args below meth c H locs 0 0 (MQ below (QI Y Q) args s 0 0 (AD Y)) (F0 m 65 ls [])) (y1 : Int32) (y2 : Int32) (y3 : Int32) (y4 : Int32) (y5 : Int32) (z0 : Int32) (z1 : Int32) (σ : St) (H : Heap) (locs : List Loc) (ls : Array Slot) (hw : WS Y (AD Y) s.heap σ H locs) (hl : lv_has ls 7 [(0, .ref (yA Y 92)), (1, .int y1), (2, .int y2), (3, .int y3), (4, .int y4), (5, .int y5)]) (h : bX7_measures_149 R_51 R_65 y1 y2 y3 y4 y5 z0 z1 σ Q) : W p l e { frames := 2, cells := 0, slots := 0, locals := 43 } s m args below meth c H locs 0 0 (MQ below (QI Y Q) args s 0 0 (AD Y)) (F0 m 149 ls [.int z0, .int z1, .ref (yA Y 107)]) := by
  obtain ⟨hx, hb, hr, hml, hown, hlk, hT, hK, hB⟩ := id M
  unfold bX7_measures_149 at h
  have c1 := h.1
  refine q_ist M hw (ar_107 hN) c1 dX7_measures_149 (fun σ2 H locs es hw => ?_)
  have h := h.2 σ2 es
  obtain ⟨x3, ex3⟩ : ∃ y : Int32, y = y5 + 1 := ⟨_, rfl⟩
  have h := h x3 ex3
  refine lv_iinc (v := x3) (lv' := [(5, .int x3), (0, .ref (yA Y 92)), (1, .int y1), (2, .int y2), (3, .int y3), (4, .int y4)]) hx hb dX7_measures_150 hl (k := 5) rfl (by rw [ex3]; rfl) (by decide) rfl (fun ls hl => ?_)
  refine lv_goto (tgt := 65) hx hb dX7_measures_153 (by decide) ?_
  exact hR_65 y1 y2 y3 y4 x3 σ2 _ _ _ hw (lv_sub hl [1, 2, 3, 4, 5, 0] rfl) h
def bX7_measures_105 (R_51 : Int32 × Int32 × Int32 × Int32 × St → Prop) (R_65 : Int32 × Int32 × Int32 × Int32 × Int32 × St → Prop) (y1 : Int32) (y2 : Int32) (y3 : Int32) (y4 : Int32) (y5 : Int32) (z0 : Int32) (σ : St) (Q : Int32 → St → Prop) : Prop :=
  wX7_from (y4 + 1) y5 σ (fun r2 σ1 => ((r2 ≤ z0 → wX7_from (y4 + 1) y5 σ1 (fun r5 σ4 => bX7_measures_149 R_51 R_65 y1 y2 y3 y4 y5 r5 ((64 * y4) + y5) σ4 Q)) ∧ (¬ r2 ≤ z0 → bX7_measures_149 R_51 R_65 y1 y2 y3 y4 y5 z0 ((64 * y4) + y5) σ1 Q)))
set_option maxHeartbeats 4000000 in
set_option maxRecDepth 100000 in
theorem tX7_measures_105 {R_51 : Int32 × Int32 × Int32 × Int32 × St → Prop} {R_65 : Int32 × Int32 × Int32 × Int32 × Int32 × St → Prop} {Q : Int32 → St → Prop} (M : MC p s m args meth c cX7_measures 7 (some .int) RX7 Y) (hN : yN Y = 108) (hR_51 : ∀ (y1 y2 y3 y4 : Int32) (σ : St) (H : Heap) (locs : List Loc) (ls : Array Slot), WS Y (AD Y) s.heap σ H locs → lv_has ls 7 [(0, .ref (yA Y 92)), (1, .int y1), (2, .int y2), (3, .int y3), (4, .int y4)] → R_51 (y1, y2, y3, y4, σ) → W p l e { frames := 2, cells := 0, slots := 0, locals := 43 } s m args below meth c H locs 0 0 (MQ below (QI Y Q) args s 0 0 (AD Y)) (F0 m 51 ls [])) (hR_65 : ∀ (y1 y2 y3 y4 y5 : Int32) (σ : St) (H : Heap) (locs : List Loc) (ls : Array Slot), WS Y (AD Y) s.heap σ H locs → lv_has ls 7 [(0, .ref (yA Y 92)), (1, .int y1), (2, .int y2), (3, .int y3), (4, .int y4), (5, .int y5)] → R_65 (y1, y2, y3, y4, y5, σ) → W p l e { frames := 2, cells := 0, slots := 0, locals := 43 } s m args below meth c H locs 0 0 (MQ below (QI Y Q) args s 0 0 (AD Y)) (F0 m 65 ls [])) (y1 : Int32) (y2 : Int32) (y3 : Int32) (y4 : Int32) (y5 : Int32) (z0 : Int32) (σ : St) (H : Heap) (locs : List Loc) (ls : Array Slot) (hw : WS Y (AD Y) s.heap σ H locs) (hl : lv_has ls 7 [(0, .ref (yA Y 92)), (1, .int y1), (2, .int y2), (3, .int y3), (4, .int y4), (5, .int y5)]) (h : bX7_measures_105 R_51 R_65 y1 y2 y3 y4 y5 z0 σ Q) : W p l e { frames := 2, cells := 0, slots := 0, locals := 43 } s m args below meth c H locs 0 0 (MQ below (QI Y Q) args s 0 0 (AD Y)) (F0 m 105 ls [.int z0]) := by
  obtain ⟨hx, hb, hr, hml, hown, hlk, hT, hK, hB⟩ := id M
  unfold bX7_measures_105 at h
  refine lv_istore (lv' := [(6, .int z0), (0, .ref (yA Y 92)), (1, .int y1), (2, .int y2), (3, .int y3), (4, .int y4), (5, .int y5)]) hx hb dX7_measures_105 hl (by decide) rfl (fun ls hl => ?_)
  refine lv_aload_n hx hb dX7_measures_107 rfl (lv_at hl 1 rfl) ?_
  refine q_get (v := .ref (yA Y 107)) M hw (ob_92 hN) rfl inq_7 25 (by decide) tw_660 rfl dX7_measures_108 ?_
  refine lv_bipush (v := 64) hx hb dX7_measures_111 (by decide) ?_
  refine lv_iload hx hb dX7_measures_113 (lv_at hl 5 rfl) ?_
  refine lv_imul hx hb dX7_measures_115 ?_
  refine lv_iload hx hb dX7_measures_116 (lv_at hl 6 rfl) ?_
  refine lv_iadd hx hb dX7_measures_118 ?_
  refine lv_iload hx hb dX7_measures_119 (lv_at hl 0 rfl) ?_
  refine lv_aload_n hx hb dX7_measures_121 rfl (lv_at hl 1 rfl) ?_
  refine lv_iload hx hb dX7_measures_122 (lv_at hl 5 rfl) ?_
  refine lv_iconst (v := 1) hx hb dX7_measures_124 (by decide) ?_
  refine lv_iadd hx hb dX7_measures_125 ?_
  refine lv_iload hx hb dX7_measures_126 (lv_at hl 6 rfl) ?_
  refine q_goI hw (q_runV (rest := [.int z0, .int ((64 * y4) + y5), .ref (yA Y 107)]) M hw (ctX7_from l hB hN (y4 + 1) y5 σ _ h) mbX7_from (ob_92 hN) rfl tw_837 rfl hl.1 rfl (Nat.le_of_ble_eq_true rfl) ⟨Nat.le_of_ble_eq_true rfl, Nat.le_of_ble_eq_true rfl⟩ ⟨Nat.le_refl _, Nat.le_refl _⟩ dX7_measures_128) (fun r2 σ1 H locs h hw => ?_)
  refine lv_icmp_ge (tgt := 139) hx hb dX7_measures_131 (by decide) (fun c3 => ?_) (fun c3 => ?_)
  · have h := h.1 c3
    refine lv_aload_n hx hb dX7_measures_139 rfl (lv_at hl 1 rfl) ?_
    refine lv_iload hx hb dX7_measures_140 (lv_at hl 5 rfl) ?_
    refine lv_iconst (v := 1) hx hb dX7_measures_142 (by decide) ?_
    refine lv_iadd hx hb dX7_measures_143 ?_
    refine lv_iload hx hb dX7_measures_144 (lv_at hl 6 rfl) ?_
    refine q_goI hw (q_runV (rest := [.int ((64 * y4) + y5), .ref (yA Y 107)]) M hw (ctX7_from l hB hN (y4 + 1) y5 σ1 _ h) mbX7_from (ob_92 hN) rfl tw_837 rfl hl.1 rfl (Nat.le_of_ble_eq_true rfl) ⟨Nat.le_of_ble_eq_true rfl, Nat.le_of_ble_eq_true rfl⟩ ⟨Nat.le_refl _, Nat.le_refl _⟩ dX7_measures_146) (fun r5 σ4 H locs h hw => ?_)
    exact tX7_measures_149 M hN hR_51 hR_65 y1 y2 y3 y4 y5 r5 ((64 * y4) + y5) σ4 _ _ _ hw (lv_sub hl [1, 2, 3, 4, 5, 6] rfl) h
  · have h := h.2 c3
    refine lv_iload hx hb dX7_measures_134 (lv_at hl 0 rfl) ?_
    refine lv_goto (tgt := 149) hx hb dX7_measures_136 (by decide) ?_
    exact tX7_measures_149 M hN hR_51 hR_65 y1 y2 y3 y4 y5 z0 ((64 * y4) + y5) σ1 _ _ _ hw (lv_sub hl [1, 2, 3, 4, 5, 6] rfl) h
def bX7_measures_65 (R_51 : Int32 × Int32 × Int32 × Int32 × St → Prop) (R_65 : Int32 × Int32 × Int32 × Int32 × Int32 × St → Prop) (y1 : Int32) (y2 : Int32) (y3 : Int32) (y4 : Int32) (y5 : Int32) (σ : St) (Q : Int32 → St → Prop) : Prop :=
  ((64 ≤ y5 → (∀ x2 : Int32, x2 = y4 + (-1) → R_51 (y1, y2, y3, x2, σ))) ∧ (¬ 64 ≤ y5 → wX7_moonOf y4 σ (fun r4 σ3 => ((r4 = 0 → bX7_measures_105 R_51 R_65 y1 y2 y3 y4 y5 1000000 σ3 Q) ∧ (¬ r4 = 0 → wX7_moonOf y4 σ3 (fun r7 σ6 => wX7_from (y4 + 1) (y5 - r7) σ6 (fun r9 σ8 => bX7_measures_105 R_51 R_65 y1 y2 y3 y4 y5 (1 + r9) σ8 Q)))))))
set_option maxHeartbeats 4000000 in
set_option maxRecDepth 100000 in
theorem tX7_measures_65 {R_51 : Int32 × Int32 × Int32 × Int32 × St → Prop} {R_65 : Int32 × Int32 × Int32 × Int32 × Int32 × St → Prop} {Q : Int32 → St → Prop} (M : MC p s m args meth c cX7_measures 7 (some .int) RX7 Y) (hN : yN Y = 108) (hR_51 : ∀ (y1 y2 y3 y4 : Int32) (σ : St) (H : Heap) (locs : List Loc) (ls : Array Slot), WS Y (AD Y) s.heap σ H locs → lv_has ls 7 [(0, .ref (yA Y 92)), (1, .int y1), (2, .int y2), (3, .int y3), (4, .int y4)] → R_51 (y1, y2, y3, y4, σ) → W p l e { frames := 2, cells := 0, slots := 0, locals := 43 } s m args below meth c H locs 0 0 (MQ below (QI Y Q) args s 0 0 (AD Y)) (F0 m 51 ls [])) (hR_65 : ∀ (y1 y2 y3 y4 y5 : Int32) (σ : St) (H : Heap) (locs : List Loc) (ls : Array Slot), WS Y (AD Y) s.heap σ H locs → lv_has ls 7 [(0, .ref (yA Y 92)), (1, .int y1), (2, .int y2), (3, .int y3), (4, .int y4), (5, .int y5)] → R_65 (y1, y2, y3, y4, y5, σ) → W p l e { frames := 2, cells := 0, slots := 0, locals := 43 } s m args below meth c H locs 0 0 (MQ below (QI Y Q) args s 0 0 (AD Y)) (F0 m 65 ls [])) (y1 : Int32) (y2 : Int32) (y3 : Int32) (y4 : Int32) (y5 : Int32) (σ : St) (H : Heap) (locs : List Loc) (ls : Array Slot) (hw : WS Y (AD Y) s.heap σ H locs) (hl : lv_has ls 7 [(0, .ref (yA Y 92)), (1, .int y1), (2, .int y2), (3, .int y3), (4, .int y4), (5, .int y5)]) (h : bX7_measures_65 R_51 R_65 y1 y2 y3 y4 y5 σ Q) : W p l e { frames := 2, cells := 0, slots := 0, locals := 43 } s m args below meth c H locs 0 0 (MQ below (QI Y Q) args s 0 0 (AD Y)) (F0 m 65 ls []) := by
  obtain ⟨hx, hb, hr, hml, hown, hlk, hT, hK, hB⟩ := id M
  unfold bX7_measures_65 at h
  refine lv_iload hx hb dX7_measures_65 (lv_at hl 5 rfl) ?_
  refine lv_bipush (v := 64) hx hb dX7_measures_67 (by decide) ?_
  refine lv_icmp_ge (tgt := 156) hx hb dX7_measures_69 (by decide) (fun c1 => ?_) (fun c1 => ?_)
  · have h := h.1 c1
    obtain ⟨x2, ex2⟩ : ∃ y : Int32, y = y4 + (-1) := ⟨_, rfl⟩
    have h := h x2 ex2
    refine lv_iinc (v := x2) (lv' := [(4, .int x2), (0, .ref (yA Y 92)), (1, .int y1), (2, .int y2), (3, .int y3), (5, .int y5)]) hx hb dX7_measures_156 hl (k := 4) rfl (by rw [ex2]; rfl) (by decide) rfl (fun ls hl => ?_)
    refine lv_goto (tgt := 51) hx hb dX7_measures_159 (by decide) ?_
    exact hR_51 y1 y2 y3 x2 σ _ _ _ hw (lv_sub hl [1, 2, 3, 4, 0] rfl) h
  · have h := h.2 c1
    refine lv_aload_n hx hb dX7_measures_72 rfl (lv_at hl 0 rfl) ?_
    refine lv_iload hx hb dX7_measures_73 (lv_at hl 4 rfl) ?_
    refine q_goI hw (q_runV (rest := []) M hw (ctX7_moonOf l hB hN y4 σ _ h) mbX7_moonOf (ob_92 hN) rfl tw_833 rfl hl.1 rfl (Nat.le_of_ble_eq_true rfl) ⟨Nat.le_of_ble_eq_true rfl, Nat.le_of_ble_eq_true rfl⟩ ⟨Nat.le_refl _, Nat.le_refl _⟩ dX7_measures_75) (fun r4 σ3 H locs h hw => ?_)
    refine lv_if_ne (tgt := 86) hx hb dX7_measures_78 (by decide) (fun c5 => ?_) (fun c5 => ?_)
    · have h := h.2 c5
      refine lv_iconst (v := 1) hx hb dX7_measures_86 (by decide) ?_
      refine lv_aload_n hx hb dX7_measures_87 rfl (lv_at hl 0 rfl) ?_
      refine lv_iload hx hb dX7_measures_88 (lv_at hl 4 rfl) ?_
      refine lv_iconst (v := 1) hx hb dX7_measures_90 (by decide) ?_
      refine lv_iadd hx hb dX7_measures_91 ?_
      refine lv_iload hx hb dX7_measures_92 (lv_at hl 5 rfl) ?_
      refine lv_aload_n hx hb dX7_measures_94 rfl (lv_at hl 0 rfl) ?_
      refine lv_iload hx hb dX7_measures_95 (lv_at hl 4 rfl) ?_
      refine q_goI hw (q_runV (rest := [.int y5, .int (y4 + 1), .ref (yA Y 92), .int 1]) M hw (ctX7_moonOf l hB hN y4 σ3 _ h) mbX7_moonOf (ob_92 hN) rfl tw_833 rfl hl.1 rfl (Nat.le_of_ble_eq_true rfl) ⟨Nat.le_of_ble_eq_true rfl, Nat.le_of_ble_eq_true rfl⟩ ⟨Nat.le_refl _, Nat.le_refl _⟩ dX7_measures_97) (fun r7 σ6 H locs h hw => ?_)
      refine lv_isub hx hb dX7_measures_100 ?_
      refine q_goI hw (q_runV (rest := [.int 1]) M hw (ctX7_from l hB hN (y4 + 1) (y5 - r7) σ6 _ h) mbX7_from (ob_92 hN) rfl tw_837 rfl hl.1 rfl (Nat.le_of_ble_eq_true rfl) ⟨Nat.le_of_ble_eq_true rfl, Nat.le_of_ble_eq_true rfl⟩ ⟨Nat.le_refl _, Nat.le_refl _⟩ dX7_measures_101) (fun r9 σ8 H locs h hw => ?_)
      refine lv_iadd hx hb dX7_measures_104 ?_
      exact tX7_measures_105 M hN hR_51 hR_65 y1 y2 y3 y4 y5 (1 + r9) σ8 _ _ _ hw (lv_sub hl [0, 1, 2, 3, 4, 5] rfl) h
    · have h := h.1 c5
      refine lv_ldc (v := 1000000) hx hb hown (hT _ tw_832) dX7_measures_81 ?_
      refine lv_goto (tgt := 105) hx hb dX7_measures_83 (by decide) ?_
      exact tX7_measures_105 M hN hR_51 hR_65 y1 y2 y3 y4 y5 1000000 σ3 _ _ _ hw (lv_sub hl [0, 1, 2, 3, 4, 5] rfl) h
def lX7_measures_65 (R_51 : Int32 × Int32 × Int32 × Int32 × St → Prop) (Q : Int32 → St → Prop) : (Int32 × Int32 × Int32 × Int32 × Int32 × St → Prop) → Int32 × Int32 × Int32 × Int32 × Int32 × St → Prop := fun R a => bX7_measures_65 R_51 R a.1 a.2.1 a.2.2.1 a.2.2.2.1 a.2.2.2.2.1 a.2.2.2.2.2 Q
theorem tlX7_measures_65 {R_51 : Int32 × Int32 × Int32 × Int32 × St → Prop} {Q : Int32 → St → Prop} (M : MC p s m args meth c cX7_measures 7 (some .int) RX7 Y) (hN : yN Y = 108) (hR_51 : ∀ (y1 y2 y3 y4 : Int32) (σ : St) (H : Heap) (locs : List Loc) (ls : Array Slot), WS Y (AD Y) s.heap σ H locs → lv_has ls 7 [(0, .ref (yA Y 92)), (1, .int y1), (2, .int y2), (3, .int y3), (4, .int y4)] → R_51 (y1, y2, y3, y4, σ) → W p l e { frames := 2, cells := 0, slots := 0, locals := 43 } s m args below meth c H locs 0 0 (MQ below (QI Y Q) args s 0 0 (AD Y)) (F0 m 51 ls [])) (n : Nat) : ∀ (y1 : Int32) (y2 : Int32) (y3 : Int32) (y4 : Int32) (y5 : Int32) (σ : St) (H : Heap) (locs : List Loc) (ls : Array Slot) (hw : WS Y (AD Y) s.heap σ H locs) (hl : lv_has ls 7 [(0, .ref (yA Y 92)), (1, .int y1), (2, .int y2), (3, .int y3), (4, .int y4), (5, .int y5)]) (h : Lp (lX7_measures_65 R_51 Q) n (y1, y2, y3, y4, y5, σ)), W p l e { frames := 2, cells := 0, slots := 0, locals := 43 } s m args below meth c H locs 0 0 (MQ below (QI Y Q) args s 0 0 (AD Y)) (F0 m 65 ls []) := by
  induction n with
  | zero => intro y1 y2 y3 y4 y5 σ H locs ls hw hl h; exact h.elim
  | succ n ih =>
    intro y1 y2 y3 y4 y5 σ H locs ls hw hl h
    exact tX7_measures_65 M hN hR_51 ih y1 y2 y3 y4 y5 σ H locs ls hw hl h
def bX7_measures_218 (R_218 : Int32 × St → Prop) (y4 : Int32) (σ : St) (Q : Int32 → St → Prop) : Prop :=
  ((64 ≤ y4 → Q 1000000 σ) ∧ (¬ 64 ≤ y4 → wX7_from (σ.1 100 0) y4 σ (fun r3 σ2 => ((1000000 ≤ r3 → (∀ x5 : Int32, x5 = y4 + 1 → R_218 (x5, σ2))) ∧ (¬ 1000000 ≤ r3 → Q y4 σ2)))))
set_option maxHeartbeats 4000000 in
set_option maxRecDepth 100000 in
theorem tX7_measures_218 {R_218 : Int32 × St → Prop} {Q : Int32 → St → Prop} (M : MC p s m args meth c cX7_measures 7 (some .int) RX7 Y) (hN : yN Y = 108) (hR_218 : ∀ (y4 : Int32) (σ : St) (H : Heap) (locs : List Loc) (ls : Array Slot), WS Y (AD Y) s.heap σ H locs → lv_has ls 7 [(0, .ref (yA Y 92)), (4, .int y4)] → R_218 (y4, σ) → W p l e { frames := 2, cells := 0, slots := 0, locals := 43 } s m args below meth c H locs 0 0 (MQ below (QI Y Q) args s 0 0 (AD Y)) (F0 m 218 ls [])) (y4 : Int32) (σ : St) (H : Heap) (locs : List Loc) (ls : Array Slot) (hw : WS Y (AD Y) s.heap σ H locs) (hl : lv_has ls 7 [(0, .ref (yA Y 92)), (4, .int y4)]) (h : bX7_measures_218 R_218 y4 σ Q) : W p l e { frames := 2, cells := 0, slots := 0, locals := 43 } s m args below meth c H locs 0 0 (MQ below (QI Y Q) args s 0 0 (AD Y)) (F0 m 218 ls []) := by
  obtain ⟨hx, hb, hr, hml, hown, hlk, hT, hK, hB⟩ := id M
  unfold bX7_measures_218 at h
  refine lv_iload hx hb dX7_measures_218 (lv_at hl 1 rfl) ?_
  refine lv_bipush (v := 64) hx hb dX7_measures_220 (by decide) ?_
  refine lv_icmp_ge (tgt := 251) hx hb dX7_measures_222 (by decide) (fun c1 => ?_) (fun c1 => ?_)
  · have h := h.1 c1
    refine lv_ldc (v := 1000000) hx hb hown (hT _ tw_832) dX7_measures_251 ?_
    exact q_iret M hw h dX7_measures_253
  · have h := h.2 c1
    refine lv_aload_n hx hb dX7_measures_225 rfl (lv_at hl 0 rfl) ?_
    refine lv_aload_n hx hb dX7_measures_226 rfl (lv_at hl 0 rfl) ?_
    refine q_get (v := .ref (yA Y 100)) M hw (ob_92 hN) rfl inq_7 16 (by decide) tw_651 rfl dX7_measures_227 ?_
    refine lv_iconst (v := 0) hx hb dX7_measures_230 (by decide) ?_
    refine q_ild' 0 M hw (ar_100 hN) (by unfold vp_in; decide) (by decide) dX7_measures_231 ?_
    refine lv_iload hx hb dX7_measures_232 (lv_at hl 1 rfl) ?_
    refine q_goI hw (q_runV (rest := []) M hw (ctX7_from l hB hN (σ.1 100 0) y4 σ _ h) mbX7_from (ob_92 hN) rfl tw_837 rfl hl.1 rfl (Nat.le_of_ble_eq_true rfl) ⟨Nat.le_of_ble_eq_true rfl, Nat.le_of_ble_eq_true rfl⟩ ⟨Nat.le_refl _, Nat.le_refl _⟩ dX7_measures_234) (fun r3 σ2 H locs h hw => ?_)
    refine lv_ldc (v := 1000000) hx hb hown (hT _ tw_832) dX7_measures_237 ?_
    refine lv_icmp_ge (tgt := 245) hx hb dX7_measures_239 (by decide) (fun c4 => ?_) (fun c4 => ?_)
    · have h := h.1 c4
      obtain ⟨x5, ex5⟩ : ∃ y : Int32, y = y4 + 1 := ⟨_, rfl⟩
      have h := h x5 ex5
      refine lv_iinc (v := x5) (lv' := [(4, .int x5), (0, .ref (yA Y 92))]) hx hb dX7_measures_245 hl (k := 1) rfl (by rw [ex5]; rfl) (by decide) rfl (fun ls hl => ?_)
      refine lv_goto (tgt := 218) hx hb dX7_measures_248 (by decide) ?_
      exact hR_218 x5 σ2 _ _ _ hw (lv_sub hl [1, 0] rfl) h
    · have h := h.2 c4
      refine lv_iload hx hb dX7_measures_242 (lv_at hl 1 rfl) ?_
      exact q_iret M hw h dX7_measures_244
def lX7_measures_218 (Q : Int32 → St → Prop) : (Int32 × St → Prop) → Int32 × St → Prop := fun R a => bX7_measures_218 R a.1 a.2 Q
theorem tlX7_measures_218 {Q : Int32 → St → Prop} (M : MC p s m args meth c cX7_measures 7 (some .int) RX7 Y) (hN : yN Y = 108) (n : Nat) : ∀ (y4 : Int32) (σ : St) (H : Heap) (locs : List Loc) (ls : Array Slot) (hw : WS Y (AD Y) s.heap σ H locs) (hl : lv_has ls 7 [(0, .ref (yA Y 92)), (4, .int y4)]) (h : Lp (lX7_measures_218 Q) n (y4, σ)), W p l e { frames := 2, cells := 0, slots := 0, locals := 43 } s m args below meth c H locs 0 0 (MQ below (QI Y Q) args s 0 0 (AD Y)) (F0 m 218 ls []) := by
  induction n with
  | zero => intro y4 σ H locs ls hw hl h; exact h.elim
  | succ n ih =>
    intro y4 σ H locs ls hw hl h
    exact tX7_measures_218 M hN ih y4 σ H locs ls hw hl h
def bX7_measures_51 (R_51 : Int32 × Int32 × Int32 × Int32 × St → Prop) (y1 : Int32) (y2 : Int32) (y3 : Int32) (y4 : Int32) (σ : St) (Q : Int32 → St → Prop) : Prop :=
  ((y4 < (σ.1 100 0) → (((σ.1 100 0) ≤ y3 → (vp_in (6 + y2) 27 ∧ (vp_in y1 10 ∧ (vp_in y1 10 ∧ (¬ (σ.1 96 y1.toNatClampNeg) = 0 ∧ (∀ x7 : Int32, x7 = ((((σ.1 100 (6 + y2).toNatClampNeg) + (σ.1 96 y1.toNatClampNeg)) - 1) / (σ.1 96 y1.toNatClampNeg)) → ∃ n : Nat, Lp (lX7_measures_218 Q) n (x7, σ))))))) ∧ (¬ (σ.1 100 0) ≤ y3 → (vp_in (6 + y2) 27 ∧ (((σ.1 100 (6 + y2).toNatClampNeg) = 0 → Q 0 σ) ∧ (¬ (σ.1 100 (6 + y2).toNatClampNeg) = 0 → Q 1000000 σ)))))) ∧ (¬ y4 < (σ.1 100 0) → ∃ n : Nat, Lp (lX7_measures_65 R_51 Q) n (y1, y2, y3, y4, 0, σ)))
set_option maxHeartbeats 4000000 in
set_option maxRecDepth 100000 in
theorem tX7_measures_51 {R_51 : Int32 × Int32 × Int32 × Int32 × St → Prop} {Q : Int32 → St → Prop} (M : MC p s m args meth c cX7_measures 7 (some .int) RX7 Y) (hN : yN Y = 108) (hR_51 : ∀ (y1 y2 y3 y4 : Int32) (σ : St) (H : Heap) (locs : List Loc) (ls : Array Slot), WS Y (AD Y) s.heap σ H locs → lv_has ls 7 [(0, .ref (yA Y 92)), (1, .int y1), (2, .int y2), (3, .int y3), (4, .int y4)] → R_51 (y1, y2, y3, y4, σ) → W p l e { frames := 2, cells := 0, slots := 0, locals := 43 } s m args below meth c H locs 0 0 (MQ below (QI Y Q) args s 0 0 (AD Y)) (F0 m 51 ls [])) (y1 : Int32) (y2 : Int32) (y3 : Int32) (y4 : Int32) (σ : St) (H : Heap) (locs : List Loc) (ls : Array Slot) (hw : WS Y (AD Y) s.heap σ H locs) (hl : lv_has ls 7 [(0, .ref (yA Y 92)), (1, .int y1), (2, .int y2), (3, .int y3), (4, .int y4)]) (h : bX7_measures_51 R_51 y1 y2 y3 y4 σ Q) : W p l e { frames := 2, cells := 0, slots := 0, locals := 43 } s m args below meth c H locs 0 0 (MQ below (QI Y Q) args s 0 0 (AD Y)) (F0 m 51 ls []) := by
  obtain ⟨hx, hb, hr, hml, hown, hlk, hT, hK, hB⟩ := id M
  unfold bX7_measures_51 at h
  refine lv_iload hx hb dX7_measures_51 (lv_at hl 4 rfl) ?_
  refine lv_aload_n hx hb dX7_measures_53 rfl (lv_at hl 0 rfl) ?_
  refine q_get (v := .ref (yA Y 100)) M hw (ob_92 hN) rfl inq_7 16 (by decide) tw_651 rfl dX7_measures_54 ?_
  refine lv_iconst (v := 0) hx hb dX7_measures_57 (by decide) ?_
  refine q_ild' 0 M hw (ar_100 hN) (by unfold vp_in; decide) (by decide) dX7_measures_58 ?_
  refine lv_icmp_lt (tgt := 162) hx hb dX7_measures_59 (by decide) (fun c1 => ?_) (fun c1 => ?_)
  · have h := h.1 c1
    refine lv_aload_n hx hb dX7_measures_162 rfl (lv_at hl 0 rfl) ?_
    refine q_get (v := .ref (yA Y 100)) M hw (ob_92 hN) rfl inq_7 16 (by decide) tw_651 rfl dX7_measures_163 ?_
    refine lv_iconst (v := 0) hx hb dX7_measures_166 (by decide) ?_
    refine q_ild' 0 M hw (ar_100 hN) (by unfold vp_in; decide) (by decide) dX7_measures_167 ?_
    refine lv_iload_n hx hb dX7_measures_168 rfl (lv_at hl 3 rfl) ?_
    refine lv_icmp_le (tgt := 191) hx hb dX7_measures_169 (by decide) (fun c2 => ?_) (fun c2 => ?_)
    · have h := h.1 c2
      refine lv_aload_n hx hb dX7_measures_191 rfl (lv_at hl 0 rfl) ?_
      refine q_get (v := .ref (yA Y 100)) M hw (ob_92 hN) rfl inq_7 16 (by decide) tw_651 rfl dX7_measures_192 ?_
      refine lv_bipush (v := 6) hx hb dX7_measures_195 (by decide) ?_
      refine lv_iload_n hx hb dX7_measures_197 rfl (lv_at hl 2 rfl) ?_
      refine lv_iadd hx hb dX7_measures_198 ?_
      have c3 := h.1
      have h := h.2
      refine q_ild M hw (ar_100 hN) c3 dX7_measures_199 ?_
      refine lv_aload_n hx hb dX7_measures_200 rfl (lv_at hl 0 rfl) ?_
      refine q_get (v := .ref (yA Y 96)) M hw (ob_92 hN) rfl inq_7 12 (by decide) tw_647 rfl dX7_measures_201 ?_
      refine lv_iload_n hx hb dX7_measures_204 rfl (lv_at hl 1 rfl) ?_
      have c4 := h.1
      have h := h.2
      refine q_ild M hw (ar_96 hN) c4 dX7_measures_205 ?_
      refine lv_iadd hx hb dX7_measures_206 ?_
      refine lv_iconst (v := 1) hx hb dX7_measures_207 (by decide) ?_
      refine lv_isub hx hb dX7_measures_208 ?_
      refine lv_aload_n hx hb dX7_measures_209 rfl (lv_at hl 0 rfl) ?_
      refine q_get (v := .ref (yA Y 96)) M hw (ob_92 hN) rfl inq_7 12 (by decide) tw_647 rfl dX7_measures_210 ?_
      refine lv_iload_n hx hb dX7_measures_213 rfl (lv_at hl 1 rfl) ?_
      have c5 := h.1
      have h := h.2
      refine q_ild M hw (ar_96 hN) c5 dX7_measures_214 ?_
      have c6 := h.1
      have h := h.2
      refine lv_idiv hx hb dX7_measures_215 c6 ?_
      refine lv_topi (fun x7 ex7 => ?_)
      have h := h x7 ex7
      refine lv_istore (lv' := [(4, .int x7), (0, .ref (yA Y 92)), (1, .int y1), (2, .int y2), (3, .int y3)]) hx hb dX7_measures_216 hl (by decide) rfl (fun ls hl => ?_)
      obtain ⟨n, h⟩ := h
      exact tlX7_measures_218 M hN n x7 σ _ _ _ hw (lv_sub hl [1, 0] rfl) h
    · have h := h.2 c2
      refine lv_aload_n hx hb dX7_measures_172 rfl (lv_at hl 0 rfl) ?_
      refine q_get (v := .ref (yA Y 100)) M hw (ob_92 hN) rfl inq_7 16 (by decide) tw_651 rfl dX7_measures_173 ?_
      refine lv_bipush (v := 6) hx hb dX7_measures_176 (by decide) ?_
      refine lv_iload_n hx hb dX7_measures_178 rfl (lv_at hl 2 rfl) ?_
      refine lv_iadd hx hb dX7_measures_179 ?_
      have c8 := h.1
      have h := h.2
      refine q_ild M hw (ar_100 hN) c8 dX7_measures_180 ?_
      refine lv_if_ne (tgt := 188) hx hb dX7_measures_181 (by decide) (fun c9 => ?_) (fun c9 => ?_)
      · have h := h.2 c9
        refine lv_ldc (v := 1000000) hx hb hown (hT _ tw_832) dX7_measures_188 ?_
        exact q_iret M hw h dX7_measures_190
      · have h := h.1 c9
        refine lv_iconst (v := 0) hx hb dX7_measures_184 (by decide) ?_
        refine lv_goto (tgt := 190) hx hb dX7_measures_185 (by decide) ?_
        exact q_iret M hw h dX7_measures_190
  · have h := h.2 c1
    refine lv_iconst (v := 0) hx hb dX7_measures_62 (by decide) ?_
    refine lv_istore (lv' := [(5, .int 0), (0, .ref (yA Y 92)), (1, .int y1), (2, .int y2), (3, .int y3), (4, .int y4)]) hx hb dX7_measures_63 hl (by decide) rfl (fun ls hl => ?_)
    obtain ⟨n, h⟩ := h
    exact tlX7_measures_65 M hN hR_51 n y1 y2 y3 y4 0 σ _ _ _ hw (lv_sub hl [1, 2, 3, 4, 5, 0] rfl) h
def lX7_measures_51 (Q : Int32 → St → Prop) : (Int32 × Int32 × Int32 × Int32 × St → Prop) → Int32 × Int32 × Int32 × Int32 × St → Prop := fun R a => bX7_measures_51 R a.1 a.2.1 a.2.2.1 a.2.2.2.1 a.2.2.2.2 Q
theorem tlX7_measures_51 {Q : Int32 → St → Prop} (M : MC p s m args meth c cX7_measures 7 (some .int) RX7 Y) (hN : yN Y = 108) (n : Nat) : ∀ (y1 : Int32) (y2 : Int32) (y3 : Int32) (y4 : Int32) (σ : St) (H : Heap) (locs : List Loc) (ls : Array Slot) (hw : WS Y (AD Y) s.heap σ H locs) (hl : lv_has ls 7 [(0, .ref (yA Y 92)), (1, .int y1), (2, .int y2), (3, .int y3), (4, .int y4)]) (h : Lp (lX7_measures_51 Q) n (y1, y2, y3, y4, σ)), W p l e { frames := 2, cells := 0, slots := 0, locals := 43 } s m args below meth c H locs 0 0 (MQ below (QI Y Q) args s 0 0 (AD Y)) (F0 m 51 ls []) := by
  induction n with
  | zero => intro y1 y2 y3 y4 σ H locs ls hw hl h; exact h.elim
  | succ n ih =>
    intro y1 y2 y3 y4 σ H locs ls hw hl h
    exact tX7_measures_51 M hN ih y1 y2 y3 y4 σ H locs ls hw hl h
def bX7_measures_10 (R_10 : Int32 × Int32 × Int32 × Int32 × St → Prop) (y1 : Int32) (y2 : Int32) (y3 : Int32) (y4 : Int32) (σ : St) (Q : Int32 → St → Prop) : Prop :=
  ((64 ≤ y4 → (∀ x2 : Int32, x2 = (y3 - 1) → ∃ n : Nat, Lp (lX7_measures_51 Q) n (y1, y2, y3, x2, σ))) ∧ (¬ 64 ≤ y4 → ((y4 = 0 → bX7_measures_39 R_10 y1 y2 y3 y4 0 ((64 * y3) + y4) σ Q) ∧ (¬ y4 = 0 → bX7_measures_39 R_10 y1 y2 y3 y4 1000000 ((64 * y3) + y4) σ Q))))
set_option maxHeartbeats 4000000 in
set_option maxRecDepth 100000 in
theorem tX7_measures_10 {R_10 : Int32 × Int32 × Int32 × Int32 × St → Prop} {Q : Int32 → St → Prop} (M : MC p s m args meth c cX7_measures 7 (some .int) RX7 Y) (hN : yN Y = 108) (hR_10 : ∀ (y1 y2 y3 y4 : Int32) (σ : St) (H : Heap) (locs : List Loc) (ls : Array Slot), WS Y (AD Y) s.heap σ H locs → lv_has ls 7 [(0, .ref (yA Y 92)), (1, .int y1), (2, .int y2), (3, .int y3), (4, .int y4)] → R_10 (y1, y2, y3, y4, σ) → W p l e { frames := 2, cells := 0, slots := 0, locals := 43 } s m args below meth c H locs 0 0 (MQ below (QI Y Q) args s 0 0 (AD Y)) (F0 m 10 ls [])) (y1 : Int32) (y2 : Int32) (y3 : Int32) (y4 : Int32) (σ : St) (H : Heap) (locs : List Loc) (ls : Array Slot) (hw : WS Y (AD Y) s.heap σ H locs) (hl : lv_has ls 7 [(0, .ref (yA Y 92)), (1, .int y1), (2, .int y2), (3, .int y3), (4, .int y4)]) (h : bX7_measures_10 R_10 y1 y2 y3 y4 σ Q) : W p l e { frames := 2, cells := 0, slots := 0, locals := 43 } s m args below meth c H locs 0 0 (MQ below (QI Y Q) args s 0 0 (AD Y)) (F0 m 10 ls []) := by
  obtain ⟨hx, hb, hr, hml, hown, hlk, hT, hK, hB⟩ := id M
  unfold bX7_measures_10 at h
  refine lv_iload hx hb dX7_measures_10 (lv_at hl 4 rfl) ?_
  refine lv_bipush (v := 64) hx hb dX7_measures_12 (by decide) ?_
  refine lv_icmp_ge (tgt := 46) hx hb dX7_measures_14 (by decide) (fun c1 => ?_) (fun c1 => ?_)
  · have h := h.1 c1
    refine lv_iload_n hx hb dX7_measures_46 rfl (lv_at hl 3 rfl) ?_
    refine lv_iconst (v := 1) hx hb dX7_measures_47 (by decide) ?_
    refine lv_isub hx hb dX7_measures_48 ?_
    refine lv_topi (fun x2 ex2 => ?_)
    have h := h x2 ex2
    refine lv_istore (lv' := [(4, .int x2), (0, .ref (yA Y 92)), (1, .int y1), (2, .int y2), (3, .int y3)]) hx hb dX7_measures_49 hl (by decide) rfl (fun ls hl => ?_)
    obtain ⟨n, h⟩ := h
    exact tlX7_measures_51 M hN n y1 y2 y3 x2 σ _ _ _ hw (lv_sub hl [1, 2, 3, 4, 0] rfl) h
  · have h := h.2 c1
    refine lv_aload_n hx hb dX7_measures_17 rfl (lv_at hl 0 rfl) ?_
    refine q_get (v := .ref (yA Y 107)) M hw (ob_92 hN) rfl inq_7 25 (by decide) tw_660 rfl dX7_measures_18 ?_
    refine lv_bipush (v := 64) hx hb dX7_measures_21 (by decide) ?_
    refine lv_iload_n hx hb dX7_measures_23 rfl (lv_at hl 3 rfl) ?_
    refine lv_imul hx hb dX7_measures_24 ?_
    refine lv_iload hx hb dX7_measures_25 (lv_at hl 4 rfl) ?_
    refine lv_iadd hx hb dX7_measures_27 ?_
    refine lv_iload hx hb dX7_measures_28 (lv_at hl 4 rfl) ?_
    refine lv_if_ne (tgt := 37) hx hb dX7_measures_30 (by decide) (fun c3 => ?_) (fun c3 => ?_)
    · have h := h.2 c3
      refine lv_ldc (v := 1000000) hx hb hown (hT _ tw_832) dX7_measures_37 ?_
      exact tX7_measures_39 M hN hR_10 y1 y2 y3 y4 1000000 ((64 * y3) + y4) σ _ _ _ hw (lv_sub hl [0, 1, 2, 3, 4] rfl) h
    · have h := h.1 c3
      refine lv_iconst (v := 0) hx hb dX7_measures_33 (by decide) ?_
      refine lv_goto (tgt := 39) hx hb dX7_measures_34 (by decide) ?_
      exact tX7_measures_39 M hN hR_10 y1 y2 y3 y4 0 ((64 * y3) + y4) σ _ _ _ hw (lv_sub hl [0, 1, 2, 3, 4] rfl) h
def lX7_measures_10 (Q : Int32 → St → Prop) : (Int32 × Int32 × Int32 × Int32 × St → Prop) → Int32 × Int32 × Int32 × Int32 × St → Prop := fun R a => bX7_measures_10 R a.1 a.2.1 a.2.2.1 a.2.2.2.1 a.2.2.2.2 Q
theorem tlX7_measures_10 {Q : Int32 → St → Prop} (M : MC p s m args meth c cX7_measures 7 (some .int) RX7 Y) (hN : yN Y = 108) (n : Nat) : ∀ (y1 : Int32) (y2 : Int32) (y3 : Int32) (y4 : Int32) (σ : St) (H : Heap) (locs : List Loc) (ls : Array Slot) (hw : WS Y (AD Y) s.heap σ H locs) (hl : lv_has ls 7 [(0, .ref (yA Y 92)), (1, .int y1), (2, .int y2), (3, .int y3), (4, .int y4)]) (h : Lp (lX7_measures_10 Q) n (y1, y2, y3, y4, σ)), W p l e { frames := 2, cells := 0, slots := 0, locals := 43 } s m args below meth c H locs 0 0 (MQ below (QI Y Q) args s 0 0 (AD Y)) (F0 m 10 ls []) := by
  induction n with
  | zero => intro y1 y2 y3 y4 σ H locs ls hw hl h; exact h.elim
  | succ n ih =>
    intro y1 y2 y3 y4 σ H locs ls hw hl h
    exact tX7_measures_10 M hN ih y1 y2 y3 y4 σ H locs ls hw hl h
def wX7_measures (a0 : Int32) (a1 : Int32) (σ : St) (Q : Int32 → St → Prop) : Prop :=
  (∀ x1 : Int32, x1 = (σ.1 94 3) → ∃ n : Nat, Lp (lX7_measures_10 Q) n (a0, a1, x1, 0, σ))
set_option maxHeartbeats 4000000 in
set_option maxRecDepth 100000 in
theorem tX7_measures_E {Q : Int32 → St → Prop} (M : MC p s m args meth c cX7_measures 7 (some .int) RX7 Y) (hN : yN Y = 108) (a0 : Int32) (a1 : Int32) (σ : St) (H : Heap) (locs : List Loc) (ls : Array Slot) (hw : WS Y (AD Y) s.heap σ H locs) (hl : lv_has ls 7 [(0, .ref (yA Y 92)), (1, .int a0), (2, .int a1)]) (h : wX7_measures a0 a1 σ Q) : W p l e { frames := 2, cells := 0, slots := 0, locals := 43 } s m args below meth c H locs 0 0 (MQ below (QI Y Q) args s 0 0 (AD Y)) (F0 m 0 ls []) := by
  obtain ⟨hx, hb, hr, hml, hown, hlk, hT, hK, hB⟩ := id M
  unfold wX7_measures at h
  refine lv_aload_n hx hb dX7_measures_0 rfl (lv_at hl 0 rfl) ?_
  refine q_get (v := .ref (yA Y 94)) M hw (ob_92 hN) rfl inq_7 9 (by decide) tw_644 rfl dX7_measures_1 ?_
  refine lv_iconst (v := 3) hx hb dX7_measures_4 (by decide) ?_
  refine q_ild' 3 M hw (ar_94 hN) (by unfold vp_in; decide) (by decide) dX7_measures_5 ?_
  refine lv_topi (fun x1 ex1 => ?_)
  have h := h x1 ex1
  refine lv_istore_n (lv' := [(3, .int x1), (0, .ref (yA Y 92)), (1, .int a0), (2, .int a1)]) hx hb dX7_measures_6 rfl hl (by decide) rfl (fun ls hl => ?_)
  refine lv_iconst (v := 0) hx hb dX7_measures_7 (by decide) ?_
  refine lv_istore (lv' := [(4, .int 0), (3, .int x1), (0, .ref (yA Y 92)), (1, .int a0), (2, .int a1)]) hx hb dX7_measures_8 hl (by decide) rfl (fun ls hl => ?_)
  obtain ⟨n, h⟩ := h
  exact tlX7_measures_10 M hN n a0 a1 x1 0 σ _ _ _ hw (lv_sub hl [2, 3, 4, 1, 0] rfl) h
set_option maxRecDepth 100000 in
theorem ctX7_measures (l : Launch) {Y : LY} (hB : YB Y) (hN : yN Y = 108) (a0 : Int32) (a1 : Int32) (σ : St) (Q : Int32 → St → Prop) (h : wX7_measures a0 a1 σ Q) : CT l yX7_measures (Cond.code yX7_measures cX7_measures 7 (some .int)) { frames := 2, cells := 0, slots := 0, locals := 43 } Y [.ref (yA Y 92), .int a0, .int a1] σ (QI Y Q) :=
  q_ent hB (by decide +kernel) (Nat.le_of_ble_eq_true rfl) (fun p e s m below meth c ls M hw hl => tX7_measures_E M hN a0 a1 σ _ _ ls hw hl h)
theorem mbX7_measures : MB RX7 yX7_measures cX7_measures 2 7 (some .int) := ⟨tw_830, tw_43, tw_56, tw_831, by decide +kernel⟩
end
section
variable {p : Program} {l : Launch} {e : Env} {s : State} {m : MethodId} {args : Array Value} {below : List Frame} {meth : Method} {c : Code} {Y : LY}
theorem dX7_least_0 : decode cX7_least 0 = .ok (.aload_n 0, 1) := by decide +kernel
theorem dX7_least_1 : decode cX7_least 1 = .ok (.iconst 0, 1) := by decide +kernel
theorem dX7_least_2 : decode cX7_least 2 = .ok (.putfield 62, 3) := by decide +kernel
theorem dX7_least_5 : decode cX7_least 5 = .ok (.aload_n 0, 1) := by decide +kernel
theorem dX7_least_6 : decode cX7_least 6 = .ok (.iload_n 1, 1) := by decide +kernel
theorem dX7_least_7 : decode cX7_least 7 = .ok (.invokevirtual 127, 3) := by decide +kernel
theorem dX7_least_10 : decode cX7_least 10 = .ok (.ifCond .eq 17, 3) := by decide +kernel
theorem dX7_least_13 : decode cX7_least 13 = .ok (.aload_n 0, 1) := by decide +kernel
theorem dX7_least_14 : decode cX7_least 14 = .ok (.iload_n 2, 1) := by decide +kernel
theorem dX7_least_15 : decode cX7_least 15 = .ok (.invokevirtual 130, 3) := by decide +kernel
theorem dX7_least_18 : decode cX7_least 18 = .ok (.ifCond .eq 9, 3) := by decide +kernel
theorem dX7_least_21 : decode cX7_least 21 = .ok (.iload_n 3, 1) := by decide +kernel
theorem dX7_least_22 : decode cX7_least 22 = .ok (.bipush (-2), 2) := by decide +kernel
theorem dX7_least_24 : decode cX7_least 24 = .ok (.if_icmp .ge 5, 3) := by decide +kernel
theorem dX7_least_27 : decode cX7_least 27 = .ok (.iconst (-1), 1) := by decide +kernel
theorem dX7_least_28 : decode cX7_least 28 = .ok (.ireturn, 1) := by decide +kernel
theorem dX7_least_29 : decode cX7_least 29 = .ok (.aload_n 0, 1) := by decide +kernel
theorem dX7_least_30 : decode cX7_least 30 = .ok (.iload_n 1, 1) := by decide +kernel
theorem dX7_least_31 : decode cX7_least 31 = .ok (.iload_n 2, 1) := by decide +kernel
theorem dX7_least_32 : decode cX7_least 32 = .ok (.invokevirtual 153, 3) := by decide +kernel
theorem dX7_least_35 : decode cX7_least 35 = .ok (.istore 4, 2) := by decide +kernel
theorem dX7_least_37 : decode cX7_least 37 = .ok (.iload 4, 2) := by decide +kernel
theorem dX7_least_39 : decode cX7_least 39 = .ok (.ldc 146, 2) := by decide +kernel
theorem dX7_least_41 : decode cX7_least 41 = .ok (.if_icmp .eq 8, 3) := by decide +kernel
theorem dX7_least_44 : decode cX7_least 44 = .ok (.iload_n 3, 1) := by decide +kernel
theorem dX7_least_45 : decode cX7_least 45 = .ok (.iconst (-1), 1) := by decide +kernel
theorem dX7_least_46 : decode cX7_least 46 = .ok (.if_icmp .ne 18, 3) := by decide +kernel
theorem dX7_least_49 : decode cX7_least 49 = .ok (.iload 4, 2) := by decide +kernel
theorem dX7_least_51 : decode cX7_least 51 = .ok (.ldc 146, 2) := by decide +kernel
theorem dX7_least_53 : decode cX7_least 53 = .ok (.if_icmp .ne 8, 3) := by decide +kernel
theorem dX7_least_56 : decode cX7_least 56 = .ok (.bipush (-9), 2) := by decide +kernel
theorem dX7_least_58 : decode cX7_least 58 = .ok (.goto 5, 3) := by decide +kernel
theorem dX7_least_61 : decode cX7_least 61 = .ok (.iload 4, 2) := by decide +kernel
theorem dX7_least_63 : decode cX7_least 63 = .ok (.ireturn, 1) := by decide +kernel
theorem dX7_least_64 : decode cX7_least 64 = .ok (.iload 4, 2) := by decide +kernel
theorem dX7_least_66 : decode cX7_least 66 = .ok (.ifCond .ne 16, 3) := by decide +kernel
theorem dX7_least_69 : decode cX7_least 69 = .ok (.iload_n 3, 1) := by decide +kernel
theorem dX7_least_70 : decode cX7_least 70 = .ok (.bipush (-2), 2) := by decide +kernel
theorem dX7_least_72 : decode cX7_least 72 = .ok (.if_icmp .ne 7, 3) := by decide +kernel
theorem dX7_least_75 : decode cX7_least 75 = .ok (.iconst 0, 1) := by decide +kernel
theorem dX7_least_76 : decode cX7_least 76 = .ok (.goto 5, 3) := by decide +kernel
theorem dX7_least_79 : decode cX7_least 79 = .ok (.bipush (-5), 2) := by decide +kernel
theorem dX7_least_81 : decode cX7_least 81 = .ok (.ireturn, 1) := by decide +kernel
theorem dX7_least_82 : decode cX7_least 82 = .ok (.iload_n 3, 1) := by decide +kernel
theorem dX7_least_83 : decode cX7_least 83 = .ok (.bipush (-2), 2) := by decide +kernel
theorem dX7_least_85 : decode cX7_least 85 = .ok (.if_icmp .ne 16, 3) := by decide +kernel
theorem dX7_least_88 : decode cX7_least 88 = .ok (.aload_n 0, 1) := by decide +kernel
theorem dX7_least_89 : decode cX7_least 89 = .ok (.aload_n 0, 1) := by decide +kernel
theorem dX7_least_90 : decode cX7_least 90 = .ok (.getfield 32, 3) := by decide +kernel
theorem dX7_least_93 : decode cX7_least 93 = .ok (.iconst 0, 1) := by decide +kernel
theorem dX7_least_94 : decode cX7_least 94 = .ok (.iaload, 1) := by decide +kernel
theorem dX7_least_95 : decode cX7_least 95 = .ok (.iload 4, 2) := by decide +kernel
theorem dX7_least_97 : decode cX7_least 97 = .ok (.invokevirtual 150, 3) := by decide +kernel
theorem dX7_least_100 : decode cX7_least 100 = .ok (.ireturn, 1) := by decide +kernel
theorem dX7_least_101 : decode cX7_least 101 = .ok (.iconst 0, 1) := by decide +kernel
theorem dX7_least_102 : decode cX7_least 102 = .ok (.istore 5, 2) := by decide +kernel
theorem dX7_least_104 : decode cX7_least 104 = .ok (.aload_n 0, 1) := by decide +kernel
theorem dX7_least_105 : decode cX7_least 105 = .ok (.getfield 32, 3) := by decide +kernel
theorem dX7_least_108 : decode cX7_least 108 = .ok (.iconst 0, 1) := by decide +kernel
theorem dX7_least_109 : decode cX7_least 109 = .ok (.iaload, 1) := by decide +kernel
theorem dX7_least_110 : decode cX7_least 110 = .ok (.istore 6, 2) := by decide +kernel
theorem dX7_least_112 : decode cX7_least 112 = .ok (.iload 4, 2) := by decide +kernel
theorem dX7_least_114 : decode cX7_least 114 = .ok (.ifCond .le 104, 3) := by decide +kernel
theorem dX7_least_117 : decode cX7_least 117 = .ok (.aload_n 0, 1) := by decide +kernel
theorem dX7_least_118 : decode cX7_least 118 = .ok (.iload 6, 2) := by decide +kernel
theorem dX7_least_120 : decode cX7_least 120 = .ok (.invokevirtual 147, 3) := by decide +kernel
theorem dX7_least_123 : decode cX7_least 123 = .ok (.ifCond .le 37, 3) := by decide +kernel
theorem dX7_least_126 : decode cX7_least 126 = .ok (.iconst 1, 1) := by decide +kernel
theorem dX7_least_127 : decode cX7_least 127 = .ok (.aload_n 0, 1) := by decide +kernel
theorem dX7_least_128 : decode cX7_least 128 = .ok (.iload 6, 2) := by decide +kernel
theorem dX7_least_130 : decode cX7_least 130 = .ok (.iconst 1, 1) := by decide +kernel
theorem dX7_least_131 : decode cX7_least 131 = .ok (.iadd, 1) := by decide +kernel
theorem dX7_least_132 : decode cX7_least 132 = .ok (.iload 4, 2) := by decide +kernel
theorem dX7_least_134 : decode cX7_least 134 = .ok (.aload_n 0, 1) := by decide +kernel
theorem dX7_least_135 : decode cX7_least 135 = .ok (.iload 6, 2) := by decide +kernel
theorem dX7_least_137 : decode cX7_least 137 = .ok (.invokevirtual 147, 3) := by decide +kernel
theorem dX7_least_140 : decode cX7_least 140 = .ok (.isub, 1) := by decide +kernel
theorem dX7_least_141 : decode cX7_least 141 = .ok (.invokevirtual 150, 3) := by decide +kernel
theorem dX7_least_144 : decode cX7_least 144 = .ok (.iadd, 1) := by decide +kernel
theorem dX7_least_145 : decode cX7_least 145 = .ok (.aload_n 0, 1) := by decide +kernel
theorem dX7_least_146 : decode cX7_least 146 = .ok (.iload 6, 2) := by decide +kernel
theorem dX7_least_148 : decode cX7_least 148 = .ok (.iload 4, 2) := by decide +kernel
theorem dX7_least_150 : decode cX7_least 150 = .ok (.invokevirtual 150, 3) := by decide +kernel
theorem dX7_least_153 : decode cX7_least 153 = .ok (.if_icmp .ne 7, 3) := by decide +kernel
theorem dX7_least_156 : decode cX7_least 156 = .ok (.iconst 1, 1) := by decide +kernel
theorem dX7_least_157 : decode cX7_least 157 = .ok (.goto 4, 3) := by decide +kernel
theorem dX7_least_160 : decode cX7_least 160 = .ok (.iconst 0, 1) := by decide +kernel
theorem dX7_least_161 : decode cX7_least 161 = .ok (.istore 7, 2) := by decide +kernel
theorem dX7_least_163 : decode cX7_least 163 = .ok (.iload 7, 2) := by decide +kernel
theorem dX7_least_165 : decode cX7_least 165 = .ok (.ifCond .eq 12, 3) := by decide +kernel
theorem dX7_least_168 : decode cX7_least 168 = .ok (.iload 5, 2) := by decide +kernel
theorem dX7_least_170 : decode cX7_least 170 = .ok (.iload_n 3, 1) := by decide +kernel
theorem dX7_least_171 : decode cX7_least 171 = .ok (.if_icmp .ne 6, 3) := by decide +kernel
theorem dX7_least_174 : decode cX7_least 174 = .ok (.iload 6, 2) := by decide +kernel
theorem dX7_least_176 : decode cX7_least 176 = .ok (.ireturn, 1) := by decide +kernel
theorem dX7_least_177 : decode cX7_least 177 = .ok (.iload 5, 2) := by decide +kernel
theorem dX7_least_179 : decode cX7_least 179 = .ok (.iload 7, 2) := by decide +kernel
theorem dX7_least_181 : decode cX7_least 181 = .ok (.ifCond .eq 7, 3) := by decide +kernel
theorem dX7_least_184 : decode cX7_least 184 = .ok (.iconst 1, 1) := by decide +kernel
theorem dX7_least_185 : decode cX7_least 185 = .ok (.goto 4, 3) := by decide +kernel
theorem dX7_least_188 : decode cX7_least 188 = .ok (.iconst 0, 1) := by decide +kernel
theorem dX7_least_189 : decode cX7_least 189 = .ok (.iadd, 1) := by decide +kernel
theorem dX7_least_190 : decode cX7_least 190 = .ok (.istore 5, 2) := by decide +kernel
theorem dX7_least_192 : decode cX7_least 192 = .ok (.iload 4, 2) := by decide +kernel
theorem dX7_least_194 : decode cX7_least 194 = .ok (.iload 7, 2) := by decide +kernel
theorem dX7_least_196 : decode cX7_least 196 = .ok (.ifCond .eq 12, 3) := by decide +kernel
theorem dX7_least_199 : decode cX7_least 199 = .ok (.aload_n 0, 1) := by decide +kernel
theorem dX7_least_200 : decode cX7_least 200 = .ok (.iload 6, 2) := by decide +kernel
theorem dX7_least_202 : decode cX7_least 202 = .ok (.invokevirtual 147, 3) := by decide +kernel
theorem dX7_least_205 : decode cX7_least 205 = .ok (.goto 4, 3) := by decide +kernel
theorem dX7_least_208 : decode cX7_least 208 = .ok (.iconst 0, 1) := by decide +kernel
theorem dX7_least_209 : decode cX7_least 209 = .ok (.isub, 1) := by decide +kernel
theorem dX7_least_210 : decode cX7_least 210 = .ok (.istore 4, 2) := by decide +kernel
theorem dX7_least_212 : decode cX7_least 212 = .ok (.iinc 6 1, 3) := by decide +kernel
theorem dX7_least_215 : decode cX7_least 215 = .ok (.goto (-103), 3) := by decide +kernel
theorem dX7_least_218 : decode cX7_least 218 = .ok (.bipush (-5), 2) := by decide +kernel
theorem dX7_least_220 : decode cX7_least 220 = .ok (.ireturn, 1) := by decide +kernel
def bX7_least_49 (y4 : Int32) (σ : St) (Q : Int32 → St → Prop) : Prop :=
  ((y4 = 1000000 → Q (-9) σ) ∧ (¬ y4 = 1000000 → Q y4 σ))
set_option maxHeartbeats 4000000 in
set_option maxRecDepth 100000 in
theorem tX7_least_49 {Q : Int32 → St → Prop} (M : MC p s m args meth c cX7_least 8 (some .int) RX7 Y) (hN : yN Y = 108) (y4 : Int32) (σ : St) (H : Heap) (locs : List Loc) (ls : Array Slot) (hw : WS Y (AD Y) s.heap σ H locs) (hl : lv_has ls 8 [(4, .int y4)]) (h : bX7_least_49 y4 σ Q) : W p l e { frames := 3, cells := 0, slots := 0, locals := 69 } s m args below meth c H locs 0 0 (MQ below (QI Y Q) args s 0 0 (AD Y)) (F0 m 49 ls []) := by
  obtain ⟨hx, hb, hr, hml, hown, hlk, hT, hK, hB⟩ := id M
  unfold bX7_least_49 at h
  refine lv_iload hx hb dX7_least_49 (lv_at hl 0 rfl) ?_
  refine lv_ldc (v := 1000000) hx hb hown (hT _ tw_832) dX7_least_51 ?_
  refine lv_icmp_ne (tgt := 61) hx hb dX7_least_53 (by decide) (fun c1 => ?_) (fun c1 => ?_)
  · have h := h.2 c1
    refine lv_iload hx hb dX7_least_61 (lv_at hl 0 rfl) ?_
    exact q_iret M hw h dX7_least_63
  · have h := h.1 c1
    refine lv_bipush (v := (-9)) hx hb dX7_least_56 (by decide) ?_
    refine lv_goto (tgt := 63) hx hb dX7_least_58 (by decide) ?_
    exact q_iret M hw h dX7_least_63
def bX7_least_209 (R_112 : Int32 × Int32 × Int32 × Int32 × St → Prop) (y3 : Int32) (y5 : Int32) (y6 : Int32) (z0 : Int32) (z1 : Int32) (σ : St) (Q : Int32 → St → Prop) : Prop :=
  (∀ x1 : Int32, x1 = (z1 - z0) → (∀ x2 : Int32, x2 = y6 + 1 → R_112 (y3, x1, y5, x2, σ)))
set_option maxHeartbeats 4000000 in
set_option maxRecDepth 100000 in
theorem tX7_least_209 {R_112 : Int32 × Int32 × Int32 × Int32 × St → Prop} {Q : Int32 → St → Prop} (M : MC p s m args meth c cX7_least 8 (some .int) RX7 Y) (hN : yN Y = 108) (hR_112 : ∀ (y3 y4 y5 y6 : Int32) (σ : St) (H : Heap) (locs : List Loc) (ls : Array Slot), WS Y (AD Y) s.heap σ H locs → lv_has ls 8 [(0, .ref (yA Y 92)), (3, .int y3), (4, .int y4), (5, .int y5), (6, .int y6)] → R_112 (y3, y4, y5, y6, σ) → W p l e { frames := 3, cells := 0, slots := 0, locals := 69 } s m args below meth c H locs 0 0 (MQ below (QI Y Q) args s 0 0 (AD Y)) (F0 m 112 ls [])) (y3 : Int32) (y5 : Int32) (y6 : Int32) (z0 : Int32) (z1 : Int32) (σ : St) (H : Heap) (locs : List Loc) (ls : Array Slot) (hw : WS Y (AD Y) s.heap σ H locs) (hl : lv_has ls 8 [(0, .ref (yA Y 92)), (3, .int y3), (5, .int y5), (6, .int y6)]) (h : bX7_least_209 R_112 y3 y5 y6 z0 z1 σ Q) : W p l e { frames := 3, cells := 0, slots := 0, locals := 69 } s m args below meth c H locs 0 0 (MQ below (QI Y Q) args s 0 0 (AD Y)) (F0 m 209 ls [.int z0, .int z1]) := by
  obtain ⟨hx, hb, hr, hml, hown, hlk, hT, hK, hB⟩ := id M
  unfold bX7_least_209 at h
  refine lv_isub hx hb dX7_least_209 ?_
  refine lv_topi (fun x1 ex1 => ?_)
  have h := h x1 ex1
  refine lv_istore (lv' := [(4, .int x1), (0, .ref (yA Y 92)), (3, .int y3), (5, .int y5), (6, .int y6)]) hx hb dX7_least_210 hl (by decide) rfl (fun ls hl => ?_)
  obtain ⟨x2, ex2⟩ : ∃ y : Int32, y = y6 + 1 := ⟨_, rfl⟩
  have h := h x2 ex2
  refine lv_iinc (v := x2) (lv' := [(6, .int x2), (4, .int x1), (0, .ref (yA Y 92)), (3, .int y3), (5, .int y5)]) hx hb dX7_least_212 hl (k := 4) rfl (by rw [ex2]; rfl) (by decide) rfl (fun ls hl => ?_)
  refine lv_goto (tgt := 112) hx hb dX7_least_215 (by decide) ?_
  exact hR_112 y3 x1 y5 x2 σ _ _ _ hw (lv_sub hl [2, 3, 1, 4, 0] rfl) h
def bX7_least_189 (R_112 : Int32 × Int32 × Int32 × Int32 × St → Prop) (y3 : Int32) (y4 : Int32) (y6 : Int32) (y7 : Int32) (z0 : Int32) (z1 : Int32) (σ : St) (Q : Int32 → St → Prop) : Prop :=
  (∀ x1 : Int32, x1 = (z1 + z0) → ((y7 = 0 → bX7_least_209 R_112 y3 x1 y6 0 y4 σ Q) ∧ (¬ y7 = 0 → wX7_moonOf y6 σ (fun r4 σ3 => bX7_least_209 R_112 y3 x1 y6 r4 y4 σ3 Q))))
set_option maxHeartbeats 4000000 in
set_option maxRecDepth 100000 in
theorem tX7_least_189 {R_112 : Int32 × Int32 × Int32 × Int32 × St → Prop} {Q : Int32 → St → Prop} (M : MC p s m args meth c cX7_least 8 (some .int) RX7 Y) (hN : yN Y = 108) (hR_112 : ∀ (y3 y4 y5 y6 : Int32) (σ : St) (H : Heap) (locs : List Loc) (ls : Array Slot), WS Y (AD Y) s.heap σ H locs → lv_has ls 8 [(0, .ref (yA Y 92)), (3, .int y3), (4, .int y4), (5, .int y5), (6, .int y6)] → R_112 (y3, y4, y5, y6, σ) → W p l e { frames := 3, cells := 0, slots := 0, locals := 69 } s m args below meth c H locs 0 0 (MQ below (QI Y Q) args s 0 0 (AD Y)) (F0 m 112 ls [])) (y3 : Int32) (y4 : Int32) (y6 : Int32) (y7 : Int32) (z0 : Int32) (z1 : Int32) (σ : St) (H : Heap) (locs : List Loc) (ls : Array Slot) (hw : WS Y (AD Y) s.heap σ H locs) (hl : lv_has ls 8 [(0, .ref (yA Y 92)), (3, .int y3), (4, .int y4), (6, .int y6), (7, .int y7)]) (h : bX7_least_189 R_112 y3 y4 y6 y7 z0 z1 σ Q) : W p l e { frames := 3, cells := 0, slots := 0, locals := 69 } s m args below meth c H locs 0 0 (MQ below (QI Y Q) args s 0 0 (AD Y)) (F0 m 189 ls [.int z0, .int z1]) := by
  obtain ⟨hx, hb, hr, hml, hown, hlk, hT, hK, hB⟩ := id M
  unfold bX7_least_189 at h
  refine lv_iadd hx hb dX7_least_189 ?_
  refine lv_topi (fun x1 ex1 => ?_)
  have h := h x1 ex1
  refine lv_istore (lv' := [(5, .int x1), (0, .ref (yA Y 92)), (3, .int y3), (4, .int y4), (6, .int y6), (7, .int y7)]) hx hb dX7_least_190 hl (by decide) rfl (fun ls hl => ?_)
  refine lv_iload hx hb dX7_least_192 (lv_at hl 3 rfl) ?_
  refine lv_iload hx hb dX7_least_194 (lv_at hl 5 rfl) ?_
  refine lv_if_eq (tgt := 208) hx hb dX7_least_196 (by decide) (fun c2 => ?_) (fun c2 => ?_)
  · have h := h.1 c2
    refine lv_iconst (v := 0) hx hb dX7_least_208 (by decide) ?_
    exact tX7_least_209 M hN hR_112 y3 x1 y6 0 y4 σ _ _ _ hw (lv_sub hl [1, 2, 0, 4] rfl) h
  · have h := h.2 c2
    refine lv_aload_n hx hb dX7_least_199 rfl (lv_at hl 1 rfl) ?_
    refine lv_iload hx hb dX7_least_200 (lv_at hl 4 rfl) ?_
    refine q_goI hw (q_runV (rest := [.int y4]) M hw (ctX7_moonOf l hB hN y6 σ _ h) mbX7_moonOf (ob_92 hN) rfl tw_833 rfl hl.1 rfl (Nat.le_of_ble_eq_true rfl) ⟨Nat.le_of_ble_eq_true rfl, Nat.le_of_ble_eq_true rfl⟩ ⟨Nat.le_refl _, Nat.le_refl _⟩ dX7_least_202) (fun r4 σ3 H locs h hw => ?_)
    refine lv_goto (tgt := 209) hx hb dX7_least_205 (by decide) ?_
    exact tX7_least_209 M hN hR_112 y3 x1 y6 r4 y4 σ3 _ _ _ hw (lv_sub hl [1, 2, 0, 4] rfl) h
def bX7_least_177 (R_112 : Int32 × Int32 × Int32 × Int32 × St → Prop) (y3 : Int32) (y4 : Int32) (y5 : Int32) (y6 : Int32) (y7 : Int32) (σ : St) (Q : Int32 → St → Prop) : Prop :=
  ((y7 = 0 → bX7_least_189 R_112 y3 y4 y6 y7 0 y5 σ Q) ∧ (¬ y7 = 0 → bX7_least_189 R_112 y3 y4 y6 y7 1 y5 σ Q))
set_option maxHeartbeats 4000000 in
set_option maxRecDepth 100000 in
theorem tX7_least_177 {R_112 : Int32 × Int32 × Int32 × Int32 × St → Prop} {Q : Int32 → St → Prop} (M : MC p s m args meth c cX7_least 8 (some .int) RX7 Y) (hN : yN Y = 108) (hR_112 : ∀ (y3 y4 y5 y6 : Int32) (σ : St) (H : Heap) (locs : List Loc) (ls : Array Slot), WS Y (AD Y) s.heap σ H locs → lv_has ls 8 [(0, .ref (yA Y 92)), (3, .int y3), (4, .int y4), (5, .int y5), (6, .int y6)] → R_112 (y3, y4, y5, y6, σ) → W p l e { frames := 3, cells := 0, slots := 0, locals := 69 } s m args below meth c H locs 0 0 (MQ below (QI Y Q) args s 0 0 (AD Y)) (F0 m 112 ls [])) (y3 : Int32) (y4 : Int32) (y5 : Int32) (y6 : Int32) (y7 : Int32) (σ : St) (H : Heap) (locs : List Loc) (ls : Array Slot) (hw : WS Y (AD Y) s.heap σ H locs) (hl : lv_has ls 8 [(0, .ref (yA Y 92)), (3, .int y3), (4, .int y4), (5, .int y5), (6, .int y6), (7, .int y7)]) (h : bX7_least_177 R_112 y3 y4 y5 y6 y7 σ Q) : W p l e { frames := 3, cells := 0, slots := 0, locals := 69 } s m args below meth c H locs 0 0 (MQ below (QI Y Q) args s 0 0 (AD Y)) (F0 m 177 ls []) := by
  obtain ⟨hx, hb, hr, hml, hown, hlk, hT, hK, hB⟩ := id M
  unfold bX7_least_177 at h
  refine lv_iload hx hb dX7_least_177 (lv_at hl 3 rfl) ?_
  refine lv_iload hx hb dX7_least_179 (lv_at hl 5 rfl) ?_
  refine lv_if_eq (tgt := 188) hx hb dX7_least_181 (by decide) (fun c1 => ?_) (fun c1 => ?_)
  · have h := h.1 c1
    refine lv_iconst (v := 0) hx hb dX7_least_188 (by decide) ?_
    exact tX7_least_189 M hN hR_112 y3 y4 y6 y7 0 y5 σ _ _ _ hw (lv_sub hl [0, 1, 2, 4, 5] rfl) h
  · have h := h.2 c1
    refine lv_iconst (v := 1) hx hb dX7_least_184 (by decide) ?_
    refine lv_goto (tgt := 189) hx hb dX7_least_185 (by decide) ?_
    exact tX7_least_189 M hN hR_112 y3 y4 y6 y7 1 y5 σ _ _ _ hw (lv_sub hl [0, 1, 2, 4, 5] rfl) h
def bX7_least_161 (R_112 : Int32 × Int32 × Int32 × Int32 × St → Prop) (y3 : Int32) (y4 : Int32) (y5 : Int32) (y6 : Int32) (z0 : Int32) (σ : St) (Q : Int32 → St → Prop) : Prop :=
  ((z0 = 0 → bX7_least_177 R_112 y3 y4 y5 y6 z0 σ Q) ∧ (¬ z0 = 0 → ((y5 = y3 → Q y6 σ) ∧ (¬ y5 = y3 → bX7_least_177 R_112 y3 y4 y5 y6 z0 σ Q))))
set_option maxHeartbeats 4000000 in
set_option maxRecDepth 100000 in
theorem tX7_least_161 {R_112 : Int32 × Int32 × Int32 × Int32 × St → Prop} {Q : Int32 → St → Prop} (M : MC p s m args meth c cX7_least 8 (some .int) RX7 Y) (hN : yN Y = 108) (hR_112 : ∀ (y3 y4 y5 y6 : Int32) (σ : St) (H : Heap) (locs : List Loc) (ls : Array Slot), WS Y (AD Y) s.heap σ H locs → lv_has ls 8 [(0, .ref (yA Y 92)), (3, .int y3), (4, .int y4), (5, .int y5), (6, .int y6)] → R_112 (y3, y4, y5, y6, σ) → W p l e { frames := 3, cells := 0, slots := 0, locals := 69 } s m args below meth c H locs 0 0 (MQ below (QI Y Q) args s 0 0 (AD Y)) (F0 m 112 ls [])) (y3 : Int32) (y4 : Int32) (y5 : Int32) (y6 : Int32) (z0 : Int32) (σ : St) (H : Heap) (locs : List Loc) (ls : Array Slot) (hw : WS Y (AD Y) s.heap σ H locs) (hl : lv_has ls 8 [(0, .ref (yA Y 92)), (3, .int y3), (4, .int y4), (5, .int y5), (6, .int y6)]) (h : bX7_least_161 R_112 y3 y4 y5 y6 z0 σ Q) : W p l e { frames := 3, cells := 0, slots := 0, locals := 69 } s m args below meth c H locs 0 0 (MQ below (QI Y Q) args s 0 0 (AD Y)) (F0 m 161 ls [.int z0]) := by
  obtain ⟨hx, hb, hr, hml, hown, hlk, hT, hK, hB⟩ := id M
  unfold bX7_least_161 at h
  refine lv_istore (lv' := [(7, .int z0), (0, .ref (yA Y 92)), (3, .int y3), (4, .int y4), (5, .int y5), (6, .int y6)]) hx hb dX7_least_161 hl (by decide) rfl (fun ls hl => ?_)
  refine lv_iload hx hb dX7_least_163 (lv_at hl 0 rfl) ?_
  refine lv_if_eq (tgt := 177) hx hb dX7_least_165 (by decide) (fun c1 => ?_) (fun c1 => ?_)
  · have h := h.1 c1
    exact tX7_least_177 M hN hR_112 y3 y4 y5 y6 z0 σ _ _ _ hw (lv_sub hl [1, 2, 3, 4, 5, 0] rfl) h
  · have h := h.2 c1
    refine lv_iload hx hb dX7_least_168 (lv_at hl 4 rfl) ?_
    refine lv_iload_n hx hb dX7_least_170 rfl (lv_at hl 2 rfl) ?_
    refine lv_icmp_ne (tgt := 177) hx hb dX7_least_171 (by decide) (fun c2 => ?_) (fun c2 => ?_)
    · have h := h.2 c2
      exact tX7_least_177 M hN hR_112 y3 y4 y5 y6 z0 σ _ _ _ hw (lv_sub hl [1, 2, 3, 4, 5, 0] rfl) h
    · have h := h.1 c2
      refine lv_iload hx hb dX7_least_174 (lv_at hl 5 rfl) ?_
      exact q_iret M hw h dX7_least_176
def bX7_least_160 (R_112 : Int32 × Int32 × Int32 × Int32 × St → Prop) (y3 : Int32) (y4 : Int32) (y5 : Int32) (y6 : Int32) (σ : St) (Q : Int32 → St → Prop) : Prop :=
  bX7_least_161 R_112 y3 y4 y5 y6 0 σ Q
set_option maxHeartbeats 4000000 in
set_option maxRecDepth 100000 in
theorem tX7_least_160 {R_112 : Int32 × Int32 × Int32 × Int32 × St → Prop} {Q : Int32 → St → Prop} (M : MC p s m args meth c cX7_least 8 (some .int) RX7 Y) (hN : yN Y = 108) (hR_112 : ∀ (y3 y4 y5 y6 : Int32) (σ : St) (H : Heap) (locs : List Loc) (ls : Array Slot), WS Y (AD Y) s.heap σ H locs → lv_has ls 8 [(0, .ref (yA Y 92)), (3, .int y3), (4, .int y4), (5, .int y5), (6, .int y6)] → R_112 (y3, y4, y5, y6, σ) → W p l e { frames := 3, cells := 0, slots := 0, locals := 69 } s m args below meth c H locs 0 0 (MQ below (QI Y Q) args s 0 0 (AD Y)) (F0 m 112 ls [])) (y3 : Int32) (y4 : Int32) (y5 : Int32) (y6 : Int32) (σ : St) (H : Heap) (locs : List Loc) (ls : Array Slot) (hw : WS Y (AD Y) s.heap σ H locs) (hl : lv_has ls 8 [(0, .ref (yA Y 92)), (3, .int y3), (4, .int y4), (5, .int y5), (6, .int y6)]) (h : bX7_least_160 R_112 y3 y4 y5 y6 σ Q) : W p l e { frames := 3, cells := 0, slots := 0, locals := 69 } s m args below meth c H locs 0 0 (MQ below (QI Y Q) args s 0 0 (AD Y)) (F0 m 160 ls []) := by
  obtain ⟨hx, hb, hr, hml, hown, hlk, hT, hK, hB⟩ := id M
  unfold bX7_least_160 at h
  refine lv_iconst (v := 0) hx hb dX7_least_160 (by decide) ?_
  exact tX7_least_161 M hN hR_112 y3 y4 y5 y6 0 σ _ _ _ hw (lv_sub hl [0, 1, 2, 3, 4] rfl) h
def bX7_least_112 (R_112 : Int32 × Int32 × Int32 × Int32 × St → Prop) (y3 : Int32) (y4 : Int32) (y5 : Int32) (y6 : Int32) (σ : St) (Q : Int32 → St → Prop) : Prop :=
  ((y4 ≤ 0 → Q (-5) σ) ∧ (¬ y4 ≤ 0 → wX7_moonOf y6 σ (fun r3 σ2 => ((r3 ≤ 0 → bX7_least_160 R_112 y3 y4 y5 y6 σ2 Q) ∧ (¬ r3 ≤ 0 → wX7_moonOf y6 σ2 (fun r6 σ5 => wX7_from (y6 + 1) (y4 - r6) σ5 (fun r8 σ7 => wX7_from y6 y4 σ7 (fun r10 σ9 => (((1 + r8) = r10 → bX7_least_161 R_112 y3 y4 y5 y6 1 σ9 Q) ∧ (¬ (1 + r8) = r10 → bX7_least_160 R_112 y3 y4 y5 y6 σ9 Q))))))))))
set_option maxHeartbeats 4000000 in
set_option maxRecDepth 100000 in
theorem tX7_least_112 {R_112 : Int32 × Int32 × Int32 × Int32 × St → Prop} {Q : Int32 → St → Prop} (M : MC p s m args meth c cX7_least 8 (some .int) RX7 Y) (hN : yN Y = 108) (hR_112 : ∀ (y3 y4 y5 y6 : Int32) (σ : St) (H : Heap) (locs : List Loc) (ls : Array Slot), WS Y (AD Y) s.heap σ H locs → lv_has ls 8 [(0, .ref (yA Y 92)), (3, .int y3), (4, .int y4), (5, .int y5), (6, .int y6)] → R_112 (y3, y4, y5, y6, σ) → W p l e { frames := 3, cells := 0, slots := 0, locals := 69 } s m args below meth c H locs 0 0 (MQ below (QI Y Q) args s 0 0 (AD Y)) (F0 m 112 ls [])) (y3 : Int32) (y4 : Int32) (y5 : Int32) (y6 : Int32) (σ : St) (H : Heap) (locs : List Loc) (ls : Array Slot) (hw : WS Y (AD Y) s.heap σ H locs) (hl : lv_has ls 8 [(0, .ref (yA Y 92)), (3, .int y3), (4, .int y4), (5, .int y5), (6, .int y6)]) (h : bX7_least_112 R_112 y3 y4 y5 y6 σ Q) : W p l e { frames := 3, cells := 0, slots := 0, locals := 69 } s m args below meth c H locs 0 0 (MQ below (QI Y Q) args s 0 0 (AD Y)) (F0 m 112 ls []) := by
  obtain ⟨hx, hb, hr, hml, hown, hlk, hT, hK, hB⟩ := id M
  unfold bX7_least_112 at h
  refine lv_iload hx hb dX7_least_112 (lv_at hl 2 rfl) ?_
  refine lv_if_le (tgt := 218) hx hb dX7_least_114 (by decide) (fun c1 => ?_) (fun c1 => ?_)
  · have h := h.1 c1
    refine lv_bipush (v := (-5)) hx hb dX7_least_218 (by decide) ?_
    exact q_iret M hw h dX7_least_220
  · have h := h.2 c1
    refine lv_aload_n hx hb dX7_least_117 rfl (lv_at hl 0 rfl) ?_
    refine lv_iload hx hb dX7_least_118 (lv_at hl 4 rfl) ?_
    refine q_goI hw (q_runV (rest := []) M hw (ctX7_moonOf l hB hN y6 σ _ h) mbX7_moonOf (ob_92 hN) rfl tw_833 rfl hl.1 rfl (Nat.le_of_ble_eq_true rfl) ⟨Nat.le_of_ble_eq_true rfl, Nat.le_of_ble_eq_true rfl⟩ ⟨Nat.le_refl _, Nat.le_refl _⟩ dX7_least_120) (fun r3 σ2 H locs h hw => ?_)
    refine lv_if_le (tgt := 160) hx hb dX7_least_123 (by decide) (fun c4 => ?_) (fun c4 => ?_)
    · have h := h.1 c4
      exact tX7_least_160 M hN hR_112 y3 y4 y5 y6 σ2 _ _ _ hw (lv_sub hl [0, 1, 2, 3, 4] rfl) h
    · have h := h.2 c4
      refine lv_iconst (v := 1) hx hb dX7_least_126 (by decide) ?_
      refine lv_aload_n hx hb dX7_least_127 rfl (lv_at hl 0 rfl) ?_
      refine lv_iload hx hb dX7_least_128 (lv_at hl 4 rfl) ?_
      refine lv_iconst (v := 1) hx hb dX7_least_130 (by decide) ?_
      refine lv_iadd hx hb dX7_least_131 ?_
      refine lv_iload hx hb dX7_least_132 (lv_at hl 2 rfl) ?_
      refine lv_aload_n hx hb dX7_least_134 rfl (lv_at hl 0 rfl) ?_
      refine lv_iload hx hb dX7_least_135 (lv_at hl 4 rfl) ?_
      refine q_goI hw (q_runV (rest := [.int y4, .int (y6 + 1), .ref (yA Y 92), .int 1]) M hw (ctX7_moonOf l hB hN y6 σ2 _ h) mbX7_moonOf (ob_92 hN) rfl tw_833 rfl hl.1 rfl (Nat.le_of_ble_eq_true rfl) ⟨Nat.le_of_ble_eq_true rfl, Nat.le_of_ble_eq_true rfl⟩ ⟨Nat.le_refl _, Nat.le_refl _⟩ dX7_least_137) (fun r6 σ5 H locs h hw => ?_)
      refine lv_isub hx hb dX7_least_140 ?_
      refine q_goI hw (q_runV (rest := [.int 1]) M hw (ctX7_from l hB hN (y6 + 1) (y4 - r6) σ5 _ h) mbX7_from (ob_92 hN) rfl tw_837 rfl hl.1 rfl (Nat.le_of_ble_eq_true rfl) ⟨Nat.le_of_ble_eq_true rfl, Nat.le_of_ble_eq_true rfl⟩ ⟨Nat.le_refl _, Nat.le_refl _⟩ dX7_least_141) (fun r8 σ7 H locs h hw => ?_)
      refine lv_iadd hx hb dX7_least_144 ?_
      refine lv_aload_n hx hb dX7_least_145 rfl (lv_at hl 0 rfl) ?_
      refine lv_iload hx hb dX7_least_146 (lv_at hl 4 rfl) ?_
      refine lv_iload hx hb dX7_least_148 (lv_at hl 2 rfl) ?_
      refine q_goI hw (q_runV (rest := [.int (1 + r8)]) M hw (ctX7_from l hB hN y6 y4 σ7 _ h) mbX7_from (ob_92 hN) rfl tw_837 rfl hl.1 rfl (Nat.le_of_ble_eq_true rfl) ⟨Nat.le_of_ble_eq_true rfl, Nat.le_of_ble_eq_true rfl⟩ ⟨Nat.le_refl _, Nat.le_refl _⟩ dX7_least_150) (fun r10 σ9 H locs h hw => ?_)
      refine lv_icmp_ne (tgt := 160) hx hb dX7_least_153 (by decide) (fun c11 => ?_) (fun c11 => ?_)
      · have h := h.2 c11
        exact tX7_least_160 M hN hR_112 y3 y4 y5 y6 σ9 _ _ _ hw (lv_sub hl [0, 1, 2, 3, 4] rfl) h
      · have h := h.1 c11
        refine lv_iconst (v := 1) hx hb dX7_least_156 (by decide) ?_
        refine lv_goto (tgt := 161) hx hb dX7_least_157 (by decide) ?_
        exact tX7_least_161 M hN hR_112 y3 y4 y5 y6 1 σ9 _ _ _ hw (lv_sub hl [0, 1, 2, 3, 4] rfl) h
def lX7_least_112 (Q : Int32 → St → Prop) : (Int32 × Int32 × Int32 × Int32 × St → Prop) → Int32 × Int32 × Int32 × Int32 × St → Prop := fun R a => bX7_least_112 R a.1 a.2.1 a.2.2.1 a.2.2.2.1 a.2.2.2.2 Q
theorem tlX7_least_112 {Q : Int32 → St → Prop} (M : MC p s m args meth c cX7_least 8 (some .int) RX7 Y) (hN : yN Y = 108) (n : Nat) : ∀ (y3 : Int32) (y4 : Int32) (y5 : Int32) (y6 : Int32) (σ : St) (H : Heap) (locs : List Loc) (ls : Array Slot) (hw : WS Y (AD Y) s.heap σ H locs) (hl : lv_has ls 8 [(0, .ref (yA Y 92)), (3, .int y3), (4, .int y4), (5, .int y5), (6, .int y6)]) (h : Lp (lX7_least_112 Q) n (y3, y4, y5, y6, σ)), W p l e { frames := 3, cells := 0, slots := 0, locals := 69 } s m args below meth c H locs 0 0 (MQ below (QI Y Q) args s 0 0 (AD Y)) (F0 m 112 ls []) := by
  induction n with
  | zero => intro y3 y4 y5 y6 σ H locs ls hw hl h; exact h.elim
  | succ n ih =>
    intro y3 y4 y5 y6 σ H locs ls hw hl h
    exact tX7_least_112 M hN ih y3 y4 y5 y6 σ H locs ls hw hl h
def wX7_least (a0 : Int32) (a1 : Int32) (a2 : Int32) (σ : St) (Q : Int32 → St → Prop) : Prop :=
  (∀ σ1 : St, σ1 = up σ 92 0 0 → wX7_isFarmer a0 σ1 (fun r3 σ2 => ((r3 = 0 → Q (-1) σ2) ∧ (¬ r3 = 0 → wX7_isStrip a1 σ2 (fun r6 σ5 => ((r6 = 0 → Q (-1) σ5) ∧ (¬ r6 = 0 → (((-2) ≤ a2 → wX7_measures a0 a1 σ5 (fun r10 σ9 => ((r10 = 1000000 → bX7_least_49 r10 σ9 Q) ∧ (¬ r10 = 1000000 → ((a2 = (-1) → bX7_least_49 r10 σ9 Q) ∧ (¬ a2 = (-1) → ((r10 = 0 → ((a2 = (-2) → Q 0 σ9) ∧ (¬ a2 = (-2) → Q (-5) σ9))) ∧ (¬ r10 = 0 → ((a2 = (-2) → wX7_from (σ9.1 100 0) r10 σ9 (fun r17 σ16 => Q r17 σ16)) ∧ (¬ a2 = (-2) → (∀ x15 : Int32, x15 = (σ9.1 100 0) → ∃ n : Nat, Lp (lX7_least_112 Q) n (a2, r10, 0, x15, σ9)))))))))))) ∧ (¬ (-2) ≤ a2 → Q (-1) σ5)))))))))
set_option maxHeartbeats 4000000 in
set_option maxRecDepth 100000 in
theorem tX7_least_E {Q : Int32 → St → Prop} (M : MC p s m args meth c cX7_least 8 (some .int) RX7 Y) (hN : yN Y = 108) (a0 : Int32) (a1 : Int32) (a2 : Int32) (σ : St) (H : Heap) (locs : List Loc) (ls : Array Slot) (hw : WS Y (AD Y) s.heap σ H locs) (hl : lv_has ls 8 [(0, .ref (yA Y 92)), (1, .int a0), (2, .int a1), (3, .int a2)]) (h : wX7_least a0 a1 a2 σ Q) : W p l e { frames := 3, cells := 0, slots := 0, locals := 69 } s m args below meth c H locs 0 0 (MQ below (QI Y Q) args s 0 0 (AD Y)) (F0 m 0 ls []) := by
  obtain ⟨hx, hb, hr, hml, hown, hlk, hT, hK, hB⟩ := id M
  unfold wX7_least at h
  refine lv_aload_n hx hb dX7_least_0 rfl (lv_at hl 0 rfl) ?_
  refine lv_iconst (v := 0) hx hb dX7_least_1 (by decide) ?_
  refine q_put (v := 0) M hw (ob_92 hN) rfl inq_7 tyX7 tyX7_ok nmX7 0 (by decide) tw_635 rfl rfl rfl (Nat.le_of_ble_eq_true rfl) (by simp [up, upd, f0]) dX7_least_2 (fun σ1 H locs es hw => ?_)
  have h := h σ1 es
  refine lv_aload_n hx hb dX7_least_5 rfl (lv_at hl 0 rfl) ?_
  refine lv_iload_n hx hb dX7_least_6 rfl (lv_at hl 1 rfl) ?_
  refine q_goI hw (q_runV (rest := []) M hw (ctX7_isFarmer l hB hN a0 σ1 _ h) mbX7_isFarmer (ob_92 hN) rfl tw_764 rfl hl.1 rfl (Nat.le_of_ble_eq_true rfl) ⟨Nat.le_of_ble_eq_true rfl, Nat.le_of_ble_eq_true rfl⟩ ⟨Nat.le_refl _, Nat.le_refl _⟩ dX7_least_7) (fun r3 σ2 H locs h hw => ?_)
  refine lv_if_eq (tgt := 27) hx hb dX7_least_10 (by decide) (fun c4 => ?_) (fun c4 => ?_)
  · have h := h.1 c4
    refine lv_iconst (v := (-1)) hx hb dX7_least_27 (by decide) ?_
    exact q_iret M hw h dX7_least_28
  · have h := h.2 c4
    refine lv_aload_n hx hb dX7_least_13 rfl (lv_at hl 0 rfl) ?_
    refine lv_iload_n hx hb dX7_least_14 rfl (lv_at hl 2 rfl) ?_
    refine q_goI hw (q_runV (rest := []) M hw (ctX7_isStrip l hB hN a1 σ2 _ h) mbX7_isStrip (ob_92 hN) rfl tw_772 rfl hl.1 rfl (Nat.le_of_ble_eq_true rfl) ⟨Nat.le_of_ble_eq_true rfl, Nat.le_of_ble_eq_true rfl⟩ ⟨Nat.le_refl _, Nat.le_refl _⟩ dX7_least_15) (fun r6 σ5 H locs h hw => ?_)
    refine lv_if_eq (tgt := 27) hx hb dX7_least_18 (by decide) (fun c7 => ?_) (fun c7 => ?_)
    · have h := h.1 c7
      refine lv_iconst (v := (-1)) hx hb dX7_least_27 (by decide) ?_
      exact q_iret M hw h dX7_least_28
    · have h := h.2 c7
      refine lv_iload_n hx hb dX7_least_21 rfl (lv_at hl 3 rfl) ?_
      refine lv_bipush (v := (-2)) hx hb dX7_least_22 (by decide) ?_
      refine lv_icmp_ge (tgt := 29) hx hb dX7_least_24 (by decide) (fun c8 => ?_) (fun c8 => ?_)
      · have h := h.1 c8
        refine lv_aload_n hx hb dX7_least_29 rfl (lv_at hl 0 rfl) ?_
        refine lv_iload_n hx hb dX7_least_30 rfl (lv_at hl 1 rfl) ?_
        refine lv_iload_n hx hb dX7_least_31 rfl (lv_at hl 2 rfl) ?_
        refine q_goI hw (q_runV (rest := []) M hw (ctX7_measures l hB hN a0 a1 σ5 _ h) mbX7_measures (ob_92 hN) rfl tw_828 rfl hl.1 rfl (Nat.le_of_ble_eq_true rfl) ⟨Nat.le_of_ble_eq_true rfl, Nat.le_of_ble_eq_true rfl⟩ ⟨Nat.le_refl _, Nat.le_refl _⟩ dX7_least_32) (fun r10 σ9 H locs h hw => ?_)
        refine lv_istore (lv' := [(4, .int r10), (0, .ref (yA Y 92)), (1, .int a0), (2, .int a1), (3, .int a2)]) hx hb dX7_least_35 hl (by decide) rfl (fun ls hl => ?_)
        refine lv_iload hx hb dX7_least_37 (lv_at hl 0 rfl) ?_
        refine lv_ldc (v := 1000000) hx hb hown (hT _ tw_832) dX7_least_39 ?_
        refine lv_icmp_eq (tgt := 49) hx hb dX7_least_41 (by decide) (fun c11 => ?_) (fun c11 => ?_)
        · have h := h.1 c11
          exact tX7_least_49 M hN r10 σ9 _ _ _ hw (lv_sub hl [0] rfl) h
        · have h := h.2 c11
          refine lv_iload_n hx hb dX7_least_44 rfl (lv_at hl 4 rfl) ?_
          refine lv_iconst (v := (-1)) hx hb dX7_least_45 (by decide) ?_
          refine lv_icmp_ne (tgt := 64) hx hb dX7_least_46 (by decide) (fun c12 => ?_) (fun c12 => ?_)
          · have h := h.2 c12
            refine lv_iload hx hb dX7_least_64 (lv_at hl 0 rfl) ?_
            refine lv_if_ne (tgt := 82) hx hb dX7_least_66 (by decide) (fun c13 => ?_) (fun c13 => ?_)
            · have h := h.2 c13
              refine lv_iload_n hx hb dX7_least_82 rfl (lv_at hl 4 rfl) ?_
              refine lv_bipush (v := (-2)) hx hb dX7_least_83 (by decide) ?_
              refine lv_icmp_ne (tgt := 101) hx hb dX7_least_85 (by decide) (fun c14 => ?_) (fun c14 => ?_)
              · have h := h.2 c14
                refine lv_iconst (v := 0) hx hb dX7_least_101 (by decide) ?_
                refine lv_istore (lv' := [(5, .int 0), (4, .int r10), (0, .ref (yA Y 92)), (1, .int a0), (2, .int a1), (3, .int a2)]) hx hb dX7_least_102 hl (by decide) rfl (fun ls hl => ?_)
                refine lv_aload_n hx hb dX7_least_104 rfl (lv_at hl 2 rfl) ?_
                refine q_get (v := .ref (yA Y 100)) M hw (ob_92 hN) rfl inq_7 16 (by decide) tw_651 rfl dX7_least_105 ?_
                refine lv_iconst (v := 0) hx hb dX7_least_108 (by decide) ?_
                refine q_ild' 0 M hw (ar_100 hN) (by unfold vp_in; decide) (by decide) dX7_least_109 ?_
                refine lv_topi (fun x15 ex15 => ?_)
                have h := h x15 ex15
                refine lv_istore (lv' := [(6, .int x15), (5, .int 0), (4, .int r10), (0, .ref (yA Y 92)), (1, .int a0), (2, .int a1), (3, .int a2)]) hx hb dX7_least_110 hl (by decide) rfl (fun ls hl => ?_)
                obtain ⟨n, h⟩ := h
                exact tlX7_least_112 M hN n a2 r10 0 x15 σ9 _ _ _ hw (lv_sub hl [3, 6, 2, 1, 0] rfl) h
              · have h := h.1 c14
                refine lv_aload_n hx hb dX7_least_88 rfl (lv_at hl 1 rfl) ?_
                refine lv_aload_n hx hb dX7_least_89 rfl (lv_at hl 1 rfl) ?_
                refine q_get (v := .ref (yA Y 100)) M hw (ob_92 hN) rfl inq_7 16 (by decide) tw_651 rfl dX7_least_90 ?_
                refine lv_iconst (v := 0) hx hb dX7_least_93 (by decide) ?_
                refine q_ild' 0 M hw (ar_100 hN) (by unfold vp_in; decide) (by decide) dX7_least_94 ?_
                refine lv_iload hx hb dX7_least_95 (lv_at hl 0 rfl) ?_
                refine q_goI hw (q_runV (rest := []) M hw (ctX7_from l hB hN (σ9.1 100 0) r10 σ9 _ h) mbX7_from (ob_92 hN) rfl tw_837 rfl hl.1 rfl (Nat.le_of_ble_eq_true rfl) ⟨Nat.le_of_ble_eq_true rfl, Nat.le_of_ble_eq_true rfl⟩ ⟨Nat.le_refl _, Nat.le_refl _⟩ dX7_least_97) (fun r17 σ16 H locs h hw => ?_)
                exact q_iret M hw h dX7_least_100
            · have h := h.1 c13
              refine lv_iload_n hx hb dX7_least_69 rfl (lv_at hl 4 rfl) ?_
              refine lv_bipush (v := (-2)) hx hb dX7_least_70 (by decide) ?_
              refine lv_icmp_ne (tgt := 79) hx hb dX7_least_72 (by decide) (fun c18 => ?_) (fun c18 => ?_)
              · have h := h.2 c18
                refine lv_bipush (v := (-5)) hx hb dX7_least_79 (by decide) ?_
                exact q_iret M hw h dX7_least_81
              · have h := h.1 c18
                refine lv_iconst (v := 0) hx hb dX7_least_75 (by decide) ?_
                refine lv_goto (tgt := 81) hx hb dX7_least_76 (by decide) ?_
                exact q_iret M hw h dX7_least_81
          · have h := h.1 c12
            exact tX7_least_49 M hN r10 σ9 _ _ _ hw (lv_sub hl [0] rfl) h
      · have h := h.2 c8
        refine lv_iconst (v := (-1)) hx hb dX7_least_27 (by decide) ?_
        exact q_iret M hw h dX7_least_28
set_option maxRecDepth 100000 in
theorem ctX7_least (l : Launch) {Y : LY} (hB : YB Y) (hN : yN Y = 108) (a0 : Int32) (a1 : Int32) (a2 : Int32) (σ : St) (Q : Int32 → St → Prop) (h : wX7_least a0 a1 a2 σ Q) : CT l yX7_least (Cond.code yX7_least cX7_least 8 (some .int)) { frames := 3, cells := 0, slots := 0, locals := 69 } Y [.ref (yA Y 92), .int a0, .int a1, .int a2] σ (QI Y Q) :=
  q_ent hB (by decide +kernel) (Nat.le_of_ble_eq_true rfl) (fun p e s m below meth c ls M hw hl => tX7_least_E M hN a0 a1 a2 σ _ _ ls hw hl h)
theorem mbX7_least : MB RX7 yX7_least cX7_least 3 8 (some .int) := ⟨tw_825, tw_826, tw_56, tw_827, by decide +kernel⟩
end
section
variable {p : Program} {l : Launch} {e : Env} {s : State} {m : MethodId} {args : Array Value} {below : List Frame} {meth : Method} {c : Code} {Y : LY}
theorem dX7_soonest_0 : decode cX7_soonest 0 = .ok (.aload_n 0, 1) := by decide +kernel
theorem dX7_soonest_1 : decode cX7_soonest 1 = .ok (.iconst 0, 1) := by decide +kernel
theorem dX7_soonest_2 : decode cX7_soonest 2 = .ok (.putfield 62, 3) := by decide +kernel
theorem dX7_soonest_5 : decode cX7_soonest 5 = .ok (.aload_n 0, 1) := by decide +kernel
theorem dX7_soonest_6 : decode cX7_soonest 6 = .ok (.iload_n 1, 1) := by decide +kernel
theorem dX7_soonest_7 : decode cX7_soonest 7 = .ok (.invokevirtual 127, 3) := by decide +kernel
theorem dX7_soonest_10 : decode cX7_soonest 10 = .ok (.ifCond .eq 29, 3) := by decide +kernel
theorem dX7_soonest_13 : decode cX7_soonest 13 = .ok (.iload_n 2, 1) := by decide +kernel
theorem dX7_soonest_14 : decode cX7_soonest 14 = .ok (.iconst (-1), 1) := by decide +kernel
theorem dX7_soonest_15 : decode cX7_soonest 15 = .ok (.if_icmp .eq 11, 3) := by decide +kernel
theorem dX7_soonest_18 : decode cX7_soonest 18 = .ok (.aload_n 0, 1) := by decide +kernel
theorem dX7_soonest_19 : decode cX7_soonest 19 = .ok (.iload_n 2, 1) := by decide +kernel
theorem dX7_soonest_20 : decode cX7_soonest 20 = .ok (.invokevirtual 127, 3) := by decide +kernel
theorem dX7_soonest_23 : decode cX7_soonest 23 = .ok (.ifCond .eq 16, 3) := by decide +kernel
theorem dX7_soonest_26 : decode cX7_soonest 26 = .ok (.iload_n 1, 1) := by decide +kernel
theorem dX7_soonest_27 : decode cX7_soonest 27 = .ok (.iload_n 2, 1) := by decide +kernel
theorem dX7_soonest_28 : decode cX7_soonest 28 = .ok (.if_icmp .eq 11, 3) := by decide +kernel
theorem dX7_soonest_31 : decode cX7_soonest 31 = .ok (.aload_n 0, 1) := by decide +kernel
theorem dX7_soonest_32 : decode cX7_soonest 32 = .ok (.iload_n 3, 1) := by decide +kernel
theorem dX7_soonest_33 : decode cX7_soonest 33 = .ok (.invokevirtual 130, 3) := by decide +kernel
theorem dX7_soonest_36 : decode cX7_soonest 36 = .ok (.ifCond .ne 5, 3) := by decide +kernel
theorem dX7_soonest_39 : decode cX7_soonest 39 = .ok (.iconst (-1), 1) := by decide +kernel
theorem dX7_soonest_40 : decode cX7_soonest 40 = .ok (.ireturn, 1) := by decide +kernel
theorem dX7_soonest_41 : decode cX7_soonest 41 = .ok (.aload_n 0, 1) := by decide +kernel
theorem dX7_soonest_42 : decode cX7_soonest 42 = .ok (.getfield 32, 3) := by decide +kernel
theorem dX7_soonest_45 : decode cX7_soonest 45 = .ok (.bipush 6, 2) := by decide +kernel
theorem dX7_soonest_47 : decode cX7_soonest 47 = .ok (.iload_n 3, 1) := by decide +kernel
theorem dX7_soonest_48 : decode cX7_soonest 48 = .ok (.iadd, 1) := by decide +kernel
theorem dX7_soonest_49 : decode cX7_soonest 49 = .ok (.iaload, 1) := by decide +kernel
theorem dX7_soonest_50 : decode cX7_soonest 50 = .ok (.istore 4, 2) := by decide +kernel
theorem dX7_soonest_52 : decode cX7_soonest 52 = .ok (.aload_n 0, 1) := by decide +kernel
theorem dX7_soonest_53 : decode cX7_soonest 53 = .ok (.getfield 32, 3) := by decide +kernel
theorem dX7_soonest_56 : decode cX7_soonest 56 = .ok (.iconst 1, 1) := by decide +kernel
theorem dX7_soonest_57 : decode cX7_soonest 57 = .ok (.iload_n 1, 1) := by decide +kernel
theorem dX7_soonest_58 : decode cX7_soonest 58 = .ok (.iadd, 1) := by decide +kernel
theorem dX7_soonest_59 : decode cX7_soonest 59 = .ok (.iaload, 1) := by decide +kernel
theorem dX7_soonest_60 : decode cX7_soonest 60 = .ok (.istore 5, 2) := by decide +kernel
theorem dX7_soonest_62 : decode cX7_soonest 62 = .ok (.iload_n 2, 1) := by decide +kernel
theorem dX7_soonest_63 : decode cX7_soonest 63 = .ok (.iconst (-1), 1) := by decide +kernel
theorem dX7_soonest_64 : decode cX7_soonest 64 = .ok (.if_icmp .ne 7, 3) := by decide +kernel
theorem dX7_soonest_67 : decode cX7_soonest 67 = .ok (.iconst 0, 1) := by decide +kernel
theorem dX7_soonest_68 : decode cX7_soonest 68 = .ok (.goto 11, 3) := by decide +kernel
theorem dX7_soonest_71 : decode cX7_soonest 71 = .ok (.aload_n 0, 1) := by decide +kernel
theorem dX7_soonest_72 : decode cX7_soonest 72 = .ok (.getfield 32, 3) := by decide +kernel
theorem dX7_soonest_75 : decode cX7_soonest 75 = .ok (.iconst 1, 1) := by decide +kernel
theorem dX7_soonest_76 : decode cX7_soonest 76 = .ok (.iload_n 2, 1) := by decide +kernel
theorem dX7_soonest_77 : decode cX7_soonest 77 = .ok (.iadd, 1) := by decide +kernel
theorem dX7_soonest_78 : decode cX7_soonest 78 = .ok (.iaload, 1) := by decide +kernel
theorem dX7_soonest_79 : decode cX7_soonest 79 = .ok (.istore 6, 2) := by decide +kernel
theorem dX7_soonest_81 : decode cX7_soonest 81 = .ok (.iload 4, 2) := by decide +kernel
theorem dX7_soonest_83 : decode cX7_soonest 83 = .ok (.ifCond .ne 10, 3) := by decide +kernel
theorem dX7_soonest_86 : decode cX7_soonest 86 = .ok (.aload_n 0, 1) := by decide +kernel
theorem dX7_soonest_87 : decode cX7_soonest 87 = .ok (.getfield 32, 3) := by decide +kernel
theorem dX7_soonest_90 : decode cX7_soonest 90 = .ok (.iconst 0, 1) := by decide +kernel
theorem dX7_soonest_91 : decode cX7_soonest 91 = .ok (.iaload, 1) := by decide +kernel
theorem dX7_soonest_92 : decode cX7_soonest 92 = .ok (.ireturn, 1) := by decide +kernel
theorem dX7_soonest_93 : decode cX7_soonest 93 = .ok (.aload_n 0, 1) := by decide +kernel
theorem dX7_soonest_94 : decode cX7_soonest 94 = .ok (.getfield 32, 3) := by decide +kernel
theorem dX7_soonest_97 : decode cX7_soonest 97 = .ok (.iconst 0, 1) := by decide +kernel
theorem dX7_soonest_98 : decode cX7_soonest 98 = .ok (.iaload, 1) := by decide +kernel
theorem dX7_soonest_99 : decode cX7_soonest 99 = .ok (.istore 7, 2) := by decide +kernel
theorem dX7_soonest_101 : decode cX7_soonest 101 = .ok (.iload 7, 2) := by decide +kernel
theorem dX7_soonest_103 : decode cX7_soonest 103 = .ok (.bipush 100, 2) := by decide +kernel
theorem dX7_soonest_105 : decode cX7_soonest 105 = .ok (.if_icmp .ge 166, 3) := by decide +kernel
theorem dX7_soonest_108 : decode cX7_soonest 108 = .ok (.aload_n 0, 1) := by decide +kernel
theorem dX7_soonest_109 : decode cX7_soonest 109 = .ok (.iload 7, 2) := by decide +kernel
theorem dX7_soonest_111 : decode cX7_soonest 111 = .ok (.invokevirtual 133, 3) := by decide +kernel
theorem dX7_soonest_114 : decode cX7_soonest 114 = .ok (.istore 8, 2) := by decide +kernel
theorem dX7_soonest_116 : decode cX7_soonest 116 = .ok (.iload 8, 2) := by decide +kernel
theorem dX7_soonest_118 : decode cX7_soonest 118 = .ok (.ifCond .le 14, 3) := by decide +kernel
theorem dX7_soonest_121 : decode cX7_soonest 121 = .ok (.iload 5, 2) := by decide +kernel
theorem dX7_soonest_123 : decode cX7_soonest 123 = .ok (.iload 8, 2) := by decide +kernel
theorem dX7_soonest_125 : decode cX7_soonest 125 = .ok (.if_icmp .lt 7, 3) := by decide +kernel
theorem dX7_soonest_128 : decode cX7_soonest 128 = .ok (.iconst 1, 1) := by decide +kernel
theorem dX7_soonest_129 : decode cX7_soonest 129 = .ok (.goto 4, 3) := by decide +kernel
theorem dX7_soonest_132 : decode cX7_soonest 132 = .ok (.iconst 0, 1) := by decide +kernel
theorem dX7_soonest_133 : decode cX7_soonest 133 = .ok (.istore 9, 2) := by decide +kernel
theorem dX7_soonest_135 : decode cX7_soonest 135 = .ok (.iload 8, 2) := by decide +kernel
theorem dX7_soonest_137 : decode cX7_soonest 137 = .ok (.ifCond .le 19, 3) := by decide +kernel
theorem dX7_soonest_140 : decode cX7_soonest 140 = .ok (.iload_n 2, 1) := by decide +kernel
theorem dX7_soonest_141 : decode cX7_soonest 141 = .ok (.iconst (-1), 1) := by decide +kernel
theorem dX7_soonest_142 : decode cX7_soonest 142 = .ok (.if_icmp .eq 14, 3) := by decide +kernel
theorem dX7_soonest_145 : decode cX7_soonest 145 = .ok (.iload 6, 2) := by decide +kernel
theorem dX7_soonest_147 : decode cX7_soonest 147 = .ok (.iload 8, 2) := by decide +kernel
theorem dX7_soonest_149 : decode cX7_soonest 149 = .ok (.if_icmp .lt 7, 3) := by decide +kernel
theorem dX7_soonest_152 : decode cX7_soonest 152 = .ok (.iconst 1, 1) := by decide +kernel
theorem dX7_soonest_153 : decode cX7_soonest 153 = .ok (.goto 4, 3) := by decide +kernel
theorem dX7_soonest_156 : decode cX7_soonest 156 = .ok (.iconst 0, 1) := by decide +kernel
theorem dX7_soonest_157 : decode cX7_soonest 157 = .ok (.istore 10, 2) := by decide +kernel
theorem dX7_soonest_159 : decode cX7_soonest 159 = .ok (.iload 5, 2) := by decide +kernel
theorem dX7_soonest_161 : decode cX7_soonest 161 = .ok (.iload 9, 2) := by decide +kernel
theorem dX7_soonest_163 : decode cX7_soonest 163 = .ok (.ifCond .eq 8, 3) := by decide +kernel
theorem dX7_soonest_166 : decode cX7_soonest 166 = .ok (.iload 8, 2) := by decide +kernel
theorem dX7_soonest_168 : decode cX7_soonest 168 = .ok (.goto 4, 3) := by decide +kernel
theorem dX7_soonest_171 : decode cX7_soonest 171 = .ok (.iconst 0, 1) := by decide +kernel
theorem dX7_soonest_172 : decode cX7_soonest 172 = .ok (.isub, 1) := by decide +kernel
theorem dX7_soonest_173 : decode cX7_soonest 173 = .ok (.istore 5, 2) := by decide +kernel
theorem dX7_soonest_175 : decode cX7_soonest 175 = .ok (.iload 6, 2) := by decide +kernel
theorem dX7_soonest_177 : decode cX7_soonest 177 = .ok (.iload 10, 2) := by decide +kernel
theorem dX7_soonest_179 : decode cX7_soonest 179 = .ok (.ifCond .eq 8, 3) := by decide +kernel
theorem dX7_soonest_182 : decode cX7_soonest 182 = .ok (.iload 8, 2) := by decide +kernel
theorem dX7_soonest_184 : decode cX7_soonest 184 = .ok (.goto 4, 3) := by decide +kernel
theorem dX7_soonest_187 : decode cX7_soonest 187 = .ok (.iconst 0, 1) := by decide +kernel
theorem dX7_soonest_188 : decode cX7_soonest 188 = .ok (.isub, 1) := by decide +kernel
theorem dX7_soonest_189 : decode cX7_soonest 189 = .ok (.istore 6, 2) := by decide +kernel
theorem dX7_soonest_191 : decode cX7_soonest 191 = .ok (.iload 4, 2) := by decide +kernel
theorem dX7_soonest_193 : decode cX7_soonest 193 = .ok (.iload 9, 2) := by decide +kernel
theorem dX7_soonest_195 : decode cX7_soonest 195 = .ok (.ifCond .eq 25, 3) := by decide +kernel
theorem dX7_soonest_198 : decode cX7_soonest 198 = .ok (.aload_n 0, 1) := by decide +kernel
theorem dX7_soonest_199 : decode cX7_soonest 199 = .ok (.getfield 28, 3) := by decide +kernel
theorem dX7_soonest_202 : decode cX7_soonest 202 = .ok (.iload 7, 2) := by decide +kernel
theorem dX7_soonest_204 : decode cX7_soonest 204 = .ok (.baload, 1) := by decide +kernel
theorem dX7_soonest_205 : decode cX7_soonest 205 = .ok (.ifCond .ne 15, 3) := by decide +kernel
theorem dX7_soonest_208 : decode cX7_soonest 208 = .ok (.iload 8, 2) := by decide +kernel
theorem dX7_soonest_210 : decode cX7_soonest 210 = .ok (.aload_n 0, 1) := by decide +kernel
theorem dX7_soonest_211 : decode cX7_soonest 211 = .ok (.getfield 19, 3) := by decide +kernel
theorem dX7_soonest_214 : decode cX7_soonest 214 = .ok (.iload_n 1, 1) := by decide +kernel
theorem dX7_soonest_215 : decode cX7_soonest 215 = .ok (.iaload, 1) := by decide +kernel
theorem dX7_soonest_216 : decode cX7_soonest 216 = .ok (.imul, 1) := by decide +kernel
theorem dX7_soonest_217 : decode cX7_soonest 217 = .ok (.goto 4, 3) := by decide +kernel
theorem dX7_soonest_220 : decode cX7_soonest 220 = .ok (.iconst 0, 1) := by decide +kernel
theorem dX7_soonest_221 : decode cX7_soonest 221 = .ok (.isub, 1) := by decide +kernel
theorem dX7_soonest_222 : decode cX7_soonest 222 = .ok (.istore 4, 2) := by decide +kernel
theorem dX7_soonest_224 : decode cX7_soonest 224 = .ok (.iload 4, 2) := by decide +kernel
theorem dX7_soonest_226 : decode cX7_soonest 226 = .ok (.iload 10, 2) := by decide +kernel
theorem dX7_soonest_228 : decode cX7_soonest 228 = .ok (.ifCond .eq 25, 3) := by decide +kernel
theorem dX7_soonest_231 : decode cX7_soonest 231 = .ok (.aload_n 0, 1) := by decide +kernel
theorem dX7_soonest_232 : decode cX7_soonest 232 = .ok (.getfield 28, 3) := by decide +kernel
theorem dX7_soonest_235 : decode cX7_soonest 235 = .ok (.iload 7, 2) := by decide +kernel
theorem dX7_soonest_237 : decode cX7_soonest 237 = .ok (.baload, 1) := by decide +kernel
theorem dX7_soonest_238 : decode cX7_soonest 238 = .ok (.ifCond .ne 15, 3) := by decide +kernel
theorem dX7_soonest_241 : decode cX7_soonest 241 = .ok (.iload 8, 2) := by decide +kernel
theorem dX7_soonest_243 : decode cX7_soonest 243 = .ok (.aload_n 0, 1) := by decide +kernel
theorem dX7_soonest_244 : decode cX7_soonest 244 = .ok (.getfield 19, 3) := by decide +kernel
theorem dX7_soonest_247 : decode cX7_soonest 247 = .ok (.iload_n 2, 1) := by decide +kernel
theorem dX7_soonest_248 : decode cX7_soonest 248 = .ok (.iaload, 1) := by decide +kernel
theorem dX7_soonest_249 : decode cX7_soonest 249 = .ok (.imul, 1) := by decide +kernel
theorem dX7_soonest_250 : decode cX7_soonest 250 = .ok (.goto 4, 3) := by decide +kernel
theorem dX7_soonest_253 : decode cX7_soonest 253 = .ok (.iconst 0, 1) := by decide +kernel
theorem dX7_soonest_254 : decode cX7_soonest 254 = .ok (.isub, 1) := by decide +kernel
theorem dX7_soonest_255 : decode cX7_soonest 255 = .ok (.istore 4, 2) := by decide +kernel
theorem dX7_soonest_257 : decode cX7_soonest 257 = .ok (.iload 4, 2) := by decide +kernel
theorem dX7_soonest_259 : decode cX7_soonest 259 = .ok (.ifCond .gt 6, 3) := by decide +kernel
theorem dX7_soonest_262 : decode cX7_soonest 262 = .ok (.iload 7, 2) := by decide +kernel
theorem dX7_soonest_264 : decode cX7_soonest 264 = .ok (.ireturn, 1) := by decide +kernel
theorem dX7_soonest_265 : decode cX7_soonest 265 = .ok (.iinc 7 1, 3) := by decide +kernel
theorem dX7_soonest_268 : decode cX7_soonest 268 = .ok (.goto (-167), 3) := by decide +kernel
theorem dX7_soonest_271 : decode cX7_soonest 271 = .ok (.bipush (-9), 2) := by decide +kernel
theorem dX7_soonest_273 : decode cX7_soonest 273 = .ok (.ireturn, 1) := by decide +kernel
def bX7_soonest_254 (R_101 : Int32 × Int32 × Int32 × Int32 × Int32 × Int32 × St → Prop) (y1 : Int32) (y2 : Int32) (y5 : Int32) (y6 : Int32) (y7 : Int32) (z0 : Int32) (z1 : Int32) (σ : St) (Q : Int32 → St → Prop) : Prop :=
  (∀ x1 : Int32, x1 = (z1 - z0) → ((0 < x1 → (∀ x3 : Int32, x3 = y7 + 1 → R_101 (y1, y2, x1, y5, y6, x3, σ))) ∧ (¬ 0 < x1 → Q y7 σ)))
set_option maxHeartbeats 4000000 in
set_option maxRecDepth 100000 in
theorem tX7_soonest_254 {R_101 : Int32 × Int32 × Int32 × Int32 × Int32 × Int32 × St → Prop} {Q : Int32 → St → Prop} (M : MC p s m args meth c cX7_soonest 11 (some .int) RX7 Y) (hN : yN Y = 108) (hR_101 : ∀ (y1 y2 y4 y5 y6 y7 : Int32) (σ : St) (H : Heap) (locs : List Loc) (ls : Array Slot), WS Y (AD Y) s.heap σ H locs → lv_has ls 11 [(0, .ref (yA Y 92)), (1, .int y1), (2, .int y2), (4, .int y4), (5, .int y5), (6, .int y6), (7, .int y7)] → R_101 (y1, y2, y4, y5, y6, y7, σ) → W p l e { frames := 2, cells := 0, slots := 0, locals := 43 } s m args below meth c H locs 0 0 (MQ below (QI Y Q) args s 0 0 (AD Y)) (F0 m 101 ls [])) (y1 : Int32) (y2 : Int32) (y5 : Int32) (y6 : Int32) (y7 : Int32) (z0 : Int32) (z1 : Int32) (σ : St) (H : Heap) (locs : List Loc) (ls : Array Slot) (hw : WS Y (AD Y) s.heap σ H locs) (hl : lv_has ls 11 [(0, .ref (yA Y 92)), (1, .int y1), (2, .int y2), (5, .int y5), (6, .int y6), (7, .int y7)]) (h : bX7_soonest_254 R_101 y1 y2 y5 y6 y7 z0 z1 σ Q) : W p l e { frames := 2, cells := 0, slots := 0, locals := 43 } s m args below meth c H locs 0 0 (MQ below (QI Y Q) args s 0 0 (AD Y)) (F0 m 254 ls [.int z0, .int z1]) := by
  obtain ⟨hx, hb, hr, hml, hown, hlk, hT, hK, hB⟩ := id M
  unfold bX7_soonest_254 at h
  refine lv_isub hx hb dX7_soonest_254 ?_
  refine lv_topi (fun x1 ex1 => ?_)
  have h := h x1 ex1
  refine lv_istore (lv' := [(4, .int x1), (0, .ref (yA Y 92)), (1, .int y1), (2, .int y2), (5, .int y5), (6, .int y6), (7, .int y7)]) hx hb dX7_soonest_255 hl (by decide) rfl (fun ls hl => ?_)
  refine lv_iload hx hb dX7_soonest_257 (lv_at hl 0 rfl) ?_
  refine lv_if_gt (tgt := 265) hx hb dX7_soonest_259 (by decide) (fun c2 => ?_) (fun c2 => ?_)
  · have h := h.1 c2
    obtain ⟨x3, ex3⟩ : ∃ y : Int32, y = y7 + 1 := ⟨_, rfl⟩
    have h := h x3 ex3
    refine lv_iinc (v := x3) (lv' := [(7, .int x3), (4, .int x1), (0, .ref (yA Y 92)), (1, .int y1), (2, .int y2), (5, .int y5), (6, .int y6)]) hx hb dX7_soonest_265 hl (k := 6) rfl (by rw [ex3]; rfl) (by decide) rfl (fun ls hl => ?_)
    refine lv_goto (tgt := 101) hx hb dX7_soonest_268 (by decide) ?_
    exact hR_101 y1 y2 x1 y5 y6 x3 σ _ _ _ hw (lv_sub hl [2, 3, 4, 1, 5, 6, 0] rfl) h
  · have h := h.2 c2
    refine lv_iload hx hb dX7_soonest_262 (lv_at hl 6 rfl) ?_
    exact q_iret M hw h dX7_soonest_264
def bX7_soonest_253 (R_101 : Int32 × Int32 × Int32 × Int32 × Int32 × Int32 × St → Prop) (y1 : Int32) (y2 : Int32) (y5 : Int32) (y6 : Int32) (y7 : Int32) (z0 : Int32) (σ : St) (Q : Int32 → St → Prop) : Prop :=
  bX7_soonest_254 R_101 y1 y2 y5 y6 y7 0 z0 σ Q
set_option maxHeartbeats 4000000 in
set_option maxRecDepth 100000 in
theorem tX7_soonest_253 {R_101 : Int32 × Int32 × Int32 × Int32 × Int32 × Int32 × St → Prop} {Q : Int32 → St → Prop} (M : MC p s m args meth c cX7_soonest 11 (some .int) RX7 Y) (hN : yN Y = 108) (hR_101 : ∀ (y1 y2 y4 y5 y6 y7 : Int32) (σ : St) (H : Heap) (locs : List Loc) (ls : Array Slot), WS Y (AD Y) s.heap σ H locs → lv_has ls 11 [(0, .ref (yA Y 92)), (1, .int y1), (2, .int y2), (4, .int y4), (5, .int y5), (6, .int y6), (7, .int y7)] → R_101 (y1, y2, y4, y5, y6, y7, σ) → W p l e { frames := 2, cells := 0, slots := 0, locals := 43 } s m args below meth c H locs 0 0 (MQ below (QI Y Q) args s 0 0 (AD Y)) (F0 m 101 ls [])) (y1 : Int32) (y2 : Int32) (y5 : Int32) (y6 : Int32) (y7 : Int32) (z0 : Int32) (σ : St) (H : Heap) (locs : List Loc) (ls : Array Slot) (hw : WS Y (AD Y) s.heap σ H locs) (hl : lv_has ls 11 [(0, .ref (yA Y 92)), (1, .int y1), (2, .int y2), (5, .int y5), (6, .int y6), (7, .int y7)]) (h : bX7_soonest_253 R_101 y1 y2 y5 y6 y7 z0 σ Q) : W p l e { frames := 2, cells := 0, slots := 0, locals := 43 } s m args below meth c H locs 0 0 (MQ below (QI Y Q) args s 0 0 (AD Y)) (F0 m 253 ls [.int z0]) := by
  obtain ⟨hx, hb, hr, hml, hown, hlk, hT, hK, hB⟩ := id M
  unfold bX7_soonest_253 at h
  refine lv_iconst (v := 0) hx hb dX7_soonest_253 (by decide) ?_
  exact tX7_soonest_254 M hN hR_101 y1 y2 y5 y6 y7 0 z0 σ _ _ _ hw (lv_sub hl [0, 1, 2, 3, 4, 5] rfl) h
def bX7_soonest_221 (R_101 : Int32 × Int32 × Int32 × Int32 × Int32 × Int32 × St → Prop) (y1 : Int32) (y2 : Int32) (y5 : Int32) (y6 : Int32) (y7 : Int32) (y8 : Int32) (y10 : Int32) (z0 : Int32) (z1 : Int32) (σ : St) (Q : Int32 → St → Prop) : Prop :=
  (∀ x1 : Int32, x1 = (z1 - z0) → ((y10 = 0 → bX7_soonest_253 R_101 y1 y2 y5 y6 y7 x1 σ Q) ∧ (¬ y10 = 0 → (vp_in y7 200 ∧ (((σ.1 99 y7.toNatClampNeg) = 0 → (vp_in y2 10 ∧ bX7_soonest_254 R_101 y1 y2 y5 y6 y7 (y8 * (σ.1 96 y2.toNatClampNeg)) x1 σ Q)) ∧ (¬ (σ.1 99 y7.toNatClampNeg) = 0 → bX7_soonest_253 R_101 y1 y2 y5 y6 y7 x1 σ Q))))))
set_option maxHeartbeats 4000000 in
set_option maxRecDepth 100000 in
theorem tX7_soonest_221 {R_101 : Int32 × Int32 × Int32 × Int32 × Int32 × Int32 × St → Prop} {Q : Int32 → St → Prop} (M : MC p s m args meth c cX7_soonest 11 (some .int) RX7 Y) (hN : yN Y = 108) (hR_101 : ∀ (y1 y2 y4 y5 y6 y7 : Int32) (σ : St) (H : Heap) (locs : List Loc) (ls : Array Slot), WS Y (AD Y) s.heap σ H locs → lv_has ls 11 [(0, .ref (yA Y 92)), (1, .int y1), (2, .int y2), (4, .int y4), (5, .int y5), (6, .int y6), (7, .int y7)] → R_101 (y1, y2, y4, y5, y6, y7, σ) → W p l e { frames := 2, cells := 0, slots := 0, locals := 43 } s m args below meth c H locs 0 0 (MQ below (QI Y Q) args s 0 0 (AD Y)) (F0 m 101 ls [])) (y1 : Int32) (y2 : Int32) (y5 : Int32) (y6 : Int32) (y7 : Int32) (y8 : Int32) (y10 : Int32) (z0 : Int32) (z1 : Int32) (σ : St) (H : Heap) (locs : List Loc) (ls : Array Slot) (hw : WS Y (AD Y) s.heap σ H locs) (hl : lv_has ls 11 [(0, .ref (yA Y 92)), (1, .int y1), (2, .int y2), (5, .int y5), (6, .int y6), (7, .int y7), (8, .int y8), (10, .int y10)]) (h : bX7_soonest_221 R_101 y1 y2 y5 y6 y7 y8 y10 z0 z1 σ Q) : W p l e { frames := 2, cells := 0, slots := 0, locals := 43 } s m args below meth c H locs 0 0 (MQ below (QI Y Q) args s 0 0 (AD Y)) (F0 m 221 ls [.int z0, .int z1]) := by
  obtain ⟨hx, hb, hr, hml, hown, hlk, hT, hK, hB⟩ := id M
  unfold bX7_soonest_221 at h
  refine lv_isub hx hb dX7_soonest_221 ?_
  refine lv_topi (fun x1 ex1 => ?_)
  have h := h x1 ex1
  refine lv_istore (lv' := [(4, .int x1), (0, .ref (yA Y 92)), (1, .int y1), (2, .int y2), (5, .int y5), (6, .int y6), (7, .int y7), (8, .int y8), (10, .int y10)]) hx hb dX7_soonest_222 hl (by decide) rfl (fun ls hl => ?_)
  refine lv_iload hx hb dX7_soonest_224 (lv_at hl 0 rfl) ?_
  refine lv_iload hx hb dX7_soonest_226 (lv_at hl 8 rfl) ?_
  refine lv_if_eq (tgt := 253) hx hb dX7_soonest_228 (by decide) (fun c2 => ?_) (fun c2 => ?_)
  · have h := h.1 c2
    exact tX7_soonest_253 M hN hR_101 y1 y2 y5 y6 y7 x1 σ _ _ _ hw (lv_sub hl [1, 2, 3, 4, 5, 6] rfl) h
  · have h := h.2 c2
    refine lv_aload_n hx hb dX7_soonest_231 rfl (lv_at hl 1 rfl) ?_
    refine q_get (v := .ref (yA Y 99)) M hw (ob_92 hN) rfl inq_7 15 (by decide) tw_650 rfl dX7_soonest_232 ?_
    refine lv_iload hx hb dX7_soonest_235 (lv_at hl 6 rfl) ?_
    have c3 := h.1
    have h := h.2
    refine q_zld M hw (ar_99 hN) c3 dX7_soonest_237 ?_
    refine lv_if_ne (tgt := 253) hx hb dX7_soonest_238 (by decide) (fun c4 => ?_) (fun c4 => ?_)
    · have h := h.2 c4
      exact tX7_soonest_253 M hN hR_101 y1 y2 y5 y6 y7 x1 σ _ _ _ hw (lv_sub hl [1, 2, 3, 4, 5, 6] rfl) h
    · have h := h.1 c4
      refine lv_iload hx hb dX7_soonest_241 (lv_at hl 7 rfl) ?_
      refine lv_aload_n hx hb dX7_soonest_243 rfl (lv_at hl 1 rfl) ?_
      refine q_get (v := .ref (yA Y 96)) M hw (ob_92 hN) rfl inq_7 12 (by decide) tw_647 rfl dX7_soonest_244 ?_
      refine lv_iload_n hx hb dX7_soonest_247 rfl (lv_at hl 3 rfl) ?_
      have c5 := h.1
      have h := h.2
      refine q_ild M hw (ar_96 hN) c5 dX7_soonest_248 ?_
      refine lv_imul hx hb dX7_soonest_249 ?_
      refine lv_goto (tgt := 254) hx hb dX7_soonest_250 (by decide) ?_
      exact tX7_soonest_254 M hN hR_101 y1 y2 y5 y6 y7 (y8 * (σ.1 96 y2.toNatClampNeg)) x1 σ _ _ _ hw (lv_sub hl [1, 2, 3, 4, 5, 6] rfl) h
def bX7_soonest_220 (R_101 : Int32 × Int32 × Int32 × Int32 × Int32 × Int32 × St → Prop) (y1 : Int32) (y2 : Int32) (y5 : Int32) (y6 : Int32) (y7 : Int32) (y8 : Int32) (y10 : Int32) (z0 : Int32) (σ : St) (Q : Int32 → St → Prop) : Prop :=
  bX7_soonest_221 R_101 y1 y2 y5 y6 y7 y8 y10 0 z0 σ Q
set_option maxHeartbeats 4000000 in
set_option maxRecDepth 100000 in
theorem tX7_soonest_220 {R_101 : Int32 × Int32 × Int32 × Int32 × Int32 × Int32 × St → Prop} {Q : Int32 → St → Prop} (M : MC p s m args meth c cX7_soonest 11 (some .int) RX7 Y) (hN : yN Y = 108) (hR_101 : ∀ (y1 y2 y4 y5 y6 y7 : Int32) (σ : St) (H : Heap) (locs : List Loc) (ls : Array Slot), WS Y (AD Y) s.heap σ H locs → lv_has ls 11 [(0, .ref (yA Y 92)), (1, .int y1), (2, .int y2), (4, .int y4), (5, .int y5), (6, .int y6), (7, .int y7)] → R_101 (y1, y2, y4, y5, y6, y7, σ) → W p l e { frames := 2, cells := 0, slots := 0, locals := 43 } s m args below meth c H locs 0 0 (MQ below (QI Y Q) args s 0 0 (AD Y)) (F0 m 101 ls [])) (y1 : Int32) (y2 : Int32) (y5 : Int32) (y6 : Int32) (y7 : Int32) (y8 : Int32) (y10 : Int32) (z0 : Int32) (σ : St) (H : Heap) (locs : List Loc) (ls : Array Slot) (hw : WS Y (AD Y) s.heap σ H locs) (hl : lv_has ls 11 [(0, .ref (yA Y 92)), (1, .int y1), (2, .int y2), (5, .int y5), (6, .int y6), (7, .int y7), (8, .int y8), (10, .int y10)]) (h : bX7_soonest_220 R_101 y1 y2 y5 y6 y7 y8 y10 z0 σ Q) : W p l e { frames := 2, cells := 0, slots := 0, locals := 43 } s m args below meth c H locs 0 0 (MQ below (QI Y Q) args s 0 0 (AD Y)) (F0 m 220 ls [.int z0]) := by
  obtain ⟨hx, hb, hr, hml, hown, hlk, hT, hK, hB⟩ := id M
  unfold bX7_soonest_220 at h
  refine lv_iconst (v := 0) hx hb dX7_soonest_220 (by decide) ?_
  exact tX7_soonest_221 M hN hR_101 y1 y2 y5 y6 y7 y8 y10 0 z0 σ _ _ _ hw (lv_sub hl [0, 1, 2, 3, 4, 5, 6, 7] rfl) h
def bX7_soonest_188 (R_101 : Int32 × Int32 × Int32 × Int32 × Int32 × Int32 × St → Prop) (y1 : Int32) (y2 : Int32) (y4 : Int32) (y5 : Int32) (y7 : Int32) (y8 : Int32) (y9 : Int32) (y10 : Int32) (z0 : Int32) (z1 : Int32) (σ : St) (Q : Int32 → St → Prop) : Prop :=
  (∀ x1 : Int32, x1 = (z1 - z0) → ((y9 = 0 → bX7_soonest_220 R_101 y1 y2 y5 x1 y7 y8 y10 y4 σ Q) ∧ (¬ y9 = 0 → (vp_in y7 200 ∧ (((σ.1 99 y7.toNatClampNeg) = 0 → (vp_in y1 10 ∧ bX7_soonest_221 R_101 y1 y2 y5 x1 y7 y8 y10 (y8 * (σ.1 96 y1.toNatClampNeg)) y4 σ Q)) ∧ (¬ (σ.1 99 y7.toNatClampNeg) = 0 → bX7_soonest_220 R_101 y1 y2 y5 x1 y7 y8 y10 y4 σ Q))))))
set_option maxHeartbeats 4000000 in
set_option maxRecDepth 100000 in
theorem tX7_soonest_188 {R_101 : Int32 × Int32 × Int32 × Int32 × Int32 × Int32 × St → Prop} {Q : Int32 → St → Prop} (M : MC p s m args meth c cX7_soonest 11 (some .int) RX7 Y) (hN : yN Y = 108) (hR_101 : ∀ (y1 y2 y4 y5 y6 y7 : Int32) (σ : St) (H : Heap) (locs : List Loc) (ls : Array Slot), WS Y (AD Y) s.heap σ H locs → lv_has ls 11 [(0, .ref (yA Y 92)), (1, .int y1), (2, .int y2), (4, .int y4), (5, .int y5), (6, .int y6), (7, .int y7)] → R_101 (y1, y2, y4, y5, y6, y7, σ) → W p l e { frames := 2, cells := 0, slots := 0, locals := 43 } s m args below meth c H locs 0 0 (MQ below (QI Y Q) args s 0 0 (AD Y)) (F0 m 101 ls [])) (y1 : Int32) (y2 : Int32) (y4 : Int32) (y5 : Int32) (y7 : Int32) (y8 : Int32) (y9 : Int32) (y10 : Int32) (z0 : Int32) (z1 : Int32) (σ : St) (H : Heap) (locs : List Loc) (ls : Array Slot) (hw : WS Y (AD Y) s.heap σ H locs) (hl : lv_has ls 11 [(0, .ref (yA Y 92)), (1, .int y1), (2, .int y2), (4, .int y4), (5, .int y5), (7, .int y7), (8, .int y8), (9, .int y9), (10, .int y10)]) (h : bX7_soonest_188 R_101 y1 y2 y4 y5 y7 y8 y9 y10 z0 z1 σ Q) : W p l e { frames := 2, cells := 0, slots := 0, locals := 43 } s m args below meth c H locs 0 0 (MQ below (QI Y Q) args s 0 0 (AD Y)) (F0 m 188 ls [.int z0, .int z1]) := by
  obtain ⟨hx, hb, hr, hml, hown, hlk, hT, hK, hB⟩ := id M
  unfold bX7_soonest_188 at h
  refine lv_isub hx hb dX7_soonest_188 ?_
  refine lv_topi (fun x1 ex1 => ?_)
  have h := h x1 ex1
  refine lv_istore (lv' := [(6, .int x1), (0, .ref (yA Y 92)), (1, .int y1), (2, .int y2), (4, .int y4), (5, .int y5), (7, .int y7), (8, .int y8), (9, .int y9), (10, .int y10)]) hx hb dX7_soonest_189 hl (by decide) rfl (fun ls hl => ?_)
  refine lv_iload hx hb dX7_soonest_191 (lv_at hl 4 rfl) ?_
  refine lv_iload hx hb dX7_soonest_193 (lv_at hl 8 rfl) ?_
  refine lv_if_eq (tgt := 220) hx hb dX7_soonest_195 (by decide) (fun c2 => ?_) (fun c2 => ?_)
  · have h := h.1 c2
    exact tX7_soonest_220 M hN hR_101 y1 y2 y5 x1 y7 y8 y10 y4 σ _ _ _ hw (lv_sub hl [1, 2, 3, 5, 0, 6, 7, 9] rfl) h
  · have h := h.2 c2
    refine lv_aload_n hx hb dX7_soonest_198 rfl (lv_at hl 1 rfl) ?_
    refine q_get (v := .ref (yA Y 99)) M hw (ob_92 hN) rfl inq_7 15 (by decide) tw_650 rfl dX7_soonest_199 ?_
    refine lv_iload hx hb dX7_soonest_202 (lv_at hl 6 rfl) ?_
    have c3 := h.1
    have h := h.2
    refine q_zld M hw (ar_99 hN) c3 dX7_soonest_204 ?_
    refine lv_if_ne (tgt := 220) hx hb dX7_soonest_205 (by decide) (fun c4 => ?_) (fun c4 => ?_)
    · have h := h.2 c4
      exact tX7_soonest_220 M hN hR_101 y1 y2 y5 x1 y7 y8 y10 y4 σ _ _ _ hw (lv_sub hl [1, 2, 3, 5, 0, 6, 7, 9] rfl) h
    · have h := h.1 c4
      refine lv_iload hx hb dX7_soonest_208 (lv_at hl 7 rfl) ?_
      refine lv_aload_n hx hb dX7_soonest_210 rfl (lv_at hl 1 rfl) ?_
      refine q_get (v := .ref (yA Y 96)) M hw (ob_92 hN) rfl inq_7 12 (by decide) tw_647 rfl dX7_soonest_211 ?_
      refine lv_iload_n hx hb dX7_soonest_214 rfl (lv_at hl 2 rfl) ?_
      have c5 := h.1
      have h := h.2
      refine q_ild M hw (ar_96 hN) c5 dX7_soonest_215 ?_
      refine lv_imul hx hb dX7_soonest_216 ?_
      refine lv_goto (tgt := 221) hx hb dX7_soonest_217 (by decide) ?_
      exact tX7_soonest_221 M hN hR_101 y1 y2 y5 x1 y7 y8 y10 (y8 * (σ.1 96 y1.toNatClampNeg)) y4 σ _ _ _ hw (lv_sub hl [1, 2, 3, 5, 0, 6, 7, 9] rfl) h
def bX7_soonest_172 (R_101 : Int32 × Int32 × Int32 × Int32 × Int32 × Int32 × St → Prop) (y1 : Int32) (y2 : Int32) (y4 : Int32) (y6 : Int32) (y7 : Int32) (y8 : Int32) (y9 : Int32) (y10 : Int32) (z0 : Int32) (z1 : Int32) (σ : St) (Q : Int32 → St → Prop) : Prop :=
  (∀ x1 : Int32, x1 = (z1 - z0) → ((y10 = 0 → bX7_soonest_188 R_101 y1 y2 y4 x1 y7 y8 y9 y10 0 y6 σ Q) ∧ (¬ y10 = 0 → bX7_soonest_188 R_101 y1 y2 y4 x1 y7 y8 y9 y10 y8 y6 σ Q)))
set_option maxHeartbeats 4000000 in
set_option maxRecDepth 100000 in
theorem tX7_soonest_172 {R_101 : Int32 × Int32 × Int32 × Int32 × Int32 × Int32 × St → Prop} {Q : Int32 → St → Prop} (M : MC p s m args meth c cX7_soonest 11 (some .int) RX7 Y) (hN : yN Y = 108) (hR_101 : ∀ (y1 y2 y4 y5 y6 y7 : Int32) (σ : St) (H : Heap) (locs : List Loc) (ls : Array Slot), WS Y (AD Y) s.heap σ H locs → lv_has ls 11 [(0, .ref (yA Y 92)), (1, .int y1), (2, .int y2), (4, .int y4), (5, .int y5), (6, .int y6), (7, .int y7)] → R_101 (y1, y2, y4, y5, y6, y7, σ) → W p l e { frames := 2, cells := 0, slots := 0, locals := 43 } s m args below meth c H locs 0 0 (MQ below (QI Y Q) args s 0 0 (AD Y)) (F0 m 101 ls [])) (y1 : Int32) (y2 : Int32) (y4 : Int32) (y6 : Int32) (y7 : Int32) (y8 : Int32) (y9 : Int32) (y10 : Int32) (z0 : Int32) (z1 : Int32) (σ : St) (H : Heap) (locs : List Loc) (ls : Array Slot) (hw : WS Y (AD Y) s.heap σ H locs) (hl : lv_has ls 11 [(0, .ref (yA Y 92)), (1, .int y1), (2, .int y2), (4, .int y4), (6, .int y6), (7, .int y7), (8, .int y8), (9, .int y9), (10, .int y10)]) (h : bX7_soonest_172 R_101 y1 y2 y4 y6 y7 y8 y9 y10 z0 z1 σ Q) : W p l e { frames := 2, cells := 0, slots := 0, locals := 43 } s m args below meth c H locs 0 0 (MQ below (QI Y Q) args s 0 0 (AD Y)) (F0 m 172 ls [.int z0, .int z1]) := by
  obtain ⟨hx, hb, hr, hml, hown, hlk, hT, hK, hB⟩ := id M
  unfold bX7_soonest_172 at h
  refine lv_isub hx hb dX7_soonest_172 ?_
  refine lv_topi (fun x1 ex1 => ?_)
  have h := h x1 ex1
  refine lv_istore (lv' := [(5, .int x1), (0, .ref (yA Y 92)), (1, .int y1), (2, .int y2), (4, .int y4), (6, .int y6), (7, .int y7), (8, .int y8), (9, .int y9), (10, .int y10)]) hx hb dX7_soonest_173 hl (by decide) rfl (fun ls hl => ?_)
  refine lv_iload hx hb dX7_soonest_175 (lv_at hl 5 rfl) ?_
  refine lv_iload hx hb dX7_soonest_177 (lv_at hl 9 rfl) ?_
  refine lv_if_eq (tgt := 187) hx hb dX7_soonest_179 (by decide) (fun c2 => ?_) (fun c2 => ?_)
  · have h := h.1 c2
    refine lv_iconst (v := 0) hx hb dX7_soonest_187 (by decide) ?_
    exact tX7_soonest_188 M hN hR_101 y1 y2 y4 x1 y7 y8 y9 y10 0 y6 σ _ _ _ hw (lv_sub hl [1, 2, 3, 4, 0, 6, 7, 8, 9] rfl) h
  · have h := h.2 c2
    refine lv_iload hx hb dX7_soonest_182 (lv_at hl 7 rfl) ?_
    refine lv_goto (tgt := 188) hx hb dX7_soonest_184 (by decide) ?_
    exact tX7_soonest_188 M hN hR_101 y1 y2 y4 x1 y7 y8 y9 y10 y8 y6 σ _ _ _ hw (lv_sub hl [1, 2, 3, 4, 0, 6, 7, 8, 9] rfl) h
def bX7_soonest_157 (R_101 : Int32 × Int32 × Int32 × Int32 × Int32 × Int32 × St → Prop) (y1 : Int32) (y2 : Int32) (y4 : Int32) (y5 : Int32) (y6 : Int32) (y7 : Int32) (y8 : Int32) (y9 : Int32) (z0 : Int32) (σ : St) (Q : Int32 → St → Prop) : Prop :=
  ((y9 = 0 → bX7_soonest_172 R_101 y1 y2 y4 y6 y7 y8 y9 z0 0 y5 σ Q) ∧ (¬ y9 = 0 → bX7_soonest_172 R_101 y1 y2 y4 y6 y7 y8 y9 z0 y8 y5 σ Q))
set_option maxHeartbeats 4000000 in
set_option maxRecDepth 100000 in
theorem tX7_soonest_157 {R_101 : Int32 × Int32 × Int32 × Int32 × Int32 × Int32 × St → Prop} {Q : Int32 → St → Prop} (M : MC p s m args meth c cX7_soonest 11 (some .int) RX7 Y) (hN : yN Y = 108) (hR_101 : ∀ (y1 y2 y4 y5 y6 y7 : Int32) (σ : St) (H : Heap) (locs : List Loc) (ls : Array Slot), WS Y (AD Y) s.heap σ H locs → lv_has ls 11 [(0, .ref (yA Y 92)), (1, .int y1), (2, .int y2), (4, .int y4), (5, .int y5), (6, .int y6), (7, .int y7)] → R_101 (y1, y2, y4, y5, y6, y7, σ) → W p l e { frames := 2, cells := 0, slots := 0, locals := 43 } s m args below meth c H locs 0 0 (MQ below (QI Y Q) args s 0 0 (AD Y)) (F0 m 101 ls [])) (y1 : Int32) (y2 : Int32) (y4 : Int32) (y5 : Int32) (y6 : Int32) (y7 : Int32) (y8 : Int32) (y9 : Int32) (z0 : Int32) (σ : St) (H : Heap) (locs : List Loc) (ls : Array Slot) (hw : WS Y (AD Y) s.heap σ H locs) (hl : lv_has ls 11 [(0, .ref (yA Y 92)), (1, .int y1), (2, .int y2), (4, .int y4), (5, .int y5), (6, .int y6), (7, .int y7), (8, .int y8), (9, .int y9)]) (h : bX7_soonest_157 R_101 y1 y2 y4 y5 y6 y7 y8 y9 z0 σ Q) : W p l e { frames := 2, cells := 0, slots := 0, locals := 43 } s m args below meth c H locs 0 0 (MQ below (QI Y Q) args s 0 0 (AD Y)) (F0 m 157 ls [.int z0]) := by
  obtain ⟨hx, hb, hr, hml, hown, hlk, hT, hK, hB⟩ := id M
  unfold bX7_soonest_157 at h
  refine lv_istore (lv' := [(10, .int z0), (0, .ref (yA Y 92)), (1, .int y1), (2, .int y2), (4, .int y4), (5, .int y5), (6, .int y6), (7, .int y7), (8, .int y8), (9, .int y9)]) hx hb dX7_soonest_157 hl (by decide) rfl (fun ls hl => ?_)
  refine lv_iload hx hb dX7_soonest_159 (lv_at hl 5 rfl) ?_
  refine lv_iload hx hb dX7_soonest_161 (lv_at hl 9 rfl) ?_
  refine lv_if_eq (tgt := 171) hx hb dX7_soonest_163 (by decide) (fun c1 => ?_) (fun c1 => ?_)
  · have h := h.1 c1
    refine lv_iconst (v := 0) hx hb dX7_soonest_171 (by decide) ?_
    exact tX7_soonest_172 M hN hR_101 y1 y2 y4 y6 y7 y8 y9 z0 0 y5 σ _ _ _ hw (lv_sub hl [1, 2, 3, 4, 6, 7, 8, 9, 0] rfl) h
  · have h := h.2 c1
    refine lv_iload hx hb dX7_soonest_166 (lv_at hl 8 rfl) ?_
    refine lv_goto (tgt := 172) hx hb dX7_soonest_168 (by decide) ?_
    exact tX7_soonest_172 M hN hR_101 y1 y2 y4 y6 y7 y8 y9 z0 y8 y5 σ _ _ _ hw (lv_sub hl [1, 2, 3, 4, 6, 7, 8, 9, 0] rfl) h
def bX7_soonest_156 (R_101 : Int32 × Int32 × Int32 × Int32 × Int32 × Int32 × St → Prop) (y1 : Int32) (y2 : Int32) (y4 : Int32) (y5 : Int32) (y6 : Int32) (y7 : Int32) (y8 : Int32) (y9 : Int32) (σ : St) (Q : Int32 → St → Prop) : Prop :=
  bX7_soonest_157 R_101 y1 y2 y4 y5 y6 y7 y8 y9 0 σ Q
set_option maxHeartbeats 4000000 in
set_option maxRecDepth 100000 in
theorem tX7_soonest_156 {R_101 : Int32 × Int32 × Int32 × Int32 × Int32 × Int32 × St → Prop} {Q : Int32 → St → Prop} (M : MC p s m args meth c cX7_soonest 11 (some .int) RX7 Y) (hN : yN Y = 108) (hR_101 : ∀ (y1 y2 y4 y5 y6 y7 : Int32) (σ : St) (H : Heap) (locs : List Loc) (ls : Array Slot), WS Y (AD Y) s.heap σ H locs → lv_has ls 11 [(0, .ref (yA Y 92)), (1, .int y1), (2, .int y2), (4, .int y4), (5, .int y5), (6, .int y6), (7, .int y7)] → R_101 (y1, y2, y4, y5, y6, y7, σ) → W p l e { frames := 2, cells := 0, slots := 0, locals := 43 } s m args below meth c H locs 0 0 (MQ below (QI Y Q) args s 0 0 (AD Y)) (F0 m 101 ls [])) (y1 : Int32) (y2 : Int32) (y4 : Int32) (y5 : Int32) (y6 : Int32) (y7 : Int32) (y8 : Int32) (y9 : Int32) (σ : St) (H : Heap) (locs : List Loc) (ls : Array Slot) (hw : WS Y (AD Y) s.heap σ H locs) (hl : lv_has ls 11 [(0, .ref (yA Y 92)), (1, .int y1), (2, .int y2), (4, .int y4), (5, .int y5), (6, .int y6), (7, .int y7), (8, .int y8), (9, .int y9)]) (h : bX7_soonest_156 R_101 y1 y2 y4 y5 y6 y7 y8 y9 σ Q) : W p l e { frames := 2, cells := 0, slots := 0, locals := 43 } s m args below meth c H locs 0 0 (MQ below (QI Y Q) args s 0 0 (AD Y)) (F0 m 156 ls []) := by
  obtain ⟨hx, hb, hr, hml, hown, hlk, hT, hK, hB⟩ := id M
  unfold bX7_soonest_156 at h
  refine lv_iconst (v := 0) hx hb dX7_soonest_156 (by decide) ?_
  exact tX7_soonest_157 M hN hR_101 y1 y2 y4 y5 y6 y7 y8 y9 0 σ _ _ _ hw (lv_sub hl [0, 1, 2, 3, 4, 5, 6, 7, 8] rfl) h
def bX7_soonest_133 (R_101 : Int32 × Int32 × Int32 × Int32 × Int32 × Int32 × St → Prop) (y1 : Int32) (y2 : Int32) (y4 : Int32) (y5 : Int32) (y6 : Int32) (y7 : Int32) (y8 : Int32) (z0 : Int32) (σ : St) (Q : Int32 → St → Prop) : Prop :=
  ((y8 ≤ 0 → bX7_soonest_156 R_101 y1 y2 y4 y5 y6 y7 y8 z0 σ Q) ∧ (¬ y8 ≤ 0 → ((y2 = (-1) → bX7_soonest_156 R_101 y1 y2 y4 y5 y6 y7 y8 z0 σ Q) ∧ (¬ y2 = (-1) → ((y6 < y8 → bX7_soonest_156 R_101 y1 y2 y4 y5 y6 y7 y8 z0 σ Q) ∧ (¬ y6 < y8 → bX7_soonest_157 R_101 y1 y2 y4 y5 y6 y7 y8 z0 1 σ Q))))))
set_option maxHeartbeats 4000000 in
set_option maxRecDepth 100000 in
theorem tX7_soonest_133 {R_101 : Int32 × Int32 × Int32 × Int32 × Int32 × Int32 × St → Prop} {Q : Int32 → St → Prop} (M : MC p s m args meth c cX7_soonest 11 (some .int) RX7 Y) (hN : yN Y = 108) (hR_101 : ∀ (y1 y2 y4 y5 y6 y7 : Int32) (σ : St) (H : Heap) (locs : List Loc) (ls : Array Slot), WS Y (AD Y) s.heap σ H locs → lv_has ls 11 [(0, .ref (yA Y 92)), (1, .int y1), (2, .int y2), (4, .int y4), (5, .int y5), (6, .int y6), (7, .int y7)] → R_101 (y1, y2, y4, y5, y6, y7, σ) → W p l e { frames := 2, cells := 0, slots := 0, locals := 43 } s m args below meth c H locs 0 0 (MQ below (QI Y Q) args s 0 0 (AD Y)) (F0 m 101 ls [])) (y1 : Int32) (y2 : Int32) (y4 : Int32) (y5 : Int32) (y6 : Int32) (y7 : Int32) (y8 : Int32) (z0 : Int32) (σ : St) (H : Heap) (locs : List Loc) (ls : Array Slot) (hw : WS Y (AD Y) s.heap σ H locs) (hl : lv_has ls 11 [(0, .ref (yA Y 92)), (1, .int y1), (2, .int y2), (4, .int y4), (5, .int y5), (6, .int y6), (7, .int y7), (8, .int y8)]) (h : bX7_soonest_133 R_101 y1 y2 y4 y5 y6 y7 y8 z0 σ Q) : W p l e { frames := 2, cells := 0, slots := 0, locals := 43 } s m args below meth c H locs 0 0 (MQ below (QI Y Q) args s 0 0 (AD Y)) (F0 m 133 ls [.int z0]) := by
  obtain ⟨hx, hb, hr, hml, hown, hlk, hT, hK, hB⟩ := id M
  unfold bX7_soonest_133 at h
  refine lv_istore (lv' := [(9, .int z0), (0, .ref (yA Y 92)), (1, .int y1), (2, .int y2), (4, .int y4), (5, .int y5), (6, .int y6), (7, .int y7), (8, .int y8)]) hx hb dX7_soonest_133 hl (by decide) rfl (fun ls hl => ?_)
  refine lv_iload hx hb dX7_soonest_135 (lv_at hl 8 rfl) ?_
  refine lv_if_le (tgt := 156) hx hb dX7_soonest_137 (by decide) (fun c1 => ?_) (fun c1 => ?_)
  · have h := h.1 c1
    exact tX7_soonest_156 M hN hR_101 y1 y2 y4 y5 y6 y7 y8 z0 σ _ _ _ hw (lv_sub hl [1, 2, 3, 4, 5, 6, 7, 8, 0] rfl) h
  · have h := h.2 c1
    refine lv_iload_n hx hb dX7_soonest_140 rfl (lv_at hl 3 rfl) ?_
    refine lv_iconst (v := (-1)) hx hb dX7_soonest_141 (by decide) ?_
    refine lv_icmp_eq (tgt := 156) hx hb dX7_soonest_142 (by decide) (fun c2 => ?_) (fun c2 => ?_)
    · have h := h.1 c2
      exact tX7_soonest_156 M hN hR_101 y1 y2 y4 y5 y6 y7 y8 z0 σ _ _ _ hw (lv_sub hl [1, 2, 3, 4, 5, 6, 7, 8, 0] rfl) h
    · have h := h.2 c2
      refine lv_iload hx hb dX7_soonest_145 (lv_at hl 6 rfl) ?_
      refine lv_iload hx hb dX7_soonest_147 (lv_at hl 8 rfl) ?_
      refine lv_icmp_lt (tgt := 156) hx hb dX7_soonest_149 (by decide) (fun c3 => ?_) (fun c3 => ?_)
      · have h := h.1 c3
        exact tX7_soonest_156 M hN hR_101 y1 y2 y4 y5 y6 y7 y8 z0 σ _ _ _ hw (lv_sub hl [1, 2, 3, 4, 5, 6, 7, 8, 0] rfl) h
      · have h := h.2 c3
        refine lv_iconst (v := 1) hx hb dX7_soonest_152 (by decide) ?_
        refine lv_goto (tgt := 157) hx hb dX7_soonest_153 (by decide) ?_
        exact tX7_soonest_157 M hN hR_101 y1 y2 y4 y5 y6 y7 y8 z0 1 σ _ _ _ hw (lv_sub hl [1, 2, 3, 4, 5, 6, 7, 8, 0] rfl) h
def bX7_soonest_132 (R_101 : Int32 × Int32 × Int32 × Int32 × Int32 × Int32 × St → Prop) (y1 : Int32) (y2 : Int32) (y4 : Int32) (y5 : Int32) (y6 : Int32) (y7 : Int32) (y8 : Int32) (σ : St) (Q : Int32 → St → Prop) : Prop :=
  bX7_soonest_133 R_101 y1 y2 y4 y5 y6 y7 y8 0 σ Q
set_option maxHeartbeats 4000000 in
set_option maxRecDepth 100000 in
theorem tX7_soonest_132 {R_101 : Int32 × Int32 × Int32 × Int32 × Int32 × Int32 × St → Prop} {Q : Int32 → St → Prop} (M : MC p s m args meth c cX7_soonest 11 (some .int) RX7 Y) (hN : yN Y = 108) (hR_101 : ∀ (y1 y2 y4 y5 y6 y7 : Int32) (σ : St) (H : Heap) (locs : List Loc) (ls : Array Slot), WS Y (AD Y) s.heap σ H locs → lv_has ls 11 [(0, .ref (yA Y 92)), (1, .int y1), (2, .int y2), (4, .int y4), (5, .int y5), (6, .int y6), (7, .int y7)] → R_101 (y1, y2, y4, y5, y6, y7, σ) → W p l e { frames := 2, cells := 0, slots := 0, locals := 43 } s m args below meth c H locs 0 0 (MQ below (QI Y Q) args s 0 0 (AD Y)) (F0 m 101 ls [])) (y1 : Int32) (y2 : Int32) (y4 : Int32) (y5 : Int32) (y6 : Int32) (y7 : Int32) (y8 : Int32) (σ : St) (H : Heap) (locs : List Loc) (ls : Array Slot) (hw : WS Y (AD Y) s.heap σ H locs) (hl : lv_has ls 11 [(0, .ref (yA Y 92)), (1, .int y1), (2, .int y2), (4, .int y4), (5, .int y5), (6, .int y6), (7, .int y7), (8, .int y8)]) (h : bX7_soonest_132 R_101 y1 y2 y4 y5 y6 y7 y8 σ Q) : W p l e { frames := 2, cells := 0, slots := 0, locals := 43 } s m args below meth c H locs 0 0 (MQ below (QI Y Q) args s 0 0 (AD Y)) (F0 m 132 ls []) := by
  obtain ⟨hx, hb, hr, hml, hown, hlk, hT, hK, hB⟩ := id M
  unfold bX7_soonest_132 at h
  refine lv_iconst (v := 0) hx hb dX7_soonest_132 (by decide) ?_
  exact tX7_soonest_133 M hN hR_101 y1 y2 y4 y5 y6 y7 y8 0 σ _ _ _ hw (lv_sub hl [0, 1, 2, 3, 4, 5, 6, 7] rfl) h
def bX7_soonest_101 (R_101 : Int32 × Int32 × Int32 × Int32 × Int32 × Int32 × St → Prop) (y1 : Int32) (y2 : Int32) (y4 : Int32) (y5 : Int32) (y6 : Int32) (y7 : Int32) (σ : St) (Q : Int32 → St → Prop) : Prop :=
  ((100 ≤ y7 → Q (-9) σ) ∧ (¬ 100 ≤ y7 → wX7_moon y7 σ (fun r3 σ2 => ((r3 ≤ 0 → bX7_soonest_132 R_101 y1 y2 y4 y5 y6 y7 r3 σ2 Q) ∧ (¬ r3 ≤ 0 → ((y5 < r3 → bX7_soonest_132 R_101 y1 y2 y4 y5 y6 y7 r3 σ2 Q) ∧ (¬ y5 < r3 → bX7_soonest_133 R_101 y1 y2 y4 y5 y6 y7 r3 1 σ2 Q)))))))
set_option maxHeartbeats 4000000 in
set_option maxRecDepth 100000 in
theorem tX7_soonest_101 {R_101 : Int32 × Int32 × Int32 × Int32 × Int32 × Int32 × St → Prop} {Q : Int32 → St → Prop} (M : MC p s m args meth c cX7_soonest 11 (some .int) RX7 Y) (hN : yN Y = 108) (hR_101 : ∀ (y1 y2 y4 y5 y6 y7 : Int32) (σ : St) (H : Heap) (locs : List Loc) (ls : Array Slot), WS Y (AD Y) s.heap σ H locs → lv_has ls 11 [(0, .ref (yA Y 92)), (1, .int y1), (2, .int y2), (4, .int y4), (5, .int y5), (6, .int y6), (7, .int y7)] → R_101 (y1, y2, y4, y5, y6, y7, σ) → W p l e { frames := 2, cells := 0, slots := 0, locals := 43 } s m args below meth c H locs 0 0 (MQ below (QI Y Q) args s 0 0 (AD Y)) (F0 m 101 ls [])) (y1 : Int32) (y2 : Int32) (y4 : Int32) (y5 : Int32) (y6 : Int32) (y7 : Int32) (σ : St) (H : Heap) (locs : List Loc) (ls : Array Slot) (hw : WS Y (AD Y) s.heap σ H locs) (hl : lv_has ls 11 [(0, .ref (yA Y 92)), (1, .int y1), (2, .int y2), (4, .int y4), (5, .int y5), (6, .int y6), (7, .int y7)]) (h : bX7_soonest_101 R_101 y1 y2 y4 y5 y6 y7 σ Q) : W p l e { frames := 2, cells := 0, slots := 0, locals := 43 } s m args below meth c H locs 0 0 (MQ below (QI Y Q) args s 0 0 (AD Y)) (F0 m 101 ls []) := by
  obtain ⟨hx, hb, hr, hml, hown, hlk, hT, hK, hB⟩ := id M
  unfold bX7_soonest_101 at h
  refine lv_iload hx hb dX7_soonest_101 (lv_at hl 6 rfl) ?_
  refine lv_bipush (v := 100) hx hb dX7_soonest_103 (by decide) ?_
  refine lv_icmp_ge (tgt := 271) hx hb dX7_soonest_105 (by decide) (fun c1 => ?_) (fun c1 => ?_)
  · have h := h.1 c1
    refine lv_bipush (v := (-9)) hx hb dX7_soonest_271 (by decide) ?_
    exact q_iret M hw h dX7_soonest_273
  · have h := h.2 c1
    refine lv_aload_n hx hb dX7_soonest_108 rfl (lv_at hl 0 rfl) ?_
    refine lv_iload hx hb dX7_soonest_109 (lv_at hl 6 rfl) ?_
    refine q_goI hw (q_runV (rest := []) M hw (ctX7_moon l hB hN y7 σ _ h) mbX7_moon (ob_92 hN) rfl tw_780 rfl hl.1 rfl (Nat.le_of_ble_eq_true rfl) ⟨Nat.le_of_ble_eq_true rfl, Nat.le_of_ble_eq_true rfl⟩ ⟨Nat.le_refl _, Nat.le_refl _⟩ dX7_soonest_111) (fun r3 σ2 H locs h hw => ?_)
    refine lv_istore (lv' := [(8, .int r3), (0, .ref (yA Y 92)), (1, .int y1), (2, .int y2), (4, .int y4), (5, .int y5), (6, .int y6), (7, .int y7)]) hx hb dX7_soonest_114 hl (by decide) rfl (fun ls hl => ?_)
    refine lv_iload hx hb dX7_soonest_116 (lv_at hl 0 rfl) ?_
    refine lv_if_le (tgt := 132) hx hb dX7_soonest_118 (by decide) (fun c4 => ?_) (fun c4 => ?_)
    · have h := h.1 c4
      exact tX7_soonest_132 M hN hR_101 y1 y2 y4 y5 y6 y7 r3 σ2 _ _ _ hw (lv_sub hl [1, 2, 3, 4, 5, 6, 7, 0] rfl) h
    · have h := h.2 c4
      refine lv_iload hx hb dX7_soonest_121 (lv_at hl 5 rfl) ?_
      refine lv_iload hx hb dX7_soonest_123 (lv_at hl 0 rfl) ?_
      refine lv_icmp_lt (tgt := 132) hx hb dX7_soonest_125 (by decide) (fun c5 => ?_) (fun c5 => ?_)
      · have h := h.1 c5
        exact tX7_soonest_132 M hN hR_101 y1 y2 y4 y5 y6 y7 r3 σ2 _ _ _ hw (lv_sub hl [1, 2, 3, 4, 5, 6, 7, 0] rfl) h
      · have h := h.2 c5
        refine lv_iconst (v := 1) hx hb dX7_soonest_128 (by decide) ?_
        refine lv_goto (tgt := 133) hx hb dX7_soonest_129 (by decide) ?_
        exact tX7_soonest_133 M hN hR_101 y1 y2 y4 y5 y6 y7 r3 1 σ2 _ _ _ hw (lv_sub hl [1, 2, 3, 4, 5, 6, 7, 0] rfl) h
def lX7_soonest_101 (Q : Int32 → St → Prop) : (Int32 × Int32 × Int32 × Int32 × Int32 × Int32 × St → Prop) → Int32 × Int32 × Int32 × Int32 × Int32 × Int32 × St → Prop := fun R a => bX7_soonest_101 R a.1 a.2.1 a.2.2.1 a.2.2.2.1 a.2.2.2.2.1 a.2.2.2.2.2.1 a.2.2.2.2.2.2 Q
theorem tlX7_soonest_101 {Q : Int32 → St → Prop} (M : MC p s m args meth c cX7_soonest 11 (some .int) RX7 Y) (hN : yN Y = 108) (n : Nat) : ∀ (y1 : Int32) (y2 : Int32) (y4 : Int32) (y5 : Int32) (y6 : Int32) (y7 : Int32) (σ : St) (H : Heap) (locs : List Loc) (ls : Array Slot) (hw : WS Y (AD Y) s.heap σ H locs) (hl : lv_has ls 11 [(0, .ref (yA Y 92)), (1, .int y1), (2, .int y2), (4, .int y4), (5, .int y5), (6, .int y6), (7, .int y7)]) (h : Lp (lX7_soonest_101 Q) n (y1, y2, y4, y5, y6, y7, σ)), W p l e { frames := 2, cells := 0, slots := 0, locals := 43 } s m args below meth c H locs 0 0 (MQ below (QI Y Q) args s 0 0 (AD Y)) (F0 m 101 ls []) := by
  induction n with
  | zero => intro y1 y2 y4 y5 y6 y7 σ H locs ls hw hl h; exact h.elim
  | succ n ih =>
    intro y1 y2 y4 y5 y6 y7 σ H locs ls hw hl h
    exact tX7_soonest_101 M hN ih y1 y2 y4 y5 y6 y7 σ H locs ls hw hl h
def bX7_soonest_79 (y1 : Int32) (y2 : Int32) (y4 : Int32) (y5 : Int32) (z0 : Int32) (σ : St) (Q : Int32 → St → Prop) : Prop :=
  ((y4 = 0 → Q (σ.1 100 0) σ) ∧ (¬ y4 = 0 → (∀ x2 : Int32, x2 = (σ.1 100 0) → ∃ n : Nat, Lp (lX7_soonest_101 Q) n (y1, y2, y4, y5, z0, x2, σ))))
set_option maxHeartbeats 4000000 in
set_option maxRecDepth 100000 in
theorem tX7_soonest_79 {Q : Int32 → St → Prop} (M : MC p s m args meth c cX7_soonest 11 (some .int) RX7 Y) (hN : yN Y = 108) (y1 : Int32) (y2 : Int32) (y4 : Int32) (y5 : Int32) (z0 : Int32) (σ : St) (H : Heap) (locs : List Loc) (ls : Array Slot) (hw : WS Y (AD Y) s.heap σ H locs) (hl : lv_has ls 11 [(0, .ref (yA Y 92)), (1, .int y1), (2, .int y2), (4, .int y4), (5, .int y5)]) (h : bX7_soonest_79 y1 y2 y4 y5 z0 σ Q) : W p l e { frames := 2, cells := 0, slots := 0, locals := 43 } s m args below meth c H locs 0 0 (MQ below (QI Y Q) args s 0 0 (AD Y)) (F0 m 79 ls [.int z0]) := by
  obtain ⟨hx, hb, hr, hml, hown, hlk, hT, hK, hB⟩ := id M
  unfold bX7_soonest_79 at h
  refine lv_istore (lv' := [(6, .int z0), (0, .ref (yA Y 92)), (1, .int y1), (2, .int y2), (4, .int y4), (5, .int y5)]) hx hb dX7_soonest_79 hl (by decide) rfl (fun ls hl => ?_)
  refine lv_iload hx hb dX7_soonest_81 (lv_at hl 4 rfl) ?_
  refine lv_if_ne (tgt := 93) hx hb dX7_soonest_83 (by decide) (fun c1 => ?_) (fun c1 => ?_)
  · have h := h.2 c1
    refine lv_aload_n hx hb dX7_soonest_93 rfl (lv_at hl 1 rfl) ?_
    refine q_get (v := .ref (yA Y 100)) M hw (ob_92 hN) rfl inq_7 16 (by decide) tw_651 rfl dX7_soonest_94 ?_
    refine lv_iconst (v := 0) hx hb dX7_soonest_97 (by decide) ?_
    refine q_ild' 0 M hw (ar_100 hN) (by unfold vp_in; decide) (by decide) dX7_soonest_98 ?_
    refine lv_topi (fun x2 ex2 => ?_)
    have h := h x2 ex2
    refine lv_istore (lv' := [(7, .int x2), (6, .int z0), (0, .ref (yA Y 92)), (1, .int y1), (2, .int y2), (4, .int y4), (5, .int y5)]) hx hb dX7_soonest_99 hl (by decide) rfl (fun ls hl => ?_)
    obtain ⟨n, h⟩ := h
    exact tlX7_soonest_101 M hN n y1 y2 y4 y5 z0 x2 σ _ _ _ hw (lv_sub hl [2, 3, 4, 5, 6, 1, 0] rfl) h
  · have h := h.1 c1
    refine lv_aload_n hx hb dX7_soonest_86 rfl (lv_at hl 1 rfl) ?_
    refine q_get (v := .ref (yA Y 100)) M hw (ob_92 hN) rfl inq_7 16 (by decide) tw_651 rfl dX7_soonest_87 ?_
    refine lv_iconst (v := 0) hx hb dX7_soonest_90 (by decide) ?_
    refine q_ild' 0 M hw (ar_100 hN) (by unfold vp_in; decide) (by decide) dX7_soonest_91 ?_
    exact q_iret M hw h dX7_soonest_92
def bX7_soonest_26 (y1 : Int32) (y2 : Int32) (y3 : Int32) (σ : St) (Q : Int32 → St → Prop) : Prop :=
  ((y1 = y2 → Q (-1) σ) ∧ (¬ y1 = y2 → wX7_isStrip y3 σ (fun r3 σ2 => ((r3 = 0 → Q (-1) σ2) ∧ (¬ r3 = 0 → (vp_in (6 + y3) 27 ∧ (∀ x6 : Int32, x6 = (σ2.1 100 (6 + y3).toNatClampNeg) → (vp_in (1 + y1) 27 ∧ (∀ x8 : Int32, x8 = (σ2.1 100 (1 + y1).toNatClampNeg) → ((y2 = (-1) → bX7_soonest_79 y1 y2 x6 x8 0 σ2 Q) ∧ (¬ y2 = (-1) → (vp_in (1 + y2) 27 ∧ bX7_soonest_79 y1 y2 x6 x8 (σ2.1 100 (1 + y2).toNatClampNeg) σ2 Q))))))))))))
set_option maxHeartbeats 4000000 in
set_option maxRecDepth 100000 in
theorem tX7_soonest_26 {Q : Int32 → St → Prop} (M : MC p s m args meth c cX7_soonest 11 (some .int) RX7 Y) (hN : yN Y = 108) (y1 : Int32) (y2 : Int32) (y3 : Int32) (σ : St) (H : Heap) (locs : List Loc) (ls : Array Slot) (hw : WS Y (AD Y) s.heap σ H locs) (hl : lv_has ls 11 [(0, .ref (yA Y 92)), (1, .int y1), (2, .int y2), (3, .int y3)]) (h : bX7_soonest_26 y1 y2 y3 σ Q) : W p l e { frames := 2, cells := 0, slots := 0, locals := 43 } s m args below meth c H locs 0 0 (MQ below (QI Y Q) args s 0 0 (AD Y)) (F0 m 26 ls []) := by
  obtain ⟨hx, hb, hr, hml, hown, hlk, hT, hK, hB⟩ := id M
  unfold bX7_soonest_26 at h
  refine lv_iload_n hx hb dX7_soonest_26 rfl (lv_at hl 1 rfl) ?_
  refine lv_iload_n hx hb dX7_soonest_27 rfl (lv_at hl 2 rfl) ?_
  refine lv_icmp_eq (tgt := 39) hx hb dX7_soonest_28 (by decide) (fun c1 => ?_) (fun c1 => ?_)
  · have h := h.1 c1
    refine lv_iconst (v := (-1)) hx hb dX7_soonest_39 (by decide) ?_
    exact q_iret M hw h dX7_soonest_40
  · have h := h.2 c1
    refine lv_aload_n hx hb dX7_soonest_31 rfl (lv_at hl 0 rfl) ?_
    refine lv_iload_n hx hb dX7_soonest_32 rfl (lv_at hl 3 rfl) ?_
    refine q_goI hw (q_runV (rest := []) M hw (ctX7_isStrip l hB hN y3 σ _ h) mbX7_isStrip (ob_92 hN) rfl tw_772 rfl hl.1 rfl (Nat.le_of_ble_eq_true rfl) ⟨Nat.le_of_ble_eq_true rfl, Nat.le_of_ble_eq_true rfl⟩ ⟨Nat.le_refl _, Nat.le_refl _⟩ dX7_soonest_33) (fun r3 σ2 H locs h hw => ?_)
    refine lv_if_ne (tgt := 41) hx hb dX7_soonest_36 (by decide) (fun c4 => ?_) (fun c4 => ?_)
    · have h := h.2 c4
      refine lv_aload_n hx hb dX7_soonest_41 rfl (lv_at hl 0 rfl) ?_
      refine q_get (v := .ref (yA Y 100)) M hw (ob_92 hN) rfl inq_7 16 (by decide) tw_651 rfl dX7_soonest_42 ?_
      refine lv_bipush (v := 6) hx hb dX7_soonest_45 (by decide) ?_
      refine lv_iload_n hx hb dX7_soonest_47 rfl (lv_at hl 3 rfl) ?_
      refine lv_iadd hx hb dX7_soonest_48 ?_
      have c5 := h.1
      have h := h.2
      refine q_ild M hw (ar_100 hN) c5 dX7_soonest_49 ?_
      refine lv_topi (fun x6 ex6 => ?_)
      have h := h x6 ex6
      refine lv_istore (lv' := [(4, .int x6), (0, .ref (yA Y 92)), (1, .int y1), (2, .int y2), (3, .int y3)]) hx hb dX7_soonest_50 hl (by decide) rfl (fun ls hl => ?_)
      refine lv_aload_n hx hb dX7_soonest_52 rfl (lv_at hl 1 rfl) ?_
      refine q_get (v := .ref (yA Y 100)) M hw (ob_92 hN) rfl inq_7 16 (by decide) tw_651 rfl dX7_soonest_53 ?_
      refine lv_iconst (v := 1) hx hb dX7_soonest_56 (by decide) ?_
      refine lv_iload_n hx hb dX7_soonest_57 rfl (lv_at hl 2 rfl) ?_
      refine lv_iadd hx hb dX7_soonest_58 ?_
      have c7 := h.1
      have h := h.2
      refine q_ild M hw (ar_100 hN) c7 dX7_soonest_59 ?_
      refine lv_topi (fun x8 ex8 => ?_)
      have h := h x8 ex8
      refine lv_istore (lv' := [(5, .int x8), (4, .int x6), (0, .ref (yA Y 92)), (1, .int y1), (2, .int y2), (3, .int y3)]) hx hb dX7_soonest_60 hl (by decide) rfl (fun ls hl => ?_)
      refine lv_iload_n hx hb dX7_soonest_62 rfl (lv_at hl 4 rfl) ?_
      refine lv_iconst (v := (-1)) hx hb dX7_soonest_63 (by decide) ?_
      refine lv_icmp_ne (tgt := 71) hx hb dX7_soonest_64 (by decide) (fun c9 => ?_) (fun c9 => ?_)
      · have h := h.2 c9
        refine lv_aload_n hx hb dX7_soonest_71 rfl (lv_at hl 2 rfl) ?_
        refine q_get (v := .ref (yA Y 100)) M hw (ob_92 hN) rfl inq_7 16 (by decide) tw_651 rfl dX7_soonest_72 ?_
        refine lv_iconst (v := 1) hx hb dX7_soonest_75 (by decide) ?_
        refine lv_iload_n hx hb dX7_soonest_76 rfl (lv_at hl 4 rfl) ?_
        refine lv_iadd hx hb dX7_soonest_77 ?_
        have c10 := h.1
        have h := h.2
        refine q_ild M hw (ar_100 hN) c10 dX7_soonest_78 ?_
        exact tX7_soonest_79 M hN y1 y2 x6 x8 (σ2.1 100 (1 + y2).toNatClampNeg) σ2 _ _ _ hw (lv_sub hl [2, 3, 4, 1, 0] rfl) h
      · have h := h.1 c9
        refine lv_iconst (v := 0) hx hb dX7_soonest_67 (by decide) ?_
        refine lv_goto (tgt := 79) hx hb dX7_soonest_68 (by decide) ?_
        exact tX7_soonest_79 M hN y1 y2 x6 x8 0 σ2 _ _ _ hw (lv_sub hl [2, 3, 4, 1, 0] rfl) h
    · have h := h.1 c4
      refine lv_iconst (v := (-1)) hx hb dX7_soonest_39 (by decide) ?_
      exact q_iret M hw h dX7_soonest_40
def wX7_soonest (a0 : Int32) (a1 : Int32) (a2 : Int32) (σ : St) (Q : Int32 → St → Prop) : Prop :=
  (∀ σ1 : St, σ1 = up σ 92 0 0 → wX7_isFarmer a0 σ1 (fun r3 σ2 => ((r3 = 0 → Q (-1) σ2) ∧ (¬ r3 = 0 → ((a1 = (-1) → bX7_soonest_26 a0 a1 a2 σ2 Q) ∧ (¬ a1 = (-1) → wX7_isFarmer a1 σ2 (fun r7 σ6 => ((r7 = 0 → Q (-1) σ6) ∧ (¬ r7 = 0 → bX7_soonest_26 a0 a1 a2 σ6 Q)))))))))
set_option maxHeartbeats 4000000 in
set_option maxRecDepth 100000 in
theorem tX7_soonest_E {Q : Int32 → St → Prop} (M : MC p s m args meth c cX7_soonest 11 (some .int) RX7 Y) (hN : yN Y = 108) (a0 : Int32) (a1 : Int32) (a2 : Int32) (σ : St) (H : Heap) (locs : List Loc) (ls : Array Slot) (hw : WS Y (AD Y) s.heap σ H locs) (hl : lv_has ls 11 [(0, .ref (yA Y 92)), (1, .int a0), (2, .int a1), (3, .int a2)]) (h : wX7_soonest a0 a1 a2 σ Q) : W p l e { frames := 2, cells := 0, slots := 0, locals := 43 } s m args below meth c H locs 0 0 (MQ below (QI Y Q) args s 0 0 (AD Y)) (F0 m 0 ls []) := by
  obtain ⟨hx, hb, hr, hml, hown, hlk, hT, hK, hB⟩ := id M
  unfold wX7_soonest at h
  refine lv_aload_n hx hb dX7_soonest_0 rfl (lv_at hl 0 rfl) ?_
  refine lv_iconst (v := 0) hx hb dX7_soonest_1 (by decide) ?_
  refine q_put (v := 0) M hw (ob_92 hN) rfl inq_7 tyX7 tyX7_ok nmX7 0 (by decide) tw_635 rfl rfl rfl (Nat.le_of_ble_eq_true rfl) (by simp [up, upd, f0]) dX7_soonest_2 (fun σ1 H locs es hw => ?_)
  have h := h σ1 es
  refine lv_aload_n hx hb dX7_soonest_5 rfl (lv_at hl 0 rfl) ?_
  refine lv_iload_n hx hb dX7_soonest_6 rfl (lv_at hl 1 rfl) ?_
  refine q_goI hw (q_runV (rest := []) M hw (ctX7_isFarmer l hB hN a0 σ1 _ h) mbX7_isFarmer (ob_92 hN) rfl tw_764 rfl hl.1 rfl (Nat.le_of_ble_eq_true rfl) ⟨Nat.le_of_ble_eq_true rfl, Nat.le_of_ble_eq_true rfl⟩ ⟨Nat.le_refl _, Nat.le_refl _⟩ dX7_soonest_7) (fun r3 σ2 H locs h hw => ?_)
  refine lv_if_eq (tgt := 39) hx hb dX7_soonest_10 (by decide) (fun c4 => ?_) (fun c4 => ?_)
  · have h := h.1 c4
    refine lv_iconst (v := (-1)) hx hb dX7_soonest_39 (by decide) ?_
    exact q_iret M hw h dX7_soonest_40
  · have h := h.2 c4
    refine lv_iload_n hx hb dX7_soonest_13 rfl (lv_at hl 2 rfl) ?_
    refine lv_iconst (v := (-1)) hx hb dX7_soonest_14 (by decide) ?_
    refine lv_icmp_eq (tgt := 26) hx hb dX7_soonest_15 (by decide) (fun c5 => ?_) (fun c5 => ?_)
    · have h := h.1 c5
      exact tX7_soonest_26 M hN a0 a1 a2 σ2 _ _ _ hw (lv_sub hl [0, 1, 2, 3] rfl) h
    · have h := h.2 c5
      refine lv_aload_n hx hb dX7_soonest_18 rfl (lv_at hl 0 rfl) ?_
      refine lv_iload_n hx hb dX7_soonest_19 rfl (lv_at hl 2 rfl) ?_
      refine q_goI hw (q_runV (rest := []) M hw (ctX7_isFarmer l hB hN a1 σ2 _ h) mbX7_isFarmer (ob_92 hN) rfl tw_764 rfl hl.1 rfl (Nat.le_of_ble_eq_true rfl) ⟨Nat.le_of_ble_eq_true rfl, Nat.le_of_ble_eq_true rfl⟩ ⟨Nat.le_refl _, Nat.le_refl _⟩ dX7_soonest_20) (fun r7 σ6 H locs h hw => ?_)
      refine lv_if_eq (tgt := 39) hx hb dX7_soonest_23 (by decide) (fun c8 => ?_) (fun c8 => ?_)
      · have h := h.1 c8
        refine lv_iconst (v := (-1)) hx hb dX7_soonest_39 (by decide) ?_
        exact q_iret M hw h dX7_soonest_40
      · have h := h.2 c8
        exact tX7_soonest_26 M hN a0 a1 a2 σ6 _ _ _ hw (lv_sub hl [0, 1, 2, 3] rfl) h
set_option maxRecDepth 100000 in
theorem ctX7_soonest (l : Launch) {Y : LY} (hB : YB Y) (hN : yN Y = 108) (a0 : Int32) (a1 : Int32) (a2 : Int32) (σ : St) (Q : Int32 → St → Prop) (h : wX7_soonest a0 a1 a2 σ Q) : CT l yX7_soonest (Cond.code yX7_soonest cX7_soonest 11 (some .int)) { frames := 2, cells := 0, slots := 0, locals := 43 } Y [.ref (yA Y 92), .int a0, .int a1, .int a2] σ (QI Y Q) :=
  q_ent hB (by decide +kernel) (Nat.le_of_ble_eq_true rfl) (fun p e s m below meth c ls M hw hl => tX7_soonest_E M hN a0 a1 a2 σ _ _ ls hw hl h)
theorem mbX7_soonest : MB RX7 yX7_soonest cX7_soonest 3 11 (some .int) := ⟨tw_842, tw_843, tw_56, tw_844, by decide +kernel⟩
end
section
variable {p : Program} {l : Launch} {e : Env} {s : State} {m : MethodId} {args : Array Value} {below : List Frame} {meth : Method} {c : Code} {Y : LY}
theorem dX7_needOf_0 : decode cX7_needOf 0 = .ok (.iconst 0, 1) := by decide +kernel
theorem dX7_needOf_1 : decode cX7_needOf 1 = .ok (.istore_n 2, 1) := by decide +kernel
theorem dX7_needOf_2 : decode cX7_needOf 2 = .ok (.iconst 0, 1) := by decide +kernel
theorem dX7_needOf_3 : decode cX7_needOf 3 = .ok (.istore_n 3, 1) := by decide +kernel
theorem dX7_needOf_4 : decode cX7_needOf 4 = .ok (.iload_n 3, 1) := by decide +kernel
theorem dX7_needOf_5 : decode cX7_needOf 5 = .ok (.aload_n 0, 1) := by decide +kernel
theorem dX7_needOf_6 : decode cX7_needOf 6 = .ok (.getfield 13, 3) := by decide +kernel
theorem dX7_needOf_9 : decode cX7_needOf 9 = .ok (.iconst 1, 1) := by decide +kernel
theorem dX7_needOf_10 : decode cX7_needOf 10 = .ok (.iaload, 1) := by decide +kernel
theorem dX7_needOf_11 : decode cX7_needOf 11 = .ok (.if_icmp .ge 53, 3) := by decide +kernel
theorem dX7_needOf_14 : decode cX7_needOf 14 = .ok (.aload_n 0, 1) := by decide +kernel
theorem dX7_needOf_15 : decode cX7_needOf 15 = .ok (.getfield 32, 3) := by decide +kernel
theorem dX7_needOf_18 : decode cX7_needOf 18 = .ok (.bipush 13, 2) := by decide +kernel
theorem dX7_needOf_20 : decode cX7_needOf 20 = .ok (.iload_n 3, 1) := by decide +kernel
theorem dX7_needOf_21 : decode cX7_needOf 21 = .ok (.iadd, 1) := by decide +kernel
theorem dX7_needOf_22 : decode cX7_needOf 22 = .ok (.iaload, 1) := by decide +kernel
theorem dX7_needOf_23 : decode cX7_needOf 23 = .ok (.iload_n 1, 1) := by decide +kernel
theorem dX7_needOf_24 : decode cX7_needOf 24 = .ok (.if_icmp .ne 34, 3) := by decide +kernel
theorem dX7_needOf_27 : decode cX7_needOf 27 = .ok (.aload_n 0, 1) := by decide +kernel
theorem dX7_needOf_28 : decode cX7_needOf 28 = .ok (.iload_n 1, 1) := by decide +kernel
theorem dX7_needOf_29 : decode cX7_needOf 29 = .ok (.iload_n 3, 1) := by decide +kernel
theorem dX7_needOf_30 : decode cX7_needOf 30 = .ok (.invokevirtual 153, 3) := by decide +kernel
theorem dX7_needOf_33 : decode cX7_needOf 33 = .ok (.istore 4, 2) := by decide +kernel
theorem dX7_needOf_35 : decode cX7_needOf 35 = .ok (.iload 4, 2) := by decide +kernel
theorem dX7_needOf_37 : decode cX7_needOf 37 = .ok (.ldc 146, 2) := by decide +kernel
theorem dX7_needOf_39 : decode cX7_needOf 39 = .ok (.if_icmp .eq 9, 3) := by decide +kernel
theorem dX7_needOf_42 : decode cX7_needOf 42 = .ok (.iload_n 2, 1) := by decide +kernel
theorem dX7_needOf_43 : decode cX7_needOf 43 = .ok (.ldc 146, 2) := by decide +kernel
theorem dX7_needOf_45 : decode cX7_needOf 45 = .ok (.if_icmp .ne 8, 3) := by decide +kernel
theorem dX7_needOf_48 : decode cX7_needOf 48 = .ok (.ldc 146, 2) := by decide +kernel
theorem dX7_needOf_50 : decode cX7_needOf 50 = .ok (.goto 7, 3) := by decide +kernel
theorem dX7_needOf_53 : decode cX7_needOf 53 = .ok (.iload_n 2, 1) := by decide +kernel
theorem dX7_needOf_54 : decode cX7_needOf 54 = .ok (.iload 4, 2) := by decide +kernel
theorem dX7_needOf_56 : decode cX7_needOf 56 = .ok (.iadd, 1) := by decide +kernel
theorem dX7_needOf_57 : decode cX7_needOf 57 = .ok (.istore_n 2, 1) := by decide +kernel
theorem dX7_needOf_58 : decode cX7_needOf 58 = .ok (.iinc 3 1, 3) := by decide +kernel
theorem dX7_needOf_61 : decode cX7_needOf 61 = .ok (.goto (-57), 3) := by decide +kernel
theorem dX7_needOf_64 : decode cX7_needOf 64 = .ok (.iload_n 2, 1) := by decide +kernel
theorem dX7_needOf_65 : decode cX7_needOf 65 = .ok (.ireturn, 1) := by decide +kernel
def bX7_needOf_58 (R_4 : Int32 × Int32 × Int32 × St → Prop) (y1 : Int32) (y2 : Int32) (y3 : Int32) (σ : St) (Q : Int32 → St → Prop) : Prop :=
  (∀ x1 : Int32, x1 = y3 + 1 → R_4 (y1, y2, x1, σ))
set_option maxHeartbeats 4000000 in
set_option maxRecDepth 100000 in
theorem tX7_needOf_58 {R_4 : Int32 × Int32 × Int32 × St → Prop} {Q : Int32 → St → Prop} (M : MC p s m args meth c cX7_needOf 5 (some .int) RX7 Y) (hN : yN Y = 108) (hR_4 : ∀ (y1 y2 y3 : Int32) (σ : St) (H : Heap) (locs : List Loc) (ls : Array Slot), WS Y (AD Y) s.heap σ H locs → lv_has ls 5 [(0, .ref (yA Y 92)), (1, .int y1), (2, .int y2), (3, .int y3)] → R_4 (y1, y2, y3, σ) → W p l e { frames := 3, cells := 0, slots := 0, locals := 69 } s m args below meth c H locs 0 0 (MQ below (QI Y Q) args s 0 0 (AD Y)) (F0 m 4 ls [])) (y1 : Int32) (y2 : Int32) (y3 : Int32) (σ : St) (H : Heap) (locs : List Loc) (ls : Array Slot) (hw : WS Y (AD Y) s.heap σ H locs) (hl : lv_has ls 5 [(0, .ref (yA Y 92)), (1, .int y1), (2, .int y2), (3, .int y3)]) (h : bX7_needOf_58 R_4 y1 y2 y3 σ Q) : W p l e { frames := 3, cells := 0, slots := 0, locals := 69 } s m args below meth c H locs 0 0 (MQ below (QI Y Q) args s 0 0 (AD Y)) (F0 m 58 ls []) := by
  obtain ⟨hx, hb, hr, hml, hown, hlk, hT, hK, hB⟩ := id M
  unfold bX7_needOf_58 at h
  obtain ⟨x1, ex1⟩ : ∃ y : Int32, y = y3 + 1 := ⟨_, rfl⟩
  have h := h x1 ex1
  refine lv_iinc (v := x1) (lv' := [(3, .int x1), (0, .ref (yA Y 92)), (1, .int y1), (2, .int y2)]) hx hb dX7_needOf_58 hl (k := 3) rfl (by rw [ex1]; rfl) (by decide) rfl (fun ls hl => ?_)
  refine lv_goto (tgt := 4) hx hb dX7_needOf_61 (by decide) ?_
  exact hR_4 y1 y2 x1 σ _ _ _ hw (lv_sub hl [1, 2, 3, 0] rfl) h
def bX7_needOf_57 (R_4 : Int32 × Int32 × Int32 × St → Prop) (y1 : Int32) (y3 : Int32) (z0 : Int32) (σ : St) (Q : Int32 → St → Prop) : Prop :=
  bX7_needOf_58 R_4 y1 z0 y3 σ Q
set_option maxHeartbeats 4000000 in
set_option maxRecDepth 100000 in
theorem tX7_needOf_57 {R_4 : Int32 × Int32 × Int32 × St → Prop} {Q : Int32 → St → Prop} (M : MC p s m args meth c cX7_needOf 5 (some .int) RX7 Y) (hN : yN Y = 108) (hR_4 : ∀ (y1 y2 y3 : Int32) (σ : St) (H : Heap) (locs : List Loc) (ls : Array Slot), WS Y (AD Y) s.heap σ H locs → lv_has ls 5 [(0, .ref (yA Y 92)), (1, .int y1), (2, .int y2), (3, .int y3)] → R_4 (y1, y2, y3, σ) → W p l e { frames := 3, cells := 0, slots := 0, locals := 69 } s m args below meth c H locs 0 0 (MQ below (QI Y Q) args s 0 0 (AD Y)) (F0 m 4 ls [])) (y1 : Int32) (y3 : Int32) (z0 : Int32) (σ : St) (H : Heap) (locs : List Loc) (ls : Array Slot) (hw : WS Y (AD Y) s.heap σ H locs) (hl : lv_has ls 5 [(0, .ref (yA Y 92)), (1, .int y1), (3, .int y3)]) (h : bX7_needOf_57 R_4 y1 y3 z0 σ Q) : W p l e { frames := 3, cells := 0, slots := 0, locals := 69 } s m args below meth c H locs 0 0 (MQ below (QI Y Q) args s 0 0 (AD Y)) (F0 m 57 ls [.int z0]) := by
  obtain ⟨hx, hb, hr, hml, hown, hlk, hT, hK, hB⟩ := id M
  unfold bX7_needOf_57 at h
  refine lv_istore_n (lv' := [(2, .int z0), (0, .ref (yA Y 92)), (1, .int y1), (3, .int y3)]) hx hb dX7_needOf_57 rfl hl (by decide) rfl (fun ls hl => ?_)
  exact tX7_needOf_58 M hN hR_4 y1 z0 y3 σ _ _ _ hw (lv_sub hl [1, 2, 0, 3] rfl) h
def bX7_needOf_48 (R_4 : Int32 × Int32 × Int32 × St → Prop) (y1 : Int32) (y3 : Int32) (σ : St) (Q : Int32 → St → Prop) : Prop :=
  bX7_needOf_57 R_4 y1 y3 1000000 σ Q
set_option maxHeartbeats 4000000 in
set_option maxRecDepth 100000 in
theorem tX7_needOf_48 {R_4 : Int32 × Int32 × Int32 × St → Prop} {Q : Int32 → St → Prop} (M : MC p s m args meth c cX7_needOf 5 (some .int) RX7 Y) (hN : yN Y = 108) (hR_4 : ∀ (y1 y2 y3 : Int32) (σ : St) (H : Heap) (locs : List Loc) (ls : Array Slot), WS Y (AD Y) s.heap σ H locs → lv_has ls 5 [(0, .ref (yA Y 92)), (1, .int y1), (2, .int y2), (3, .int y3)] → R_4 (y1, y2, y3, σ) → W p l e { frames := 3, cells := 0, slots := 0, locals := 69 } s m args below meth c H locs 0 0 (MQ below (QI Y Q) args s 0 0 (AD Y)) (F0 m 4 ls [])) (y1 : Int32) (y3 : Int32) (σ : St) (H : Heap) (locs : List Loc) (ls : Array Slot) (hw : WS Y (AD Y) s.heap σ H locs) (hl : lv_has ls 5 [(0, .ref (yA Y 92)), (1, .int y1), (3, .int y3)]) (h : bX7_needOf_48 R_4 y1 y3 σ Q) : W p l e { frames := 3, cells := 0, slots := 0, locals := 69 } s m args below meth c H locs 0 0 (MQ below (QI Y Q) args s 0 0 (AD Y)) (F0 m 48 ls []) := by
  obtain ⟨hx, hb, hr, hml, hown, hlk, hT, hK, hB⟩ := id M
  unfold bX7_needOf_48 at h
  refine lv_ldc (v := 1000000) hx hb hown (hT _ tw_832) dX7_needOf_48 ?_
  refine lv_goto (tgt := 57) hx hb dX7_needOf_50 (by decide) ?_
  exact tX7_needOf_57 M hN hR_4 y1 y3 1000000 σ _ _ _ hw (lv_sub hl [0, 1, 2] rfl) h
def bX7_needOf_4 (R_4 : Int32 × Int32 × Int32 × St → Prop) (y1 : Int32) (y2 : Int32) (y3 : Int32) (σ : St) (Q : Int32 → St → Prop) : Prop :=
  (((σ.1 94 1) ≤ y3 → Q y2 σ) ∧ (¬ (σ.1 94 1) ≤ y3 → (vp_in (13 + y3) 27 ∧ (((σ.1 100 (13 + y3).toNatClampNeg) = y1 → wX7_measures y1 y3 σ (fun r5 σ4 => ((r5 = 1000000 → bX7_needOf_48 R_4 y1 y3 σ4 Q) ∧ (¬ r5 = 1000000 → ((y2 = 1000000 → bX7_needOf_48 R_4 y1 y3 σ4 Q) ∧ (¬ y2 = 1000000 → bX7_needOf_57 R_4 y1 y3 (y2 + r5) σ4 Q)))))) ∧ (¬ (σ.1 100 (13 + y3).toNatClampNeg) = y1 → bX7_needOf_58 R_4 y1 y2 y3 σ Q)))))
set_option maxHeartbeats 4000000 in
set_option maxRecDepth 100000 in
theorem tX7_needOf_4 {R_4 : Int32 × Int32 × Int32 × St → Prop} {Q : Int32 → St → Prop} (M : MC p s m args meth c cX7_needOf 5 (some .int) RX7 Y) (hN : yN Y = 108) (hR_4 : ∀ (y1 y2 y3 : Int32) (σ : St) (H : Heap) (locs : List Loc) (ls : Array Slot), WS Y (AD Y) s.heap σ H locs → lv_has ls 5 [(0, .ref (yA Y 92)), (1, .int y1), (2, .int y2), (3, .int y3)] → R_4 (y1, y2, y3, σ) → W p l e { frames := 3, cells := 0, slots := 0, locals := 69 } s m args below meth c H locs 0 0 (MQ below (QI Y Q) args s 0 0 (AD Y)) (F0 m 4 ls [])) (y1 : Int32) (y2 : Int32) (y3 : Int32) (σ : St) (H : Heap) (locs : List Loc) (ls : Array Slot) (hw : WS Y (AD Y) s.heap σ H locs) (hl : lv_has ls 5 [(0, .ref (yA Y 92)), (1, .int y1), (2, .int y2), (3, .int y3)]) (h : bX7_needOf_4 R_4 y1 y2 y3 σ Q) : W p l e { frames := 3, cells := 0, slots := 0, locals := 69 } s m args below meth c H locs 0 0 (MQ below (QI Y Q) args s 0 0 (AD Y)) (F0 m 4 ls []) := by
  obtain ⟨hx, hb, hr, hml, hown, hlk, hT, hK, hB⟩ := id M
  unfold bX7_needOf_4 at h
  refine lv_iload_n hx hb dX7_needOf_4 rfl (lv_at hl 3 rfl) ?_
  refine lv_aload_n hx hb dX7_needOf_5 rfl (lv_at hl 0 rfl) ?_
  refine q_get (v := .ref (yA Y 94)) M hw (ob_92 hN) rfl inq_7 9 (by decide) tw_644 rfl dX7_needOf_6 ?_
  refine lv_iconst (v := 1) hx hb dX7_needOf_9 (by decide) ?_
  refine q_ild' 1 M hw (ar_94 hN) (by unfold vp_in; decide) (by decide) dX7_needOf_10 ?_
  refine lv_icmp_ge (tgt := 64) hx hb dX7_needOf_11 (by decide) (fun c1 => ?_) (fun c1 => ?_)
  · have h := h.1 c1
    refine lv_iload_n hx hb dX7_needOf_64 rfl (lv_at hl 2 rfl) ?_
    exact q_iret M hw h dX7_needOf_65
  · have h := h.2 c1
    refine lv_aload_n hx hb dX7_needOf_14 rfl (lv_at hl 0 rfl) ?_
    refine q_get (v := .ref (yA Y 100)) M hw (ob_92 hN) rfl inq_7 16 (by decide) tw_651 rfl dX7_needOf_15 ?_
    refine lv_bipush (v := 13) hx hb dX7_needOf_18 (by decide) ?_
    refine lv_iload_n hx hb dX7_needOf_20 rfl (lv_at hl 3 rfl) ?_
    refine lv_iadd hx hb dX7_needOf_21 ?_
    have c2 := h.1
    have h := h.2
    refine q_ild M hw (ar_100 hN) c2 dX7_needOf_22 ?_
    refine lv_iload_n hx hb dX7_needOf_23 rfl (lv_at hl 1 rfl) ?_
    refine lv_icmp_ne (tgt := 58) hx hb dX7_needOf_24 (by decide) (fun c3 => ?_) (fun c3 => ?_)
    · have h := h.2 c3
      exact tX7_needOf_58 M hN hR_4 y1 y2 y3 σ _ _ _ hw (lv_sub hl [0, 1, 2, 3] rfl) h
    · have h := h.1 c3
      refine lv_aload_n hx hb dX7_needOf_27 rfl (lv_at hl 0 rfl) ?_
      refine lv_iload_n hx hb dX7_needOf_28 rfl (lv_at hl 1 rfl) ?_
      refine lv_iload_n hx hb dX7_needOf_29 rfl (lv_at hl 3 rfl) ?_
      refine q_goI hw (q_runV (rest := []) M hw (ctX7_measures l hB hN y1 y3 σ _ h) mbX7_measures (ob_92 hN) rfl tw_828 rfl hl.1 rfl (Nat.le_of_ble_eq_true rfl) ⟨Nat.le_of_ble_eq_true rfl, Nat.le_of_ble_eq_true rfl⟩ ⟨Nat.le_refl _, Nat.le_refl _⟩ dX7_needOf_30) (fun r5 σ4 H locs h hw => ?_)
      refine lv_istore (lv' := [(4, .int r5), (0, .ref (yA Y 92)), (1, .int y1), (2, .int y2), (3, .int y3)]) hx hb dX7_needOf_33 hl (by decide) rfl (fun ls hl => ?_)
      refine lv_iload hx hb dX7_needOf_35 (lv_at hl 0 rfl) ?_
      refine lv_ldc (v := 1000000) hx hb hown (hT _ tw_832) dX7_needOf_37 ?_
      refine lv_icmp_eq (tgt := 48) hx hb dX7_needOf_39 (by decide) (fun c6 => ?_) (fun c6 => ?_)
      · have h := h.1 c6
        exact tX7_needOf_48 M hN hR_4 y1 y3 σ4 _ _ _ hw (lv_sub hl [1, 2, 4] rfl) h
      · have h := h.2 c6
        refine lv_iload_n hx hb dX7_needOf_42 rfl (lv_at hl 3 rfl) ?_
        refine lv_ldc (v := 1000000) hx hb hown (hT _ tw_832) dX7_needOf_43 ?_
        refine lv_icmp_ne (tgt := 53) hx hb dX7_needOf_45 (by decide) (fun c7 => ?_) (fun c7 => ?_)
        · have h := h.2 c7
          refine lv_iload_n hx hb dX7_needOf_53 rfl (lv_at hl 3 rfl) ?_
          refine lv_iload hx hb dX7_needOf_54 (lv_at hl 0 rfl) ?_
          refine lv_iadd hx hb dX7_needOf_56 ?_
          exact tX7_needOf_57 M hN hR_4 y1 y3 (y2 + r5) σ4 _ _ _ hw (lv_sub hl [1, 2, 4] rfl) h
        · have h := h.1 c7
          exact tX7_needOf_48 M hN hR_4 y1 y3 σ4 _ _ _ hw (lv_sub hl [1, 2, 4] rfl) h
def lX7_needOf_4 (Q : Int32 → St → Prop) : (Int32 × Int32 × Int32 × St → Prop) → Int32 × Int32 × Int32 × St → Prop := fun R a => bX7_needOf_4 R a.1 a.2.1 a.2.2.1 a.2.2.2 Q
theorem tlX7_needOf_4 {Q : Int32 → St → Prop} (M : MC p s m args meth c cX7_needOf 5 (some .int) RX7 Y) (hN : yN Y = 108) (n : Nat) : ∀ (y1 : Int32) (y2 : Int32) (y3 : Int32) (σ : St) (H : Heap) (locs : List Loc) (ls : Array Slot) (hw : WS Y (AD Y) s.heap σ H locs) (hl : lv_has ls 5 [(0, .ref (yA Y 92)), (1, .int y1), (2, .int y2), (3, .int y3)]) (h : Lp (lX7_needOf_4 Q) n (y1, y2, y3, σ)), W p l e { frames := 3, cells := 0, slots := 0, locals := 69 } s m args below meth c H locs 0 0 (MQ below (QI Y Q) args s 0 0 (AD Y)) (F0 m 4 ls []) := by
  induction n with
  | zero => intro y1 y2 y3 σ H locs ls hw hl h; exact h.elim
  | succ n ih =>
    intro y1 y2 y3 σ H locs ls hw hl h
    exact tX7_needOf_4 M hN ih y1 y2 y3 σ H locs ls hw hl h
def wX7_needOf (a0 : Int32) (σ : St) (Q : Int32 → St → Prop) : Prop :=
  ∃ n : Nat, Lp (lX7_needOf_4 Q) n (a0, 0, 0, σ)
set_option maxHeartbeats 4000000 in
set_option maxRecDepth 100000 in
theorem tX7_needOf_E {Q : Int32 → St → Prop} (M : MC p s m args meth c cX7_needOf 5 (some .int) RX7 Y) (hN : yN Y = 108) (a0 : Int32) (σ : St) (H : Heap) (locs : List Loc) (ls : Array Slot) (hw : WS Y (AD Y) s.heap σ H locs) (hl : lv_has ls 5 [(0, .ref (yA Y 92)), (1, .int a0)]) (h : wX7_needOf a0 σ Q) : W p l e { frames := 3, cells := 0, slots := 0, locals := 69 } s m args below meth c H locs 0 0 (MQ below (QI Y Q) args s 0 0 (AD Y)) (F0 m 0 ls []) := by
  obtain ⟨hx, hb, hr, hml, hown, hlk, hT, hK, hB⟩ := id M
  unfold wX7_needOf at h
  refine lv_iconst (v := 0) hx hb dX7_needOf_0 (by decide) ?_
  refine lv_istore_n (lv' := [(2, .int 0), (0, .ref (yA Y 92)), (1, .int a0)]) hx hb dX7_needOf_1 rfl hl (by decide) rfl (fun ls hl => ?_)
  refine lv_iconst (v := 0) hx hb dX7_needOf_2 (by decide) ?_
  refine lv_istore_n (lv' := [(3, .int 0), (2, .int 0), (0, .ref (yA Y 92)), (1, .int a0)]) hx hb dX7_needOf_3 rfl hl (by decide) rfl (fun ls hl => ?_)
  obtain ⟨n, h⟩ := h
  exact tlX7_needOf_4 M hN n a0 0 0 σ _ _ _ hw (lv_sub hl [2, 3, 1, 0] rfl) h
set_option maxRecDepth 100000 in
theorem ctX7_needOf (l : Launch) {Y : LY} (hB : YB Y) (hN : yN Y = 108) (a0 : Int32) (σ : St) (Q : Int32 → St → Prop) (h : wX7_needOf a0 σ Q) : CT l yX7_needOf (Cond.code yX7_needOf cX7_needOf 5 (some .int)) { frames := 3, cells := 0, slots := 0, locals := 69 } Y [.ref (yA Y 92), .int a0] σ (QI Y Q) :=
  q_ent hB (by decide +kernel) (Nat.le_of_ble_eq_true rfl) (fun p e s m below meth c ls M hw hl => tX7_needOf_E M hN a0 σ _ _ ls hw hl h)
theorem mbX7_needOf : MB RX7 yX7_needOf cX7_needOf 1 5 (some .int) := ⟨tw_851, tw_46, tw_56, tw_852, by decide +kernel⟩
end
section
variable {p : Program} {l : Launch} {e : Env} {s : State} {m : MethodId} {args : Array Value} {below : List Frame} {meth : Method} {c : Code} {Y : LY}
theorem dX7_need_0 : decode cX7_need 0 = .ok (.aload_n 0, 1) := by decide +kernel
theorem dX7_need_1 : decode cX7_need 1 = .ok (.iconst 0, 1) := by decide +kernel
theorem dX7_need_2 : decode cX7_need 2 = .ok (.putfield 62, 3) := by decide +kernel
theorem dX7_need_5 : decode cX7_need 5 = .ok (.aload_n 0, 1) := by decide +kernel
theorem dX7_need_6 : decode cX7_need 6 = .ok (.iload_n 1, 1) := by decide +kernel
theorem dX7_need_7 : decode cX7_need 7 = .ok (.invokevirtual 127, 3) := by decide +kernel
theorem dX7_need_10 : decode cX7_need 10 = .ok (.ifCond .ne 5, 3) := by decide +kernel
theorem dX7_need_13 : decode cX7_need 13 = .ok (.iconst (-1), 1) := by decide +kernel
theorem dX7_need_14 : decode cX7_need 14 = .ok (.ireturn, 1) := by decide +kernel
theorem dX7_need_15 : decode cX7_need 15 = .ok (.aload_n 0, 1) := by decide +kernel
theorem dX7_need_16 : decode cX7_need 16 = .ok (.iload_n 1, 1) := by decide +kernel
theorem dX7_need_17 : decode cX7_need 17 = .ok (.invokevirtual 156, 3) := by decide +kernel
theorem dX7_need_20 : decode cX7_need 20 = .ok (.istore_n 2, 1) := by decide +kernel
theorem dX7_need_21 : decode cX7_need 21 = .ok (.iload_n 2, 1) := by decide +kernel
theorem dX7_need_22 : decode cX7_need 22 = .ok (.ldc 146, 2) := by decide +kernel
theorem dX7_need_24 : decode cX7_need 24 = .ok (.if_icmp .ne 8, 3) := by decide +kernel
theorem dX7_need_27 : decode cX7_need 27 = .ok (.bipush (-9), 2) := by decide +kernel
theorem dX7_need_29 : decode cX7_need 29 = .ok (.goto 4, 3) := by decide +kernel
theorem dX7_need_32 : decode cX7_need 32 = .ok (.iload_n 2, 1) := by decide +kernel
theorem dX7_need_33 : decode cX7_need 33 = .ok (.ireturn, 1) := by decide +kernel
def wX7_need (a0 : Int32) (σ : St) (Q : Int32 → St → Prop) : Prop :=
  (∀ σ1 : St, σ1 = up σ 92 0 0 → wX7_isFarmer a0 σ1 (fun r3 σ2 => ((r3 = 0 → Q (-1) σ2) ∧ (¬ r3 = 0 → wX7_needOf a0 σ2 (fun r6 σ5 => ((r6 = 1000000 → Q (-9) σ5) ∧ (¬ r6 = 1000000 → Q r6 σ5)))))))
set_option maxHeartbeats 4000000 in
set_option maxRecDepth 100000 in
theorem tX7_need_E {Q : Int32 → St → Prop} (M : MC p s m args meth c cX7_need 3 (some .int) RX7 Y) (hN : yN Y = 108) (a0 : Int32) (σ : St) (H : Heap) (locs : List Loc) (ls : Array Slot) (hw : WS Y (AD Y) s.heap σ H locs) (hl : lv_has ls 3 [(0, .ref (yA Y 92)), (1, .int a0)]) (h : wX7_need a0 σ Q) : W p l e { frames := 4, cells := 0, slots := 0, locals := 93 } s m args below meth c H locs 0 0 (MQ below (QI Y Q) args s 0 0 (AD Y)) (F0 m 0 ls []) := by
  obtain ⟨hx, hb, hr, hml, hown, hlk, hT, hK, hB⟩ := id M
  unfold wX7_need at h
  refine lv_aload_n hx hb dX7_need_0 rfl (lv_at hl 0 rfl) ?_
  refine lv_iconst (v := 0) hx hb dX7_need_1 (by decide) ?_
  refine q_put (v := 0) M hw (ob_92 hN) rfl inq_7 tyX7 tyX7_ok nmX7 0 (by decide) tw_635 rfl rfl rfl (Nat.le_of_ble_eq_true rfl) (by simp [up, upd, f0]) dX7_need_2 (fun σ1 H locs es hw => ?_)
  have h := h σ1 es
  refine lv_aload_n hx hb dX7_need_5 rfl (lv_at hl 0 rfl) ?_
  refine lv_iload_n hx hb dX7_need_6 rfl (lv_at hl 1 rfl) ?_
  refine q_goI hw (q_runV (rest := []) M hw (ctX7_isFarmer l hB hN a0 σ1 _ h) mbX7_isFarmer (ob_92 hN) rfl tw_764 rfl hl.1 rfl (Nat.le_of_ble_eq_true rfl) ⟨Nat.le_of_ble_eq_true rfl, Nat.le_of_ble_eq_true rfl⟩ ⟨Nat.le_refl _, Nat.le_refl _⟩ dX7_need_7) (fun r3 σ2 H locs h hw => ?_)
  refine lv_if_ne (tgt := 15) hx hb dX7_need_10 (by decide) (fun c4 => ?_) (fun c4 => ?_)
  · have h := h.2 c4
    refine lv_aload_n hx hb dX7_need_15 rfl (lv_at hl 0 rfl) ?_
    refine lv_iload_n hx hb dX7_need_16 rfl (lv_at hl 1 rfl) ?_
    refine q_goI hw (q_runV (rest := []) M hw (ctX7_needOf l hB hN a0 σ2 _ h) mbX7_needOf (ob_92 hN) rfl tw_849 rfl hl.1 rfl (Nat.le_of_ble_eq_true rfl) ⟨Nat.le_of_ble_eq_true rfl, Nat.le_of_ble_eq_true rfl⟩ ⟨Nat.le_refl _, Nat.le_refl _⟩ dX7_need_17) (fun r6 σ5 H locs h hw => ?_)
    refine lv_istore_n (lv' := [(2, .int r6), (0, .ref (yA Y 92)), (1, .int a0)]) hx hb dX7_need_20 rfl hl (by decide) rfl (fun ls hl => ?_)
    refine lv_iload_n hx hb dX7_need_21 rfl (lv_at hl 0 rfl) ?_
    refine lv_ldc (v := 1000000) hx hb hown (hT _ tw_832) dX7_need_22 ?_
    refine lv_icmp_ne (tgt := 32) hx hb dX7_need_24 (by decide) (fun c7 => ?_) (fun c7 => ?_)
    · have h := h.2 c7
      refine lv_iload_n hx hb dX7_need_32 rfl (lv_at hl 0 rfl) ?_
      exact q_iret M hw h dX7_need_33
    · have h := h.1 c7
      refine lv_bipush (v := (-9)) hx hb dX7_need_27 (by decide) ?_
      refine lv_goto (tgt := 33) hx hb dX7_need_29 (by decide) ?_
      exact q_iret M hw h dX7_need_33
  · have h := h.1 c4
    refine lv_iconst (v := (-1)) hx hb dX7_need_13 (by decide) ?_
    exact q_iret M hw h dX7_need_14
set_option maxRecDepth 100000 in
theorem ctX7_need (l : Launch) {Y : LY} (hB : YB Y) (hN : yN Y = 108) (a0 : Int32) (σ : St) (Q : Int32 → St → Prop) (h : wX7_need a0 σ Q) : CT l yX7_need (Cond.code yX7_need cX7_need 3 (some .int)) { frames := 4, cells := 0, slots := 0, locals := 93 } Y [.ref (yA Y 92), .int a0] σ (QI Y Q) :=
  q_ent hB (by decide +kernel) (Nat.le_of_ble_eq_true rfl) (fun p e s m below meth c ls M hw hl => tX7_need_E M hN a0 σ _ _ ls hw hl h)
theorem mbX7_need : MB RX7 yX7_need cX7_need 1 3 (some .int) := ⟨tw_846, tw_847, tw_56, tw_848, by decide +kernel⟩
end
section
variable {p : Program} {l : Launch} {e : Env} {s : State} {m : MethodId} {args : Array Value} {below : List Frame} {meth : Method} {c : Code} {Y : LY}
theorem dX7_lackOf_0 : decode cX7_lackOf 0 = .ok (.aload_n 0, 1) := by decide +kernel
theorem dX7_lackOf_1 : decode cX7_lackOf 1 = .ok (.iload_n 1, 1) := by decide +kernel
theorem dX7_lackOf_2 : decode cX7_lackOf 2 = .ok (.invokevirtual 156, 3) := by decide +kernel
theorem dX7_lackOf_5 : decode cX7_lackOf 5 = .ok (.istore_n 2, 1) := by decide +kernel
theorem dX7_lackOf_6 : decode cX7_lackOf 6 = .ok (.iload_n 2, 1) := by decide +kernel
theorem dX7_lackOf_7 : decode cX7_lackOf 7 = .ok (.ldc 146, 2) := by decide +kernel
theorem dX7_lackOf_9 : decode cX7_lackOf 9 = .ok (.if_icmp .ne 8, 3) := by decide +kernel
theorem dX7_lackOf_12 : decode cX7_lackOf 12 = .ok (.ldc 146, 2) := by decide +kernel
theorem dX7_lackOf_14 : decode cX7_lackOf 14 = .ok (.goto 29, 3) := by decide +kernel
theorem dX7_lackOf_17 : decode cX7_lackOf 17 = .ok (.iload_n 2, 1) := by decide +kernel
theorem dX7_lackOf_18 : decode cX7_lackOf 18 = .ok (.aload_n 0, 1) := by decide +kernel
theorem dX7_lackOf_19 : decode cX7_lackOf 19 = .ok (.getfield 32, 3) := by decide +kernel
theorem dX7_lackOf_22 : decode cX7_lackOf 22 = .ok (.iconst 1, 1) := by decide +kernel
theorem dX7_lackOf_23 : decode cX7_lackOf 23 = .ok (.iload_n 1, 1) := by decide +kernel
theorem dX7_lackOf_24 : decode cX7_lackOf 24 = .ok (.iadd, 1) := by decide +kernel
theorem dX7_lackOf_25 : decode cX7_lackOf 25 = .ok (.iaload, 1) := by decide +kernel
theorem dX7_lackOf_26 : decode cX7_lackOf 26 = .ok (.if_icmp .le 16, 3) := by decide +kernel
theorem dX7_lackOf_29 : decode cX7_lackOf 29 = .ok (.iload_n 2, 1) := by decide +kernel
theorem dX7_lackOf_30 : decode cX7_lackOf 30 = .ok (.aload_n 0, 1) := by decide +kernel
theorem dX7_lackOf_31 : decode cX7_lackOf 31 = .ok (.getfield 32, 3) := by decide +kernel
theorem dX7_lackOf_34 : decode cX7_lackOf 34 = .ok (.iconst 1, 1) := by decide +kernel
theorem dX7_lackOf_35 : decode cX7_lackOf 35 = .ok (.iload_n 1, 1) := by decide +kernel
theorem dX7_lackOf_36 : decode cX7_lackOf 36 = .ok (.iadd, 1) := by decide +kernel
theorem dX7_lackOf_37 : decode cX7_lackOf 37 = .ok (.iaload, 1) := by decide +kernel
theorem dX7_lackOf_38 : decode cX7_lackOf 38 = .ok (.isub, 1) := by decide +kernel
theorem dX7_lackOf_39 : decode cX7_lackOf 39 = .ok (.goto 4, 3) := by decide +kernel
theorem dX7_lackOf_42 : decode cX7_lackOf 42 = .ok (.iconst 0, 1) := by decide +kernel
theorem dX7_lackOf_43 : decode cX7_lackOf 43 = .ok (.ireturn, 1) := by decide +kernel
def wX7_lackOf (a0 : Int32) (σ : St) (Q : Int32 → St → Prop) : Prop :=
  wX7_needOf a0 σ (fun r2 σ1 => ((r2 = 1000000 → Q 1000000 σ1) ∧ (¬ r2 = 1000000 → (vp_in (1 + a0) 27 ∧ ((r2 ≤ (σ1.1 100 (1 + a0).toNatClampNeg) → Q 0 σ1) ∧ (¬ r2 ≤ (σ1.1 100 (1 + a0).toNatClampNeg) → (vp_in (1 + a0) 27 ∧ Q (r2 - (σ1.1 100 (1 + a0).toNatClampNeg)) σ1)))))))
set_option maxHeartbeats 4000000 in
set_option maxRecDepth 100000 in
theorem tX7_lackOf_E {Q : Int32 → St → Prop} (M : MC p s m args meth c cX7_lackOf 3 (some .int) RX7 Y) (hN : yN Y = 108) (a0 : Int32) (σ : St) (H : Heap) (locs : List Loc) (ls : Array Slot) (hw : WS Y (AD Y) s.heap σ H locs) (hl : lv_has ls 3 [(0, .ref (yA Y 92)), (1, .int a0)]) (h : wX7_lackOf a0 σ Q) : W p l e { frames := 4, cells := 0, slots := 0, locals := 93 } s m args below meth c H locs 0 0 (MQ below (QI Y Q) args s 0 0 (AD Y)) (F0 m 0 ls []) := by
  obtain ⟨hx, hb, hr, hml, hown, hlk, hT, hK, hB⟩ := id M
  unfold wX7_lackOf at h
  refine lv_aload_n hx hb dX7_lackOf_0 rfl (lv_at hl 0 rfl) ?_
  refine lv_iload_n hx hb dX7_lackOf_1 rfl (lv_at hl 1 rfl) ?_
  refine q_goI hw (q_runV (rest := []) M hw (ctX7_needOf l hB hN a0 σ _ h) mbX7_needOf (ob_92 hN) rfl tw_849 rfl hl.1 rfl (Nat.le_of_ble_eq_true rfl) ⟨Nat.le_of_ble_eq_true rfl, Nat.le_of_ble_eq_true rfl⟩ ⟨Nat.le_refl _, Nat.le_refl _⟩ dX7_lackOf_2) (fun r2 σ1 H locs h hw => ?_)
  refine lv_istore_n (lv' := [(2, .int r2), (0, .ref (yA Y 92)), (1, .int a0)]) hx hb dX7_lackOf_5 rfl hl (by decide) rfl (fun ls hl => ?_)
  refine lv_iload_n hx hb dX7_lackOf_6 rfl (lv_at hl 0 rfl) ?_
  refine lv_ldc (v := 1000000) hx hb hown (hT _ tw_832) dX7_lackOf_7 ?_
  refine lv_icmp_ne (tgt := 17) hx hb dX7_lackOf_9 (by decide) (fun c3 => ?_) (fun c3 => ?_)
  · have h := h.2 c3
    refine lv_iload_n hx hb dX7_lackOf_17 rfl (lv_at hl 0 rfl) ?_
    refine lv_aload_n hx hb dX7_lackOf_18 rfl (lv_at hl 1 rfl) ?_
    refine q_get (v := .ref (yA Y 100)) M hw (ob_92 hN) rfl inq_7 16 (by decide) tw_651 rfl dX7_lackOf_19 ?_
    refine lv_iconst (v := 1) hx hb dX7_lackOf_22 (by decide) ?_
    refine lv_iload_n hx hb dX7_lackOf_23 rfl (lv_at hl 2 rfl) ?_
    refine lv_iadd hx hb dX7_lackOf_24 ?_
    have c4 := h.1
    have h := h.2
    refine q_ild M hw (ar_100 hN) c4 dX7_lackOf_25 ?_
    refine lv_icmp_le (tgt := 42) hx hb dX7_lackOf_26 (by decide) (fun c5 => ?_) (fun c5 => ?_)
    · have h := h.1 c5
      refine lv_iconst (v := 0) hx hb dX7_lackOf_42 (by decide) ?_
      exact q_iret M hw h dX7_lackOf_43
    · have h := h.2 c5
      refine lv_iload_n hx hb dX7_lackOf_29 rfl (lv_at hl 0 rfl) ?_
      refine lv_aload_n hx hb dX7_lackOf_30 rfl (lv_at hl 1 rfl) ?_
      refine q_get (v := .ref (yA Y 100)) M hw (ob_92 hN) rfl inq_7 16 (by decide) tw_651 rfl dX7_lackOf_31 ?_
      refine lv_iconst (v := 1) hx hb dX7_lackOf_34 (by decide) ?_
      refine lv_iload_n hx hb dX7_lackOf_35 rfl (lv_at hl 2 rfl) ?_
      refine lv_iadd hx hb dX7_lackOf_36 ?_
      have c6 := h.1
      have h := h.2
      refine q_ild M hw (ar_100 hN) c6 dX7_lackOf_37 ?_
      refine lv_isub hx hb dX7_lackOf_38 ?_
      refine lv_goto (tgt := 43) hx hb dX7_lackOf_39 (by decide) ?_
      exact q_iret M hw h dX7_lackOf_43
  · have h := h.1 c3
    refine lv_ldc (v := 1000000) hx hb hown (hT _ tw_832) dX7_lackOf_12 ?_
    refine lv_goto (tgt := 43) hx hb dX7_lackOf_14 (by decide) ?_
    exact q_iret M hw h dX7_lackOf_43
set_option maxRecDepth 100000 in
theorem ctX7_lackOf (l : Launch) {Y : LY} (hB : YB Y) (hN : yN Y = 108) (a0 : Int32) (σ : St) (Q : Int32 → St → Prop) (h : wX7_lackOf a0 σ Q) : CT l yX7_lackOf (Cond.code yX7_lackOf cX7_lackOf 3 (some .int)) { frames := 4, cells := 0, slots := 0, locals := 93 } Y [.ref (yA Y 92), .int a0] σ (QI Y Q) :=
  q_ent hB (by decide +kernel) (Nat.le_of_ble_eq_true rfl) (fun p e s m below meth c ls M hw hl => tX7_lackOf_E M hN a0 σ _ _ ls hw hl h)
theorem mbX7_lackOf : MB RX7 yX7_lackOf cX7_lackOf 1 3 (some .int) := ⟨tw_859, tw_47, tw_56, tw_860, by decide +kernel⟩
end
section
variable {p : Program} {l : Launch} {e : Env} {s : State} {m : MethodId} {args : Array Value} {below : List Frame} {meth : Method} {c : Code} {Y : LY}
theorem dX7_lacks_0 : decode cX7_lacks 0 = .ok (.aload_n 0, 1) := by decide +kernel
theorem dX7_lacks_1 : decode cX7_lacks 1 = .ok (.iconst 0, 1) := by decide +kernel
theorem dX7_lacks_2 : decode cX7_lacks 2 = .ok (.putfield 62, 3) := by decide +kernel
theorem dX7_lacks_5 : decode cX7_lacks 5 = .ok (.aload_n 0, 1) := by decide +kernel
theorem dX7_lacks_6 : decode cX7_lacks 6 = .ok (.iload_n 1, 1) := by decide +kernel
theorem dX7_lacks_7 : decode cX7_lacks 7 = .ok (.invokevirtual 127, 3) := by decide +kernel
theorem dX7_lacks_10 : decode cX7_lacks 10 = .ok (.ifCond .ne 5, 3) := by decide +kernel
theorem dX7_lacks_13 : decode cX7_lacks 13 = .ok (.iconst (-1), 1) := by decide +kernel
theorem dX7_lacks_14 : decode cX7_lacks 14 = .ok (.ireturn, 1) := by decide +kernel
theorem dX7_lacks_15 : decode cX7_lacks 15 = .ok (.aload_n 0, 1) := by decide +kernel
theorem dX7_lacks_16 : decode cX7_lacks 16 = .ok (.iload_n 1, 1) := by decide +kernel
theorem dX7_lacks_17 : decode cX7_lacks 17 = .ok (.invokevirtual 159, 3) := by decide +kernel
theorem dX7_lacks_20 : decode cX7_lacks 20 = .ok (.istore_n 2, 1) := by decide +kernel
theorem dX7_lacks_21 : decode cX7_lacks 21 = .ok (.iload_n 2, 1) := by decide +kernel
theorem dX7_lacks_22 : decode cX7_lacks 22 = .ok (.ldc 146, 2) := by decide +kernel
theorem dX7_lacks_24 : decode cX7_lacks 24 = .ok (.if_icmp .ne 8, 3) := by decide +kernel
theorem dX7_lacks_27 : decode cX7_lacks 27 = .ok (.bipush (-9), 2) := by decide +kernel
theorem dX7_lacks_29 : decode cX7_lacks 29 = .ok (.goto 4, 3) := by decide +kernel
theorem dX7_lacks_32 : decode cX7_lacks 32 = .ok (.iload_n 2, 1) := by decide +kernel
theorem dX7_lacks_33 : decode cX7_lacks 33 = .ok (.ireturn, 1) := by decide +kernel
def wX7_lacks (a0 : Int32) (σ : St) (Q : Int32 → St → Prop) : Prop :=
  (∀ σ1 : St, σ1 = up σ 92 0 0 → wX7_isFarmer a0 σ1 (fun r3 σ2 => ((r3 = 0 → Q (-1) σ2) ∧ (¬ r3 = 0 → wX7_lackOf a0 σ2 (fun r6 σ5 => ((r6 = 1000000 → Q (-9) σ5) ∧ (¬ r6 = 1000000 → Q r6 σ5)))))))
set_option maxHeartbeats 4000000 in
set_option maxRecDepth 100000 in
theorem tX7_lacks_E {Q : Int32 → St → Prop} (M : MC p s m args meth c cX7_lacks 3 (some .int) RX7 Y) (hN : yN Y = 108) (a0 : Int32) (σ : St) (H : Heap) (locs : List Loc) (ls : Array Slot) (hw : WS Y (AD Y) s.heap σ H locs) (hl : lv_has ls 3 [(0, .ref (yA Y 92)), (1, .int a0)]) (h : wX7_lacks a0 σ Q) : W p l e { frames := 5, cells := 0, slots := 0, locals := 115 } s m args below meth c H locs 0 0 (MQ below (QI Y Q) args s 0 0 (AD Y)) (F0 m 0 ls []) := by
  obtain ⟨hx, hb, hr, hml, hown, hlk, hT, hK, hB⟩ := id M
  unfold wX7_lacks at h
  refine lv_aload_n hx hb dX7_lacks_0 rfl (lv_at hl 0 rfl) ?_
  refine lv_iconst (v := 0) hx hb dX7_lacks_1 (by decide) ?_
  refine q_put (v := 0) M hw (ob_92 hN) rfl inq_7 tyX7 tyX7_ok nmX7 0 (by decide) tw_635 rfl rfl rfl (Nat.le_of_ble_eq_true rfl) (by simp [up, upd, f0]) dX7_lacks_2 (fun σ1 H locs es hw => ?_)
  have h := h σ1 es
  refine lv_aload_n hx hb dX7_lacks_5 rfl (lv_at hl 0 rfl) ?_
  refine lv_iload_n hx hb dX7_lacks_6 rfl (lv_at hl 1 rfl) ?_
  refine q_goI hw (q_runV (rest := []) M hw (ctX7_isFarmer l hB hN a0 σ1 _ h) mbX7_isFarmer (ob_92 hN) rfl tw_764 rfl hl.1 rfl (Nat.le_of_ble_eq_true rfl) ⟨Nat.le_of_ble_eq_true rfl, Nat.le_of_ble_eq_true rfl⟩ ⟨Nat.le_refl _, Nat.le_refl _⟩ dX7_lacks_7) (fun r3 σ2 H locs h hw => ?_)
  refine lv_if_ne (tgt := 15) hx hb dX7_lacks_10 (by decide) (fun c4 => ?_) (fun c4 => ?_)
  · have h := h.2 c4
    refine lv_aload_n hx hb dX7_lacks_15 rfl (lv_at hl 0 rfl) ?_
    refine lv_iload_n hx hb dX7_lacks_16 rfl (lv_at hl 1 rfl) ?_
    refine q_goI hw (q_runV (rest := []) M hw (ctX7_lackOf l hB hN a0 σ2 _ h) mbX7_lackOf (ob_92 hN) rfl tw_857 rfl hl.1 rfl (Nat.le_of_ble_eq_true rfl) ⟨Nat.le_of_ble_eq_true rfl, Nat.le_of_ble_eq_true rfl⟩ ⟨Nat.le_refl _, Nat.le_refl _⟩ dX7_lacks_17) (fun r6 σ5 H locs h hw => ?_)
    refine lv_istore_n (lv' := [(2, .int r6), (0, .ref (yA Y 92)), (1, .int a0)]) hx hb dX7_lacks_20 rfl hl (by decide) rfl (fun ls hl => ?_)
    refine lv_iload_n hx hb dX7_lacks_21 rfl (lv_at hl 0 rfl) ?_
    refine lv_ldc (v := 1000000) hx hb hown (hT _ tw_832) dX7_lacks_22 ?_
    refine lv_icmp_ne (tgt := 32) hx hb dX7_lacks_24 (by decide) (fun c7 => ?_) (fun c7 => ?_)
    · have h := h.2 c7
      refine lv_iload_n hx hb dX7_lacks_32 rfl (lv_at hl 0 rfl) ?_
      exact q_iret M hw h dX7_lacks_33
    · have h := h.1 c7
      refine lv_bipush (v := (-9)) hx hb dX7_lacks_27 (by decide) ?_
      refine lv_goto (tgt := 33) hx hb dX7_lacks_29 (by decide) ?_
      exact q_iret M hw h dX7_lacks_33
  · have h := h.1 c4
    refine lv_iconst (v := (-1)) hx hb dX7_lacks_13 (by decide) ?_
    exact q_iret M hw h dX7_lacks_14
set_option maxRecDepth 100000 in
theorem ctX7_lacks (l : Launch) {Y : LY} (hB : YB Y) (hN : yN Y = 108) (a0 : Int32) (σ : St) (Q : Int32 → St → Prop) (h : wX7_lacks a0 σ Q) : CT l yX7_lacks (Cond.code yX7_lacks cX7_lacks 3 (some .int)) { frames := 5, cells := 0, slots := 0, locals := 115 } Y [.ref (yA Y 92), .int a0] σ (QI Y Q) :=
  q_ent hB (by decide +kernel) (Nat.le_of_ble_eq_true rfl) (fun p e s m below meth c ls M hw hl => tX7_lacks_E M hN a0 σ _ _ ls hw hl h)
theorem mbX7_lacks : MB RX7 yX7_lacks cX7_lacks 1 3 (some .int) := ⟨tw_854, tw_855, tw_56, tw_856, by decide +kernel⟩
end
section
variable {p : Program} {l : Launch} {e : Env} {s : State} {m : MethodId} {args : Array Value} {below : List Frame} {meth : Method} {c : Code} {Y : LY}
theorem dX7_match_0 : decode cX7_match 0 = .ok (.aload_n 0, 1) := by decide +kernel
theorem dX7_match_1 : decode cX7_match 1 = .ok (.iconst 0, 1) := by decide +kernel
theorem dX7_match_2 : decode cX7_match 2 = .ok (.putfield 62, 3) := by decide +kernel
theorem dX7_match_5 : decode cX7_match 5 = .ok (.iload_n 1, 1) := by decide +kernel
theorem dX7_match_6 : decode cX7_match 6 = .ok (.iconst 0, 1) := by decide +kernel
theorem dX7_match_7 : decode cX7_match 7 = .ok (.iconst 1, 1) := by decide +kernel
theorem dX7_match_8 : decode cX7_match 8 = .ok (.invokestatic 66, 3) := by decide +kernel
theorem dX7_match_11 : decode cX7_match 11 = .ok (.ifCond .ne 5, 3) := by decide +kernel
theorem dX7_match_14 : decode cX7_match 14 = .ok (.iconst (-1), 1) := by decide +kernel
theorem dX7_match_15 : decode cX7_match 15 = .ok (.ireturn, 1) := by decide +kernel
theorem dX7_match_16 : decode cX7_match 16 = .ok (.bipush (-9), 2) := by decide +kernel
theorem dX7_match_18 : decode cX7_match 18 = .ok (.istore_n 2, 1) := by decide +kernel
theorem dX7_match_19 : decode cX7_match 19 = .ok (.iconst 0, 1) := by decide +kernel
theorem dX7_match_20 : decode cX7_match 20 = .ok (.istore_n 3, 1) := by decide +kernel
theorem dX7_match_21 : decode cX7_match 21 = .ok (.iconst 0, 1) := by decide +kernel
theorem dX7_match_22 : decode cX7_match 22 = .ok (.istore 4, 2) := by decide +kernel
theorem dX7_match_24 : decode cX7_match 24 = .ok (.iload 4, 2) := by decide +kernel
theorem dX7_match_26 : decode cX7_match 26 = .ok (.aload_n 0, 1) := by decide +kernel
theorem dX7_match_27 : decode cX7_match 27 = .ok (.getfield 13, 3) := by decide +kernel
theorem dX7_match_30 : decode cX7_match 30 = .ok (.iconst 0, 1) := by decide +kernel
theorem dX7_match_31 : decode cX7_match 31 = .ok (.iaload, 1) := by decide +kernel
theorem dX7_match_32 : decode cX7_match 32 = .ok (.if_icmp .ge 163, 3) := by decide +kernel
theorem dX7_match_35 : decode cX7_match 35 = .ok (.iconst 0, 1) := by decide +kernel
theorem dX7_match_36 : decode cX7_match 36 = .ok (.istore 5, 2) := by decide +kernel
theorem dX7_match_38 : decode cX7_match 38 = .ok (.iload 5, 2) := by decide +kernel
theorem dX7_match_40 : decode cX7_match 40 = .ok (.aload_n 0, 1) := by decide +kernel
theorem dX7_match_41 : decode cX7_match 41 = .ok (.getfield 13, 3) := by decide +kernel
theorem dX7_match_44 : decode cX7_match 44 = .ok (.iconst 0, 1) := by decide +kernel
theorem dX7_match_45 : decode cX7_match 45 = .ok (.iaload, 1) := by decide +kernel
theorem dX7_match_46 : decode cX7_match 46 = .ok (.if_icmp .ge 143, 3) := by decide +kernel
theorem dX7_match_49 : decode cX7_match 49 = .ok (.iload 4, 2) := by decide +kernel
theorem dX7_match_51 : decode cX7_match 51 = .ok (.iload 5, 2) := by decide +kernel
theorem dX7_match_53 : decode cX7_match 53 = .ok (.if_icmp .eq 51, 3) := by decide +kernel
theorem dX7_match_56 : decode cX7_match 56 = .ok (.aload_n 0, 1) := by decide +kernel
theorem dX7_match_57 : decode cX7_match 57 = .ok (.iload 4, 2) := by decide +kernel
theorem dX7_match_59 : decode cX7_match 59 = .ok (.invokevirtual 136, 3) := by decide +kernel
theorem dX7_match_62 : decode cX7_match 62 = .ok (.ifCond .eq 42, 3) := by decide +kernel
theorem dX7_match_65 : decode cX7_match 65 = .ok (.aload_n 0, 1) := by decide +kernel
theorem dX7_match_66 : decode cX7_match 66 = .ok (.iload 5, 2) := by decide +kernel
theorem dX7_match_68 : decode cX7_match 68 = .ok (.invokevirtual 136, 3) := by decide +kernel
theorem dX7_match_71 : decode cX7_match 71 = .ok (.ifCond .eq 33, 3) := by decide +kernel
theorem dX7_match_74 : decode cX7_match 74 = .ok (.aload_n 0, 1) := by decide +kernel
theorem dX7_match_75 : decode cX7_match 75 = .ok (.getfield 32, 3) := by decide +kernel
theorem dX7_match_78 : decode cX7_match 78 = .ok (.bipush 21, 2) := by decide +kernel
theorem dX7_match_80 : decode cX7_match 80 = .ok (.iload 4, 2) := by decide +kernel
theorem dX7_match_82 : decode cX7_match 82 = .ok (.iadd, 1) := by decide +kernel
theorem dX7_match_83 : decode cX7_match 83 = .ok (.iaload, 1) := by decide +kernel
theorem dX7_match_84 : decode cX7_match 84 = .ok (.ifCond .ne 20, 3) := by decide +kernel
theorem dX7_match_87 : decode cX7_match 87 = .ok (.aload_n 0, 1) := by decide +kernel
theorem dX7_match_88 : decode cX7_match 88 = .ok (.getfield 32, 3) := by decide +kernel
theorem dX7_match_91 : decode cX7_match 91 = .ok (.bipush 21, 2) := by decide +kernel
theorem dX7_match_93 : decode cX7_match 93 = .ok (.iload 5, 2) := by decide +kernel
theorem dX7_match_95 : decode cX7_match 95 = .ok (.iadd, 1) := by decide +kernel
theorem dX7_match_96 : decode cX7_match 96 = .ok (.iaload, 1) := by decide +kernel
theorem dX7_match_97 : decode cX7_match 97 = .ok (.ifCond .ne 7, 3) := by decide +kernel
theorem dX7_match_100 : decode cX7_match 100 = .ok (.iconst 1, 1) := by decide +kernel
theorem dX7_match_101 : decode cX7_match 101 = .ok (.goto 4, 3) := by decide +kernel
theorem dX7_match_104 : decode cX7_match 104 = .ok (.iconst 0, 1) := by decide +kernel
theorem dX7_match_105 : decode cX7_match 105 = .ok (.istore 6, 2) := by decide +kernel
theorem dX7_match_107 : decode cX7_match 107 = .ok (.aload_n 0, 1) := by decide +kernel
theorem dX7_match_108 : decode cX7_match 108 = .ok (.iload 4, 2) := by decide +kernel
theorem dX7_match_110 : decode cX7_match 110 = .ok (.invokevirtual 159, 3) := by decide +kernel
theorem dX7_match_113 : decode cX7_match 113 = .ok (.istore 7, 2) := by decide +kernel
theorem dX7_match_115 : decode cX7_match 115 = .ok (.aload_n 0, 1) := by decide +kernel
theorem dX7_match_116 : decode cX7_match 116 = .ok (.getfield 32, 3) := by decide +kernel
theorem dX7_match_119 : decode cX7_match 119 = .ok (.iconst 1, 1) := by decide +kernel
theorem dX7_match_120 : decode cX7_match 120 = .ok (.iload 5, 2) := by decide +kernel
theorem dX7_match_122 : decode cX7_match 122 = .ok (.iadd, 1) := by decide +kernel
theorem dX7_match_123 : decode cX7_match 123 = .ok (.iaload, 1) := by decide +kernel
theorem dX7_match_124 : decode cX7_match 124 = .ok (.aload_n 0, 1) := by decide +kernel
theorem dX7_match_125 : decode cX7_match 125 = .ok (.iload 5, 2) := by decide +kernel
theorem dX7_match_127 : decode cX7_match 127 = .ok (.invokevirtual 156, 3) := by decide +kernel
theorem dX7_match_130 : decode cX7_match 130 = .ok (.isub, 1) := by decide +kernel
theorem dX7_match_131 : decode cX7_match 131 = .ok (.istore 8, 2) := by decide +kernel
theorem dX7_match_133 : decode cX7_match 133 = .ok (.iload 7, 2) := by decide +kernel
theorem dX7_match_135 : decode cX7_match 135 = .ok (.ldc 146, 2) := by decide +kernel
theorem dX7_match_137 : decode cX7_match 137 = .ok (.if_icmp .ne 7, 3) := by decide +kernel
theorem dX7_match_140 : decode cX7_match 140 = .ok (.iconst 0, 1) := by decide +kernel
theorem dX7_match_141 : decode cX7_match 141 = .ok (.goto 17, 3) := by decide +kernel
theorem dX7_match_144 : decode cX7_match 144 = .ok (.iload 8, 2) := by decide +kernel
theorem dX7_match_146 : decode cX7_match 146 = .ok (.iload 7, 2) := by decide +kernel
theorem dX7_match_148 : decode cX7_match 148 = .ok (.if_icmp .ge 8, 3) := by decide +kernel
theorem dX7_match_151 : decode cX7_match 151 = .ok (.iload 8, 2) := by decide +kernel
theorem dX7_match_153 : decode cX7_match 153 = .ok (.goto 5, 3) := by decide +kernel
theorem dX7_match_156 : decode cX7_match 156 = .ok (.iload 7, 2) := by decide +kernel
theorem dX7_match_158 : decode cX7_match 158 = .ok (.istore 9, 2) := by decide +kernel
theorem dX7_match_160 : decode cX7_match 160 = .ok (.iload 6, 2) := by decide +kernel
theorem dX7_match_162 : decode cX7_match 162 = .ok (.ifCond .eq 21, 3) := by decide +kernel
theorem dX7_match_165 : decode cX7_match 165 = .ok (.iload 9, 2) := by decide +kernel
theorem dX7_match_167 : decode cX7_match 167 = .ok (.iload_n 3, 1) := by decide +kernel
theorem dX7_match_168 : decode cX7_match 168 = .ok (.if_icmp .le 15, 3) := by decide +kernel
theorem dX7_match_171 : decode cX7_match 171 = .ok (.bipush 10, 2) := by decide +kernel
theorem dX7_match_173 : decode cX7_match 173 = .ok (.iload 4, 2) := by decide +kernel
theorem dX7_match_175 : decode cX7_match 175 = .ok (.imul, 1) := by decide +kernel
theorem dX7_match_176 : decode cX7_match 176 = .ok (.iload 5, 2) := by decide +kernel
theorem dX7_match_178 : decode cX7_match 178 = .ok (.iadd, 1) := by decide +kernel
theorem dX7_match_179 : decode cX7_match 179 = .ok (.istore_n 2, 1) := by decide +kernel
theorem dX7_match_180 : decode cX7_match 180 = .ok (.iload 9, 2) := by decide +kernel
theorem dX7_match_182 : decode cX7_match 182 = .ok (.istore_n 3, 1) := by decide +kernel
theorem dX7_match_183 : decode cX7_match 183 = .ok (.iinc 5 1, 3) := by decide +kernel
theorem dX7_match_186 : decode cX7_match 186 = .ok (.goto (-148), 3) := by decide +kernel
theorem dX7_match_189 : decode cX7_match 189 = .ok (.iinc 4 1, 3) := by decide +kernel
theorem dX7_match_192 : decode cX7_match 192 = .ok (.goto (-168), 3) := by decide +kernel
theorem dX7_match_195 : decode cX7_match 195 = .ok (.iload_n 1, 1) := by decide +kernel
theorem dX7_match_196 : decode cX7_match 196 = .ok (.ifCond .eq 9, 3) := by decide +kernel
theorem dX7_match_199 : decode cX7_match 199 = .ok (.iload_n 2, 1) := by decide +kernel
theorem dX7_match_200 : decode cX7_match 200 = .ok (.bipush (-9), 2) := by decide +kernel
theorem dX7_match_202 : decode cX7_match 202 = .ok (.if_icmp .ne 7, 3) := by decide +kernel
theorem dX7_match_205 : decode cX7_match 205 = .ok (.iload_n 2, 1) := by decide +kernel
theorem dX7_match_206 : decode cX7_match 206 = .ok (.goto 4, 3) := by decide +kernel
theorem dX7_match_209 : decode cX7_match 209 = .ok (.iload_n 3, 1) := by decide +kernel
theorem dX7_match_210 : decode cX7_match 210 = .ok (.ireturn, 1) := by decide +kernel
def bX7_match_183 (R_24 : Int32 × Int32 × Int32 × Int32 × St → Prop) (R_38 : Int32 × Int32 × Int32 × Int32 × Int32 × St → Prop) (y1 : Int32) (y2 : Int32) (y3 : Int32) (y4 : Int32) (y5 : Int32) (σ : St) (Q : Int32 → St → Prop) : Prop :=
  (∀ x1 : Int32, x1 = y5 + 1 → R_38 (y1, y2, y3, y4, x1, σ))
set_option maxHeartbeats 4000000 in
set_option maxRecDepth 100000 in
theorem tX7_match_183 {R_24 : Int32 × Int32 × Int32 × Int32 × St → Prop} {R_38 : Int32 × Int32 × Int32 × Int32 × Int32 × St → Prop} {Q : Int32 → St → Prop} (M : MC p s m args meth c cX7_match 10 (some .int) RX7 Y) (hN : yN Y = 108) (hR_24 : ∀ (y1 y2 y3 y4 : Int32) (σ : St) (H : Heap) (locs : List Loc) (ls : Array Slot), WS Y (AD Y) s.heap σ H locs → lv_has ls 10 [(0, .ref (yA Y 92)), (1, .int y1), (2, .int y2), (3, .int y3), (4, .int y4)] → R_24 (y1, y2, y3, y4, σ) → W p l e { frames := 5, cells := 0, slots := 0, locals := 115 } s m args below meth c H locs 0 0 (MQ below (QI Y Q) args s 0 0 (AD Y)) (F0 m 24 ls [])) (hR_38 : ∀ (y1 y2 y3 y4 y5 : Int32) (σ : St) (H : Heap) (locs : List Loc) (ls : Array Slot), WS Y (AD Y) s.heap σ H locs → lv_has ls 10 [(0, .ref (yA Y 92)), (1, .int y1), (2, .int y2), (3, .int y3), (4, .int y4), (5, .int y5)] → R_38 (y1, y2, y3, y4, y5, σ) → W p l e { frames := 5, cells := 0, slots := 0, locals := 115 } s m args below meth c H locs 0 0 (MQ below (QI Y Q) args s 0 0 (AD Y)) (F0 m 38 ls [])) (y1 : Int32) (y2 : Int32) (y3 : Int32) (y4 : Int32) (y5 : Int32) (σ : St) (H : Heap) (locs : List Loc) (ls : Array Slot) (hw : WS Y (AD Y) s.heap σ H locs) (hl : lv_has ls 10 [(0, .ref (yA Y 92)), (1, .int y1), (2, .int y2), (3, .int y3), (4, .int y4), (5, .int y5)]) (h : bX7_match_183 R_24 R_38 y1 y2 y3 y4 y5 σ Q) : W p l e { frames := 5, cells := 0, slots := 0, locals := 115 } s m args below meth c H locs 0 0 (MQ below (QI Y Q) args s 0 0 (AD Y)) (F0 m 183 ls []) := by
  obtain ⟨hx, hb, hr, hml, hown, hlk, hT, hK, hB⟩ := id M
  unfold bX7_match_183 at h
  obtain ⟨x1, ex1⟩ : ∃ y : Int32, y = y5 + 1 := ⟨_, rfl⟩
  have h := h x1 ex1
  refine lv_iinc (v := x1) (lv' := [(5, .int x1), (0, .ref (yA Y 92)), (1, .int y1), (2, .int y2), (3, .int y3), (4, .int y4)]) hx hb dX7_match_183 hl (k := 5) rfl (by rw [ex1]; rfl) (by decide) rfl (fun ls hl => ?_)
  refine lv_goto (tgt := 38) hx hb dX7_match_186 (by decide) ?_
  exact hR_38 y1 y2 y3 y4 x1 σ _ _ _ hw (lv_sub hl [1, 2, 3, 4, 5, 0] rfl) h
def bX7_match_158 (R_24 : Int32 × Int32 × Int32 × Int32 × St → Prop) (R_38 : Int32 × Int32 × Int32 × Int32 × Int32 × St → Prop) (y1 : Int32) (y2 : Int32) (y3 : Int32) (y4 : Int32) (y5 : Int32) (y6 : Int32) (z0 : Int32) (σ : St) (Q : Int32 → St → Prop) : Prop :=
  ((y6 = 0 → bX7_match_183 R_24 R_38 y1 y2 y3 y4 y5 σ Q) ∧ (¬ y6 = 0 → ((z0 ≤ y3 → bX7_match_183 R_24 R_38 y1 y2 y3 y4 y5 σ Q) ∧ (¬ z0 ≤ y3 → (∀ x3 : Int32, x3 = ((10 * y4) + y5) → bX7_match_183 R_24 R_38 y1 x3 z0 y4 y5 σ Q)))))
set_option maxHeartbeats 4000000 in
set_option maxRecDepth 100000 in
theorem tX7_match_158 {R_24 : Int32 × Int32 × Int32 × Int32 × St → Prop} {R_38 : Int32 × Int32 × Int32 × Int32 × Int32 × St → Prop} {Q : Int32 → St → Prop} (M : MC p s m args meth c cX7_match 10 (some .int) RX7 Y) (hN : yN Y = 108) (hR_24 : ∀ (y1 y2 y3 y4 : Int32) (σ : St) (H : Heap) (locs : List Loc) (ls : Array Slot), WS Y (AD Y) s.heap σ H locs → lv_has ls 10 [(0, .ref (yA Y 92)), (1, .int y1), (2, .int y2), (3, .int y3), (4, .int y4)] → R_24 (y1, y2, y3, y4, σ) → W p l e { frames := 5, cells := 0, slots := 0, locals := 115 } s m args below meth c H locs 0 0 (MQ below (QI Y Q) args s 0 0 (AD Y)) (F0 m 24 ls [])) (hR_38 : ∀ (y1 y2 y3 y4 y5 : Int32) (σ : St) (H : Heap) (locs : List Loc) (ls : Array Slot), WS Y (AD Y) s.heap σ H locs → lv_has ls 10 [(0, .ref (yA Y 92)), (1, .int y1), (2, .int y2), (3, .int y3), (4, .int y4), (5, .int y5)] → R_38 (y1, y2, y3, y4, y5, σ) → W p l e { frames := 5, cells := 0, slots := 0, locals := 115 } s m args below meth c H locs 0 0 (MQ below (QI Y Q) args s 0 0 (AD Y)) (F0 m 38 ls [])) (y1 : Int32) (y2 : Int32) (y3 : Int32) (y4 : Int32) (y5 : Int32) (y6 : Int32) (z0 : Int32) (σ : St) (H : Heap) (locs : List Loc) (ls : Array Slot) (hw : WS Y (AD Y) s.heap σ H locs) (hl : lv_has ls 10 [(0, .ref (yA Y 92)), (1, .int y1), (2, .int y2), (3, .int y3), (4, .int y4), (5, .int y5), (6, .int y6)]) (h : bX7_match_158 R_24 R_38 y1 y2 y3 y4 y5 y6 z0 σ Q) : W p l e { frames := 5, cells := 0, slots := 0, locals := 115 } s m args below meth c H locs 0 0 (MQ below (QI Y Q) args s 0 0 (AD Y)) (F0 m 158 ls [.int z0]) := by
  obtain ⟨hx, hb, hr, hml, hown, hlk, hT, hK, hB⟩ := id M
  unfold bX7_match_158 at h
  refine lv_istore (lv' := [(9, .int z0), (0, .ref (yA Y 92)), (1, .int y1), (2, .int y2), (3, .int y3), (4, .int y4), (5, .int y5), (6, .int y6)]) hx hb dX7_match_158 hl (by decide) rfl (fun ls hl => ?_)
  refine lv_iload hx hb dX7_match_160 (lv_at hl 7 rfl) ?_
  refine lv_if_eq (tgt := 183) hx hb dX7_match_162 (by decide) (fun c1 => ?_) (fun c1 => ?_)
  · have h := h.1 c1
    exact tX7_match_183 M hN hR_24 hR_38 y1 y2 y3 y4 y5 σ _ _ _ hw (lv_sub hl [1, 2, 3, 4, 5, 6] rfl) h
  · have h := h.2 c1
    refine lv_iload hx hb dX7_match_165 (lv_at hl 0 rfl) ?_
    refine lv_iload_n hx hb dX7_match_167 rfl (lv_at hl 4 rfl) ?_
    refine lv_icmp_le (tgt := 183) hx hb dX7_match_168 (by decide) (fun c2 => ?_) (fun c2 => ?_)
    · have h := h.1 c2
      exact tX7_match_183 M hN hR_24 hR_38 y1 y2 y3 y4 y5 σ _ _ _ hw (lv_sub hl [1, 2, 3, 4, 5, 6] rfl) h
    · have h := h.2 c2
      refine lv_bipush (v := 10) hx hb dX7_match_171 (by decide) ?_
      refine lv_iload hx hb dX7_match_173 (lv_at hl 5 rfl) ?_
      refine lv_imul hx hb dX7_match_175 ?_
      refine lv_iload hx hb dX7_match_176 (lv_at hl 6 rfl) ?_
      refine lv_iadd hx hb dX7_match_178 ?_
      refine lv_topi (fun x3 ex3 => ?_)
      have h := h x3 ex3
      refine lv_istore_n (lv' := [(2, .int x3), (9, .int z0), (0, .ref (yA Y 92)), (1, .int y1), (3, .int y3), (4, .int y4), (5, .int y5), (6, .int y6)]) hx hb dX7_match_179 rfl hl (by decide) rfl (fun ls hl => ?_)
      refine lv_iload hx hb dX7_match_180 (lv_at hl 1 rfl) ?_
      refine lv_istore_n (lv' := [(3, .int z0), (2, .int x3), (9, .int z0), (0, .ref (yA Y 92)), (1, .int y1), (4, .int y4), (5, .int y5), (6, .int y6)]) hx hb dX7_match_182 rfl hl (by decide) rfl (fun ls hl => ?_)
      exact tX7_match_183 M hN hR_24 hR_38 y1 x3 z0 y4 y5 σ _ _ _ hw (lv_sub hl [3, 4, 1, 0, 5, 6] rfl) h
def bX7_match_105 (R_24 : Int32 × Int32 × Int32 × Int32 × St → Prop) (R_38 : Int32 × Int32 × Int32 × Int32 × Int32 × St → Prop) (y1 : Int32) (y2 : Int32) (y3 : Int32) (y4 : Int32) (y5 : Int32) (z0 : Int32) (σ : St) (Q : Int32 → St → Prop) : Prop :=
  wX7_lackOf y4 σ (fun r2 σ1 => (vp_in (1 + y5) 27 ∧ wX7_needOf y5 σ1 (fun r5 σ4 => (∀ x6 : Int32, x6 = ((σ1.1 100 (1 + y5).toNatClampNeg) - r5) → ((r2 = 1000000 → bX7_match_158 R_24 R_38 y1 y2 y3 y4 y5 z0 0 σ4 Q) ∧ (¬ r2 = 1000000 → ((r2 ≤ x6 → bX7_match_158 R_24 R_38 y1 y2 y3 y4 y5 z0 r2 σ4 Q) ∧ (¬ r2 ≤ x6 → bX7_match_158 R_24 R_38 y1 y2 y3 y4 y5 z0 x6 σ4 Q))))))))
set_option maxHeartbeats 4000000 in
set_option maxRecDepth 100000 in
theorem tX7_match_105 {R_24 : Int32 × Int32 × Int32 × Int32 × St → Prop} {R_38 : Int32 × Int32 × Int32 × Int32 × Int32 × St → Prop} {Q : Int32 → St → Prop} (M : MC p s m args meth c cX7_match 10 (some .int) RX7 Y) (hN : yN Y = 108) (hR_24 : ∀ (y1 y2 y3 y4 : Int32) (σ : St) (H : Heap) (locs : List Loc) (ls : Array Slot), WS Y (AD Y) s.heap σ H locs → lv_has ls 10 [(0, .ref (yA Y 92)), (1, .int y1), (2, .int y2), (3, .int y3), (4, .int y4)] → R_24 (y1, y2, y3, y4, σ) → W p l e { frames := 5, cells := 0, slots := 0, locals := 115 } s m args below meth c H locs 0 0 (MQ below (QI Y Q) args s 0 0 (AD Y)) (F0 m 24 ls [])) (hR_38 : ∀ (y1 y2 y3 y4 y5 : Int32) (σ : St) (H : Heap) (locs : List Loc) (ls : Array Slot), WS Y (AD Y) s.heap σ H locs → lv_has ls 10 [(0, .ref (yA Y 92)), (1, .int y1), (2, .int y2), (3, .int y3), (4, .int y4), (5, .int y5)] → R_38 (y1, y2, y3, y4, y5, σ) → W p l e { frames := 5, cells := 0, slots := 0, locals := 115 } s m args below meth c H locs 0 0 (MQ below (QI Y Q) args s 0 0 (AD Y)) (F0 m 38 ls [])) (y1 : Int32) (y2 : Int32) (y3 : Int32) (y4 : Int32) (y5 : Int32) (z0 : Int32) (σ : St) (H : Heap) (locs : List Loc) (ls : Array Slot) (hw : WS Y (AD Y) s.heap σ H locs) (hl : lv_has ls 10 [(0, .ref (yA Y 92)), (1, .int y1), (2, .int y2), (3, .int y3), (4, .int y4), (5, .int y5)]) (h : bX7_match_105 R_24 R_38 y1 y2 y3 y4 y5 z0 σ Q) : W p l e { frames := 5, cells := 0, slots := 0, locals := 115 } s m args below meth c H locs 0 0 (MQ below (QI Y Q) args s 0 0 (AD Y)) (F0 m 105 ls [.int z0]) := by
  obtain ⟨hx, hb, hr, hml, hown, hlk, hT, hK, hB⟩ := id M
  unfold bX7_match_105 at h
  refine lv_istore (lv' := [(6, .int z0), (0, .ref (yA Y 92)), (1, .int y1), (2, .int y2), (3, .int y3), (4, .int y4), (5, .int y5)]) hx hb dX7_match_105 hl (by decide) rfl (fun ls hl => ?_)
  refine lv_aload_n hx hb dX7_match_107 rfl (lv_at hl 1 rfl) ?_
  refine lv_iload hx hb dX7_match_108 (lv_at hl 5 rfl) ?_
  refine q_goI hw (q_runV (rest := []) M hw (ctX7_lackOf l hB hN y4 σ _ h) mbX7_lackOf (ob_92 hN) rfl tw_857 rfl hl.1 rfl (Nat.le_of_ble_eq_true rfl) ⟨Nat.le_of_ble_eq_true rfl, Nat.le_of_ble_eq_true rfl⟩ ⟨Nat.le_refl _, Nat.le_refl _⟩ dX7_match_110) (fun r2 σ1 H locs h hw => ?_)
  refine lv_istore (lv' := [(7, .int r2), (6, .int z0), (0, .ref (yA Y 92)), (1, .int y1), (2, .int y2), (3, .int y3), (4, .int y4), (5, .int y5)]) hx hb dX7_match_113 hl (by decide) rfl (fun ls hl => ?_)
  refine lv_aload_n hx hb dX7_match_115 rfl (lv_at hl 2 rfl) ?_
  refine q_get (v := .ref (yA Y 100)) M hw (ob_92 hN) rfl inq_7 16 (by decide) tw_651 rfl dX7_match_116 ?_
  refine lv_iconst (v := 1) hx hb dX7_match_119 (by decide) ?_
  refine lv_iload hx hb dX7_match_120 (lv_at hl 7 rfl) ?_
  refine lv_iadd hx hb dX7_match_122 ?_
  have c3 := h.1
  have h := h.2
  refine q_ild M hw (ar_100 hN) c3 dX7_match_123 ?_
  refine lv_aload_n hx hb dX7_match_124 rfl (lv_at hl 2 rfl) ?_
  refine lv_iload hx hb dX7_match_125 (lv_at hl 7 rfl) ?_
  refine q_goI hw (q_runV (rest := [.int (σ1.1 100 (1 + y5).toNatClampNeg)]) M hw (ctX7_needOf l hB hN y5 σ1 _ h) mbX7_needOf (ob_92 hN) rfl tw_849 rfl hl.1 rfl (Nat.le_of_ble_eq_true rfl) ⟨Nat.le_of_ble_eq_true rfl, Nat.le_of_ble_eq_true rfl⟩ ⟨Nat.le_refl _, Nat.le_refl _⟩ dX7_match_127) (fun r5 σ4 H locs h hw => ?_)
  refine lv_isub hx hb dX7_match_130 ?_
  refine lv_topi (fun x6 ex6 => ?_)
  have h := h x6 ex6
  refine lv_istore (lv' := [(8, .int x6), (7, .int r2), (6, .int z0), (0, .ref (yA Y 92)), (1, .int y1), (2, .int y2), (3, .int y3), (4, .int y4), (5, .int y5)]) hx hb dX7_match_131 hl (by decide) rfl (fun ls hl => ?_)
  refine lv_iload hx hb dX7_match_133 (lv_at hl 1 rfl) ?_
  refine lv_ldc (v := 1000000) hx hb hown (hT _ tw_832) dX7_match_135 ?_
  refine lv_icmp_ne (tgt := 144) hx hb dX7_match_137 (by decide) (fun c7 => ?_) (fun c7 => ?_)
  · have h := h.2 c7
    refine lv_iload hx hb dX7_match_144 (lv_at hl 0 rfl) ?_
    refine lv_iload hx hb dX7_match_146 (lv_at hl 1 rfl) ?_
    refine lv_icmp_ge (tgt := 156) hx hb dX7_match_148 (by decide) (fun c8 => ?_) (fun c8 => ?_)
    · have h := h.1 c8
      refine lv_iload hx hb dX7_match_156 (lv_at hl 1 rfl) ?_
      exact tX7_match_158 M hN hR_24 hR_38 y1 y2 y3 y4 y5 z0 r2 σ4 _ _ _ hw (lv_sub hl [3, 4, 5, 6, 7, 8, 2] rfl) h
    · have h := h.2 c8
      refine lv_iload hx hb dX7_match_151 (lv_at hl 0 rfl) ?_
      refine lv_goto (tgt := 158) hx hb dX7_match_153 (by decide) ?_
      exact tX7_match_158 M hN hR_24 hR_38 y1 y2 y3 y4 y5 z0 x6 σ4 _ _ _ hw (lv_sub hl [3, 4, 5, 6, 7, 8, 2] rfl) h
  · have h := h.1 c7
    refine lv_iconst (v := 0) hx hb dX7_match_140 (by decide) ?_
    refine lv_goto (tgt := 158) hx hb dX7_match_141 (by decide) ?_
    exact tX7_match_158 M hN hR_24 hR_38 y1 y2 y3 y4 y5 z0 0 σ4 _ _ _ hw (lv_sub hl [3, 4, 5, 6, 7, 8, 2] rfl) h
def bX7_match_104 (R_24 : Int32 × Int32 × Int32 × Int32 × St → Prop) (R_38 : Int32 × Int32 × Int32 × Int32 × Int32 × St → Prop) (y1 : Int32) (y2 : Int32) (y3 : Int32) (y4 : Int32) (y5 : Int32) (σ : St) (Q : Int32 → St → Prop) : Prop :=
  bX7_match_105 R_24 R_38 y1 y2 y3 y4 y5 0 σ Q
set_option maxHeartbeats 4000000 in
set_option maxRecDepth 100000 in
theorem tX7_match_104 {R_24 : Int32 × Int32 × Int32 × Int32 × St → Prop} {R_38 : Int32 × Int32 × Int32 × Int32 × Int32 × St → Prop} {Q : Int32 → St → Prop} (M : MC p s m args meth c cX7_match 10 (some .int) RX7 Y) (hN : yN Y = 108) (hR_24 : ∀ (y1 y2 y3 y4 : Int32) (σ : St) (H : Heap) (locs : List Loc) (ls : Array Slot), WS Y (AD Y) s.heap σ H locs → lv_has ls 10 [(0, .ref (yA Y 92)), (1, .int y1), (2, .int y2), (3, .int y3), (4, .int y4)] → R_24 (y1, y2, y3, y4, σ) → W p l e { frames := 5, cells := 0, slots := 0, locals := 115 } s m args below meth c H locs 0 0 (MQ below (QI Y Q) args s 0 0 (AD Y)) (F0 m 24 ls [])) (hR_38 : ∀ (y1 y2 y3 y4 y5 : Int32) (σ : St) (H : Heap) (locs : List Loc) (ls : Array Slot), WS Y (AD Y) s.heap σ H locs → lv_has ls 10 [(0, .ref (yA Y 92)), (1, .int y1), (2, .int y2), (3, .int y3), (4, .int y4), (5, .int y5)] → R_38 (y1, y2, y3, y4, y5, σ) → W p l e { frames := 5, cells := 0, slots := 0, locals := 115 } s m args below meth c H locs 0 0 (MQ below (QI Y Q) args s 0 0 (AD Y)) (F0 m 38 ls [])) (y1 : Int32) (y2 : Int32) (y3 : Int32) (y4 : Int32) (y5 : Int32) (σ : St) (H : Heap) (locs : List Loc) (ls : Array Slot) (hw : WS Y (AD Y) s.heap σ H locs) (hl : lv_has ls 10 [(0, .ref (yA Y 92)), (1, .int y1), (2, .int y2), (3, .int y3), (4, .int y4), (5, .int y5)]) (h : bX7_match_104 R_24 R_38 y1 y2 y3 y4 y5 σ Q) : W p l e { frames := 5, cells := 0, slots := 0, locals := 115 } s m args below meth c H locs 0 0 (MQ below (QI Y Q) args s 0 0 (AD Y)) (F0 m 104 ls []) := by
  obtain ⟨hx, hb, hr, hml, hown, hlk, hT, hK, hB⟩ := id M
  unfold bX7_match_104 at h
  refine lv_iconst (v := 0) hx hb dX7_match_104 (by decide) ?_
  exact tX7_match_105 M hN hR_24 hR_38 y1 y2 y3 y4 y5 0 σ _ _ _ hw (lv_sub hl [0, 1, 2, 3, 4, 5] rfl) h
def bX7_match_38 (R_24 : Int32 × Int32 × Int32 × Int32 × St → Prop) (R_38 : Int32 × Int32 × Int32 × Int32 × Int32 × St → Prop) (y1 : Int32) (y2 : Int32) (y3 : Int32) (y4 : Int32) (y5 : Int32) (σ : St) (Q : Int32 → St → Prop) : Prop :=
  (((σ.1 94 0) ≤ y5 → (∀ x2 : Int32, x2 = y4 + 1 → R_24 (y1, y2, y3, x2, σ))) ∧ (¬ (σ.1 94 0) ≤ y5 → ((y4 = y5 → bX7_match_104 R_24 R_38 y1 y2 y3 y4 y5 σ Q) ∧ (¬ y4 = y5 → wX7_lives y4 σ (fun r5 σ4 => ((r5 = 0 → bX7_match_104 R_24 R_38 y1 y2 y3 y4 y5 σ4 Q) ∧ (¬ r5 = 0 → wX7_lives y5 σ4 (fun r8 σ7 => ((r8 = 0 → bX7_match_104 R_24 R_38 y1 y2 y3 y4 y5 σ7 Q) ∧ (¬ r8 = 0 → (vp_in (21 + y4) 27 ∧ (((σ7.1 100 (21 + y4).toNatClampNeg) = 0 → (vp_in (21 + y5) 27 ∧ (((σ7.1 100 (21 + y5).toNatClampNeg) = 0 → bX7_match_105 R_24 R_38 y1 y2 y3 y4 y5 1 σ7 Q) ∧ (¬ (σ7.1 100 (21 + y5).toNatClampNeg) = 0 → bX7_match_104 R_24 R_38 y1 y2 y3 y4 y5 σ7 Q)))) ∧ (¬ (σ7.1 100 (21 + y4).toNatClampNeg) = 0 → bX7_match_104 R_24 R_38 y1 y2 y3 y4 y5 σ7 Q)))))))))))))
set_option maxHeartbeats 4000000 in
set_option maxRecDepth 100000 in
theorem tX7_match_38 {R_24 : Int32 × Int32 × Int32 × Int32 × St → Prop} {R_38 : Int32 × Int32 × Int32 × Int32 × Int32 × St → Prop} {Q : Int32 → St → Prop} (M : MC p s m args meth c cX7_match 10 (some .int) RX7 Y) (hN : yN Y = 108) (hR_24 : ∀ (y1 y2 y3 y4 : Int32) (σ : St) (H : Heap) (locs : List Loc) (ls : Array Slot), WS Y (AD Y) s.heap σ H locs → lv_has ls 10 [(0, .ref (yA Y 92)), (1, .int y1), (2, .int y2), (3, .int y3), (4, .int y4)] → R_24 (y1, y2, y3, y4, σ) → W p l e { frames := 5, cells := 0, slots := 0, locals := 115 } s m args below meth c H locs 0 0 (MQ below (QI Y Q) args s 0 0 (AD Y)) (F0 m 24 ls [])) (hR_38 : ∀ (y1 y2 y3 y4 y5 : Int32) (σ : St) (H : Heap) (locs : List Loc) (ls : Array Slot), WS Y (AD Y) s.heap σ H locs → lv_has ls 10 [(0, .ref (yA Y 92)), (1, .int y1), (2, .int y2), (3, .int y3), (4, .int y4), (5, .int y5)] → R_38 (y1, y2, y3, y4, y5, σ) → W p l e { frames := 5, cells := 0, slots := 0, locals := 115 } s m args below meth c H locs 0 0 (MQ below (QI Y Q) args s 0 0 (AD Y)) (F0 m 38 ls [])) (y1 : Int32) (y2 : Int32) (y3 : Int32) (y4 : Int32) (y5 : Int32) (σ : St) (H : Heap) (locs : List Loc) (ls : Array Slot) (hw : WS Y (AD Y) s.heap σ H locs) (hl : lv_has ls 10 [(0, .ref (yA Y 92)), (1, .int y1), (2, .int y2), (3, .int y3), (4, .int y4), (5, .int y5)]) (h : bX7_match_38 R_24 R_38 y1 y2 y3 y4 y5 σ Q) : W p l e { frames := 5, cells := 0, slots := 0, locals := 115 } s m args below meth c H locs 0 0 (MQ below (QI Y Q) args s 0 0 (AD Y)) (F0 m 38 ls []) := by
  obtain ⟨hx, hb, hr, hml, hown, hlk, hT, hK, hB⟩ := id M
  unfold bX7_match_38 at h
  refine lv_iload hx hb dX7_match_38 (lv_at hl 5 rfl) ?_
  refine lv_aload_n hx hb dX7_match_40 rfl (lv_at hl 0 rfl) ?_
  refine q_get (v := .ref (yA Y 94)) M hw (ob_92 hN) rfl inq_7 9 (by decide) tw_644 rfl dX7_match_41 ?_
  refine lv_iconst (v := 0) hx hb dX7_match_44 (by decide) ?_
  refine q_ild' 0 M hw (ar_94 hN) (by unfold vp_in; decide) (by decide) dX7_match_45 ?_
  refine lv_icmp_ge (tgt := 189) hx hb dX7_match_46 (by decide) (fun c1 => ?_) (fun c1 => ?_)
  · have h := h.1 c1
    obtain ⟨x2, ex2⟩ : ∃ y : Int32, y = y4 + 1 := ⟨_, rfl⟩
    have h := h x2 ex2
    refine lv_iinc (v := x2) (lv' := [(4, .int x2), (0, .ref (yA Y 92)), (1, .int y1), (2, .int y2), (3, .int y3), (5, .int y5)]) hx hb dX7_match_189 hl (k := 4) rfl (by rw [ex2]; rfl) (by decide) rfl (fun ls hl => ?_)
    refine lv_goto (tgt := 24) hx hb dX7_match_192 (by decide) ?_
    exact hR_24 y1 y2 y3 x2 σ _ _ _ hw (lv_sub hl [1, 2, 3, 4, 0] rfl) h
  · have h := h.2 c1
    refine lv_iload hx hb dX7_match_49 (lv_at hl 4 rfl) ?_
    refine lv_iload hx hb dX7_match_51 (lv_at hl 5 rfl) ?_
    refine lv_icmp_eq (tgt := 104) hx hb dX7_match_53 (by decide) (fun c3 => ?_) (fun c3 => ?_)
    · have h := h.1 c3
      exact tX7_match_104 M hN hR_24 hR_38 y1 y2 y3 y4 y5 σ _ _ _ hw (lv_sub hl [0, 1, 2, 3, 4, 5] rfl) h
    · have h := h.2 c3
      refine lv_aload_n hx hb dX7_match_56 rfl (lv_at hl 0 rfl) ?_
      refine lv_iload hx hb dX7_match_57 (lv_at hl 4 rfl) ?_
      refine q_goI hw (q_runV (rest := []) M hw (ctX7_lives l hB hN y4 σ _ h) mbX7_lives (ob_92 hN) rfl tw_792 rfl hl.1 rfl (Nat.le_of_ble_eq_true rfl) ⟨Nat.le_of_ble_eq_true rfl, Nat.le_of_ble_eq_true rfl⟩ ⟨Nat.le_refl _, Nat.le_refl _⟩ dX7_match_59) (fun r5 σ4 H locs h hw => ?_)
      refine lv_if_eq (tgt := 104) hx hb dX7_match_62 (by decide) (fun c6 => ?_) (fun c6 => ?_)
      · have h := h.1 c6
        exact tX7_match_104 M hN hR_24 hR_38 y1 y2 y3 y4 y5 σ4 _ _ _ hw (lv_sub hl [0, 1, 2, 3, 4, 5] rfl) h
      · have h := h.2 c6
        refine lv_aload_n hx hb dX7_match_65 rfl (lv_at hl 0 rfl) ?_
        refine lv_iload hx hb dX7_match_66 (lv_at hl 5 rfl) ?_
        refine q_goI hw (q_runV (rest := []) M hw (ctX7_lives l hB hN y5 σ4 _ h) mbX7_lives (ob_92 hN) rfl tw_792 rfl hl.1 rfl (Nat.le_of_ble_eq_true rfl) ⟨Nat.le_of_ble_eq_true rfl, Nat.le_of_ble_eq_true rfl⟩ ⟨Nat.le_refl _, Nat.le_refl _⟩ dX7_match_68) (fun r8 σ7 H locs h hw => ?_)
        refine lv_if_eq (tgt := 104) hx hb dX7_match_71 (by decide) (fun c9 => ?_) (fun c9 => ?_)
        · have h := h.1 c9
          exact tX7_match_104 M hN hR_24 hR_38 y1 y2 y3 y4 y5 σ7 _ _ _ hw (lv_sub hl [0, 1, 2, 3, 4, 5] rfl) h
        · have h := h.2 c9
          refine lv_aload_n hx hb dX7_match_74 rfl (lv_at hl 0 rfl) ?_
          refine q_get (v := .ref (yA Y 100)) M hw (ob_92 hN) rfl inq_7 16 (by decide) tw_651 rfl dX7_match_75 ?_
          refine lv_bipush (v := 21) hx hb dX7_match_78 (by decide) ?_
          refine lv_iload hx hb dX7_match_80 (lv_at hl 4 rfl) ?_
          refine lv_iadd hx hb dX7_match_82 ?_
          have c10 := h.1
          have h := h.2
          refine q_ild M hw (ar_100 hN) c10 dX7_match_83 ?_
          refine lv_if_ne (tgt := 104) hx hb dX7_match_84 (by decide) (fun c11 => ?_) (fun c11 => ?_)
          · have h := h.2 c11
            exact tX7_match_104 M hN hR_24 hR_38 y1 y2 y3 y4 y5 σ7 _ _ _ hw (lv_sub hl [0, 1, 2, 3, 4, 5] rfl) h
          · have h := h.1 c11
            refine lv_aload_n hx hb dX7_match_87 rfl (lv_at hl 0 rfl) ?_
            refine q_get (v := .ref (yA Y 100)) M hw (ob_92 hN) rfl inq_7 16 (by decide) tw_651 rfl dX7_match_88 ?_
            refine lv_bipush (v := 21) hx hb dX7_match_91 (by decide) ?_
            refine lv_iload hx hb dX7_match_93 (lv_at hl 5 rfl) ?_
            refine lv_iadd hx hb dX7_match_95 ?_
            have c12 := h.1
            have h := h.2
            refine q_ild M hw (ar_100 hN) c12 dX7_match_96 ?_
            refine lv_if_ne (tgt := 104) hx hb dX7_match_97 (by decide) (fun c13 => ?_) (fun c13 => ?_)
            · have h := h.2 c13
              exact tX7_match_104 M hN hR_24 hR_38 y1 y2 y3 y4 y5 σ7 _ _ _ hw (lv_sub hl [0, 1, 2, 3, 4, 5] rfl) h
            · have h := h.1 c13
              refine lv_iconst (v := 1) hx hb dX7_match_100 (by decide) ?_
              refine lv_goto (tgt := 105) hx hb dX7_match_101 (by decide) ?_
              exact tX7_match_105 M hN hR_24 hR_38 y1 y2 y3 y4 y5 1 σ7 _ _ _ hw (lv_sub hl [0, 1, 2, 3, 4, 5] rfl) h
def lX7_match_38 (R_24 : Int32 × Int32 × Int32 × Int32 × St → Prop) (Q : Int32 → St → Prop) : (Int32 × Int32 × Int32 × Int32 × Int32 × St → Prop) → Int32 × Int32 × Int32 × Int32 × Int32 × St → Prop := fun R a => bX7_match_38 R_24 R a.1 a.2.1 a.2.2.1 a.2.2.2.1 a.2.2.2.2.1 a.2.2.2.2.2 Q
theorem tlX7_match_38 {R_24 : Int32 × Int32 × Int32 × Int32 × St → Prop} {Q : Int32 → St → Prop} (M : MC p s m args meth c cX7_match 10 (some .int) RX7 Y) (hN : yN Y = 108) (hR_24 : ∀ (y1 y2 y3 y4 : Int32) (σ : St) (H : Heap) (locs : List Loc) (ls : Array Slot), WS Y (AD Y) s.heap σ H locs → lv_has ls 10 [(0, .ref (yA Y 92)), (1, .int y1), (2, .int y2), (3, .int y3), (4, .int y4)] → R_24 (y1, y2, y3, y4, σ) → W p l e { frames := 5, cells := 0, slots := 0, locals := 115 } s m args below meth c H locs 0 0 (MQ below (QI Y Q) args s 0 0 (AD Y)) (F0 m 24 ls [])) (n : Nat) : ∀ (y1 : Int32) (y2 : Int32) (y3 : Int32) (y4 : Int32) (y5 : Int32) (σ : St) (H : Heap) (locs : List Loc) (ls : Array Slot) (hw : WS Y (AD Y) s.heap σ H locs) (hl : lv_has ls 10 [(0, .ref (yA Y 92)), (1, .int y1), (2, .int y2), (3, .int y3), (4, .int y4), (5, .int y5)]) (h : Lp (lX7_match_38 R_24 Q) n (y1, y2, y3, y4, y5, σ)), W p l e { frames := 5, cells := 0, slots := 0, locals := 115 } s m args below meth c H locs 0 0 (MQ below (QI Y Q) args s 0 0 (AD Y)) (F0 m 38 ls []) := by
  induction n with
  | zero => intro y1 y2 y3 y4 y5 σ H locs ls hw hl h; exact h.elim
  | succ n ih =>
    intro y1 y2 y3 y4 y5 σ H locs ls hw hl h
    exact tX7_match_38 M hN hR_24 ih y1 y2 y3 y4 y5 σ H locs ls hw hl h
def bX7_match_205 (y2 : Int32) (σ : St) (Q : Int32 → St → Prop) : Prop :=
  Q y2 σ
set_option maxHeartbeats 4000000 in
set_option maxRecDepth 100000 in
theorem tX7_match_205 {Q : Int32 → St → Prop} (M : MC p s m args meth c cX7_match 10 (some .int) RX7 Y) (hN : yN Y = 108) (y2 : Int32) (σ : St) (H : Heap) (locs : List Loc) (ls : Array Slot) (hw : WS Y (AD Y) s.heap σ H locs) (hl : lv_has ls 10 [(2, .int y2)]) (h : bX7_match_205 y2 σ Q) : W p l e { frames := 5, cells := 0, slots := 0, locals := 115 } s m args below meth c H locs 0 0 (MQ below (QI Y Q) args s 0 0 (AD Y)) (F0 m 205 ls []) := by
  obtain ⟨hx, hb, hr, hml, hown, hlk, hT, hK, hB⟩ := id M
  unfold bX7_match_205 at h
  refine lv_iload_n hx hb dX7_match_205 rfl (lv_at hl 0 rfl) ?_
  refine lv_goto (tgt := 210) hx hb dX7_match_206 (by decide) ?_
  exact q_iret M hw h dX7_match_210
def bX7_match_24 (R_24 : Int32 × Int32 × Int32 × Int32 × St → Prop) (y1 : Int32) (y2 : Int32) (y3 : Int32) (y4 : Int32) (σ : St) (Q : Int32 → St → Prop) : Prop :=
  (((σ.1 94 0) ≤ y4 → ((y1 = 0 → bX7_match_205 y2 σ Q) ∧ (¬ y1 = 0 → ((y2 = (-9) → bX7_match_205 y2 σ Q) ∧ (¬ y2 = (-9) → Q y3 σ))))) ∧ (¬ (σ.1 94 0) ≤ y4 → ∃ n : Nat, Lp (lX7_match_38 R_24 Q) n (y1, y2, y3, y4, 0, σ)))
set_option maxHeartbeats 4000000 in
set_option maxRecDepth 100000 in
theorem tX7_match_24 {R_24 : Int32 × Int32 × Int32 × Int32 × St → Prop} {Q : Int32 → St → Prop} (M : MC p s m args meth c cX7_match 10 (some .int) RX7 Y) (hN : yN Y = 108) (hR_24 : ∀ (y1 y2 y3 y4 : Int32) (σ : St) (H : Heap) (locs : List Loc) (ls : Array Slot), WS Y (AD Y) s.heap σ H locs → lv_has ls 10 [(0, .ref (yA Y 92)), (1, .int y1), (2, .int y2), (3, .int y3), (4, .int y4)] → R_24 (y1, y2, y3, y4, σ) → W p l e { frames := 5, cells := 0, slots := 0, locals := 115 } s m args below meth c H locs 0 0 (MQ below (QI Y Q) args s 0 0 (AD Y)) (F0 m 24 ls [])) (y1 : Int32) (y2 : Int32) (y3 : Int32) (y4 : Int32) (σ : St) (H : Heap) (locs : List Loc) (ls : Array Slot) (hw : WS Y (AD Y) s.heap σ H locs) (hl : lv_has ls 10 [(0, .ref (yA Y 92)), (1, .int y1), (2, .int y2), (3, .int y3), (4, .int y4)]) (h : bX7_match_24 R_24 y1 y2 y3 y4 σ Q) : W p l e { frames := 5, cells := 0, slots := 0, locals := 115 } s m args below meth c H locs 0 0 (MQ below (QI Y Q) args s 0 0 (AD Y)) (F0 m 24 ls []) := by
  obtain ⟨hx, hb, hr, hml, hown, hlk, hT, hK, hB⟩ := id M
  unfold bX7_match_24 at h
  refine lv_iload hx hb dX7_match_24 (lv_at hl 4 rfl) ?_
  refine lv_aload_n hx hb dX7_match_26 rfl (lv_at hl 0 rfl) ?_
  refine q_get (v := .ref (yA Y 94)) M hw (ob_92 hN) rfl inq_7 9 (by decide) tw_644 rfl dX7_match_27 ?_
  refine lv_iconst (v := 0) hx hb dX7_match_30 (by decide) ?_
  refine q_ild' 0 M hw (ar_94 hN) (by unfold vp_in; decide) (by decide) dX7_match_31 ?_
  refine lv_icmp_ge (tgt := 195) hx hb dX7_match_32 (by decide) (fun c1 => ?_) (fun c1 => ?_)
  · have h := h.1 c1
    refine lv_iload_n hx hb dX7_match_195 rfl (lv_at hl 1 rfl) ?_
    refine lv_if_eq (tgt := 205) hx hb dX7_match_196 (by decide) (fun c2 => ?_) (fun c2 => ?_)
    · have h := h.1 c2
      exact tX7_match_205 M hN y2 σ _ _ _ hw (lv_sub hl [2] rfl) h
    · have h := h.2 c2
      refine lv_iload_n hx hb dX7_match_199 rfl (lv_at hl 2 rfl) ?_
      refine lv_bipush (v := (-9)) hx hb dX7_match_200 (by decide) ?_
      refine lv_icmp_ne (tgt := 209) hx hb dX7_match_202 (by decide) (fun c3 => ?_) (fun c3 => ?_)
      · have h := h.2 c3
        refine lv_iload_n hx hb dX7_match_209 rfl (lv_at hl 3 rfl) ?_
        exact q_iret M hw h dX7_match_210
      · have h := h.1 c3
        exact tX7_match_205 M hN y2 σ _ _ _ hw (lv_sub hl [2] rfl) h
  · have h := h.2 c1
    refine lv_iconst (v := 0) hx hb dX7_match_35 (by decide) ?_
    refine lv_istore (lv' := [(5, .int 0), (0, .ref (yA Y 92)), (1, .int y1), (2, .int y2), (3, .int y3), (4, .int y4)]) hx hb dX7_match_36 hl (by decide) rfl (fun ls hl => ?_)
    obtain ⟨n, h⟩ := h
    exact tlX7_match_38 M hN hR_24 n y1 y2 y3 y4 0 σ _ _ _ hw (lv_sub hl [1, 2, 3, 4, 5, 0] rfl) h
def lX7_match_24 (Q : Int32 → St → Prop) : (Int32 × Int32 × Int32 × Int32 × St → Prop) → Int32 × Int32 × Int32 × Int32 × St → Prop := fun R a => bX7_match_24 R a.1 a.2.1 a.2.2.1 a.2.2.2.1 a.2.2.2.2 Q
theorem tlX7_match_24 {Q : Int32 → St → Prop} (M : MC p s m args meth c cX7_match 10 (some .int) RX7 Y) (hN : yN Y = 108) (n : Nat) : ∀ (y1 : Int32) (y2 : Int32) (y3 : Int32) (y4 : Int32) (σ : St) (H : Heap) (locs : List Loc) (ls : Array Slot) (hw : WS Y (AD Y) s.heap σ H locs) (hl : lv_has ls 10 [(0, .ref (yA Y 92)), (1, .int y1), (2, .int y2), (3, .int y3), (4, .int y4)]) (h : Lp (lX7_match_24 Q) n (y1, y2, y3, y4, σ)), W p l e { frames := 5, cells := 0, slots := 0, locals := 115 } s m args below meth c H locs 0 0 (MQ below (QI Y Q) args s 0 0 (AD Y)) (F0 m 24 ls []) := by
  induction n with
  | zero => intro y1 y2 y3 y4 σ H locs ls hw hl h; exact h.elim
  | succ n ih =>
    intro y1 y2 y3 y4 σ H locs ls hw hl h
    exact tX7_match_24 M hN ih y1 y2 y3 y4 σ H locs ls hw hl h
def wX7_match (a0 : Int32) (σ : St) (Q : Int32 → St → Prop) : Prop :=
  (∀ σ1 : St, σ1 = up σ 92 0 0 → wX7_in a0 0 1 σ1 (fun r3 σ2 => ((r3 = 0 → Q (-1) σ2) ∧ (¬ r3 = 0 → ∃ n : Nat, Lp (lX7_match_24 Q) n (a0, (-9), 0, 0, σ2)))))
set_option maxHeartbeats 4000000 in
set_option maxRecDepth 100000 in
theorem tX7_match_E {Q : Int32 → St → Prop} (M : MC p s m args meth c cX7_match 10 (some .int) RX7 Y) (hN : yN Y = 108) (a0 : Int32) (σ : St) (H : Heap) (locs : List Loc) (ls : Array Slot) (hw : WS Y (AD Y) s.heap σ H locs) (hl : lv_has ls 10 [(0, .ref (yA Y 92)), (1, .int a0)]) (h : wX7_match a0 σ Q) : W p l e { frames := 5, cells := 0, slots := 0, locals := 115 } s m args below meth c H locs 0 0 (MQ below (QI Y Q) args s 0 0 (AD Y)) (F0 m 0 ls []) := by
  obtain ⟨hx, hb, hr, hml, hown, hlk, hT, hK, hB⟩ := id M
  unfold wX7_match at h
  refine lv_aload_n hx hb dX7_match_0 rfl (lv_at hl 0 rfl) ?_
  refine lv_iconst (v := 0) hx hb dX7_match_1 (by decide) ?_
  refine q_put (v := 0) M hw (ob_92 hN) rfl inq_7 tyX7 tyX7_ok nmX7 0 (by decide) tw_635 rfl rfl rfl (Nat.le_of_ble_eq_true rfl) (by simp [up, upd, f0]) dX7_match_2 (fun σ1 H locs es hw => ?_)
  have h := h σ1 es
  refine lv_iload_n hx hb dX7_match_5 rfl (lv_at hl 1 rfl) ?_
  refine lv_iconst (v := 0) hx hb dX7_match_6 (by decide) ?_
  refine lv_iconst (v := 1) hx hb dX7_match_7 (by decide) ?_
  refine q_goI hw (q_runS (rest := []) M hw (ctX7_in l hB a0 0 1 σ1 _ h) mbX7_in tw_718 rfl hl.1 rfl (Nat.le_of_ble_eq_true rfl) ⟨Nat.le_of_ble_eq_true rfl, Nat.le_of_ble_eq_true rfl⟩ ⟨Nat.le_refl _, Nat.le_refl _⟩ dX7_match_8) (fun r3 σ2 H locs h hw => ?_)
  refine lv_if_ne (tgt := 16) hx hb dX7_match_11 (by decide) (fun c4 => ?_) (fun c4 => ?_)
  · have h := h.2 c4
    refine lv_bipush (v := (-9)) hx hb dX7_match_16 (by decide) ?_
    refine lv_istore_n (lv' := [(2, .int (-9)), (0, .ref (yA Y 92)), (1, .int a0)]) hx hb dX7_match_18 rfl hl (by decide) rfl (fun ls hl => ?_)
    refine lv_iconst (v := 0) hx hb dX7_match_19 (by decide) ?_
    refine lv_istore_n (lv' := [(3, .int 0), (2, .int (-9)), (0, .ref (yA Y 92)), (1, .int a0)]) hx hb dX7_match_20 rfl hl (by decide) rfl (fun ls hl => ?_)
    refine lv_iconst (v := 0) hx hb dX7_match_21 (by decide) ?_
    refine lv_istore (lv' := [(4, .int 0), (3, .int 0), (2, .int (-9)), (0, .ref (yA Y 92)), (1, .int a0)]) hx hb dX7_match_22 hl (by decide) rfl (fun ls hl => ?_)
    obtain ⟨n, h⟩ := h
    exact tlX7_match_24 M hN n a0 (-9) 0 0 σ2 _ _ _ hw (lv_sub hl [3, 4, 2, 1, 0] rfl) h
  · have h := h.1 c4
    refine lv_iconst (v := (-1)) hx hb dX7_match_14 (by decide) ?_
    exact q_iret M hw h dX7_match_15
set_option maxRecDepth 100000 in
theorem ctX7_match (l : Launch) {Y : LY} (hB : YB Y) (hN : yN Y = 108) (a0 : Int32) (σ : St) (Q : Int32 → St → Prop) (h : wX7_match a0 σ Q) : CT l yX7_match (Cond.code yX7_match cX7_match 10 (some .int)) { frames := 5, cells := 0, slots := 0, locals := 115 } Y [.ref (yA Y 92), .int a0] σ (QI Y Q) :=
  q_ent hB (by decide +kernel) (Nat.le_of_ble_eq_true rfl) (fun p e s m below meth c ls M hw hl => tX7_match_E M hN a0 σ _ _ ls hw hl h)
theorem mbX7_match : MB RX7 yX7_match cX7_match 1 10 (some .int) := ⟨tw_862, tw_863, tw_56, tw_864, by decide +kernel⟩
end
section
variable {p : Program} {l : Launch} {e : Env} {s : State} {m : MethodId} {args : Array Value} {below : List Frame} {meth : Method} {c : Code} {Y : LY}
theorem dX7_cuts_0 : decode cX7_cuts 0 = .ok (.aload_n 0, 1) := by decide +kernel
theorem dX7_cuts_1 : decode cX7_cuts 1 = .ok (.iconst 0, 1) := by decide +kernel
theorem dX7_cuts_2 : decode cX7_cuts 2 = .ok (.putfield 62, 3) := by decide +kernel
theorem dX7_cuts_5 : decode cX7_cuts 5 = .ok (.aload_n 0, 1) := by decide +kernel
theorem dX7_cuts_6 : decode cX7_cuts 6 = .ok (.iload_n 1, 1) := by decide +kernel
theorem dX7_cuts_7 : decode cX7_cuts 7 = .ok (.invokevirtual 127, 3) := by decide +kernel
theorem dX7_cuts_10 : decode cX7_cuts 10 = .ok (.ifCond .eq 23, 3) := by decide +kernel
theorem dX7_cuts_13 : decode cX7_cuts 13 = .ok (.iload_n 2, 1) := by decide +kernel
theorem dX7_cuts_14 : decode cX7_cuts 14 = .ok (.iconst 0, 1) := by decide +kernel
theorem dX7_cuts_15 : decode cX7_cuts 15 = .ok (.bipush 99, 2) := by decide +kernel
theorem dX7_cuts_17 : decode cX7_cuts 17 = .ok (.invokestatic 66, 3) := by decide +kernel
theorem dX7_cuts_20 : decode cX7_cuts 20 = .ok (.ifCond .eq 13, 3) := by decide +kernel
theorem dX7_cuts_23 : decode cX7_cuts 23 = .ok (.iload_n 3, 1) := by decide +kernel
theorem dX7_cuts_24 : decode cX7_cuts 24 = .ok (.iconst 0, 1) := by decide +kernel
theorem dX7_cuts_25 : decode cX7_cuts 25 = .ok (.bipush 16, 2) := by decide +kernel
theorem dX7_cuts_27 : decode cX7_cuts 27 = .ok (.invokestatic 66, 3) := by decide +kernel
theorem dX7_cuts_30 : decode cX7_cuts 30 = .ok (.ifCond .ne 5, 3) := by decide +kernel
theorem dX7_cuts_33 : decode cX7_cuts 33 = .ok (.iconst (-1), 1) := by decide +kernel
theorem dX7_cuts_34 : decode cX7_cuts 34 = .ok (.ireturn, 1) := by decide +kernel
theorem dX7_cuts_35 : decode cX7_cuts 35 = .ok (.aload_n 0, 1) := by decide +kernel
theorem dX7_cuts_36 : decode cX7_cuts 36 = .ok (.getfield 121, 3) := by decide +kernel
theorem dX7_cuts_39 : decode cX7_cuts 39 = .ok (.bipush 6, 2) := by decide +kernel
theorem dX7_cuts_41 : decode cX7_cuts 41 = .ok (.if_icmp .ne 6, 3) := by decide +kernel
theorem dX7_cuts_44 : decode cX7_cuts 44 = .ok (.bipush (-3), 2) := by decide +kernel
theorem dX7_cuts_46 : decode cX7_cuts 46 = .ok (.ireturn, 1) := by decide +kernel
theorem dX7_cuts_47 : decode cX7_cuts 47 = .ok (.aload_n 0, 1) := by decide +kernel
theorem dX7_cuts_48 : decode cX7_cuts 48 = .ok (.getfield 44, 3) := by decide +kernel
theorem dX7_cuts_51 : decode cX7_cuts 51 = .ok (.aload_n 0, 1) := by decide +kernel
theorem dX7_cuts_52 : decode cX7_cuts 52 = .ok (.getfield 121, 3) := by decide +kernel
theorem dX7_cuts_55 : decode cX7_cuts 55 = .ok (.iload_n 1, 1) := by decide +kernel
theorem dX7_cuts_56 : decode cX7_cuts 56 = .ok (.iastore, 1) := by decide +kernel
theorem dX7_cuts_57 : decode cX7_cuts 57 = .ok (.aload_n 0, 1) := by decide +kernel
theorem dX7_cuts_58 : decode cX7_cuts 58 = .ok (.getfield 47, 3) := by decide +kernel
theorem dX7_cuts_61 : decode cX7_cuts 61 = .ok (.aload_n 0, 1) := by decide +kernel
theorem dX7_cuts_62 : decode cX7_cuts 62 = .ok (.getfield 121, 3) := by decide +kernel
theorem dX7_cuts_65 : decode cX7_cuts 65 = .ok (.iload_n 2, 1) := by decide +kernel
theorem dX7_cuts_66 : decode cX7_cuts 66 = .ok (.iastore, 1) := by decide +kernel
theorem dX7_cuts_67 : decode cX7_cuts 67 = .ok (.aload_n 0, 1) := by decide +kernel
theorem dX7_cuts_68 : decode cX7_cuts 68 = .ok (.getfield 50, 3) := by decide +kernel
theorem dX7_cuts_71 : decode cX7_cuts 71 = .ok (.aload_n 0, 1) := by decide +kernel
theorem dX7_cuts_72 : decode cX7_cuts 72 = .ok (.getfield 121, 3) := by decide +kernel
theorem dX7_cuts_75 : decode cX7_cuts 75 = .ok (.iload_n 3, 1) := by decide +kernel
theorem dX7_cuts_76 : decode cX7_cuts 76 = .ok (.iastore, 1) := by decide +kernel
theorem dX7_cuts_77 : decode cX7_cuts 77 = .ok (.aload_n 0, 1) := by decide +kernel
theorem dX7_cuts_78 : decode cX7_cuts 78 = .ok (.dup, 1) := by decide +kernel
theorem dX7_cuts_79 : decode cX7_cuts 79 = .ok (.getfield 121, 3) := by decide +kernel
theorem dX7_cuts_82 : decode cX7_cuts 82 = .ok (.iconst 1, 1) := by decide +kernel
theorem dX7_cuts_83 : decode cX7_cuts 83 = .ok (.iadd, 1) := by decide +kernel
theorem dX7_cuts_84 : decode cX7_cuts 84 = .ok (.putfield 121, 3) := by decide +kernel
theorem dX7_cuts_87 : decode cX7_cuts 87 = .ok (.aload_n 0, 1) := by decide +kernel
theorem dX7_cuts_88 : decode cX7_cuts 88 = .ok (.getfield 121, 3) := by decide +kernel
theorem dX7_cuts_91 : decode cX7_cuts 91 = .ok (.ireturn, 1) := by decide +kernel
def wX7_cuts (a0 : Int32) (a1 : Int32) (a2 : Int32) (σ : St) (Q : Int32 → St → Prop) : Prop :=
  (∀ σ1 : St, σ1 = up σ 92 0 0 → wX7_isFarmer a0 σ1 (fun r3 σ2 => ((r3 = 0 → Q (-1) σ2) ∧ (¬ r3 = 0 → wX7_in a1 0 99 σ2 (fun r6 σ5 => ((r6 = 0 → Q (-1) σ5) ∧ (¬ r6 = 0 → wX7_in a2 0 16 σ5 (fun r9 σ8 => ((r9 = 0 → Q (-1) σ8) ∧ (¬ r9 = 0 → (((σ8.1 92 24) = 6 → Q (-3) σ8) ∧ (¬ (σ8.1 92 24) = 6 → (vp_in (σ8.1 92 24) 6 ∧ ∀ σ13 : St, σ13 = up σ8 104 (σ8.1 92 24).toNatClampNeg a0 → (vp_in (σ13.1 92 24) 6 ∧ ∀ σ15 : St, σ15 = up σ13 105 (σ13.1 92 24).toNatClampNeg a1 → (vp_in (σ15.1 92 24) 6 ∧ ∀ σ17 : St, σ17 = up σ15 106 (σ15.1 92 24).toNatClampNeg a2 → (∀ σ18 : St, σ18 = up σ17 92 24 ((σ17.1 92 24) + 1) → Q (σ18.1 92 24) σ18))))))))))))))))
set_option maxHeartbeats 4000000 in
set_option maxRecDepth 100000 in
theorem tX7_cuts_E {Q : Int32 → St → Prop} (M : MC p s m args meth c cX7_cuts 4 (some .int) RX7 Y) (hN : yN Y = 108) (a0 : Int32) (a1 : Int32) (a2 : Int32) (σ : St) (H : Heap) (locs : List Loc) (ls : Array Slot) (hw : WS Y (AD Y) s.heap σ H locs) (hl : lv_has ls 4 [(0, .ref (yA Y 92)), (1, .int a0), (2, .int a1), (3, .int a2)]) (h : wX7_cuts a0 a1 a2 σ Q) : W p l e { frames := 2, cells := 0, slots := 0, locals := 43 } s m args below meth c H locs 0 0 (MQ below (QI Y Q) args s 0 0 (AD Y)) (F0 m 0 ls []) := by
  obtain ⟨hx, hb, hr, hml, hown, hlk, hT, hK, hB⟩ := id M
  unfold wX7_cuts at h
  refine lv_aload_n hx hb dX7_cuts_0 rfl (lv_at hl 0 rfl) ?_
  refine lv_iconst (v := 0) hx hb dX7_cuts_1 (by decide) ?_
  refine q_put (v := 0) M hw (ob_92 hN) rfl inq_7 tyX7 tyX7_ok nmX7 0 (by decide) tw_635 rfl rfl rfl (Nat.le_of_ble_eq_true rfl) (by simp [up, upd, f0]) dX7_cuts_2 (fun σ1 H locs es hw => ?_)
  have h := h σ1 es
  refine lv_aload_n hx hb dX7_cuts_5 rfl (lv_at hl 0 rfl) ?_
  refine lv_iload_n hx hb dX7_cuts_6 rfl (lv_at hl 1 rfl) ?_
  refine q_goI hw (q_runV (rest := []) M hw (ctX7_isFarmer l hB hN a0 σ1 _ h) mbX7_isFarmer (ob_92 hN) rfl tw_764 rfl hl.1 rfl (Nat.le_of_ble_eq_true rfl) ⟨Nat.le_of_ble_eq_true rfl, Nat.le_of_ble_eq_true rfl⟩ ⟨Nat.le_refl _, Nat.le_refl _⟩ dX7_cuts_7) (fun r3 σ2 H locs h hw => ?_)
  refine lv_if_eq (tgt := 33) hx hb dX7_cuts_10 (by decide) (fun c4 => ?_) (fun c4 => ?_)
  · have h := h.1 c4
    refine lv_iconst (v := (-1)) hx hb dX7_cuts_33 (by decide) ?_
    exact q_iret M hw h dX7_cuts_34
  · have h := h.2 c4
    refine lv_iload_n hx hb dX7_cuts_13 rfl (lv_at hl 2 rfl) ?_
    refine lv_iconst (v := 0) hx hb dX7_cuts_14 (by decide) ?_
    refine lv_bipush (v := 99) hx hb dX7_cuts_15 (by decide) ?_
    refine q_goI hw (q_runS (rest := []) M hw (ctX7_in l hB a1 0 99 σ2 _ h) mbX7_in tw_718 rfl hl.1 rfl (Nat.le_of_ble_eq_true rfl) ⟨Nat.le_of_ble_eq_true rfl, Nat.le_of_ble_eq_true rfl⟩ ⟨Nat.le_refl _, Nat.le_refl _⟩ dX7_cuts_17) (fun r6 σ5 H locs h hw => ?_)
    refine lv_if_eq (tgt := 33) hx hb dX7_cuts_20 (by decide) (fun c7 => ?_) (fun c7 => ?_)
    · have h := h.1 c7
      refine lv_iconst (v := (-1)) hx hb dX7_cuts_33 (by decide) ?_
      exact q_iret M hw h dX7_cuts_34
    · have h := h.2 c7
      refine lv_iload_n hx hb dX7_cuts_23 rfl (lv_at hl 3 rfl) ?_
      refine lv_iconst (v := 0) hx hb dX7_cuts_24 (by decide) ?_
      refine lv_bipush (v := 16) hx hb dX7_cuts_25 (by decide) ?_
      refine q_goI hw (q_runS (rest := []) M hw (ctX7_in l hB a2 0 16 σ5 _ h) mbX7_in tw_718 rfl hl.1 rfl (Nat.le_of_ble_eq_true rfl) ⟨Nat.le_of_ble_eq_true rfl, Nat.le_of_ble_eq_true rfl⟩ ⟨Nat.le_refl _, Nat.le_refl _⟩ dX7_cuts_27) (fun r9 σ8 H locs h hw => ?_)
      refine lv_if_ne (tgt := 35) hx hb dX7_cuts_30 (by decide) (fun c10 => ?_) (fun c10 => ?_)
      · have h := h.2 c10
        refine lv_aload_n hx hb dX7_cuts_35 rfl (lv_at hl 0 rfl) ?_
        refine q_get (v := .int (σ8.1 92 24)) M hw (ob_92 hN) rfl inq_7 24 (by decide) tw_659 rfl dX7_cuts_36 ?_
        refine lv_bipush (v := 6) hx hb dX7_cuts_39 (by decide) ?_
        refine lv_icmp_ne (tgt := 47) hx hb dX7_cuts_41 (by decide) (fun c11 => ?_) (fun c11 => ?_)
        · have h := h.2 c11
          refine lv_aload_n hx hb dX7_cuts_47 rfl (lv_at hl 0 rfl) ?_
          refine q_get (v := .ref (yA Y 104)) M hw (ob_92 hN) rfl inq_7 21 (by decide) tw_656 rfl dX7_cuts_48 ?_
          refine lv_aload_n hx hb dX7_cuts_51 rfl (lv_at hl 0 rfl) ?_
          refine q_get (v := .int (σ8.1 92 24)) M hw (ob_92 hN) rfl inq_7 24 (by decide) tw_659 rfl dX7_cuts_52 ?_
          refine lv_iload_n hx hb dX7_cuts_55 rfl (lv_at hl 1 rfl) ?_
          have c12 := h.1
          refine q_ist M hw (ar_104 hN) c12 dX7_cuts_56 (fun σ13 H locs es hw => ?_)
          have h := h.2 σ13 es
          refine lv_aload_n hx hb dX7_cuts_57 rfl (lv_at hl 0 rfl) ?_
          refine q_get (v := .ref (yA Y 105)) M hw (ob_92 hN) rfl inq_7 22 (by decide) tw_657 rfl dX7_cuts_58 ?_
          refine lv_aload_n hx hb dX7_cuts_61 rfl (lv_at hl 0 rfl) ?_
          refine q_get (v := .int (σ13.1 92 24)) M hw (ob_92 hN) rfl inq_7 24 (by decide) tw_659 rfl dX7_cuts_62 ?_
          refine lv_iload_n hx hb dX7_cuts_65 rfl (lv_at hl 2 rfl) ?_
          have c14 := h.1
          refine q_ist M hw (ar_105 hN) c14 dX7_cuts_66 (fun σ15 H locs es hw => ?_)
          have h := h.2 σ15 es
          refine lv_aload_n hx hb dX7_cuts_67 rfl (lv_at hl 0 rfl) ?_
          refine q_get (v := .ref (yA Y 106)) M hw (ob_92 hN) rfl inq_7 23 (by decide) tw_658 rfl dX7_cuts_68 ?_
          refine lv_aload_n hx hb dX7_cuts_71 rfl (lv_at hl 0 rfl) ?_
          refine q_get (v := .int (σ15.1 92 24)) M hw (ob_92 hN) rfl inq_7 24 (by decide) tw_659 rfl dX7_cuts_72 ?_
          refine lv_iload_n hx hb dX7_cuts_75 rfl (lv_at hl 3 rfl) ?_
          have c16 := h.1
          refine q_ist M hw (ar_106 hN) c16 dX7_cuts_76 (fun σ17 H locs es hw => ?_)
          have h := h.2 σ17 es
          refine lv_aload_n hx hb dX7_cuts_77 rfl (lv_at hl 0 rfl) ?_
          refine lv_dup hx hb dX7_cuts_78 rfl ?_
          refine q_get (v := .int (σ17.1 92 24)) M hw (ob_92 hN) rfl inq_7 24 (by decide) tw_659 rfl dX7_cuts_79 ?_
          refine lv_iconst (v := 1) hx hb dX7_cuts_82 (by decide) ?_
          refine lv_iadd hx hb dX7_cuts_83 ?_
          refine q_put (v := ((σ17.1 92 24) + 1)) M hw (ob_92 hN) rfl inq_7 tyX7 tyX7_ok nmX7 24 (by decide) tw_659 rfl rfl rfl (Nat.le_of_ble_eq_true rfl) (by simp [up, upd, f0]) dX7_cuts_84 (fun σ18 H locs es hw => ?_)
          have h := h σ18 es
          refine lv_aload_n hx hb dX7_cuts_87 rfl (lv_at hl 0 rfl) ?_
          refine q_get (v := .int (σ18.1 92 24)) M hw (ob_92 hN) rfl inq_7 24 (by decide) tw_659 rfl dX7_cuts_88 ?_
          exact q_iret M hw h dX7_cuts_91
        · have h := h.1 c11
          refine lv_bipush (v := (-3)) hx hb dX7_cuts_44 (by decide) ?_
          exact q_iret M hw h dX7_cuts_46
      · have h := h.1 c10
        refine lv_iconst (v := (-1)) hx hb dX7_cuts_33 (by decide) ?_
        exact q_iret M hw h dX7_cuts_34
set_option maxRecDepth 100000 in
theorem ctX7_cuts (l : Launch) {Y : LY} (hB : YB Y) (hN : yN Y = 108) (a0 : Int32) (a1 : Int32) (a2 : Int32) (σ : St) (Q : Int32 → St → Prop) (h : wX7_cuts a0 a1 a2 σ Q) : CT l yX7_cuts (Cond.code yX7_cuts cX7_cuts 4 (some .int)) { frames := 2, cells := 0, slots := 0, locals := 43 } Y [.ref (yA Y 92), .int a0, .int a1, .int a2] σ (QI Y Q) :=
  q_ent hB (by decide +kernel) (Nat.le_of_ble_eq_true rfl) (fun p e s m below meth c ls M hw hl => tX7_cuts_E M hN a0 a1 a2 σ _ _ ls hw hl h)
theorem mbX7_cuts : MB RX7 yX7_cuts cX7_cuts 3 4 (some .int) := ⟨tw_866, tw_867, tw_56, tw_868, by decide +kernel⟩
end
section
variable {p : Program} {l : Launch} {e : Env} {s : State} {m : MethodId} {args : Array Value} {below : List Frame} {meth : Method} {c : Code} {Y : LY}
theorem dX7_forget_0 : decode cX7_forget 0 = .ok (.aload_n 0, 1) := by decide +kernel
theorem dX7_forget_1 : decode cX7_forget 1 = .ok (.iconst 0, 1) := by decide +kernel
theorem dX7_forget_2 : decode cX7_forget 2 = .ok (.putfield 62, 3) := by decide +kernel
theorem dX7_forget_5 : decode cX7_forget 5 = .ok (.aload_n 0, 1) := by decide +kernel
theorem dX7_forget_6 : decode cX7_forget 6 = .ok (.getfield 121, 3) := by decide +kernel
theorem dX7_forget_9 : decode cX7_forget 9 = .ok (.istore_n 1, 1) := by decide +kernel
theorem dX7_forget_10 : decode cX7_forget 10 = .ok (.aload_n 0, 1) := by decide +kernel
theorem dX7_forget_11 : decode cX7_forget 11 = .ok (.iconst 0, 1) := by decide +kernel
theorem dX7_forget_12 : decode cX7_forget 12 = .ok (.putfield 121, 3) := by decide +kernel
theorem dX7_forget_15 : decode cX7_forget 15 = .ok (.iload_n 1, 1) := by decide +kernel
theorem dX7_forget_16 : decode cX7_forget 16 = .ok (.ireturn, 1) := by decide +kernel
def wX7_forget (σ : St) (Q : Int32 → St → Prop) : Prop :=
  (∀ σ1 : St, σ1 = up σ 92 0 0 → (∀ x2 : Int32, x2 = (σ1.1 92 24) → (∀ σ3 : St, σ3 = up σ1 92 24 0 → Q x2 σ3)))
set_option maxHeartbeats 4000000 in
set_option maxRecDepth 100000 in
theorem tX7_forget_E {Q : Int32 → St → Prop} (M : MC p s m args meth c cX7_forget 2 (some .int) RX7 Y) (hN : yN Y = 108)  (σ : St) (H : Heap) (locs : List Loc) (ls : Array Slot) (hw : WS Y (AD Y) s.heap σ H locs) (hl : lv_has ls 2 [(0, .ref (yA Y 92))]) (h : wX7_forget σ Q) : W p l e { frames := 0, cells := 0, slots := 0, locals := 0 } s m args below meth c H locs 0 0 (MQ below (QI Y Q) args s 0 0 (AD Y)) (F0 m 0 ls []) := by
  obtain ⟨hx, hb, hr, hml, hown, hlk, hT, hK, hB⟩ := id M
  unfold wX7_forget at h
  refine lv_aload_n hx hb dX7_forget_0 rfl (lv_at hl 0 rfl) ?_
  refine lv_iconst (v := 0) hx hb dX7_forget_1 (by decide) ?_
  refine q_put (v := 0) M hw (ob_92 hN) rfl inq_7 tyX7 tyX7_ok nmX7 0 (by decide) tw_635 rfl rfl rfl (Nat.le_of_ble_eq_true rfl) (by simp [up, upd, f0]) dX7_forget_2 (fun σ1 H locs es hw => ?_)
  have h := h σ1 es
  refine lv_aload_n hx hb dX7_forget_5 rfl (lv_at hl 0 rfl) ?_
  refine q_get (v := .int (σ1.1 92 24)) M hw (ob_92 hN) rfl inq_7 24 (by decide) tw_659 rfl dX7_forget_6 ?_
  refine lv_topi (fun x2 ex2 => ?_)
  have h := h x2 ex2
  refine lv_istore_n (lv' := [(1, .int x2), (0, .ref (yA Y 92))]) hx hb dX7_forget_9 rfl hl (by decide) rfl (fun ls hl => ?_)
  refine lv_aload_n hx hb dX7_forget_10 rfl (lv_at hl 1 rfl) ?_
  refine lv_iconst (v := 0) hx hb dX7_forget_11 (by decide) ?_
  refine q_put (v := 0) M hw (ob_92 hN) rfl inq_7 tyX7 tyX7_ok nmX7 24 (by decide) tw_659 rfl rfl rfl (Nat.le_of_ble_eq_true rfl) (by simp [up, upd, f0]) dX7_forget_12 (fun σ3 H locs es hw => ?_)
  have h := h σ3 es
  refine lv_iload_n hx hb dX7_forget_15 rfl (lv_at hl 0 rfl) ?_
  exact q_iret M hw h dX7_forget_16
set_option maxRecDepth 100000 in
theorem ctX7_forget (l : Launch) {Y : LY} (hB : YB Y) (hN : yN Y = 108) (σ : St) (Q : Int32 → St → Prop) (h : wX7_forget σ Q) : CT l yX7_forget (Cond.code yX7_forget cX7_forget 2 (some .int)) { frames := 0, cells := 0, slots := 0, locals := 0 } Y [.ref (yA Y 92)] σ (QI Y Q) :=
  q_ent hB (by decide +kernel) (Nat.le_of_ble_eq_true rfl) (fun p e s m below meth c ls M hw hl => tX7_forget_E M hN σ _ _ ls hw hl h)
theorem mbX7_forget : MB RX7 yX7_forget cX7_forget 0 2 (some .int) := ⟨tw_870, tw_871, tw_56, tw_872, by decide +kernel⟩
end
section
variable {p : Program} {l : Launch} {e : Env} {s : State} {m : MethodId} {args : Array Value} {below : List Frame} {meth : Method} {c : Code} {Y : LY}
theorem dX7_lit_0 : decode cX7_lit 0 = .ok (.aload_n 0, 1) := by decide +kernel
theorem dX7_lit_1 : decode cX7_lit 1 = .ok (.iconst 0, 1) := by decide +kernel
theorem dX7_lit_2 : decode cX7_lit 2 = .ok (.putfield 62, 3) := by decide +kernel
theorem dX7_lit_5 : decode cX7_lit 5 = .ok (.iconst 0, 1) := by decide +kernel
theorem dX7_lit_6 : decode cX7_lit 6 = .ok (.istore_n 1, 1) := by decide +kernel
theorem dX7_lit_7 : decode cX7_lit 7 = .ok (.iconst 0, 1) := by decide +kernel
theorem dX7_lit_8 : decode cX7_lit 8 = .ok (.istore_n 2, 1) := by decide +kernel
theorem dX7_lit_9 : decode cX7_lit 9 = .ok (.iload_n 2, 1) := by decide +kernel
theorem dX7_lit_10 : decode cX7_lit 10 = .ok (.aload_n 0, 1) := by decide +kernel
theorem dX7_lit_11 : decode cX7_lit 11 = .ok (.getfield 121, 3) := by decide +kernel
theorem dX7_lit_14 : decode cX7_lit 14 = .ok (.if_icmp .ge 55, 3) := by decide +kernel
theorem dX7_lit_17 : decode cX7_lit 17 = .ok (.iload_n 1, 1) := by decide +kernel
theorem dX7_lit_18 : decode cX7_lit 18 = .ok (.aload_n 0, 1) := by decide +kernel
theorem dX7_lit_19 : decode cX7_lit 19 = .ok (.getfield 50, 3) := by decide +kernel
theorem dX7_lit_22 : decode cX7_lit 22 = .ok (.iload_n 2, 1) := by decide +kernel
theorem dX7_lit_23 : decode cX7_lit 23 = .ok (.iaload, 1) := by decide +kernel
theorem dX7_lit_24 : decode cX7_lit 24 = .ok (.aload_n 0, 1) := by decide +kernel
theorem dX7_lit_25 : decode cX7_lit 25 = .ok (.aload_n 0, 1) := by decide +kernel
theorem dX7_lit_26 : decode cX7_lit 26 = .ok (.getfield 47, 3) := by decide +kernel
theorem dX7_lit_29 : decode cX7_lit 29 = .ok (.iload_n 2, 1) := by decide +kernel
theorem dX7_lit_30 : decode cX7_lit 30 = .ok (.iaload, 1) := by decide +kernel
theorem dX7_lit_31 : decode cX7_lit 31 = .ok (.invokevirtual 147, 3) := by decide +kernel
theorem dX7_lit_34 : decode cX7_lit 34 = .ok (.aload_n 0, 1) := by decide +kernel
theorem dX7_lit_35 : decode cX7_lit 35 = .ok (.getfield 19, 3) := by decide +kernel
theorem dX7_lit_38 : decode cX7_lit 38 = .ok (.aload_n 0, 1) := by decide +kernel
theorem dX7_lit_39 : decode cX7_lit 39 = .ok (.getfield 44, 3) := by decide +kernel
theorem dX7_lit_42 : decode cX7_lit 42 = .ok (.iload_n 2, 1) := by decide +kernel
theorem dX7_lit_43 : decode cX7_lit 43 = .ok (.iaload, 1) := by decide +kernel
theorem dX7_lit_44 : decode cX7_lit 44 = .ok (.iaload, 1) := by decide +kernel
theorem dX7_lit_45 : decode cX7_lit 45 = .ok (.imul, 1) := by decide +kernel
theorem dX7_lit_46 : decode cX7_lit 46 = .ok (.if_icmp .le 14, 3) := by decide +kernel
theorem dX7_lit_49 : decode cX7_lit 49 = .ok (.iconst 1, 1) := by decide +kernel
theorem dX7_lit_50 : decode cX7_lit 50 = .ok (.aload_n 0, 1) := by decide +kernel
theorem dX7_lit_51 : decode cX7_lit 51 = .ok (.getfield 44, 3) := by decide +kernel
theorem dX7_lit_54 : decode cX7_lit 54 = .ok (.iload_n 2, 1) := by decide +kernel
theorem dX7_lit_55 : decode cX7_lit 55 = .ok (.iaload, 1) := by decide +kernel
theorem dX7_lit_56 : decode cX7_lit 56 = .ok (.ishl, 1) := by decide +kernel
theorem dX7_lit_57 : decode cX7_lit 57 = .ok (.goto 4, 3) := by decide +kernel
theorem dX7_lit_60 : decode cX7_lit 60 = .ok (.iconst 0, 1) := by decide +kernel
theorem dX7_lit_61 : decode cX7_lit 61 = .ok (.ior, 1) := by decide +kernel
theorem dX7_lit_62 : decode cX7_lit 62 = .ok (.istore_n 1, 1) := by decide +kernel
theorem dX7_lit_63 : decode cX7_lit 63 = .ok (.iinc 2 1, 3) := by decide +kernel
theorem dX7_lit_66 : decode cX7_lit 66 = .ok (.goto (-57), 3) := by decide +kernel
theorem dX7_lit_69 : decode cX7_lit 69 = .ok (.iload_n 1, 1) := by decide +kernel
theorem dX7_lit_70 : decode cX7_lit 70 = .ok (.ireturn, 1) := by decide +kernel
def bX7_lit_61 (R_9 : Int32 × Int32 × St → Prop) (y2 : Int32) (z0 : Int32) (z1 : Int32) (σ : St) (Q : Int32 → St → Prop) : Prop :=
  (∀ x1 : Int32, x1 = (z1 ||| z0) → (∀ x2 : Int32, x2 = y2 + 1 → R_9 (x1, x2, σ)))
set_option maxHeartbeats 4000000 in
set_option maxRecDepth 100000 in
theorem tX7_lit_61 {R_9 : Int32 × Int32 × St → Prop} {Q : Int32 → St → Prop} (M : MC p s m args meth c cX7_lit 3 (some .int) RX7 Y) (hN : yN Y = 108) (hR_9 : ∀ (y1 y2 : Int32) (σ : St) (H : Heap) (locs : List Loc) (ls : Array Slot), WS Y (AD Y) s.heap σ H locs → lv_has ls 3 [(0, .ref (yA Y 92)), (1, .int y1), (2, .int y2)] → R_9 (y1, y2, σ) → W p l e { frames := 2, cells := 0, slots := 0, locals := 43 } s m args below meth c H locs 0 0 (MQ below (QI Y Q) args s 0 0 (AD Y)) (F0 m 9 ls [])) (y2 : Int32) (z0 : Int32) (z1 : Int32) (σ : St) (H : Heap) (locs : List Loc) (ls : Array Slot) (hw : WS Y (AD Y) s.heap σ H locs) (hl : lv_has ls 3 [(0, .ref (yA Y 92)), (2, .int y2)]) (h : bX7_lit_61 R_9 y2 z0 z1 σ Q) : W p l e { frames := 2, cells := 0, slots := 0, locals := 43 } s m args below meth c H locs 0 0 (MQ below (QI Y Q) args s 0 0 (AD Y)) (F0 m 61 ls [.int z0, .int z1]) := by
  obtain ⟨hx, hb, hr, hml, hown, hlk, hT, hK, hB⟩ := id M
  unfold bX7_lit_61 at h
  refine lv_ior hx hb dX7_lit_61 ?_
  refine lv_topi (fun x1 ex1 => ?_)
  have h := h x1 ex1
  refine lv_istore_n (lv' := [(1, .int x1), (0, .ref (yA Y 92)), (2, .int y2)]) hx hb dX7_lit_62 rfl hl (by decide) rfl (fun ls hl => ?_)
  obtain ⟨x2, ex2⟩ : ∃ y : Int32, y = y2 + 1 := ⟨_, rfl⟩
  have h := h x2 ex2
  refine lv_iinc (v := x2) (lv' := [(2, .int x2), (1, .int x1), (0, .ref (yA Y 92))]) hx hb dX7_lit_63 hl (k := 2) rfl (by rw [ex2]; rfl) (by decide) rfl (fun ls hl => ?_)
  refine lv_goto (tgt := 9) hx hb dX7_lit_66 (by decide) ?_
  exact hR_9 x1 x2 σ _ _ _ hw (lv_sub hl [2, 1, 0] rfl) h
def bX7_lit_9 (R_9 : Int32 × Int32 × St → Prop) (y1 : Int32) (y2 : Int32) (σ : St) (Q : Int32 → St → Prop) : Prop :=
  (((σ.1 92 24) ≤ y2 → Q y1 σ) ∧ (¬ (σ.1 92 24) ≤ y2 → (vp_in y2 6 ∧ (vp_in y2 6 ∧ wX7_moonOf (σ.1 105 y2.toNatClampNeg) σ (fun r5 σ4 => (vp_in y2 6 ∧ (vp_in (σ4.1 104 y2.toNatClampNeg) 10 ∧ (((σ.1 106 y2.toNatClampNeg) ≤ (r5 * (σ4.1 96 (σ4.1 104 y2.toNatClampNeg).toNatClampNeg)) → bX7_lit_61 R_9 y2 0 y1 σ4 Q) ∧ (¬ (σ.1 106 y2.toNatClampNeg) ≤ (r5 * (σ4.1 96 (σ4.1 104 y2.toNatClampNeg).toNatClampNeg)) → (vp_in y2 6 ∧ bX7_lit_61 R_9 y2 (1 <<< ((σ4.1 104 y2.toNatClampNeg) &&& 31)) y1 σ4 Q))))))))))
set_option maxHeartbeats 4000000 in
set_option maxRecDepth 100000 in
theorem tX7_lit_9 {R_9 : Int32 × Int32 × St → Prop} {Q : Int32 → St → Prop} (M : MC p s m args meth c cX7_lit 3 (some .int) RX7 Y) (hN : yN Y = 108) (hR_9 : ∀ (y1 y2 : Int32) (σ : St) (H : Heap) (locs : List Loc) (ls : Array Slot), WS Y (AD Y) s.heap σ H locs → lv_has ls 3 [(0, .ref (yA Y 92)), (1, .int y1), (2, .int y2)] → R_9 (y1, y2, σ) → W p l e { frames := 2, cells := 0, slots := 0, locals := 43 } s m args below meth c H locs 0 0 (MQ below (QI Y Q) args s 0 0 (AD Y)) (F0 m 9 ls [])) (y1 : Int32) (y2 : Int32) (σ : St) (H : Heap) (locs : List Loc) (ls : Array Slot) (hw : WS Y (AD Y) s.heap σ H locs) (hl : lv_has ls 3 [(0, .ref (yA Y 92)), (1, .int y1), (2, .int y2)]) (h : bX7_lit_9 R_9 y1 y2 σ Q) : W p l e { frames := 2, cells := 0, slots := 0, locals := 43 } s m args below meth c H locs 0 0 (MQ below (QI Y Q) args s 0 0 (AD Y)) (F0 m 9 ls []) := by
  obtain ⟨hx, hb, hr, hml, hown, hlk, hT, hK, hB⟩ := id M
  unfold bX7_lit_9 at h
  refine lv_iload_n hx hb dX7_lit_9 rfl (lv_at hl 2 rfl) ?_
  refine lv_aload_n hx hb dX7_lit_10 rfl (lv_at hl 0 rfl) ?_
  refine q_get (v := .int (σ.1 92 24)) M hw (ob_92 hN) rfl inq_7 24 (by decide) tw_659 rfl dX7_lit_11 ?_
  refine lv_icmp_ge (tgt := 69) hx hb dX7_lit_14 (by decide) (fun c1 => ?_) (fun c1 => ?_)
  · have h := h.1 c1
    refine lv_iload_n hx hb dX7_lit_69 rfl (lv_at hl 1 rfl) ?_
    exact q_iret M hw h dX7_lit_70
  · have h := h.2 c1
    refine lv_iload_n hx hb dX7_lit_17 rfl (lv_at hl 1 rfl) ?_
    refine lv_aload_n hx hb dX7_lit_18 rfl (lv_at hl 0 rfl) ?_
    refine q_get (v := .ref (yA Y 106)) M hw (ob_92 hN) rfl inq_7 23 (by decide) tw_658 rfl dX7_lit_19 ?_
    refine lv_iload_n hx hb dX7_lit_22 rfl (lv_at hl 2 rfl) ?_
    have c2 := h.1
    have h := h.2
    refine q_ild M hw (ar_106 hN) c2 dX7_lit_23 ?_
    refine lv_aload_n hx hb dX7_lit_24 rfl (lv_at hl 0 rfl) ?_
    refine lv_aload_n hx hb dX7_lit_25 rfl (lv_at hl 0 rfl) ?_
    refine q_get (v := .ref (yA Y 105)) M hw (ob_92 hN) rfl inq_7 22 (by decide) tw_657 rfl dX7_lit_26 ?_
    refine lv_iload_n hx hb dX7_lit_29 rfl (lv_at hl 2 rfl) ?_
    have c3 := h.1
    have h := h.2
    refine q_ild M hw (ar_105 hN) c3 dX7_lit_30 ?_
    refine q_goI hw (q_runV (rest := [.int (σ.1 106 y2.toNatClampNeg), .int y1]) M hw (ctX7_moonOf l hB hN (σ.1 105 y2.toNatClampNeg) σ _ h) mbX7_moonOf (ob_92 hN) rfl tw_833 rfl hl.1 rfl (Nat.le_of_ble_eq_true rfl) ⟨Nat.le_of_ble_eq_true rfl, Nat.le_of_ble_eq_true rfl⟩ ⟨Nat.le_refl _, Nat.le_refl _⟩ dX7_lit_31) (fun r5 σ4 H locs h hw => ?_)
    refine lv_aload_n hx hb dX7_lit_34 rfl (lv_at hl 0 rfl) ?_
    refine q_get (v := .ref (yA Y 96)) M hw (ob_92 hN) rfl inq_7 12 (by decide) tw_647 rfl dX7_lit_35 ?_
    refine lv_aload_n hx hb dX7_lit_38 rfl (lv_at hl 0 rfl) ?_
    refine q_get (v := .ref (yA Y 104)) M hw (ob_92 hN) rfl inq_7 21 (by decide) tw_656 rfl dX7_lit_39 ?_
    refine lv_iload_n hx hb dX7_lit_42 rfl (lv_at hl 2 rfl) ?_
    have c6 := h.1
    have h := h.2
    refine q_ild M hw (ar_104 hN) c6 dX7_lit_43 ?_
    have c7 := h.1
    have h := h.2
    refine q_ild M hw (ar_96 hN) c7 dX7_lit_44 ?_
    refine lv_imul hx hb dX7_lit_45 ?_
    refine lv_icmp_le (tgt := 60) hx hb dX7_lit_46 (by decide) (fun c8 => ?_) (fun c8 => ?_)
    · have h := h.1 c8
      refine lv_iconst (v := 0) hx hb dX7_lit_60 (by decide) ?_
      exact tX7_lit_61 M hN hR_9 y2 0 y1 σ4 _ _ _ hw (lv_sub hl [0, 2] rfl) h
    · have h := h.2 c8
      refine lv_iconst (v := 1) hx hb dX7_lit_49 (by decide) ?_
      refine lv_aload_n hx hb dX7_lit_50 rfl (lv_at hl 0 rfl) ?_
      refine q_get (v := .ref (yA Y 104)) M hw (ob_92 hN) rfl inq_7 21 (by decide) tw_656 rfl dX7_lit_51 ?_
      refine lv_iload_n hx hb dX7_lit_54 rfl (lv_at hl 2 rfl) ?_
      have c9 := h.1
      have h := h.2
      refine q_ild M hw (ar_104 hN) c9 dX7_lit_55 ?_
      refine lv_ishl hx hb dX7_lit_56 ?_
      refine lv_goto (tgt := 61) hx hb dX7_lit_57 (by decide) ?_
      exact tX7_lit_61 M hN hR_9 y2 (1 <<< ((σ4.1 104 y2.toNatClampNeg) &&& 31)) y1 σ4 _ _ _ hw (lv_sub hl [0, 2] rfl) h
def lX7_lit_9 (Q : Int32 → St → Prop) : (Int32 × Int32 × St → Prop) → Int32 × Int32 × St → Prop := fun R a => bX7_lit_9 R a.1 a.2.1 a.2.2 Q
theorem tlX7_lit_9 {Q : Int32 → St → Prop} (M : MC p s m args meth c cX7_lit 3 (some .int) RX7 Y) (hN : yN Y = 108) (n : Nat) : ∀ (y1 : Int32) (y2 : Int32) (σ : St) (H : Heap) (locs : List Loc) (ls : Array Slot) (hw : WS Y (AD Y) s.heap σ H locs) (hl : lv_has ls 3 [(0, .ref (yA Y 92)), (1, .int y1), (2, .int y2)]) (h : Lp (lX7_lit_9 Q) n (y1, y2, σ)), W p l e { frames := 2, cells := 0, slots := 0, locals := 43 } s m args below meth c H locs 0 0 (MQ below (QI Y Q) args s 0 0 (AD Y)) (F0 m 9 ls []) := by
  induction n with
  | zero => intro y1 y2 σ H locs ls hw hl h; exact h.elim
  | succ n ih =>
    intro y1 y2 σ H locs ls hw hl h
    exact tX7_lit_9 M hN ih y1 y2 σ H locs ls hw hl h
def wX7_lit (σ : St) (Q : Int32 → St → Prop) : Prop :=
  (∀ σ1 : St, σ1 = up σ 92 0 0 → ∃ n : Nat, Lp (lX7_lit_9 Q) n (0, 0, σ1))
set_option maxHeartbeats 4000000 in
set_option maxRecDepth 100000 in
theorem tX7_lit_E {Q : Int32 → St → Prop} (M : MC p s m args meth c cX7_lit 3 (some .int) RX7 Y) (hN : yN Y = 108)  (σ : St) (H : Heap) (locs : List Loc) (ls : Array Slot) (hw : WS Y (AD Y) s.heap σ H locs) (hl : lv_has ls 3 [(0, .ref (yA Y 92))]) (h : wX7_lit σ Q) : W p l e { frames := 2, cells := 0, slots := 0, locals := 43 } s m args below meth c H locs 0 0 (MQ below (QI Y Q) args s 0 0 (AD Y)) (F0 m 0 ls []) := by
  obtain ⟨hx, hb, hr, hml, hown, hlk, hT, hK, hB⟩ := id M
  unfold wX7_lit at h
  refine lv_aload_n hx hb dX7_lit_0 rfl (lv_at hl 0 rfl) ?_
  refine lv_iconst (v := 0) hx hb dX7_lit_1 (by decide) ?_
  refine q_put (v := 0) M hw (ob_92 hN) rfl inq_7 tyX7 tyX7_ok nmX7 0 (by decide) tw_635 rfl rfl rfl (Nat.le_of_ble_eq_true rfl) (by simp [up, upd, f0]) dX7_lit_2 (fun σ1 H locs es hw => ?_)
  have h := h σ1 es
  refine lv_iconst (v := 0) hx hb dX7_lit_5 (by decide) ?_
  refine lv_istore_n (lv' := [(1, .int 0), (0, .ref (yA Y 92))]) hx hb dX7_lit_6 rfl hl (by decide) rfl (fun ls hl => ?_)
  refine lv_iconst (v := 0) hx hb dX7_lit_7 (by decide) ?_
  refine lv_istore_n (lv' := [(2, .int 0), (1, .int 0), (0, .ref (yA Y 92))]) hx hb dX7_lit_8 rfl hl (by decide) rfl (fun ls hl => ?_)
  obtain ⟨n, h⟩ := h
  exact tlX7_lit_9 M hN n 0 0 σ1 _ _ _ hw (lv_sub hl [2, 1, 0] rfl) h
set_option maxRecDepth 100000 in
theorem ctX7_lit (l : Launch) {Y : LY} (hB : YB Y) (hN : yN Y = 108) (σ : St) (Q : Int32 → St → Prop) (h : wX7_lit σ Q) : CT l yX7_lit (Cond.code yX7_lit cX7_lit 3 (some .int)) { frames := 2, cells := 0, slots := 0, locals := 43 } Y [.ref (yA Y 92)] σ (QI Y Q) :=
  q_ent hB (by decide +kernel) (Nat.le_of_ble_eq_true rfl) (fun p e s m below meth c ls M hw hl => tX7_lit_E M hN σ _ _ ls hw hl h)
theorem mbX7_lit : MB RX7 yX7_lit cX7_lit 0 3 (some .int) := ⟨tw_874, tw_875, tw_56, tw_876, by decide +kernel⟩
end
section
variable {p : Program} {l : Launch} {e : Env} {s : State} {m : MethodId} {args : Array Value} {below : List Frame} {meth : Method} {c : Code} {Y : LY}
theorem dX7_gcd_0 : decode cX7_gcd 0 = .ok (.iload_n 0, 1) := by decide +kernel
theorem dX7_gcd_1 : decode cX7_gcd 1 = .ok (.istore_n 2, 1) := by decide +kernel
theorem dX7_gcd_2 : decode cX7_gcd 2 = .ok (.iload_n 1, 1) := by decide +kernel
theorem dX7_gcd_3 : decode cX7_gcd 3 = .ok (.istore_n 3, 1) := by decide +kernel
theorem dX7_gcd_4 : decode cX7_gcd 4 = .ok (.iload_n 3, 1) := by decide +kernel
theorem dX7_gcd_5 : decode cX7_gcd 5 = .ok (.ifCond .eq 16, 3) := by decide +kernel
theorem dX7_gcd_8 : decode cX7_gcd 8 = .ok (.iload_n 2, 1) := by decide +kernel
theorem dX7_gcd_9 : decode cX7_gcd 9 = .ok (.iload_n 3, 1) := by decide +kernel
theorem dX7_gcd_10 : decode cX7_gcd 10 = .ok (.irem, 1) := by decide +kernel
theorem dX7_gcd_11 : decode cX7_gcd 11 = .ok (.istore 4, 2) := by decide +kernel
theorem dX7_gcd_13 : decode cX7_gcd 13 = .ok (.iload_n 3, 1) := by decide +kernel
theorem dX7_gcd_14 : decode cX7_gcd 14 = .ok (.istore_n 2, 1) := by decide +kernel
theorem dX7_gcd_15 : decode cX7_gcd 15 = .ok (.iload 4, 2) := by decide +kernel
theorem dX7_gcd_17 : decode cX7_gcd 17 = .ok (.istore_n 3, 1) := by decide +kernel
theorem dX7_gcd_18 : decode cX7_gcd 18 = .ok (.goto (-14), 3) := by decide +kernel
theorem dX7_gcd_21 : decode cX7_gcd 21 = .ok (.iload_n 2, 1) := by decide +kernel
theorem dX7_gcd_22 : decode cX7_gcd 22 = .ok (.ireturn, 1) := by decide +kernel
def bX7_gcd_4 (R_4 : Int32 × Int32 × St → Prop) (y2 : Int32) (y3 : Int32) (σ : St) (Q : Int32 → St → Prop) : Prop :=
  ((y3 = 0 → Q y2 σ) ∧ (¬ y3 = 0 → (¬ y3 = 0 ∧ (∀ x3 : Int32, x3 = (y2 - y2 / y3 * y3) → R_4 (y3, x3, σ)))))
set_option maxHeartbeats 4000000 in
set_option maxRecDepth 100000 in
theorem tX7_gcd_4 {R_4 : Int32 × Int32 × St → Prop} {Q : Int32 → St → Prop} (M : MC p s m args meth c cX7_gcd 5 (some .int) RX7 Y) (hR_4 : ∀ (y2 y3 : Int32) (σ : St) (H : Heap) (locs : List Loc) (ls : Array Slot), WS Y (AD Y) s.heap σ H locs → lv_has ls 5 [(2, .int y2), (3, .int y3)] → R_4 (y2, y3, σ) → W p l e { frames := 0, cells := 0, slots := 0, locals := 0 } s m args below meth c H locs 0 0 (MQ below (QI Y Q) args s 0 0 (AD Y)) (F0 m 4 ls [])) (y2 : Int32) (y3 : Int32) (σ : St) (H : Heap) (locs : List Loc) (ls : Array Slot) (hw : WS Y (AD Y) s.heap σ H locs) (hl : lv_has ls 5 [(2, .int y2), (3, .int y3)]) (h : bX7_gcd_4 R_4 y2 y3 σ Q) : W p l e { frames := 0, cells := 0, slots := 0, locals := 0 } s m args below meth c H locs 0 0 (MQ below (QI Y Q) args s 0 0 (AD Y)) (F0 m 4 ls []) := by
  obtain ⟨hx, hb, hr, hml, hown, hlk, hT, hK, hB⟩ := id M
  unfold bX7_gcd_4 at h
  refine lv_iload_n hx hb dX7_gcd_4 rfl (lv_at hl 1 rfl) ?_
  refine lv_if_eq (tgt := 21) hx hb dX7_gcd_5 (by decide) (fun c1 => ?_) (fun c1 => ?_)
  · have h := h.1 c1
    refine lv_iload_n hx hb dX7_gcd_21 rfl (lv_at hl 0 rfl) ?_
    exact q_iret M hw h dX7_gcd_22
  · have h := h.2 c1
    refine lv_iload_n hx hb dX7_gcd_8 rfl (lv_at hl 0 rfl) ?_
    refine lv_iload_n hx hb dX7_gcd_9 rfl (lv_at hl 1 rfl) ?_
    have c2 := h.1
    have h := h.2
    refine lv_irem hx hb dX7_gcd_10 c2 ?_
    refine lv_topi (fun x3 ex3 => ?_)
    have h := h x3 ex3
    refine lv_istore (lv' := [(4, .int x3), (2, .int y2), (3, .int y3)]) hx hb dX7_gcd_11 hl (by decide) rfl (fun ls hl => ?_)
    refine lv_iload_n hx hb dX7_gcd_13 rfl (lv_at hl 2 rfl) ?_
    refine lv_istore_n (lv' := [(2, .int y3), (4, .int x3), (3, .int y3)]) hx hb dX7_gcd_14 rfl hl (by decide) rfl (fun ls hl => ?_)
    refine lv_iload hx hb dX7_gcd_15 (lv_at hl 1 rfl) ?_
    refine lv_istore_n (lv' := [(3, .int x3), (2, .int y3), (4, .int x3)]) hx hb dX7_gcd_17 rfl hl (by decide) rfl (fun ls hl => ?_)
    refine lv_goto (tgt := 4) hx hb dX7_gcd_18 (by decide) ?_
    exact hR_4 y3 x3 σ _ _ _ hw (lv_sub hl [1, 0] rfl) h
def lX7_gcd_4 (Q : Int32 → St → Prop) : (Int32 × Int32 × St → Prop) → Int32 × Int32 × St → Prop := fun R a => bX7_gcd_4 R a.1 a.2.1 a.2.2 Q
theorem tlX7_gcd_4 {Q : Int32 → St → Prop} (M : MC p s m args meth c cX7_gcd 5 (some .int) RX7 Y)  (n : Nat) : ∀ (y2 : Int32) (y3 : Int32) (σ : St) (H : Heap) (locs : List Loc) (ls : Array Slot) (hw : WS Y (AD Y) s.heap σ H locs) (hl : lv_has ls 5 [(2, .int y2), (3, .int y3)]) (h : Lp (lX7_gcd_4 Q) n (y2, y3, σ)), W p l e { frames := 0, cells := 0, slots := 0, locals := 0 } s m args below meth c H locs 0 0 (MQ below (QI Y Q) args s 0 0 (AD Y)) (F0 m 4 ls []) := by
  induction n with
  | zero => intro y2 y3 σ H locs ls hw hl h; exact h.elim
  | succ n ih =>
    intro y2 y3 σ H locs ls hw hl h
    exact tX7_gcd_4 M ih y2 y3 σ H locs ls hw hl h
def wX7_gcd (a0 : Int32) (a1 : Int32) (σ : St) (Q : Int32 → St → Prop) : Prop :=
  ∃ n : Nat, Lp (lX7_gcd_4 Q) n (a0, a1, σ)
set_option maxHeartbeats 4000000 in
set_option maxRecDepth 100000 in
theorem tX7_gcd_E {Q : Int32 → St → Prop} (M : MC p s m args meth c cX7_gcd 5 (some .int) RX7 Y)  (a0 : Int32) (a1 : Int32) (σ : St) (H : Heap) (locs : List Loc) (ls : Array Slot) (hw : WS Y (AD Y) s.heap σ H locs) (hl : lv_has ls 5 [(0, .int a0), (1, .int a1)]) (h : wX7_gcd a0 a1 σ Q) : W p l e { frames := 0, cells := 0, slots := 0, locals := 0 } s m args below meth c H locs 0 0 (MQ below (QI Y Q) args s 0 0 (AD Y)) (F0 m 0 ls []) := by
  obtain ⟨hx, hb, hr, hml, hown, hlk, hT, hK, hB⟩ := id M
  unfold wX7_gcd at h
  refine lv_iload_n hx hb dX7_gcd_0 rfl (lv_at hl 0 rfl) ?_
  refine lv_istore_n (lv' := [(2, .int a0), (0, .int a0), (1, .int a1)]) hx hb dX7_gcd_1 rfl hl (by decide) rfl (fun ls hl => ?_)
  refine lv_iload_n hx hb dX7_gcd_2 rfl (lv_at hl 2 rfl) ?_
  refine lv_istore_n (lv' := [(3, .int a1), (2, .int a0), (0, .int a0), (1, .int a1)]) hx hb dX7_gcd_3 rfl hl (by decide) rfl (fun ls hl => ?_)
  obtain ⟨n, h⟩ := h
  exact tlX7_gcd_4 M  n a0 a1 σ _ _ _ hw (lv_sub hl [1, 0] rfl) h
set_option maxRecDepth 100000 in
theorem ctX7_gcd (l : Launch) {Y : LY} (hB : YB Y) (a0 : Int32) (a1 : Int32) (σ : St) (Q : Int32 → St → Prop) (h : wX7_gcd a0 a1 σ Q) : CT l yX7_gcd (Cond.code yX7_gcd cX7_gcd 5 (some .int)) { frames := 0, cells := 0, slots := 0, locals := 0 } Y [.int a0, .int a1] σ (QI Y Q) :=
  q_ent hB (by decide +kernel) (Nat.le_of_ble_eq_true rfl) (fun p e s m below meth c ls M hw hl => tX7_gcd_E M a0 a1 σ _ _ ls hw hl h)
theorem mbX7_gcd : MBS yX7_gcd cX7_gcd 2 5 (some .int) := ⟨tw_882, tw_56, tw_883, by decide +kernel⟩
end
section
variable {p : Program} {l : Launch} {e : Env} {s : State} {m : MethodId} {args : Array Value} {below : List Frame} {meth : Method} {c : Code} {Y : LY}
theorem dX7_mean_0 : decode cX7_mean 0 = .ok (.aload_n 0, 1) := by decide +kernel
theorem dX7_mean_1 : decode cX7_mean 1 = .ok (.iconst 0, 1) := by decide +kernel
theorem dX7_mean_2 : decode cX7_mean 2 = .ok (.putfield 62, 3) := by decide +kernel
theorem dX7_mean_5 : decode cX7_mean 5 = .ok (.aload_n 0, 1) := by decide +kernel
theorem dX7_mean_6 : decode cX7_mean 6 = .ok (.iload_n 1, 1) := by decide +kernel
theorem dX7_mean_7 : decode cX7_mean 7 = .ok (.invokevirtual 127, 3) := by decide +kernel
theorem dX7_mean_10 : decode cX7_mean 10 = .ok (.ifCond .eq 22, 3) := by decide +kernel
theorem dX7_mean_13 : decode cX7_mean 13 = .ok (.iload_n 2, 1) := by decide +kernel
theorem dX7_mean_14 : decode cX7_mean 14 = .ok (.iconst 0, 1) := by decide +kernel
theorem dX7_mean_15 : decode cX7_mean 15 = .ok (.bipush 10, 2) := by decide +kernel
theorem dX7_mean_17 : decode cX7_mean 17 = .ok (.invokestatic 66, 3) := by decide +kernel
theorem dX7_mean_20 : decode cX7_mean 20 = .ok (.ifCond .eq 12, 3) := by decide +kernel
theorem dX7_mean_23 : decode cX7_mean 23 = .ok (.iload_n 3, 1) := by decide +kernel
theorem dX7_mean_24 : decode cX7_mean 24 = .ok (.iconst 0, 1) := by decide +kernel
theorem dX7_mean_25 : decode cX7_mean 25 = .ok (.iconst 1, 1) := by decide +kernel
theorem dX7_mean_26 : decode cX7_mean 26 = .ok (.invokestatic 66, 3) := by decide +kernel
theorem dX7_mean_29 : decode cX7_mean 29 = .ok (.ifCond .ne 5, 3) := by decide +kernel
theorem dX7_mean_32 : decode cX7_mean 32 = .ok (.iconst (-1), 1) := by decide +kernel
theorem dX7_mean_33 : decode cX7_mean 33 = .ok (.ireturn, 1) := by decide +kernel
theorem dX7_mean_34 : decode cX7_mean 34 = .ok (.iconst 0, 1) := by decide +kernel
theorem dX7_mean_35 : decode cX7_mean 35 = .ok (.istore 4, 2) := by decide +kernel
theorem dX7_mean_37 : decode cX7_mean 37 = .ok (.aload_n 0, 1) := by decide +kernel
theorem dX7_mean_38 : decode cX7_mean 38 = .ok (.getfield 32, 3) := by decide +kernel
theorem dX7_mean_41 : decode cX7_mean 41 = .ok (.iconst 0, 1) := by decide +kernel
theorem dX7_mean_42 : decode cX7_mean 42 = .ok (.iaload, 1) := by decide +kernel
theorem dX7_mean_43 : decode cX7_mean 43 = .ok (.istore 5, 2) := by decide +kernel
theorem dX7_mean_45 : decode cX7_mean 45 = .ok (.iload 5, 2) := by decide +kernel
theorem dX7_mean_47 : decode cX7_mean 47 = .ok (.aload_n 0, 1) := by decide +kernel
theorem dX7_mean_48 : decode cX7_mean 48 = .ok (.getfield 13, 3) := by decide +kernel
theorem dX7_mean_51 : decode cX7_mean 51 = .ok (.iconst 3, 1) := by decide +kernel
theorem dX7_mean_52 : decode cX7_mean 52 = .ok (.iaload, 1) := by decide +kernel
theorem dX7_mean_53 : decode cX7_mean 53 = .ok (.if_icmp .ge 27, 3) := by decide +kernel
theorem dX7_mean_56 : decode cX7_mean 56 = .ok (.iload 4, 2) := by decide +kernel
theorem dX7_mean_58 : decode cX7_mean 58 = .ok (.aload_n 0, 1) := by decide +kernel
theorem dX7_mean_59 : decode cX7_mean 59 = .ok (.iload 5, 2) := by decide +kernel
theorem dX7_mean_61 : decode cX7_mean 61 = .ok (.invokevirtual 147, 3) := by decide +kernel
theorem dX7_mean_64 : decode cX7_mean 64 = .ok (.aload_n 0, 1) := by decide +kernel
theorem dX7_mean_65 : decode cX7_mean 65 = .ok (.getfield 19, 3) := by decide +kernel
theorem dX7_mean_68 : decode cX7_mean 68 = .ok (.iload_n 1, 1) := by decide +kernel
theorem dX7_mean_69 : decode cX7_mean 69 = .ok (.iaload, 1) := by decide +kernel
theorem dX7_mean_70 : decode cX7_mean 70 = .ok (.imul, 1) := by decide +kernel
theorem dX7_mean_71 : decode cX7_mean 71 = .ok (.iadd, 1) := by decide +kernel
theorem dX7_mean_72 : decode cX7_mean 72 = .ok (.istore 4, 2) := by decide +kernel
theorem dX7_mean_74 : decode cX7_mean 74 = .ok (.iinc 5 1, 3) := by decide +kernel
theorem dX7_mean_77 : decode cX7_mean 77 = .ok (.goto (-32), 3) := by decide +kernel
theorem dX7_mean_80 : decode cX7_mean 80 = .ok (.iload 4, 2) := by decide +kernel
theorem dX7_mean_82 : decode cX7_mean 82 = .ok (.iload_n 2, 1) := by decide +kernel
theorem dX7_mean_83 : decode cX7_mean 83 = .ok (.imul, 1) := by decide +kernel
theorem dX7_mean_84 : decode cX7_mean 84 = .ok (.bipush 10, 2) := by decide +kernel
theorem dX7_mean_86 : decode cX7_mean 86 = .ok (.invokestatic 162, 3) := by decide +kernel
theorem dX7_mean_89 : decode cX7_mean 89 = .ok (.istore 5, 2) := by decide +kernel
theorem dX7_mean_91 : decode cX7_mean 91 = .ok (.iload_n 3, 1) := by decide +kernel
theorem dX7_mean_92 : decode cX7_mean 92 = .ok (.ifCond .ne 13, 3) := by decide +kernel
theorem dX7_mean_95 : decode cX7_mean 95 = .ok (.iload 4, 2) := by decide +kernel
theorem dX7_mean_97 : decode cX7_mean 97 = .ok (.iload_n 2, 1) := by decide +kernel
theorem dX7_mean_98 : decode cX7_mean 98 = .ok (.imul, 1) := by decide +kernel
theorem dX7_mean_99 : decode cX7_mean 99 = .ok (.iload 5, 2) := by decide +kernel
theorem dX7_mean_101 : decode cX7_mean 101 = .ok (.idiv, 1) := by decide +kernel
theorem dX7_mean_102 : decode cX7_mean 102 = .ok (.goto 8, 3) := by decide +kernel
theorem dX7_mean_105 : decode cX7_mean 105 = .ok (.bipush 10, 2) := by decide +kernel
theorem dX7_mean_107 : decode cX7_mean 107 = .ok (.iload 5, 2) := by decide +kernel
theorem dX7_mean_109 : decode cX7_mean 109 = .ok (.idiv, 1) := by decide +kernel
theorem dX7_mean_110 : decode cX7_mean 110 = .ok (.ireturn, 1) := by decide +kernel
def bX7_mean_45 (R_45 : Int32 × Int32 × Int32 × Int32 × Int32 × St → Prop) (y1 : Int32) (y2 : Int32) (y3 : Int32) (y4 : Int32) (y5 : Int32) (σ : St) (Q : Int32 → St → Prop) : Prop :=
  (((σ.1 94 3) ≤ y5 → wX7_gcd (y4 * y2) 10 σ (fun r3 σ2 => ((y3 = 0 → (¬ r3 = 0 ∧ Q ((y4 * y2) / r3) σ2)) ∧ (¬ y3 = 0 → (¬ r3 = 0 ∧ Q (10 / r3) σ2))))) ∧ (¬ (σ.1 94 3) ≤ y5 → wX7_moonOf y5 σ (fun r8 σ7 => (vp_in y1 10 ∧ (∀ x10 : Int32, x10 = (y4 + (r8 * (σ7.1 96 y1.toNatClampNeg))) → (∀ x11 : Int32, x11 = y5 + 1 → R_45 (y1, y2, y3, x10, x11, σ7)))))))
set_option maxHeartbeats 4000000 in
set_option maxRecDepth 100000 in
theorem tX7_mean_45 {R_45 : Int32 × Int32 × Int32 × Int32 × Int32 × St → Prop} {Q : Int32 → St → Prop} (M : MC p s m args meth c cX7_mean 6 (some .int) RX7 Y) (hN : yN Y = 108) (hR_45 : ∀ (y1 y2 y3 y4 y5 : Int32) (σ : St) (H : Heap) (locs : List Loc) (ls : Array Slot), WS Y (AD Y) s.heap σ H locs → lv_has ls 6 [(0, .ref (yA Y 92)), (1, .int y1), (2, .int y2), (3, .int y3), (4, .int y4), (5, .int y5)] → R_45 (y1, y2, y3, y4, y5, σ) → W p l e { frames := 2, cells := 0, slots := 0, locals := 43 } s m args below meth c H locs 0 0 (MQ below (QI Y Q) args s 0 0 (AD Y)) (F0 m 45 ls [])) (y1 : Int32) (y2 : Int32) (y3 : Int32) (y4 : Int32) (y5 : Int32) (σ : St) (H : Heap) (locs : List Loc) (ls : Array Slot) (hw : WS Y (AD Y) s.heap σ H locs) (hl : lv_has ls 6 [(0, .ref (yA Y 92)), (1, .int y1), (2, .int y2), (3, .int y3), (4, .int y4), (5, .int y5)]) (h : bX7_mean_45 R_45 y1 y2 y3 y4 y5 σ Q) : W p l e { frames := 2, cells := 0, slots := 0, locals := 43 } s m args below meth c H locs 0 0 (MQ below (QI Y Q) args s 0 0 (AD Y)) (F0 m 45 ls []) := by
  obtain ⟨hx, hb, hr, hml, hown, hlk, hT, hK, hB⟩ := id M
  unfold bX7_mean_45 at h
  refine lv_iload hx hb dX7_mean_45 (lv_at hl 5 rfl) ?_
  refine lv_aload_n hx hb dX7_mean_47 rfl (lv_at hl 0 rfl) ?_
  refine q_get (v := .ref (yA Y 94)) M hw (ob_92 hN) rfl inq_7 9 (by decide) tw_644 rfl dX7_mean_48 ?_
  refine lv_iconst (v := 3) hx hb dX7_mean_51 (by decide) ?_
  refine q_ild' 3 M hw (ar_94 hN) (by unfold vp_in; decide) (by decide) dX7_mean_52 ?_
  refine lv_icmp_ge (tgt := 80) hx hb dX7_mean_53 (by decide) (fun c1 => ?_) (fun c1 => ?_)
  · have h := h.1 c1
    refine lv_iload hx hb dX7_mean_80 (lv_at hl 4 rfl) ?_
    refine lv_iload_n hx hb dX7_mean_82 rfl (lv_at hl 2 rfl) ?_
    refine lv_imul hx hb dX7_mean_83 ?_
    refine lv_bipush (v := 10) hx hb dX7_mean_84 (by decide) ?_
    refine q_goI hw (q_runS (rest := []) M hw (ctX7_gcd l hB (y4 * y2) 10 σ _ h) mbX7_gcd tw_881 rfl hl.1 rfl (Nat.le_of_ble_eq_true rfl) ⟨Nat.le_of_ble_eq_true rfl, Nat.le_of_ble_eq_true rfl⟩ ⟨Nat.le_refl _, Nat.le_refl _⟩ dX7_mean_86) (fun r3 σ2 H locs h hw => ?_)
    refine lv_istore (lv' := [(5, .int r3), (0, .ref (yA Y 92)), (1, .int y1), (2, .int y2), (3, .int y3), (4, .int y4)]) hx hb dX7_mean_89 hl (by decide) rfl (fun ls hl => ?_)
    refine lv_iload_n hx hb dX7_mean_91 rfl (lv_at hl 4 rfl) ?_
    refine lv_if_ne (tgt := 105) hx hb dX7_mean_92 (by decide) (fun c4 => ?_) (fun c4 => ?_)
    · have h := h.2 c4
      refine lv_bipush (v := 10) hx hb dX7_mean_105 (by decide) ?_
      refine lv_iload hx hb dX7_mean_107 (lv_at hl 0 rfl) ?_
      have c5 := h.1
      have h := h.2
      refine lv_idiv hx hb dX7_mean_109 c5 ?_
      exact q_iret M hw h dX7_mean_110
    · have h := h.1 c4
      refine lv_iload hx hb dX7_mean_95 (lv_at hl 5 rfl) ?_
      refine lv_iload_n hx hb dX7_mean_97 rfl (lv_at hl 3 rfl) ?_
      refine lv_imul hx hb dX7_mean_98 ?_
      refine lv_iload hx hb dX7_mean_99 (lv_at hl 0 rfl) ?_
      have c6 := h.1
      have h := h.2
      refine lv_idiv hx hb dX7_mean_101 c6 ?_
      refine lv_goto (tgt := 110) hx hb dX7_mean_102 (by decide) ?_
      exact q_iret M hw h dX7_mean_110
  · have h := h.2 c1
    refine lv_iload hx hb dX7_mean_56 (lv_at hl 4 rfl) ?_
    refine lv_aload_n hx hb dX7_mean_58 rfl (lv_at hl 0 rfl) ?_
    refine lv_iload hx hb dX7_mean_59 (lv_at hl 5 rfl) ?_
    refine q_goI hw (q_runV (rest := [.int y4]) M hw (ctX7_moonOf l hB hN y5 σ _ h) mbX7_moonOf (ob_92 hN) rfl tw_833 rfl hl.1 rfl (Nat.le_of_ble_eq_true rfl) ⟨Nat.le_of_ble_eq_true rfl, Nat.le_of_ble_eq_true rfl⟩ ⟨Nat.le_refl _, Nat.le_refl _⟩ dX7_mean_61) (fun r8 σ7 H locs h hw => ?_)
    refine lv_aload_n hx hb dX7_mean_64 rfl (lv_at hl 0 rfl) ?_
    refine q_get (v := .ref (yA Y 96)) M hw (ob_92 hN) rfl inq_7 12 (by decide) tw_647 rfl dX7_mean_65 ?_
    refine lv_iload_n hx hb dX7_mean_68 rfl (lv_at hl 1 rfl) ?_
    have c9 := h.1
    have h := h.2
    refine q_ild M hw (ar_96 hN) c9 dX7_mean_69 ?_
    refine lv_imul hx hb dX7_mean_70 ?_
    refine lv_iadd hx hb dX7_mean_71 ?_
    refine lv_topi (fun x10 ex10 => ?_)
    have h := h x10 ex10
    refine lv_istore (lv' := [(4, .int x10), (0, .ref (yA Y 92)), (1, .int y1), (2, .int y2), (3, .int y3), (5, .int y5)]) hx hb dX7_mean_72 hl (by decide) rfl (fun ls hl => ?_)
    obtain ⟨x11, ex11⟩ : ∃ y : Int32, y = y5 + 1 := ⟨_, rfl⟩
    have h := h x11 ex11
    refine lv_iinc (v := x11) (lv' := [(5, .int x11), (4, .int x10), (0, .ref (yA Y 92)), (1, .int y1), (2, .int y2), (3, .int y3)]) hx hb dX7_mean_74 hl (k := 5) rfl (by rw [ex11]; rfl) (by decide) rfl (fun ls hl => ?_)
    refine lv_goto (tgt := 45) hx hb dX7_mean_77 (by decide) ?_
    exact hR_45 y1 y2 y3 x10 x11 σ7 _ _ _ hw (lv_sub hl [2, 3, 4, 5, 1, 0] rfl) h
def lX7_mean_45 (Q : Int32 → St → Prop) : (Int32 × Int32 × Int32 × Int32 × Int32 × St → Prop) → Int32 × Int32 × Int32 × Int32 × Int32 × St → Prop := fun R a => bX7_mean_45 R a.1 a.2.1 a.2.2.1 a.2.2.2.1 a.2.2.2.2.1 a.2.2.2.2.2 Q
theorem tlX7_mean_45 {Q : Int32 → St → Prop} (M : MC p s m args meth c cX7_mean 6 (some .int) RX7 Y) (hN : yN Y = 108) (n : Nat) : ∀ (y1 : Int32) (y2 : Int32) (y3 : Int32) (y4 : Int32) (y5 : Int32) (σ : St) (H : Heap) (locs : List Loc) (ls : Array Slot) (hw : WS Y (AD Y) s.heap σ H locs) (hl : lv_has ls 6 [(0, .ref (yA Y 92)), (1, .int y1), (2, .int y2), (3, .int y3), (4, .int y4), (5, .int y5)]) (h : Lp (lX7_mean_45 Q) n (y1, y2, y3, y4, y5, σ)), W p l e { frames := 2, cells := 0, slots := 0, locals := 43 } s m args below meth c H locs 0 0 (MQ below (QI Y Q) args s 0 0 (AD Y)) (F0 m 45 ls []) := by
  induction n with
  | zero => intro y1 y2 y3 y4 y5 σ H locs ls hw hl h; exact h.elim
  | succ n ih =>
    intro y1 y2 y3 y4 y5 σ H locs ls hw hl h
    exact tX7_mean_45 M hN ih y1 y2 y3 y4 y5 σ H locs ls hw hl h
def wX7_mean (a0 : Int32) (a1 : Int32) (a2 : Int32) (σ : St) (Q : Int32 → St → Prop) : Prop :=
  (∀ σ1 : St, σ1 = up σ 92 0 0 → wX7_isFarmer a0 σ1 (fun r3 σ2 => ((r3 = 0 → Q (-1) σ2) ∧ (¬ r3 = 0 → wX7_in a1 0 10 σ2 (fun r6 σ5 => ((r6 = 0 → Q (-1) σ5) ∧ (¬ r6 = 0 → wX7_in a2 0 1 σ5 (fun r9 σ8 => ((r9 = 0 → Q (-1) σ8) ∧ (¬ r9 = 0 → (∀ x11 : Int32, x11 = (σ8.1 100 0) → ∃ n : Nat, Lp (lX7_mean_45 Q) n (a0, a1, a2, 0, x11, σ8))))))))))))
set_option maxHeartbeats 4000000 in
set_option maxRecDepth 100000 in
theorem tX7_mean_E {Q : Int32 → St → Prop} (M : MC p s m args meth c cX7_mean 6 (some .int) RX7 Y) (hN : yN Y = 108) (a0 : Int32) (a1 : Int32) (a2 : Int32) (σ : St) (H : Heap) (locs : List Loc) (ls : Array Slot) (hw : WS Y (AD Y) s.heap σ H locs) (hl : lv_has ls 6 [(0, .ref (yA Y 92)), (1, .int a0), (2, .int a1), (3, .int a2)]) (h : wX7_mean a0 a1 a2 σ Q) : W p l e { frames := 2, cells := 0, slots := 0, locals := 43 } s m args below meth c H locs 0 0 (MQ below (QI Y Q) args s 0 0 (AD Y)) (F0 m 0 ls []) := by
  obtain ⟨hx, hb, hr, hml, hown, hlk, hT, hK, hB⟩ := id M
  unfold wX7_mean at h
  refine lv_aload_n hx hb dX7_mean_0 rfl (lv_at hl 0 rfl) ?_
  refine lv_iconst (v := 0) hx hb dX7_mean_1 (by decide) ?_
  refine q_put (v := 0) M hw (ob_92 hN) rfl inq_7 tyX7 tyX7_ok nmX7 0 (by decide) tw_635 rfl rfl rfl (Nat.le_of_ble_eq_true rfl) (by simp [up, upd, f0]) dX7_mean_2 (fun σ1 H locs es hw => ?_)
  have h := h σ1 es
  refine lv_aload_n hx hb dX7_mean_5 rfl (lv_at hl 0 rfl) ?_
  refine lv_iload_n hx hb dX7_mean_6 rfl (lv_at hl 1 rfl) ?_
  refine q_goI hw (q_runV (rest := []) M hw (ctX7_isFarmer l hB hN a0 σ1 _ h) mbX7_isFarmer (ob_92 hN) rfl tw_764 rfl hl.1 rfl (Nat.le_of_ble_eq_true rfl) ⟨Nat.le_of_ble_eq_true rfl, Nat.le_of_ble_eq_true rfl⟩ ⟨Nat.le_refl _, Nat.le_refl _⟩ dX7_mean_7) (fun r3 σ2 H locs h hw => ?_)
  refine lv_if_eq (tgt := 32) hx hb dX7_mean_10 (by decide) (fun c4 => ?_) (fun c4 => ?_)
  · have h := h.1 c4
    refine lv_iconst (v := (-1)) hx hb dX7_mean_32 (by decide) ?_
    exact q_iret M hw h dX7_mean_33
  · have h := h.2 c4
    refine lv_iload_n hx hb dX7_mean_13 rfl (lv_at hl 2 rfl) ?_
    refine lv_iconst (v := 0) hx hb dX7_mean_14 (by decide) ?_
    refine lv_bipush (v := 10) hx hb dX7_mean_15 (by decide) ?_
    refine q_goI hw (q_runS (rest := []) M hw (ctX7_in l hB a1 0 10 σ2 _ h) mbX7_in tw_718 rfl hl.1 rfl (Nat.le_of_ble_eq_true rfl) ⟨Nat.le_of_ble_eq_true rfl, Nat.le_of_ble_eq_true rfl⟩ ⟨Nat.le_refl _, Nat.le_refl _⟩ dX7_mean_17) (fun r6 σ5 H locs h hw => ?_)
    refine lv_if_eq (tgt := 32) hx hb dX7_mean_20 (by decide) (fun c7 => ?_) (fun c7 => ?_)
    · have h := h.1 c7
      refine lv_iconst (v := (-1)) hx hb dX7_mean_32 (by decide) ?_
      exact q_iret M hw h dX7_mean_33
    · have h := h.2 c7
      refine lv_iload_n hx hb dX7_mean_23 rfl (lv_at hl 3 rfl) ?_
      refine lv_iconst (v := 0) hx hb dX7_mean_24 (by decide) ?_
      refine lv_iconst (v := 1) hx hb dX7_mean_25 (by decide) ?_
      refine q_goI hw (q_runS (rest := []) M hw (ctX7_in l hB a2 0 1 σ5 _ h) mbX7_in tw_718 rfl hl.1 rfl (Nat.le_of_ble_eq_true rfl) ⟨Nat.le_of_ble_eq_true rfl, Nat.le_of_ble_eq_true rfl⟩ ⟨Nat.le_refl _, Nat.le_refl _⟩ dX7_mean_26) (fun r9 σ8 H locs h hw => ?_)
      refine lv_if_ne (tgt := 34) hx hb dX7_mean_29 (by decide) (fun c10 => ?_) (fun c10 => ?_)
      · have h := h.2 c10
        refine lv_iconst (v := 0) hx hb dX7_mean_34 (by decide) ?_
        refine lv_istore (lv' := [(4, .int 0), (0, .ref (yA Y 92)), (1, .int a0), (2, .int a1), (3, .int a2)]) hx hb dX7_mean_35 hl (by decide) rfl (fun ls hl => ?_)
        refine lv_aload_n hx hb dX7_mean_37 rfl (lv_at hl 1 rfl) ?_
        refine q_get (v := .ref (yA Y 100)) M hw (ob_92 hN) rfl inq_7 16 (by decide) tw_651 rfl dX7_mean_38 ?_
        refine lv_iconst (v := 0) hx hb dX7_mean_41 (by decide) ?_
        refine q_ild' 0 M hw (ar_100 hN) (by unfold vp_in; decide) (by decide) dX7_mean_42 ?_
        refine lv_topi (fun x11 ex11 => ?_)
        have h := h x11 ex11
        refine lv_istore (lv' := [(5, .int x11), (4, .int 0), (0, .ref (yA Y 92)), (1, .int a0), (2, .int a1), (3, .int a2)]) hx hb dX7_mean_43 hl (by decide) rfl (fun ls hl => ?_)
        obtain ⟨n, h⟩ := h
        exact tlX7_mean_45 M hN n a0 a1 a2 0 x11 σ8 _ _ _ hw (lv_sub hl [2, 3, 4, 5, 1, 0] rfl) h
      · have h := h.1 c10
        refine lv_iconst (v := (-1)) hx hb dX7_mean_32 (by decide) ?_
        exact q_iret M hw h dX7_mean_33
set_option maxRecDepth 100000 in
theorem ctX7_mean (l : Launch) {Y : LY} (hB : YB Y) (hN : yN Y = 108) (a0 : Int32) (a1 : Int32) (a2 : Int32) (σ : St) (Q : Int32 → St → Prop) (h : wX7_mean a0 a1 a2 σ Q) : CT l yX7_mean (Cond.code yX7_mean cX7_mean 6 (some .int)) { frames := 2, cells := 0, slots := 0, locals := 43 } Y [.ref (yA Y 92), .int a0, .int a1, .int a2] σ (QI Y Q) :=
  q_ent hB (by decide +kernel) (Nat.le_of_ble_eq_true rfl) (fun p e s m below meth c ls M hw hl => tX7_mean_E M hN a0 a1 a2 σ _ _ ls hw hl h)
theorem mbX7_mean : MB RX7 yX7_mean cX7_mean 3 6 (some .int) := ⟨tw_878, tw_879, tw_56, tw_880, by decide +kernel⟩
end
section
variable {p : Program} {l : Launch} {e : Env} {s : State} {m : MethodId} {args : Array Value} {below : List Frame} {meth : Method} {c : Code} {Y : LY}
theorem dX7_rate_0 : decode cX7_rate 0 = .ok (.aload_n 0, 1) := by decide +kernel
theorem dX7_rate_1 : decode cX7_rate 1 = .ok (.iconst 0, 1) := by decide +kernel
theorem dX7_rate_2 : decode cX7_rate 2 = .ok (.putfield 62, 3) := by decide +kernel
theorem dX7_rate_5 : decode cX7_rate 5 = .ok (.iload_n 1, 1) := by decide +kernel
theorem dX7_rate_6 : decode cX7_rate 6 = .ok (.iconst 0, 1) := by decide +kernel
theorem dX7_rate_7 : decode cX7_rate 7 = .ok (.iconst 5, 1) := by decide +kernel
theorem dX7_rate_8 : decode cX7_rate 8 = .ok (.invokestatic 66, 3) := by decide +kernel
theorem dX7_rate_11 : decode cX7_rate 11 = .ok (.ifCond .eq 11, 3) := by decide +kernel
theorem dX7_rate_14 : decode cX7_rate 14 = .ok (.aload_n 0, 1) := by decide +kernel
theorem dX7_rate_15 : decode cX7_rate 15 = .ok (.iload_n 2, 1) := by decide +kernel
theorem dX7_rate_16 : decode cX7_rate 16 = .ok (.invokevirtual 130, 3) := by decide +kernel
theorem dX7_rate_19 : decode cX7_rate 19 = .ok (.ifCond .ne 6, 3) := by decide +kernel
theorem dX7_rate_22 : decode cX7_rate 22 = .ok (.ldc 165, 2) := by decide +kernel
theorem dX7_rate_24 : decode cX7_rate 24 = .ok (.ireturn, 1) := by decide +kernel
theorem dX7_rate_25 : decode cX7_rate 25 = .ok (.aload_n 0, 1) := by decide +kernel
theorem dX7_rate_26 : decode cX7_rate 26 = .ok (.getfield 32, 3) := by decide +kernel
theorem dX7_rate_29 : decode cX7_rate 29 = .ok (.bipush 6, 2) := by decide +kernel
theorem dX7_rate_31 : decode cX7_rate 31 = .ok (.iload_n 2, 1) := by decide +kernel
theorem dX7_rate_32 : decode cX7_rate 32 = .ok (.iadd, 1) := by decide +kernel
theorem dX7_rate_33 : decode cX7_rate 33 = .ok (.iaload, 1) := by decide +kernel
theorem dX7_rate_34 : decode cX7_rate 34 = .ok (.istore_n 3, 1) := by decide +kernel
theorem dX7_rate_35 : decode cX7_rate 35 = .ok (.iload_n 3, 1) := by decide +kernel
theorem dX7_rate_36 : decode cX7_rate 36 = .ok (.aload_n 0, 1) := by decide +kernel
theorem dX7_rate_37 : decode cX7_rate 37 = .ok (.aload_n 0, 1) := by decide +kernel
theorem dX7_rate_38 : decode cX7_rate 38 = .ok (.getfield 32, 3) := by decide +kernel
theorem dX7_rate_41 : decode cX7_rate 41 = .ok (.iconst 0, 1) := by decide +kernel
theorem dX7_rate_42 : decode cX7_rate 42 = .ok (.iaload, 1) := by decide +kernel
theorem dX7_rate_43 : decode cX7_rate 43 = .ok (.invokevirtual 133, 3) := by decide +kernel
theorem dX7_rate_46 : decode cX7_rate 46 = .ok (.iadd, 1) := by decide +kernel
theorem dX7_rate_47 : decode cX7_rate 47 = .ok (.istore 4, 2) := by decide +kernel
theorem dX7_rate_49 : decode cX7_rate 49 = .ok (.iload_n 3, 1) := by decide +kernel
theorem dX7_rate_50 : decode cX7_rate 50 = .ok (.aload_n 0, 1) := by decide +kernel
theorem dX7_rate_51 : decode cX7_rate 51 = .ok (.getfield 19, 3) := by decide +kernel
theorem dX7_rate_54 : decode cX7_rate 54 = .ok (.aload_n 0, 1) := by decide +kernel
theorem dX7_rate_55 : decode cX7_rate 55 = .ok (.getfield 32, 3) := by decide +kernel
theorem dX7_rate_58 : decode cX7_rate 58 = .ok (.bipush 13, 2) := by decide +kernel
theorem dX7_rate_60 : decode cX7_rate 60 = .ok (.iload_n 2, 1) := by decide +kernel
theorem dX7_rate_61 : decode cX7_rate 61 = .ok (.iadd, 1) := by decide +kernel
theorem dX7_rate_62 : decode cX7_rate 62 = .ok (.iaload, 1) := by decide +kernel
theorem dX7_rate_63 : decode cX7_rate 63 = .ok (.iaload, 1) := by decide +kernel
theorem dX7_rate_64 : decode cX7_rate 64 = .ok (.isub, 1) := by decide +kernel
theorem dX7_rate_65 : decode cX7_rate 65 = .ok (.istore 5, 2) := by decide +kernel
theorem dX7_rate_67 : decode cX7_rate 67 = .ok (.aload_n 0, 1) := by decide +kernel
theorem dX7_rate_68 : decode cX7_rate 68 = .ok (.dup, 1) := by decide +kernel
theorem dX7_rate_69 : decode cX7_rate 69 = .ok (.getfield 166, 3) := by decide +kernel
theorem dX7_rate_72 : decode cX7_rate 72 = .ok (.iload_n 1, 1) := by decide +kernel
theorem dX7_rate_73 : decode cX7_rate 73 = .ok (.ifCond .ne 7, 3) := by decide +kernel
theorem dX7_rate_76 : decode cX7_rate 76 = .ok (.lconst 1, 1) := by decide +kernel
theorem dX7_rate_77 : decode cX7_rate 77 = .ok (.goto 50, 3) := by decide +kernel
theorem dX7_rate_80 : decode cX7_rate 80 = .ok (.iload_n 1, 1) := by decide +kernel
theorem dX7_rate_81 : decode cX7_rate 81 = .ok (.iconst 1, 1) := by decide +kernel
theorem dX7_rate_82 : decode cX7_rate 82 = .ok (.if_icmp .ne 9, 3) := by decide +kernel
theorem dX7_rate_85 : decode cX7_rate 85 = .ok (.ldc2_w 170, 3) := by decide +kernel
theorem dX7_rate_88 : decode cX7_rate 88 = .ok (.goto 39, 3) := by decide +kernel
theorem dX7_rate_91 : decode cX7_rate 91 = .ok (.iload_n 1, 1) := by decide +kernel
theorem dX7_rate_92 : decode cX7_rate 92 = .ok (.iconst 2, 1) := by decide +kernel
theorem dX7_rate_93 : decode cX7_rate 93 = .ok (.if_icmp .ne 9, 3) := by decide +kernel
theorem dX7_rate_96 : decode cX7_rate 96 = .ok (.ldc2_w 172, 3) := by decide +kernel
theorem dX7_rate_99 : decode cX7_rate 99 = .ok (.goto 28, 3) := by decide +kernel
theorem dX7_rate_102 : decode cX7_rate 102 = .ok (.iload_n 1, 1) := by decide +kernel
theorem dX7_rate_103 : decode cX7_rate 103 = .ok (.iconst 3, 1) := by decide +kernel
theorem dX7_rate_104 : decode cX7_rate 104 = .ok (.if_icmp .ne 9, 3) := by decide +kernel
theorem dX7_rate_107 : decode cX7_rate 107 = .ok (.ldc2_w 174, 3) := by decide +kernel
theorem dX7_rate_110 : decode cX7_rate 110 = .ok (.goto 17, 3) := by decide +kernel
theorem dX7_rate_113 : decode cX7_rate 113 = .ok (.iload_n 1, 1) := by decide +kernel
theorem dX7_rate_114 : decode cX7_rate 114 = .ok (.iconst 4, 1) := by decide +kernel
theorem dX7_rate_115 : decode cX7_rate 115 = .ok (.if_icmp .ne 9, 3) := by decide +kernel
theorem dX7_rate_118 : decode cX7_rate 118 = .ok (.ldc2_w 176, 3) := by decide +kernel
theorem dX7_rate_121 : decode cX7_rate 121 = .ok (.goto 6, 3) := by decide +kernel
theorem dX7_rate_124 : decode cX7_rate 124 = .ok (.ldc2_w 178, 3) := by decide +kernel
theorem dX7_rate_127 : decode cX7_rate 127 = .ok (.ladd, 1) := by decide +kernel
theorem dX7_rate_128 : decode cX7_rate 128 = .ok (.putfield 166, 3) := by decide +kernel
theorem dX7_rate_131 : decode cX7_rate 131 = .ok (.iload_n 1, 1) := by decide +kernel
theorem dX7_rate_132 : decode cX7_rate 132 = .ok (.ifCond .ne 7, 3) := by decide +kernel
theorem dX7_rate_135 : decode cX7_rate 135 = .ok (.iload_n 3, 1) := by decide +kernel
theorem dX7_rate_136 : decode cX7_rate 136 = .ok (.goto 55, 3) := by decide +kernel
theorem dX7_rate_139 : decode cX7_rate 139 = .ok (.iload_n 1, 1) := by decide +kernel
theorem dX7_rate_140 : decode cX7_rate 140 = .ok (.iconst 1, 1) := by decide +kernel
theorem dX7_rate_141 : decode cX7_rate 141 = .ok (.if_icmp .ne 8, 3) := by decide +kernel
theorem dX7_rate_144 : decode cX7_rate 144 = .ok (.iload 4, 2) := by decide +kernel
theorem dX7_rate_146 : decode cX7_rate 146 = .ok (.goto 45, 3) := by decide +kernel
theorem dX7_rate_149 : decode cX7_rate 149 = .ok (.iload_n 1, 1) := by decide +kernel
theorem dX7_rate_150 : decode cX7_rate 150 = .ok (.iconst 2, 1) := by decide +kernel
theorem dX7_rate_151 : decode cX7_rate 151 = .ok (.if_icmp .ne 8, 3) := by decide +kernel
theorem dX7_rate_154 : decode cX7_rate 154 = .ok (.iload 5, 2) := by decide +kernel
theorem dX7_rate_156 : decode cX7_rate 156 = .ok (.goto 35, 3) := by decide +kernel
theorem dX7_rate_159 : decode cX7_rate 159 = .ok (.iload_n 1, 1) := by decide +kernel
theorem dX7_rate_160 : decode cX7_rate 160 = .ok (.iconst 3, 1) := by decide +kernel
theorem dX7_rate_161 : decode cX7_rate 161 = .ok (.if_icmp .ne 10, 3) := by decide +kernel
theorem dX7_rate_164 : decode cX7_rate 164 = .ok (.iconst 2, 1) := by decide +kernel
theorem dX7_rate_165 : decode cX7_rate 165 = .ok (.iload 4, 2) := by decide +kernel
theorem dX7_rate_167 : decode cX7_rate 167 = .ok (.imul, 1) := by decide +kernel
theorem dX7_rate_168 : decode cX7_rate 168 = .ok (.goto 23, 3) := by decide +kernel
theorem dX7_rate_171 : decode cX7_rate 171 = .ok (.iload_n 1, 1) := by decide +kernel
theorem dX7_rate_172 : decode cX7_rate 172 = .ok (.iconst 4, 1) := by decide +kernel
theorem dX7_rate_173 : decode cX7_rate 173 = .ok (.if_icmp .ne 10, 3) := by decide +kernel
theorem dX7_rate_176 : decode cX7_rate 176 = .ok (.iload 5, 2) := by decide +kernel
theorem dX7_rate_178 : decode cX7_rate 178 = .ok (.iload_n 2, 1) := by decide +kernel
theorem dX7_rate_179 : decode cX7_rate 179 = .ok (.iadd, 1) := by decide +kernel
theorem dX7_rate_180 : decode cX7_rate 180 = .ok (.goto 11, 3) := by decide +kernel
theorem dX7_rate_183 : decode cX7_rate 183 = .ok (.iload_n 3, 1) := by decide +kernel
theorem dX7_rate_184 : decode cX7_rate 184 = .ok (.aload_n 0, 1) := by decide +kernel
theorem dX7_rate_185 : decode cX7_rate 185 = .ok (.getfield 32, 3) := by decide +kernel
theorem dX7_rate_188 : decode cX7_rate 188 = .ok (.iconst 0, 1) := by decide +kernel
theorem dX7_rate_189 : decode cX7_rate 189 = .ok (.iaload, 1) := by decide +kernel
theorem dX7_rate_190 : decode cX7_rate 190 = .ok (.iadd, 1) := by decide +kernel
theorem dX7_rate_191 : decode cX7_rate 191 = .ok (.ireturn, 1) := by decide +kernel
def bX7_rate_127 (y1 : Int32) (y2 : Int32) (y3 : Int32) (y4 : Int32) (y5 : Int32) (z0 : Int64) (z1 : Int64) (σ : St) (Q : Int32 → St → Prop) : Prop :=
  (∀ σ1 : St, σ1 = upM σ (z1 + z0) → ((y1 = 0 → Q y3 σ1) ∧ (¬ y1 = 0 → ((y1 = 1 → Q y4 σ1) ∧ (¬ y1 = 1 → ((y1 = 2 → Q y5 σ1) ∧ (¬ y1 = 2 → ((y1 = 3 → Q (2 * y4) σ1) ∧ (¬ y1 = 3 → ((y1 = 4 → Q (y5 + y2) σ1) ∧ (¬ y1 = 4 → Q (y3 + (σ1.1 100 0)) σ1)))))))))))
set_option maxHeartbeats 4000000 in
set_option maxRecDepth 100000 in
theorem tX7_rate_127 {Q : Int32 → St → Prop} (M : MC p s m args meth c cX7_rate 6 (some .int) RX7 Y) (hN : yN Y = 108) (y1 : Int32) (y2 : Int32) (y3 : Int32) (y4 : Int32) (y5 : Int32) (z0 : Int64) (z1 : Int64) (σ : St) (H : Heap) (locs : List Loc) (ls : Array Slot) (hw : WS Y (AD Y) s.heap σ H locs) (hl : lv_has ls 6 [(0, .ref (yA Y 92)), (1, .int y1), (2, .int y2), (3, .int y3), (4, .int y4), (5, .int y5)]) (h : bX7_rate_127 y1 y2 y3 y4 y5 z0 z1 σ Q) : W p l e { frames := 2, cells := 0, slots := 0, locals := 43 } s m args below meth c H locs 0 0 (MQ below (QI Y Q) args s 0 0 (AD Y)) (F0 m 127 ls [.long z0, .long z1, .ref (yA Y 92)]) := by
  obtain ⟨hx, hb, hr, hml, hown, hlk, hT, hK, hB⟩ := id M
  unfold bX7_rate_127 at h
  refine lv_ladd hx hb dX7_rate_127 ?_
  refine q_putM (v := (z1 + z0)) M hw (ob_92 hN) (one_12 hN) rfl inq_7 tyX7 tyX7_ok nmX7 1 (by decide) tw_636 rfl rfl rfl (Nat.le_of_ble_eq_true rfl) rfl dX7_rate_128 (fun σ1 H locs es hw => ?_)
  have h := h σ1 es
  refine lv_iload_n hx hb dX7_rate_131 rfl (lv_at hl 1 rfl) ?_
  refine lv_if_ne (tgt := 139) hx hb dX7_rate_132 (by decide) (fun c2 => ?_) (fun c2 => ?_)
  · have h := h.2 c2
    refine lv_iload_n hx hb dX7_rate_139 rfl (lv_at hl 1 rfl) ?_
    refine lv_iconst (v := 1) hx hb dX7_rate_140 (by decide) ?_
    refine lv_icmp_ne (tgt := 149) hx hb dX7_rate_141 (by decide) (fun c3 => ?_) (fun c3 => ?_)
    · have h := h.2 c3
      refine lv_iload_n hx hb dX7_rate_149 rfl (lv_at hl 1 rfl) ?_
      refine lv_iconst (v := 2) hx hb dX7_rate_150 (by decide) ?_
      refine lv_icmp_ne (tgt := 159) hx hb dX7_rate_151 (by decide) (fun c4 => ?_) (fun c4 => ?_)
      · have h := h.2 c4
        refine lv_iload_n hx hb dX7_rate_159 rfl (lv_at hl 1 rfl) ?_
        refine lv_iconst (v := 3) hx hb dX7_rate_160 (by decide) ?_
        refine lv_icmp_ne (tgt := 171) hx hb dX7_rate_161 (by decide) (fun c5 => ?_) (fun c5 => ?_)
        · have h := h.2 c5
          refine lv_iload_n hx hb dX7_rate_171 rfl (lv_at hl 1 rfl) ?_
          refine lv_iconst (v := 4) hx hb dX7_rate_172 (by decide) ?_
          refine lv_icmp_ne (tgt := 183) hx hb dX7_rate_173 (by decide) (fun c6 => ?_) (fun c6 => ?_)
          · have h := h.2 c6
            refine lv_iload_n hx hb dX7_rate_183 rfl (lv_at hl 3 rfl) ?_
            refine lv_aload_n hx hb dX7_rate_184 rfl (lv_at hl 0 rfl) ?_
            refine q_get (v := .ref (yA Y 100)) M hw (ob_92 hN) rfl inq_7 16 (by decide) tw_651 rfl dX7_rate_185 ?_
            refine lv_iconst (v := 0) hx hb dX7_rate_188 (by decide) ?_
            refine q_ild' 0 M hw (ar_100 hN) (by unfold vp_in; decide) (by decide) dX7_rate_189 ?_
            refine lv_iadd hx hb dX7_rate_190 ?_
            exact q_iret M hw h dX7_rate_191
          · have h := h.1 c6
            refine lv_iload hx hb dX7_rate_176 (lv_at hl 5 rfl) ?_
            refine lv_iload_n hx hb dX7_rate_178 rfl (lv_at hl 2 rfl) ?_
            refine lv_iadd hx hb dX7_rate_179 ?_
            refine lv_goto (tgt := 191) hx hb dX7_rate_180 (by decide) ?_
            exact q_iret M hw h dX7_rate_191
        · have h := h.1 c5
          refine lv_iconst (v := 2) hx hb dX7_rate_164 (by decide) ?_
          refine lv_iload hx hb dX7_rate_165 (lv_at hl 4 rfl) ?_
          refine lv_imul hx hb dX7_rate_167 ?_
          refine lv_goto (tgt := 191) hx hb dX7_rate_168 (by decide) ?_
          exact q_iret M hw h dX7_rate_191
      · have h := h.1 c4
        refine lv_iload hx hb dX7_rate_154 (lv_at hl 5 rfl) ?_
        refine lv_goto (tgt := 191) hx hb dX7_rate_156 (by decide) ?_
        exact q_iret M hw h dX7_rate_191
    · have h := h.1 c3
      refine lv_iload hx hb dX7_rate_144 (lv_at hl 4 rfl) ?_
      refine lv_goto (tgt := 191) hx hb dX7_rate_146 (by decide) ?_
      exact q_iret M hw h dX7_rate_191
  · have h := h.1 c2
    refine lv_iload_n hx hb dX7_rate_135 rfl (lv_at hl 3 rfl) ?_
    refine lv_goto (tgt := 191) hx hb dX7_rate_136 (by decide) ?_
    exact q_iret M hw h dX7_rate_191
def wX7_rate (a0 : Int32) (a1 : Int32) (σ : St) (Q : Int32 → St → Prop) : Prop :=
  (∀ σ1 : St, σ1 = up σ 92 0 0 → wX7_in a0 0 5 σ1 (fun r3 σ2 => ((r3 = 0 → Q (-1000000) σ2) ∧ (¬ r3 = 0 → wX7_isStrip a1 σ2 (fun r6 σ5 => ((r6 = 0 → Q (-1000000) σ5) ∧ (¬ r6 = 0 → (vp_in (6 + a1) 27 ∧ (∀ x9 : Int32, x9 = (σ5.1 100 (6 + a1).toNatClampNeg) → wX7_moon (σ5.1 100 0) σ5 (fun r11 σ10 => (∀ x12 : Int32, x12 = (x9 + r11) → (vp_in (13 + a1) 27 ∧ (vp_in (σ10.1 100 (13 + a1).toNatClampNeg) 10 ∧ (∀ x15 : Int32, x15 = (x9 - (σ10.1 96 (σ10.1 100 (13 + a1).toNatClampNeg).toNatClampNeg)) → ((a0 = 0 → bX7_rate_127 a0 a1 x9 x12 x15 1 (σ10.2.2) σ10 Q) ∧ (¬ a0 = 0 → ((a0 = 1 → bX7_rate_127 a0 a1 x9 x12 x15 11 (σ10.2.2) σ10 Q) ∧ (¬ a0 = 1 → ((a0 = 2 → bX7_rate_127 a0 a1 x9 x12 x15 101 (σ10.2.2) σ10 Q) ∧ (¬ a0 = 2 → ((a0 = 3 → bX7_rate_127 a0 a1 x9 x12 x15 1011 (σ10.2.2) σ10 Q) ∧ (¬ a0 = 3 → ((a0 = 4 → bX7_rate_127 a0 a1 x9 x12 x15 10101 (σ10.2.2) σ10 Q) ∧ (¬ a0 = 4 → bX7_rate_127 a0 a1 x9 x12 x15 100001 (σ10.2.2) σ10 Q))))))))))))))))))))))))
set_option maxHeartbeats 4000000 in
set_option maxRecDepth 100000 in
theorem tX7_rate_E {Q : Int32 → St → Prop} (M : MC p s m args meth c cX7_rate 6 (some .int) RX7 Y) (hN : yN Y = 108) (a0 : Int32) (a1 : Int32) (σ : St) (H : Heap) (locs : List Loc) (ls : Array Slot) (hw : WS Y (AD Y) s.heap σ H locs) (hl : lv_has ls 6 [(0, .ref (yA Y 92)), (1, .int a0), (2, .int a1)]) (h : wX7_rate a0 a1 σ Q) : W p l e { frames := 2, cells := 0, slots := 0, locals := 43 } s m args below meth c H locs 0 0 (MQ below (QI Y Q) args s 0 0 (AD Y)) (F0 m 0 ls []) := by
  obtain ⟨hx, hb, hr, hml, hown, hlk, hT, hK, hB⟩ := id M
  unfold wX7_rate at h
  refine lv_aload_n hx hb dX7_rate_0 rfl (lv_at hl 0 rfl) ?_
  refine lv_iconst (v := 0) hx hb dX7_rate_1 (by decide) ?_
  refine q_put (v := 0) M hw (ob_92 hN) rfl inq_7 tyX7 tyX7_ok nmX7 0 (by decide) tw_635 rfl rfl rfl (Nat.le_of_ble_eq_true rfl) (by simp [up, upd, f0]) dX7_rate_2 (fun σ1 H locs es hw => ?_)
  have h := h σ1 es
  refine lv_iload_n hx hb dX7_rate_5 rfl (lv_at hl 1 rfl) ?_
  refine lv_iconst (v := 0) hx hb dX7_rate_6 (by decide) ?_
  refine lv_iconst (v := 5) hx hb dX7_rate_7 (by decide) ?_
  refine q_goI hw (q_runS (rest := []) M hw (ctX7_in l hB a0 0 5 σ1 _ h) mbX7_in tw_718 rfl hl.1 rfl (Nat.le_of_ble_eq_true rfl) ⟨Nat.le_of_ble_eq_true rfl, Nat.le_of_ble_eq_true rfl⟩ ⟨Nat.le_refl _, Nat.le_refl _⟩ dX7_rate_8) (fun r3 σ2 H locs h hw => ?_)
  refine lv_if_eq (tgt := 22) hx hb dX7_rate_11 (by decide) (fun c4 => ?_) (fun c4 => ?_)
  · have h := h.1 c4
    refine lv_ldc (v := (-1000000)) hx hb hown (hT _ tw_888) dX7_rate_22 ?_
    exact q_iret M hw h dX7_rate_24
  · have h := h.2 c4
    refine lv_aload_n hx hb dX7_rate_14 rfl (lv_at hl 0 rfl) ?_
    refine lv_iload_n hx hb dX7_rate_15 rfl (lv_at hl 2 rfl) ?_
    refine q_goI hw (q_runV (rest := []) M hw (ctX7_isStrip l hB hN a1 σ2 _ h) mbX7_isStrip (ob_92 hN) rfl tw_772 rfl hl.1 rfl (Nat.le_of_ble_eq_true rfl) ⟨Nat.le_of_ble_eq_true rfl, Nat.le_of_ble_eq_true rfl⟩ ⟨Nat.le_refl _, Nat.le_refl _⟩ dX7_rate_16) (fun r6 σ5 H locs h hw => ?_)
    refine lv_if_ne (tgt := 25) hx hb dX7_rate_19 (by decide) (fun c7 => ?_) (fun c7 => ?_)
    · have h := h.2 c7
      refine lv_aload_n hx hb dX7_rate_25 rfl (lv_at hl 0 rfl) ?_
      refine q_get (v := .ref (yA Y 100)) M hw (ob_92 hN) rfl inq_7 16 (by decide) tw_651 rfl dX7_rate_26 ?_
      refine lv_bipush (v := 6) hx hb dX7_rate_29 (by decide) ?_
      refine lv_iload_n hx hb dX7_rate_31 rfl (lv_at hl 2 rfl) ?_
      refine lv_iadd hx hb dX7_rate_32 ?_
      have c8 := h.1
      have h := h.2
      refine q_ild M hw (ar_100 hN) c8 dX7_rate_33 ?_
      refine lv_topi (fun x9 ex9 => ?_)
      have h := h x9 ex9
      refine lv_istore_n (lv' := [(3, .int x9), (0, .ref (yA Y 92)), (1, .int a0), (2, .int a1)]) hx hb dX7_rate_34 rfl hl (by decide) rfl (fun ls hl => ?_)
      refine lv_iload_n hx hb dX7_rate_35 rfl (lv_at hl 0 rfl) ?_
      refine lv_aload_n hx hb dX7_rate_36 rfl (lv_at hl 1 rfl) ?_
      refine lv_aload_n hx hb dX7_rate_37 rfl (lv_at hl 1 rfl) ?_
      refine q_get (v := .ref (yA Y 100)) M hw (ob_92 hN) rfl inq_7 16 (by decide) tw_651 rfl dX7_rate_38 ?_
      refine lv_iconst (v := 0) hx hb dX7_rate_41 (by decide) ?_
      refine q_ild' 0 M hw (ar_100 hN) (by unfold vp_in; decide) (by decide) dX7_rate_42 ?_
      refine q_goI hw (q_runV (rest := [.int x9]) M hw (ctX7_moon l hB hN (σ5.1 100 0) σ5 _ h) mbX7_moon (ob_92 hN) rfl tw_780 rfl hl.1 rfl (Nat.le_of_ble_eq_true rfl) ⟨Nat.le_of_ble_eq_true rfl, Nat.le_of_ble_eq_true rfl⟩ ⟨Nat.le_refl _, Nat.le_refl _⟩ dX7_rate_43) (fun r11 σ10 H locs h hw => ?_)
      refine lv_iadd hx hb dX7_rate_46 ?_
      refine lv_topi (fun x12 ex12 => ?_)
      have h := h x12 ex12
      refine lv_istore (lv' := [(4, .int x12), (3, .int x9), (0, .ref (yA Y 92)), (1, .int a0), (2, .int a1)]) hx hb dX7_rate_47 hl (by decide) rfl (fun ls hl => ?_)
      refine lv_iload_n hx hb dX7_rate_49 rfl (lv_at hl 1 rfl) ?_
      refine lv_aload_n hx hb dX7_rate_50 rfl (lv_at hl 2 rfl) ?_
      refine q_get (v := .ref (yA Y 96)) M hw (ob_92 hN) rfl inq_7 12 (by decide) tw_647 rfl dX7_rate_51 ?_
      refine lv_aload_n hx hb dX7_rate_54 rfl (lv_at hl 2 rfl) ?_
      refine q_get (v := .ref (yA Y 100)) M hw (ob_92 hN) rfl inq_7 16 (by decide) tw_651 rfl dX7_rate_55 ?_
      refine lv_bipush (v := 13) hx hb dX7_rate_58 (by decide) ?_
      refine lv_iload_n hx hb dX7_rate_60 rfl (lv_at hl 4 rfl) ?_
      refine lv_iadd hx hb dX7_rate_61 ?_
      have c13 := h.1
      have h := h.2
      refine q_ild M hw (ar_100 hN) c13 dX7_rate_62 ?_
      have c14 := h.1
      have h := h.2
      refine q_ild M hw (ar_96 hN) c14 dX7_rate_63 ?_
      refine lv_isub hx hb dX7_rate_64 ?_
      refine lv_topi (fun x15 ex15 => ?_)
      have h := h x15 ex15
      refine lv_istore (lv' := [(5, .int x15), (4, .int x12), (3, .int x9), (0, .ref (yA Y 92)), (1, .int a0), (2, .int a1)]) hx hb dX7_rate_65 hl (by decide) rfl (fun ls hl => ?_)
      refine lv_aload_n hx hb dX7_rate_67 rfl (lv_at hl 3 rfl) ?_
      refine lv_dup hx hb dX7_rate_68 rfl ?_
      refine q_get (v := .long (σ10.2.2)) M hw (ob_92 hN) rfl inq_7 1 (by decide) tw_636 rfl dX7_rate_69 ?_
      refine lv_iload_n hx hb dX7_rate_72 rfl (lv_at hl 4 rfl) ?_
      refine lv_if_ne (tgt := 80) hx hb dX7_rate_73 (by decide) (fun c16 => ?_) (fun c16 => ?_)
      · have h := h.2 c16
        refine lv_iload_n hx hb dX7_rate_80 rfl (lv_at hl 4 rfl) ?_
        refine lv_iconst (v := 1) hx hb dX7_rate_81 (by decide) ?_
        refine lv_icmp_ne (tgt := 91) hx hb dX7_rate_82 (by decide) (fun c17 => ?_) (fun c17 => ?_)
        · have h := h.2 c17
          refine lv_iload_n hx hb dX7_rate_91 rfl (lv_at hl 4 rfl) ?_
          refine lv_iconst (v := 2) hx hb dX7_rate_92 (by decide) ?_
          refine lv_icmp_ne (tgt := 102) hx hb dX7_rate_93 (by decide) (fun c18 => ?_) (fun c18 => ?_)
          · have h := h.2 c18
            refine lv_iload_n hx hb dX7_rate_102 rfl (lv_at hl 4 rfl) ?_
            refine lv_iconst (v := 3) hx hb dX7_rate_103 (by decide) ?_
            refine lv_icmp_ne (tgt := 113) hx hb dX7_rate_104 (by decide) (fun c19 => ?_) (fun c19 => ?_)
            · have h := h.2 c19
              refine lv_iload_n hx hb dX7_rate_113 rfl (lv_at hl 4 rfl) ?_
              refine lv_iconst (v := 4) hx hb dX7_rate_114 (by decide) ?_
              refine lv_icmp_ne (tgt := 124) hx hb dX7_rate_115 (by decide) (fun c20 => ?_) (fun c20 => ?_)
              · have h := h.2 c20
                refine lv_ldc2 (v := 100001) hx hb hown (hT _ tw_893) dX7_rate_124 ?_
                exact tX7_rate_127 M hN a0 a1 x9 x12 x15 100001 (σ10.2.2) σ10 _ _ _ hw (lv_sub hl [3, 4, 5, 2, 1, 0] rfl) h
              · have h := h.1 c20
                refine lv_ldc2 (v := 10101) hx hb hown (hT _ tw_892) dX7_rate_118 ?_
                refine lv_goto (tgt := 127) hx hb dX7_rate_121 (by decide) ?_
                exact tX7_rate_127 M hN a0 a1 x9 x12 x15 10101 (σ10.2.2) σ10 _ _ _ hw (lv_sub hl [3, 4, 5, 2, 1, 0] rfl) h
            · have h := h.1 c19
              refine lv_ldc2 (v := 1011) hx hb hown (hT _ tw_891) dX7_rate_107 ?_
              refine lv_goto (tgt := 127) hx hb dX7_rate_110 (by decide) ?_
              exact tX7_rate_127 M hN a0 a1 x9 x12 x15 1011 (σ10.2.2) σ10 _ _ _ hw (lv_sub hl [3, 4, 5, 2, 1, 0] rfl) h
          · have h := h.1 c18
            refine lv_ldc2 (v := 101) hx hb hown (hT _ tw_890) dX7_rate_96 ?_
            refine lv_goto (tgt := 127) hx hb dX7_rate_99 (by decide) ?_
            exact tX7_rate_127 M hN a0 a1 x9 x12 x15 101 (σ10.2.2) σ10 _ _ _ hw (lv_sub hl [3, 4, 5, 2, 1, 0] rfl) h
        · have h := h.1 c17
          refine lv_ldc2 (v := 11) hx hb hown (hT _ tw_889) dX7_rate_85 ?_
          refine lv_goto (tgt := 127) hx hb dX7_rate_88 (by decide) ?_
          exact tX7_rate_127 M hN a0 a1 x9 x12 x15 11 (σ10.2.2) σ10 _ _ _ hw (lv_sub hl [3, 4, 5, 2, 1, 0] rfl) h
      · have h := h.1 c16
        refine lv_lconst (v := 1) hx hb dX7_rate_76 (by decide) ?_
        refine lv_goto (tgt := 127) hx hb dX7_rate_77 (by decide) ?_
        exact tX7_rate_127 M hN a0 a1 x9 x12 x15 1 (σ10.2.2) σ10 _ _ _ hw (lv_sub hl [3, 4, 5, 2, 1, 0] rfl) h
    · have h := h.1 c7
      refine lv_ldc (v := (-1000000)) hx hb hown (hT _ tw_888) dX7_rate_22 ?_
      exact q_iret M hw h dX7_rate_24
set_option maxRecDepth 100000 in
theorem ctX7_rate (l : Launch) {Y : LY} (hB : YB Y) (hN : yN Y = 108) (a0 : Int32) (a1 : Int32) (σ : St) (Q : Int32 → St → Prop) (h : wX7_rate a0 a1 σ Q) : CT l yX7_rate (Cond.code yX7_rate cX7_rate 6 (some .int)) { frames := 2, cells := 0, slots := 0, locals := 43 } Y [.ref (yA Y 92), .int a0, .int a1] σ (QI Y Q) :=
  q_ent hB (by decide +kernel) (Nat.le_of_ble_eq_true rfl) (fun p e s m below meth c ls M hw hl => tX7_rate_E M hN a0 a1 σ _ _ ls hw hl h)
theorem mbX7_rate : MB RX7 yX7_rate cX7_rate 2 6 (some .int) := ⟨tw_885, tw_886, tw_56, tw_887, by decide +kernel⟩
end
section
variable {p : Program} {l : Launch} {e : Env} {s : State} {m : MethodId} {args : Array Value} {below : List Frame} {meth : Method} {c : Code} {Y : LY}
theorem dX7_keep_0 : decode cX7_keep 0 = .ok (.aload_n 0, 1) := by decide +kernel
theorem dX7_keep_1 : decode cX7_keep 1 = .ok (.iconst 0, 1) := by decide +kernel
theorem dX7_keep_2 : decode cX7_keep 2 = .ok (.putfield 62, 3) := by decide +kernel
theorem dX7_keep_5 : decode cX7_keep 5 = .ok (.iload_n 1, 1) := by decide +kernel
theorem dX7_keep_6 : decode cX7_keep 6 = .ok (.iconst 0, 1) := by decide +kernel
theorem dX7_keep_7 : decode cX7_keep 7 = .ok (.iconst 1, 1) := by decide +kernel
theorem dX7_keep_8 : decode cX7_keep 8 = .ok (.invokestatic 66, 3) := by decide +kernel
theorem dX7_keep_11 : decode cX7_keep 11 = .ok (.ifCond .ne 5, 3) := by decide +kernel
theorem dX7_keep_14 : decode cX7_keep 14 = .ok (.iconst (-1), 1) := by decide +kernel
theorem dX7_keep_15 : decode cX7_keep 15 = .ok (.ireturn, 1) := by decide +kernel
theorem dX7_keep_16 : decode cX7_keep 16 = .ok (.iconst 0, 1) := by decide +kernel
theorem dX7_keep_17 : decode cX7_keep 17 = .ok (.istore_n 2, 1) := by decide +kernel
theorem dX7_keep_18 : decode cX7_keep 18 = .ok (.iload_n 2, 1) := by decide +kernel
theorem dX7_keep_19 : decode cX7_keep 19 = .ok (.bipush 27, 2) := by decide +kernel
theorem dX7_keep_21 : decode cX7_keep 21 = .ok (.if_icmp .ge 26, 3) := by decide +kernel
theorem dX7_keep_24 : decode cX7_keep 24 = .ok (.aload_n 0, 1) := by decide +kernel
theorem dX7_keep_25 : decode cX7_keep 25 = .ok (.getfield 35, 3) := by decide +kernel
theorem dX7_keep_28 : decode cX7_keep 28 = .ok (.bipush 27, 2) := by decide +kernel
theorem dX7_keep_30 : decode cX7_keep 30 = .ok (.iload_n 1, 1) := by decide +kernel
theorem dX7_keep_31 : decode cX7_keep 31 = .ok (.imul, 1) := by decide +kernel
theorem dX7_keep_32 : decode cX7_keep 32 = .ok (.iload_n 2, 1) := by decide +kernel
theorem dX7_keep_33 : decode cX7_keep 33 = .ok (.iadd, 1) := by decide +kernel
theorem dX7_keep_34 : decode cX7_keep 34 = .ok (.aload_n 0, 1) := by decide +kernel
theorem dX7_keep_35 : decode cX7_keep 35 = .ok (.getfield 32, 3) := by decide +kernel
theorem dX7_keep_38 : decode cX7_keep 38 = .ok (.iload_n 2, 1) := by decide +kernel
theorem dX7_keep_39 : decode cX7_keep 39 = .ok (.iaload, 1) := by decide +kernel
theorem dX7_keep_40 : decode cX7_keep 40 = .ok (.iastore, 1) := by decide +kernel
theorem dX7_keep_41 : decode cX7_keep 41 = .ok (.iinc 2 1, 3) := by decide +kernel
theorem dX7_keep_44 : decode cX7_keep 44 = .ok (.goto (-26), 3) := by decide +kernel
theorem dX7_keep_47 : decode cX7_keep 47 = .ok (.aload_n 0, 1) := by decide +kernel
theorem dX7_keep_48 : decode cX7_keep 48 = .ok (.getfield 38, 3) := by decide +kernel
theorem dX7_keep_51 : decode cX7_keep 51 = .ok (.iload_n 1, 1) := by decide +kernel
theorem dX7_keep_52 : decode cX7_keep 52 = .ok (.iconst 1, 1) := by decide +kernel
theorem dX7_keep_53 : decode cX7_keep 53 = .ok (.bastore, 1) := by decide +kernel
theorem dX7_keep_54 : decode cX7_keep 54 = .ok (.aload_n 0, 1) := by decide +kernel
theorem dX7_keep_55 : decode cX7_keep 55 = .ok (.getfield 32, 3) := by decide +kernel
theorem dX7_keep_58 : decode cX7_keep 58 = .ok (.iconst 0, 1) := by decide +kernel
theorem dX7_keep_59 : decode cX7_keep 59 = .ok (.iaload, 1) := by decide +kernel
theorem dX7_keep_60 : decode cX7_keep 60 = .ok (.ireturn, 1) := by decide +kernel
def bX7_keep_18 (R_18 : Int32 × Int32 × St → Prop) (y1 : Int32) (y2 : Int32) (σ : St) (Q : Int32 → St → Prop) : Prop :=
  ((27 ≤ y2 → (vp_in y1 2 ∧ ∀ σ3 : St, σ3 = up σ 102 y1.toNatClampNeg (vp_nar .boolean 1) → Q (σ3.1 100 0) σ3)) ∧ (¬ 27 ≤ y2 → (vp_in y2 27 ∧ (vp_in ((27 * y1) + y2) 54 ∧ ∀ σ6 : St, σ6 = up σ 101 ((27 * y1) + y2).toNatClampNeg (σ.1 100 y2.toNatClampNeg) → (∀ x7 : Int32, x7 = y2 + 1 → R_18 (y1, x7, σ6))))))
set_option maxHeartbeats 4000000 in
set_option maxRecDepth 100000 in
theorem tX7_keep_18 {R_18 : Int32 × Int32 × St → Prop} {Q : Int32 → St → Prop} (M : MC p s m args meth c cX7_keep 3 (some .int) RX7 Y) (hN : yN Y = 108) (hR_18 : ∀ (y1 y2 : Int32) (σ : St) (H : Heap) (locs : List Loc) (ls : Array Slot), WS Y (AD Y) s.heap σ H locs → lv_has ls 3 [(0, .ref (yA Y 92)), (1, .int y1), (2, .int y2)] → R_18 (y1, y2, σ) → W p l e { frames := 1, cells := 0, slots := 0, locals := 22 } s m args below meth c H locs 0 0 (MQ below (QI Y Q) args s 0 0 (AD Y)) (F0 m 18 ls [])) (y1 : Int32) (y2 : Int32) (σ : St) (H : Heap) (locs : List Loc) (ls : Array Slot) (hw : WS Y (AD Y) s.heap σ H locs) (hl : lv_has ls 3 [(0, .ref (yA Y 92)), (1, .int y1), (2, .int y2)]) (h : bX7_keep_18 R_18 y1 y2 σ Q) : W p l e { frames := 1, cells := 0, slots := 0, locals := 22 } s m args below meth c H locs 0 0 (MQ below (QI Y Q) args s 0 0 (AD Y)) (F0 m 18 ls []) := by
  obtain ⟨hx, hb, hr, hml, hown, hlk, hT, hK, hB⟩ := id M
  unfold bX7_keep_18 at h
  refine lv_iload_n hx hb dX7_keep_18 rfl (lv_at hl 2 rfl) ?_
  refine lv_bipush (v := 27) hx hb dX7_keep_19 (by decide) ?_
  refine lv_icmp_ge (tgt := 47) hx hb dX7_keep_21 (by decide) (fun c1 => ?_) (fun c1 => ?_)
  · have h := h.1 c1
    refine lv_aload_n hx hb dX7_keep_47 rfl (lv_at hl 0 rfl) ?_
    refine q_get (v := .ref (yA Y 102)) M hw (ob_92 hN) rfl inq_7 18 (by decide) tw_653 rfl dX7_keep_48 ?_
    refine lv_iload_n hx hb dX7_keep_51 rfl (lv_at hl 1 rfl) ?_
    refine lv_iconst (v := 1) hx hb dX7_keep_52 (by decide) ?_
    have c2 := h.1
    refine q_zst M hw (ar_102 hN) c2 dX7_keep_53 (fun σ3 H locs es hw => ?_)
    have h := h.2 σ3 es
    refine lv_aload_n hx hb dX7_keep_54 rfl (lv_at hl 0 rfl) ?_
    refine q_get (v := .ref (yA Y 100)) M hw (ob_92 hN) rfl inq_7 16 (by decide) tw_651 rfl dX7_keep_55 ?_
    refine lv_iconst (v := 0) hx hb dX7_keep_58 (by decide) ?_
    refine q_ild' 0 M hw (ar_100 hN) (by unfold vp_in; decide) (by decide) dX7_keep_59 ?_
    exact q_iret M hw h dX7_keep_60
  · have h := h.2 c1
    refine lv_aload_n hx hb dX7_keep_24 rfl (lv_at hl 0 rfl) ?_
    refine q_get (v := .ref (yA Y 101)) M hw (ob_92 hN) rfl inq_7 17 (by decide) tw_652 rfl dX7_keep_25 ?_
    refine lv_bipush (v := 27) hx hb dX7_keep_28 (by decide) ?_
    refine lv_iload_n hx hb dX7_keep_30 rfl (lv_at hl 1 rfl) ?_
    refine lv_imul hx hb dX7_keep_31 ?_
    refine lv_iload_n hx hb dX7_keep_32 rfl (lv_at hl 2 rfl) ?_
    refine lv_iadd hx hb dX7_keep_33 ?_
    refine lv_aload_n hx hb dX7_keep_34 rfl (lv_at hl 0 rfl) ?_
    refine q_get (v := .ref (yA Y 100)) M hw (ob_92 hN) rfl inq_7 16 (by decide) tw_651 rfl dX7_keep_35 ?_
    refine lv_iload_n hx hb dX7_keep_38 rfl (lv_at hl 2 rfl) ?_
    have c4 := h.1
    have h := h.2
    refine q_ild M hw (ar_100 hN) c4 dX7_keep_39 ?_
    have c5 := h.1
    refine q_ist M hw (ar_101 hN) c5 dX7_keep_40 (fun σ6 H locs es hw => ?_)
    have h := h.2 σ6 es
    obtain ⟨x7, ex7⟩ : ∃ y : Int32, y = y2 + 1 := ⟨_, rfl⟩
    have h := h x7 ex7
    refine lv_iinc (v := x7) (lv' := [(2, .int x7), (0, .ref (yA Y 92)), (1, .int y1)]) hx hb dX7_keep_41 hl (k := 2) rfl (by rw [ex7]; rfl) (by decide) rfl (fun ls hl => ?_)
    refine lv_goto (tgt := 18) hx hb dX7_keep_44 (by decide) ?_
    exact hR_18 y1 x7 σ6 _ _ _ hw (lv_sub hl [1, 2, 0] rfl) h
def lX7_keep_18 (Q : Int32 → St → Prop) : (Int32 × Int32 × St → Prop) → Int32 × Int32 × St → Prop := fun R a => bX7_keep_18 R a.1 a.2.1 a.2.2 Q
theorem tlX7_keep_18 {Q : Int32 → St → Prop} (M : MC p s m args meth c cX7_keep 3 (some .int) RX7 Y) (hN : yN Y = 108) (n : Nat) : ∀ (y1 : Int32) (y2 : Int32) (σ : St) (H : Heap) (locs : List Loc) (ls : Array Slot) (hw : WS Y (AD Y) s.heap σ H locs) (hl : lv_has ls 3 [(0, .ref (yA Y 92)), (1, .int y1), (2, .int y2)]) (h : Lp (lX7_keep_18 Q) n (y1, y2, σ)), W p l e { frames := 1, cells := 0, slots := 0, locals := 22 } s m args below meth c H locs 0 0 (MQ below (QI Y Q) args s 0 0 (AD Y)) (F0 m 18 ls []) := by
  induction n with
  | zero => intro y1 y2 σ H locs ls hw hl h; exact h.elim
  | succ n ih =>
    intro y1 y2 σ H locs ls hw hl h
    exact tX7_keep_18 M hN ih y1 y2 σ H locs ls hw hl h
def wX7_keep (a0 : Int32) (σ : St) (Q : Int32 → St → Prop) : Prop :=
  (∀ σ1 : St, σ1 = up σ 92 0 0 → wX7_in a0 0 1 σ1 (fun r3 σ2 => ((r3 = 0 → Q (-1) σ2) ∧ (¬ r3 = 0 → ∃ n : Nat, Lp (lX7_keep_18 Q) n (a0, 0, σ2)))))
set_option maxHeartbeats 4000000 in
set_option maxRecDepth 100000 in
theorem tX7_keep_E {Q : Int32 → St → Prop} (M : MC p s m args meth c cX7_keep 3 (some .int) RX7 Y) (hN : yN Y = 108) (a0 : Int32) (σ : St) (H : Heap) (locs : List Loc) (ls : Array Slot) (hw : WS Y (AD Y) s.heap σ H locs) (hl : lv_has ls 3 [(0, .ref (yA Y 92)), (1, .int a0)]) (h : wX7_keep a0 σ Q) : W p l e { frames := 1, cells := 0, slots := 0, locals := 22 } s m args below meth c H locs 0 0 (MQ below (QI Y Q) args s 0 0 (AD Y)) (F0 m 0 ls []) := by
  obtain ⟨hx, hb, hr, hml, hown, hlk, hT, hK, hB⟩ := id M
  unfold wX7_keep at h
  refine lv_aload_n hx hb dX7_keep_0 rfl (lv_at hl 0 rfl) ?_
  refine lv_iconst (v := 0) hx hb dX7_keep_1 (by decide) ?_
  refine q_put (v := 0) M hw (ob_92 hN) rfl inq_7 tyX7 tyX7_ok nmX7 0 (by decide) tw_635 rfl rfl rfl (Nat.le_of_ble_eq_true rfl) (by simp [up, upd, f0]) dX7_keep_2 (fun σ1 H locs es hw => ?_)
  have h := h σ1 es
  refine lv_iload_n hx hb dX7_keep_5 rfl (lv_at hl 1 rfl) ?_
  refine lv_iconst (v := 0) hx hb dX7_keep_6 (by decide) ?_
  refine lv_iconst (v := 1) hx hb dX7_keep_7 (by decide) ?_
  refine q_goI hw (q_runS (rest := []) M hw (ctX7_in l hB a0 0 1 σ1 _ h) mbX7_in tw_718 rfl hl.1 rfl (Nat.le_of_ble_eq_true rfl) ⟨Nat.le_of_ble_eq_true rfl, Nat.le_of_ble_eq_true rfl⟩ ⟨Nat.le_refl _, Nat.le_refl _⟩ dX7_keep_8) (fun r3 σ2 H locs h hw => ?_)
  refine lv_if_ne (tgt := 16) hx hb dX7_keep_11 (by decide) (fun c4 => ?_) (fun c4 => ?_)
  · have h := h.2 c4
    refine lv_iconst (v := 0) hx hb dX7_keep_16 (by decide) ?_
    refine lv_istore_n (lv' := [(2, .int 0), (0, .ref (yA Y 92)), (1, .int a0)]) hx hb dX7_keep_17 rfl hl (by decide) rfl (fun ls hl => ?_)
    obtain ⟨n, h⟩ := h
    exact tlX7_keep_18 M hN n a0 0 σ2 _ _ _ hw (lv_sub hl [1, 2, 0] rfl) h
  · have h := h.1 c4
    refine lv_iconst (v := (-1)) hx hb dX7_keep_14 (by decide) ?_
    exact q_iret M hw h dX7_keep_15
set_option maxRecDepth 100000 in
theorem ctX7_keep (l : Launch) {Y : LY} (hB : YB Y) (hN : yN Y = 108) (a0 : Int32) (σ : St) (Q : Int32 → St → Prop) (h : wX7_keep a0 σ Q) : CT l yX7_keep (Cond.code yX7_keep cX7_keep 3 (some .int)) { frames := 1, cells := 0, slots := 0, locals := 22 } Y [.ref (yA Y 92), .int a0] σ (QI Y Q) :=
  q_ent hB (by decide +kernel) (Nat.le_of_ble_eq_true rfl) (fun p e s m below meth c ls M hw hl => tX7_keep_E M hN a0 σ _ _ ls hw hl h)
theorem mbX7_keep : MB RX7 yX7_keep cX7_keep 1 3 (some .int) := ⟨tw_895, tw_896, tw_56, tw_897, by decide +kernel⟩
end
section
variable {p : Program} {l : Launch} {e : Env} {s : State} {m : MethodId} {args : Array Value} {below : List Frame} {meth : Method} {c : Code} {Y : LY}
theorem dX7_back_0 : decode cX7_back 0 = .ok (.aload_n 0, 1) := by decide +kernel
theorem dX7_back_1 : decode cX7_back 1 = .ok (.iconst 0, 1) := by decide +kernel
theorem dX7_back_2 : decode cX7_back 2 = .ok (.putfield 62, 3) := by decide +kernel
theorem dX7_back_5 : decode cX7_back 5 = .ok (.iload_n 1, 1) := by decide +kernel
theorem dX7_back_6 : decode cX7_back 6 = .ok (.iconst 0, 1) := by decide +kernel
theorem dX7_back_7 : decode cX7_back 7 = .ok (.iconst 1, 1) := by decide +kernel
theorem dX7_back_8 : decode cX7_back 8 = .ok (.invokestatic 66, 3) := by decide +kernel
theorem dX7_back_11 : decode cX7_back 11 = .ok (.ifCond .ne 5, 3) := by decide +kernel
theorem dX7_back_14 : decode cX7_back 14 = .ok (.iconst (-1), 1) := by decide +kernel
theorem dX7_back_15 : decode cX7_back 15 = .ok (.ireturn, 1) := by decide +kernel
theorem dX7_back_16 : decode cX7_back 16 = .ok (.aload_n 0, 1) := by decide +kernel
theorem dX7_back_17 : decode cX7_back 17 = .ok (.getfield 38, 3) := by decide +kernel
theorem dX7_back_20 : decode cX7_back 20 = .ok (.iload_n 1, 1) := by decide +kernel
theorem dX7_back_21 : decode cX7_back 21 = .ok (.baload, 1) := by decide +kernel
theorem dX7_back_22 : decode cX7_back 22 = .ok (.ifCond .ne 6, 3) := by decide +kernel
theorem dX7_back_25 : decode cX7_back 25 = .ok (.bipush (-2), 2) := by decide +kernel
theorem dX7_back_27 : decode cX7_back 27 = .ok (.ireturn, 1) := by decide +kernel
theorem dX7_back_28 : decode cX7_back 28 = .ok (.iconst 0, 1) := by decide +kernel
theorem dX7_back_29 : decode cX7_back 29 = .ok (.istore_n 2, 1) := by decide +kernel
theorem dX7_back_30 : decode cX7_back 30 = .ok (.iload_n 2, 1) := by decide +kernel
theorem dX7_back_31 : decode cX7_back 31 = .ok (.bipush 27, 2) := by decide +kernel
theorem dX7_back_33 : decode cX7_back 33 = .ok (.if_icmp .ge 26, 3) := by decide +kernel
theorem dX7_back_36 : decode cX7_back 36 = .ok (.aload_n 0, 1) := by decide +kernel
theorem dX7_back_37 : decode cX7_back 37 = .ok (.getfield 32, 3) := by decide +kernel
theorem dX7_back_40 : decode cX7_back 40 = .ok (.iload_n 2, 1) := by decide +kernel
theorem dX7_back_41 : decode cX7_back 41 = .ok (.aload_n 0, 1) := by decide +kernel
theorem dX7_back_42 : decode cX7_back 42 = .ok (.getfield 35, 3) := by decide +kernel
theorem dX7_back_45 : decode cX7_back 45 = .ok (.bipush 27, 2) := by decide +kernel
theorem dX7_back_47 : decode cX7_back 47 = .ok (.iload_n 1, 1) := by decide +kernel
theorem dX7_back_48 : decode cX7_back 48 = .ok (.imul, 1) := by decide +kernel
theorem dX7_back_49 : decode cX7_back 49 = .ok (.iload_n 2, 1) := by decide +kernel
theorem dX7_back_50 : decode cX7_back 50 = .ok (.iadd, 1) := by decide +kernel
theorem dX7_back_51 : decode cX7_back 51 = .ok (.iaload, 1) := by decide +kernel
theorem dX7_back_52 : decode cX7_back 52 = .ok (.iastore, 1) := by decide +kernel
theorem dX7_back_53 : decode cX7_back 53 = .ok (.iinc 2 1, 3) := by decide +kernel
theorem dX7_back_56 : decode cX7_back 56 = .ok (.goto (-26), 3) := by decide +kernel
theorem dX7_back_59 : decode cX7_back 59 = .ok (.aload_n 0, 1) := by decide +kernel
theorem dX7_back_60 : decode cX7_back 60 = .ok (.iconst 0, 1) := by decide +kernel
theorem dX7_back_61 : decode cX7_back 61 = .ok (.putfield 124, 3) := by decide +kernel
theorem dX7_back_64 : decode cX7_back 64 = .ok (.aload_n 0, 1) := by decide +kernel
theorem dX7_back_65 : decode cX7_back 65 = .ok (.getfield 32, 3) := by decide +kernel
theorem dX7_back_68 : decode cX7_back 68 = .ok (.iconst 0, 1) := by decide +kernel
theorem dX7_back_69 : decode cX7_back 69 = .ok (.iaload, 1) := by decide +kernel
theorem dX7_back_70 : decode cX7_back 70 = .ok (.ireturn, 1) := by decide +kernel
def bX7_back_30 (R_30 : Int32 × Int32 × St → Prop) (y1 : Int32) (y2 : Int32) (σ : St) (Q : Int32 → St → Prop) : Prop :=
  ((27 ≤ y2 → (∀ σ2 : St, σ2 = up σ 92 20 0 → Q (σ2.1 100 0) σ2)) ∧ (¬ 27 ≤ y2 → (vp_in ((27 * y1) + y2) 54 ∧ (vp_in y2 27 ∧ ∀ σ5 : St, σ5 = up σ 100 y2.toNatClampNeg (σ.1 101 ((27 * y1) + y2).toNatClampNeg) → (∀ x6 : Int32, x6 = y2 + 1 → R_30 (y1, x6, σ5))))))
set_option maxHeartbeats 4000000 in
set_option maxRecDepth 100000 in
theorem tX7_back_30 {R_30 : Int32 × Int32 × St → Prop} {Q : Int32 → St → Prop} (M : MC p s m args meth c cX7_back 3 (some .int) RX7 Y) (hN : yN Y = 108) (hR_30 : ∀ (y1 y2 : Int32) (σ : St) (H : Heap) (locs : List Loc) (ls : Array Slot), WS Y (AD Y) s.heap σ H locs → lv_has ls 3 [(0, .ref (yA Y 92)), (1, .int y1), (2, .int y2)] → R_30 (y1, y2, σ) → W p l e { frames := 1, cells := 0, slots := 0, locals := 22 } s m args below meth c H locs 0 0 (MQ below (QI Y Q) args s 0 0 (AD Y)) (F0 m 30 ls [])) (y1 : Int32) (y2 : Int32) (σ : St) (H : Heap) (locs : List Loc) (ls : Array Slot) (hw : WS Y (AD Y) s.heap σ H locs) (hl : lv_has ls 3 [(0, .ref (yA Y 92)), (1, .int y1), (2, .int y2)]) (h : bX7_back_30 R_30 y1 y2 σ Q) : W p l e { frames := 1, cells := 0, slots := 0, locals := 22 } s m args below meth c H locs 0 0 (MQ below (QI Y Q) args s 0 0 (AD Y)) (F0 m 30 ls []) := by
  obtain ⟨hx, hb, hr, hml, hown, hlk, hT, hK, hB⟩ := id M
  unfold bX7_back_30 at h
  refine lv_iload_n hx hb dX7_back_30 rfl (lv_at hl 2 rfl) ?_
  refine lv_bipush (v := 27) hx hb dX7_back_31 (by decide) ?_
  refine lv_icmp_ge (tgt := 59) hx hb dX7_back_33 (by decide) (fun c1 => ?_) (fun c1 => ?_)
  · have h := h.1 c1
    refine lv_aload_n hx hb dX7_back_59 rfl (lv_at hl 0 rfl) ?_
    refine lv_iconst (v := 0) hx hb dX7_back_60 (by decide) ?_
    refine q_put (v := 0) M hw (ob_92 hN) rfl inq_7 tyX7 tyX7_ok nmX7 20 (by decide) tw_655 rfl rfl rfl (Nat.le_of_ble_eq_true rfl) (by simp [up, upd, f0]) dX7_back_61 (fun σ2 H locs es hw => ?_)
    have h := h σ2 es
    refine lv_aload_n hx hb dX7_back_64 rfl (lv_at hl 0 rfl) ?_
    refine q_get (v := .ref (yA Y 100)) M hw (ob_92 hN) rfl inq_7 16 (by decide) tw_651 rfl dX7_back_65 ?_
    refine lv_iconst (v := 0) hx hb dX7_back_68 (by decide) ?_
    refine q_ild' 0 M hw (ar_100 hN) (by unfold vp_in; decide) (by decide) dX7_back_69 ?_
    exact q_iret M hw h dX7_back_70
  · have h := h.2 c1
    refine lv_aload_n hx hb dX7_back_36 rfl (lv_at hl 0 rfl) ?_
    refine q_get (v := .ref (yA Y 100)) M hw (ob_92 hN) rfl inq_7 16 (by decide) tw_651 rfl dX7_back_37 ?_
    refine lv_iload_n hx hb dX7_back_40 rfl (lv_at hl 2 rfl) ?_
    refine lv_aload_n hx hb dX7_back_41 rfl (lv_at hl 0 rfl) ?_
    refine q_get (v := .ref (yA Y 101)) M hw (ob_92 hN) rfl inq_7 17 (by decide) tw_652 rfl dX7_back_42 ?_
    refine lv_bipush (v := 27) hx hb dX7_back_45 (by decide) ?_
    refine lv_iload_n hx hb dX7_back_47 rfl (lv_at hl 1 rfl) ?_
    refine lv_imul hx hb dX7_back_48 ?_
    refine lv_iload_n hx hb dX7_back_49 rfl (lv_at hl 2 rfl) ?_
    refine lv_iadd hx hb dX7_back_50 ?_
    have c3 := h.1
    have h := h.2
    refine q_ild M hw (ar_101 hN) c3 dX7_back_51 ?_
    have c4 := h.1
    refine q_ist M hw (ar_100 hN) c4 dX7_back_52 (fun σ5 H locs es hw => ?_)
    have h := h.2 σ5 es
    obtain ⟨x6, ex6⟩ : ∃ y : Int32, y = y2 + 1 := ⟨_, rfl⟩
    have h := h x6 ex6
    refine lv_iinc (v := x6) (lv' := [(2, .int x6), (0, .ref (yA Y 92)), (1, .int y1)]) hx hb dX7_back_53 hl (k := 2) rfl (by rw [ex6]; rfl) (by decide) rfl (fun ls hl => ?_)
    refine lv_goto (tgt := 30) hx hb dX7_back_56 (by decide) ?_
    exact hR_30 y1 x6 σ5 _ _ _ hw (lv_sub hl [1, 2, 0] rfl) h
def lX7_back_30 (Q : Int32 → St → Prop) : (Int32 × Int32 × St → Prop) → Int32 × Int32 × St → Prop := fun R a => bX7_back_30 R a.1 a.2.1 a.2.2 Q
theorem tlX7_back_30 {Q : Int32 → St → Prop} (M : MC p s m args meth c cX7_back 3 (some .int) RX7 Y) (hN : yN Y = 108) (n : Nat) : ∀ (y1 : Int32) (y2 : Int32) (σ : St) (H : Heap) (locs : List Loc) (ls : Array Slot) (hw : WS Y (AD Y) s.heap σ H locs) (hl : lv_has ls 3 [(0, .ref (yA Y 92)), (1, .int y1), (2, .int y2)]) (h : Lp (lX7_back_30 Q) n (y1, y2, σ)), W p l e { frames := 1, cells := 0, slots := 0, locals := 22 } s m args below meth c H locs 0 0 (MQ below (QI Y Q) args s 0 0 (AD Y)) (F0 m 30 ls []) := by
  induction n with
  | zero => intro y1 y2 σ H locs ls hw hl h; exact h.elim
  | succ n ih =>
    intro y1 y2 σ H locs ls hw hl h
    exact tX7_back_30 M hN ih y1 y2 σ H locs ls hw hl h
def wX7_back (a0 : Int32) (σ : St) (Q : Int32 → St → Prop) : Prop :=
  (∀ σ1 : St, σ1 = up σ 92 0 0 → wX7_in a0 0 1 σ1 (fun r3 σ2 => ((r3 = 0 → Q (-1) σ2) ∧ (¬ r3 = 0 → (vp_in a0 2 ∧ (((σ2.1 102 a0.toNatClampNeg) = 0 → Q (-2) σ2) ∧ (¬ (σ2.1 102 a0.toNatClampNeg) = 0 → ∃ n : Nat, Lp (lX7_back_30 Q) n (a0, 0, σ2))))))))
set_option maxHeartbeats 4000000 in
set_option maxRecDepth 100000 in
theorem tX7_back_E {Q : Int32 → St → Prop} (M : MC p s m args meth c cX7_back 3 (some .int) RX7 Y) (hN : yN Y = 108) (a0 : Int32) (σ : St) (H : Heap) (locs : List Loc) (ls : Array Slot) (hw : WS Y (AD Y) s.heap σ H locs) (hl : lv_has ls 3 [(0, .ref (yA Y 92)), (1, .int a0)]) (h : wX7_back a0 σ Q) : W p l e { frames := 1, cells := 0, slots := 0, locals := 22 } s m args below meth c H locs 0 0 (MQ below (QI Y Q) args s 0 0 (AD Y)) (F0 m 0 ls []) := by
  obtain ⟨hx, hb, hr, hml, hown, hlk, hT, hK, hB⟩ := id M
  unfold wX7_back at h
  refine lv_aload_n hx hb dX7_back_0 rfl (lv_at hl 0 rfl) ?_
  refine lv_iconst (v := 0) hx hb dX7_back_1 (by decide) ?_
  refine q_put (v := 0) M hw (ob_92 hN) rfl inq_7 tyX7 tyX7_ok nmX7 0 (by decide) tw_635 rfl rfl rfl (Nat.le_of_ble_eq_true rfl) (by simp [up, upd, f0]) dX7_back_2 (fun σ1 H locs es hw => ?_)
  have h := h σ1 es
  refine lv_iload_n hx hb dX7_back_5 rfl (lv_at hl 1 rfl) ?_
  refine lv_iconst (v := 0) hx hb dX7_back_6 (by decide) ?_
  refine lv_iconst (v := 1) hx hb dX7_back_7 (by decide) ?_
  refine q_goI hw (q_runS (rest := []) M hw (ctX7_in l hB a0 0 1 σ1 _ h) mbX7_in tw_718 rfl hl.1 rfl (Nat.le_of_ble_eq_true rfl) ⟨Nat.le_of_ble_eq_true rfl, Nat.le_of_ble_eq_true rfl⟩ ⟨Nat.le_refl _, Nat.le_refl _⟩ dX7_back_8) (fun r3 σ2 H locs h hw => ?_)
  refine lv_if_ne (tgt := 16) hx hb dX7_back_11 (by decide) (fun c4 => ?_) (fun c4 => ?_)
  · have h := h.2 c4
    refine lv_aload_n hx hb dX7_back_16 rfl (lv_at hl 0 rfl) ?_
    refine q_get (v := .ref (yA Y 102)) M hw (ob_92 hN) rfl inq_7 18 (by decide) tw_653 rfl dX7_back_17 ?_
    refine lv_iload_n hx hb dX7_back_20 rfl (lv_at hl 1 rfl) ?_
    have c5 := h.1
    have h := h.2
    refine q_zld M hw (ar_102 hN) c5 dX7_back_21 ?_
    refine lv_if_ne (tgt := 28) hx hb dX7_back_22 (by decide) (fun c6 => ?_) (fun c6 => ?_)
    · have h := h.2 c6
      refine lv_iconst (v := 0) hx hb dX7_back_28 (by decide) ?_
      refine lv_istore_n (lv' := [(2, .int 0), (0, .ref (yA Y 92)), (1, .int a0)]) hx hb dX7_back_29 rfl hl (by decide) rfl (fun ls hl => ?_)
      obtain ⟨n, h⟩ := h
      exact tlX7_back_30 M hN n a0 0 σ2 _ _ _ hw (lv_sub hl [1, 2, 0] rfl) h
    · have h := h.1 c6
      refine lv_bipush (v := (-2)) hx hb dX7_back_25 (by decide) ?_
      exact q_iret M hw h dX7_back_27
  · have h := h.1 c4
    refine lv_iconst (v := (-1)) hx hb dX7_back_14 (by decide) ?_
    exact q_iret M hw h dX7_back_15
set_option maxRecDepth 100000 in
theorem ctX7_back (l : Launch) {Y : LY} (hB : YB Y) (hN : yN Y = 108) (a0 : Int32) (σ : St) (Q : Int32 → St → Prop) (h : wX7_back a0 σ Q) : CT l yX7_back (Cond.code yX7_back cX7_back 3 (some .int)) { frames := 1, cells := 0, slots := 0, locals := 22 } Y [.ref (yA Y 92), .int a0] σ (QI Y Q) :=
  q_ent hB (by decide +kernel) (Nat.le_of_ble_eq_true rfl) (fun p e s m below meth c ls M hw hl => tX7_back_E M hN a0 σ _ _ ls hw hl h)
theorem mbX7_back : MB RX7 yX7_back cX7_back 1 3 (some .int) := ⟨tw_899, tw_900, tw_56, tw_901, by decide +kernel⟩
end
section
variable {p : Program} {l : Launch} {e : Env} {s : State} {m : MethodId} {args : Array Value} {below : List Frame} {meth : Method} {c : Code} {Y : LY}
theorem dX7_count_0 : decode cX7_count 0 = .ok (.aload_n 0, 1) := by decide +kernel
theorem dX7_count_1 : decode cX7_count 1 = .ok (.iconst 0, 1) := by decide +kernel
theorem dX7_count_2 : decode cX7_count 2 = .ok (.putfield 62, 3) := by decide +kernel
theorem dX7_count_5 : decode cX7_count 5 = .ok (.iload_n 1, 1) := by decide +kernel
theorem dX7_count_6 : decode cX7_count 6 = .ok (.iconst 0, 1) := by decide +kernel
theorem dX7_count_7 : decode cX7_count 7 = .ok (.iconst 3, 1) := by decide +kernel
theorem dX7_count_8 : decode cX7_count 8 = .ok (.invokestatic 66, 3) := by decide +kernel
theorem dX7_count_11 : decode cX7_count 11 = .ok (.ifCond .eq 12, 3) := by decide +kernel
theorem dX7_count_14 : decode cX7_count 14 = .ok (.aload_n 0, 1) := by decide +kernel
theorem dX7_count_15 : decode cX7_count 15 = .ok (.getfield 13, 3) := by decide +kernel
theorem dX7_count_18 : decode cX7_count 18 = .ok (.iload_n 1, 1) := by decide +kernel
theorem dX7_count_19 : decode cX7_count 19 = .ok (.iaload, 1) := by decide +kernel
theorem dX7_count_20 : decode cX7_count 20 = .ok (.goto 28, 3) := by decide +kernel
theorem dX7_count_23 : decode cX7_count 23 = .ok (.iload_n 1, 1) := by decide +kernel
theorem dX7_count_24 : decode cX7_count 24 = .ok (.iconst 4, 1) := by decide +kernel
theorem dX7_count_25 : decode cX7_count 25 = .ok (.if_icmp .ne 10, 3) := by decide +kernel
theorem dX7_count_28 : decode cX7_count 28 = .ok (.aload_n 0, 1) := by decide +kernel
theorem dX7_count_29 : decode cX7_count 29 = .ok (.getfield 121, 3) := by decide +kernel
theorem dX7_count_32 : decode cX7_count 32 = .ok (.goto 16, 3) := by decide +kernel
theorem dX7_count_35 : decode cX7_count 35 = .ok (.iload_n 1, 1) := by decide +kernel
theorem dX7_count_36 : decode cX7_count 36 = .ok (.iconst 5, 1) := by decide +kernel
theorem dX7_count_37 : decode cX7_count 37 = .ok (.if_icmp .ne 10, 3) := by decide +kernel
theorem dX7_count_40 : decode cX7_count 40 = .ok (.aload_n 0, 1) := by decide +kernel
theorem dX7_count_41 : decode cX7_count 41 = .ok (.getfield 70, 3) := by decide +kernel
theorem dX7_count_44 : decode cX7_count 44 = .ok (.goto 4, 3) := by decide +kernel
theorem dX7_count_47 : decode cX7_count 47 = .ok (.iconst (-1), 1) := by decide +kernel
theorem dX7_count_48 : decode cX7_count 48 = .ok (.ireturn, 1) := by decide +kernel
def wX7_count (a0 : Int32) (σ : St) (Q : Int32 → St → Prop) : Prop :=
  (∀ σ1 : St, σ1 = up σ 92 0 0 → wX7_in a0 0 3 σ1 (fun r3 σ2 => ((r3 = 0 → ((a0 = 4 → Q (σ2.1 92 24) σ2) ∧ (¬ a0 = 4 → ((a0 = 5 → Q (σ2.1 92 3) σ2) ∧ (¬ a0 = 5 → Q (-1) σ2))))) ∧ (¬ r3 = 0 → (vp_in a0 8 ∧ Q (σ2.1 94 a0.toNatClampNeg) σ2)))))
set_option maxHeartbeats 4000000 in
set_option maxRecDepth 100000 in
theorem tX7_count_E {Q : Int32 → St → Prop} (M : MC p s m args meth c cX7_count 2 (some .int) RX7 Y) (hN : yN Y = 108) (a0 : Int32) (σ : St) (H : Heap) (locs : List Loc) (ls : Array Slot) (hw : WS Y (AD Y) s.heap σ H locs) (hl : lv_has ls 2 [(0, .ref (yA Y 92)), (1, .int a0)]) (h : wX7_count a0 σ Q) : W p l e { frames := 1, cells := 0, slots := 0, locals := 22 } s m args below meth c H locs 0 0 (MQ below (QI Y Q) args s 0 0 (AD Y)) (F0 m 0 ls []) := by
  obtain ⟨hx, hb, hr, hml, hown, hlk, hT, hK, hB⟩ := id M
  unfold wX7_count at h
  refine lv_aload_n hx hb dX7_count_0 rfl (lv_at hl 0 rfl) ?_
  refine lv_iconst (v := 0) hx hb dX7_count_1 (by decide) ?_
  refine q_put (v := 0) M hw (ob_92 hN) rfl inq_7 tyX7 tyX7_ok nmX7 0 (by decide) tw_635 rfl rfl rfl (Nat.le_of_ble_eq_true rfl) (by simp [up, upd, f0]) dX7_count_2 (fun σ1 H locs es hw => ?_)
  have h := h σ1 es
  refine lv_iload_n hx hb dX7_count_5 rfl (lv_at hl 1 rfl) ?_
  refine lv_iconst (v := 0) hx hb dX7_count_6 (by decide) ?_
  refine lv_iconst (v := 3) hx hb dX7_count_7 (by decide) ?_
  refine q_goI hw (q_runS (rest := []) M hw (ctX7_in l hB a0 0 3 σ1 _ h) mbX7_in tw_718 rfl hl.1 rfl (Nat.le_of_ble_eq_true rfl) ⟨Nat.le_of_ble_eq_true rfl, Nat.le_of_ble_eq_true rfl⟩ ⟨Nat.le_refl _, Nat.le_refl _⟩ dX7_count_8) (fun r3 σ2 H locs h hw => ?_)
  refine lv_if_eq (tgt := 23) hx hb dX7_count_11 (by decide) (fun c4 => ?_) (fun c4 => ?_)
  · have h := h.1 c4
    refine lv_iload_n hx hb dX7_count_23 rfl (lv_at hl 1 rfl) ?_
    refine lv_iconst (v := 4) hx hb dX7_count_24 (by decide) ?_
    refine lv_icmp_ne (tgt := 35) hx hb dX7_count_25 (by decide) (fun c5 => ?_) (fun c5 => ?_)
    · have h := h.2 c5
      refine lv_iload_n hx hb dX7_count_35 rfl (lv_at hl 1 rfl) ?_
      refine lv_iconst (v := 5) hx hb dX7_count_36 (by decide) ?_
      refine lv_icmp_ne (tgt := 47) hx hb dX7_count_37 (by decide) (fun c6 => ?_) (fun c6 => ?_)
      · have h := h.2 c6
        refine lv_iconst (v := (-1)) hx hb dX7_count_47 (by decide) ?_
        exact q_iret M hw h dX7_count_48
      · have h := h.1 c6
        refine lv_aload_n hx hb dX7_count_40 rfl (lv_at hl 0 rfl) ?_
        refine q_get (v := .int (σ2.1 92 3)) M hw (ob_92 hN) rfl inq_7 3 (by decide) tw_638 rfl dX7_count_41 ?_
        refine lv_goto (tgt := 48) hx hb dX7_count_44 (by decide) ?_
        exact q_iret M hw h dX7_count_48
    · have h := h.1 c5
      refine lv_aload_n hx hb dX7_count_28 rfl (lv_at hl 0 rfl) ?_
      refine q_get (v := .int (σ2.1 92 24)) M hw (ob_92 hN) rfl inq_7 24 (by decide) tw_659 rfl dX7_count_29 ?_
      refine lv_goto (tgt := 48) hx hb dX7_count_32 (by decide) ?_
      exact q_iret M hw h dX7_count_48
  · have h := h.2 c4
    refine lv_aload_n hx hb dX7_count_14 rfl (lv_at hl 0 rfl) ?_
    refine q_get (v := .ref (yA Y 94)) M hw (ob_92 hN) rfl inq_7 9 (by decide) tw_644 rfl dX7_count_15 ?_
    refine lv_iload_n hx hb dX7_count_18 rfl (lv_at hl 1 rfl) ?_
    have c7 := h.1
    have h := h.2
    refine q_ild M hw (ar_94 hN) c7 dX7_count_19 ?_
    refine lv_goto (tgt := 48) hx hb dX7_count_20 (by decide) ?_
    exact q_iret M hw h dX7_count_48
set_option maxRecDepth 100000 in
theorem ctX7_count (l : Launch) {Y : LY} (hB : YB Y) (hN : yN Y = 108) (a0 : Int32) (σ : St) (Q : Int32 → St → Prop) (h : wX7_count a0 σ Q) : CT l yX7_count (Cond.code yX7_count cX7_count 2 (some .int)) { frames := 1, cells := 0, slots := 0, locals := 22 } Y [.ref (yA Y 92), .int a0] σ (QI Y Q) :=
  q_ent hB (by decide +kernel) (Nat.le_of_ble_eq_true rfl) (fun p e s m below meth c ls M hw hl => tX7_count_E M hN a0 σ _ _ ls hw hl h)
theorem mbX7_count : MB RX7 yX7_count cX7_count 1 2 (some .int) := ⟨tw_903, tw_904, tw_56, tw_905, by decide +kernel⟩
end
section
variable {p : Program} {l : Launch} {e : Env} {s : State} {m : MethodId} {args : Array Value} {below : List Frame} {meth : Method} {c : Code} {Y : LY}
theorem dX7_trace_0 : decode cX7_trace 0 = .ok (.aload_n 0, 1) := by decide +kernel
theorem dX7_trace_1 : decode cX7_trace 1 = .ok (.iconst 0, 1) := by decide +kernel
theorem dX7_trace_2 : decode cX7_trace 2 = .ok (.putfield 62, 3) := by decide +kernel
theorem dX7_trace_5 : decode cX7_trace 5 = .ok (.aload_n 0, 1) := by decide +kernel
theorem dX7_trace_6 : decode cX7_trace 6 = .ok (.getfield 166, 3) := by decide +kernel
theorem dX7_trace_9 : decode cX7_trace 9 = .ok (.lreturn, 1) := by decide +kernel
def wX7_trace (σ : St) (Q : Int64 → St → Prop) : Prop :=
  (∀ σ1 : St, σ1 = up σ 92 0 0 → Q (σ1.2.2) σ1)
set_option maxHeartbeats 4000000 in
set_option maxRecDepth 100000 in
theorem tX7_trace_E {Q : Int64 → St → Prop} (M : MC p s m args meth c cX7_trace 1 (some .long) RX7 Y) (hN : yN Y = 108)  (σ : St) (H : Heap) (locs : List Loc) (ls : Array Slot) (hw : WS Y (AD Y) s.heap σ H locs) (hl : lv_has ls 1 [(0, .ref (yA Y 92))]) (h : wX7_trace σ Q) : W p l e { frames := 0, cells := 0, slots := 0, locals := 0 } s m args below meth c H locs 0 0 (MQ below (QL Y Q) args s 0 0 (AD Y)) (F0 m 0 ls []) := by
  obtain ⟨hx, hb, hr, hml, hown, hlk, hT, hK, hB⟩ := id M
  unfold wX7_trace at h
  refine lv_aload_n hx hb dX7_trace_0 rfl (lv_at hl 0 rfl) ?_
  refine lv_iconst (v := 0) hx hb dX7_trace_1 (by decide) ?_
  refine q_put (v := 0) M hw (ob_92 hN) rfl inq_7 tyX7 tyX7_ok nmX7 0 (by decide) tw_635 rfl rfl rfl (Nat.le_of_ble_eq_true rfl) (by simp [up, upd, f0]) dX7_trace_2 (fun σ1 H locs es hw => ?_)
  have h := h σ1 es
  refine lv_aload_n hx hb dX7_trace_5 rfl (lv_at hl 0 rfl) ?_
  refine q_get (v := .long (σ1.2.2)) M hw (ob_92 hN) rfl inq_7 1 (by decide) tw_636 rfl dX7_trace_6 ?_
  exact q_lret M hw h dX7_trace_9
set_option maxRecDepth 100000 in
theorem ctX7_trace (l : Launch) {Y : LY} (hB : YB Y) (hN : yN Y = 108) (σ : St) (Q : Int64 → St → Prop) (h : wX7_trace σ Q) : CT l yX7_trace (Cond.code yX7_trace cX7_trace 1 (some .long)) { frames := 0, cells := 0, slots := 0, locals := 0 } Y [.ref (yA Y 92)] σ (QL Y Q) :=
  q_ent hB (by decide +kernel) (Nat.le_of_ble_eq_true rfl) (fun p e s m below meth c ls M hw hl => tX7_trace_E M hN σ _ _ ls hw hl h)
theorem mbX7_trace : MB RX7 yX7_trace cX7_trace 0 1 (some .long) := ⟨tw_907, tw_908, tw_56, tw_909, by decide +kernel⟩
end
