/-! MoonRightsModel() -/
theorem dX7_init_0 : decode cX7_init 0 = .ok (.aload_n 0, 1) := by decide +kernel
theorem dX7_init_1 : decode cX7_init 1 = .ok (.invokespecial 1, 3) := by decide +kernel
theorem dX7_init_4 : decode cX7_init 4 = .ok (.aload_n 0, 1) := by decide +kernel
theorem dX7_init_5 : decode cX7_init 5 = .ok (.sipush 200, 3) := by decide +kernel
theorem dX7_init_8 : decode cX7_init 8 = .ok (.newarray .int, 2) := by decide +kernel
theorem dX7_init_10 : decode cX7_init 10 = .ok (.putfield 7, 3) := by decide +kernel
theorem dX7_init_13 : decode cX7_init 13 = .ok (.aload_n 0, 1) := by decide +kernel
theorem dX7_init_14 : decode cX7_init 14 = .ok (.bipush 8, 2) := by decide +kernel
theorem dX7_init_16 : decode cX7_init 16 = .ok (.newarray .int, 2) := by decide +kernel
theorem dX7_init_18 : decode cX7_init 18 = .ok (.putfield 13, 3) := by decide +kernel
theorem dX7_init_21 : decode cX7_init 21 = .ok (.aload_n 0, 1) := by decide +kernel
theorem dX7_init_22 : decode cX7_init 22 = .ok (.iconst 5, 1) := by decide +kernel
theorem dX7_init_23 : decode cX7_init 23 = .ok (.newarray .int, 2) := by decide +kernel
theorem dX7_init_25 : decode cX7_init 25 = .ok (.putfield 16, 3) := by decide +kernel
theorem dX7_init_28 : decode cX7_init 28 = .ok (.aload_n 0, 1) := by decide +kernel
theorem dX7_init_29 : decode cX7_init 29 = .ok (.bipush 10, 2) := by decide +kernel
theorem dX7_init_31 : decode cX7_init 31 = .ok (.newarray .int, 2) := by decide +kernel
theorem dX7_init_33 : decode cX7_init 33 = .ok (.putfield 19, 3) := by decide +kernel
theorem dX7_init_36 : decode cX7_init 36 = .ok (.aload_n 0, 1) := by decide +kernel
theorem dX7_init_37 : decode cX7_init 37 = .ok (.bipush 7, 2) := by decide +kernel
theorem dX7_init_39 : decode cX7_init 39 = .ok (.newarray .int, 2) := by decide +kernel
theorem dX7_init_41 : decode cX7_init 41 = .ok (.putfield 22, 3) := by decide +kernel
theorem dX7_init_44 : decode cX7_init 44 = .ok (.aload_n 0, 1) := by decide +kernel
theorem dX7_init_45 : decode cX7_init 45 = .ok (.bipush 14, 2) := by decide +kernel
theorem dX7_init_47 : decode cX7_init 47 = .ok (.newarray .int, 2) := by decide +kernel
theorem dX7_init_49 : decode cX7_init 49 = .ok (.putfield 25, 3) := by decide +kernel
theorem dX7_init_52 : decode cX7_init 52 = .ok (.aload_n 0, 1) := by decide +kernel
theorem dX7_init_53 : decode cX7_init 53 = .ok (.sipush 200, 3) := by decide +kernel
theorem dX7_init_56 : decode cX7_init 56 = .ok (.newarray .boolean, 2) := by decide +kernel
theorem dX7_init_58 : decode cX7_init 58 = .ok (.putfield 28, 3) := by decide +kernel
theorem dX7_init_61 : decode cX7_init 61 = .ok (.aload_n 0, 1) := by decide +kernel
theorem dX7_init_62 : decode cX7_init 62 = .ok (.bipush 27, 2) := by decide +kernel
theorem dX7_init_64 : decode cX7_init 64 = .ok (.newarray .int, 2) := by decide +kernel
theorem dX7_init_66 : decode cX7_init 66 = .ok (.putfield 32, 3) := by decide +kernel
theorem dX7_init_69 : decode cX7_init 69 = .ok (.aload_n 0, 1) := by decide +kernel
theorem dX7_init_70 : decode cX7_init 70 = .ok (.bipush 54, 2) := by decide +kernel
theorem dX7_init_72 : decode cX7_init 72 = .ok (.newarray .int, 2) := by decide +kernel
theorem dX7_init_74 : decode cX7_init 74 = .ok (.putfield 35, 3) := by decide +kernel
theorem dX7_init_77 : decode cX7_init 77 = .ok (.aload_n 0, 1) := by decide +kernel
theorem dX7_init_78 : decode cX7_init 78 = .ok (.iconst 2, 1) := by decide +kernel
theorem dX7_init_79 : decode cX7_init 79 = .ok (.newarray .boolean, 2) := by decide +kernel
theorem dX7_init_81 : decode cX7_init 81 = .ok (.putfield 38, 3) := by decide +kernel
theorem dX7_init_84 : decode cX7_init 84 = .ok (.aload_n 0, 1) := by decide +kernel
theorem dX7_init_85 : decode cX7_init 85 = .ok (.sipush 270, 3) := by decide +kernel
theorem dX7_init_88 : decode cX7_init 88 = .ok (.newarray .int, 2) := by decide +kernel
theorem dX7_init_90 : decode cX7_init 90 = .ok (.putfield 41, 3) := by decide +kernel
theorem dX7_init_93 : decode cX7_init 93 = .ok (.aload_n 0, 1) := by decide +kernel
theorem dX7_init_94 : decode cX7_init 94 = .ok (.bipush 6, 2) := by decide +kernel
theorem dX7_init_96 : decode cX7_init 96 = .ok (.newarray .int, 2) := by decide +kernel
theorem dX7_init_98 : decode cX7_init 98 = .ok (.putfield 44, 3) := by decide +kernel
theorem dX7_init_101 : decode cX7_init 101 = .ok (.aload_n 0, 1) := by decide +kernel
theorem dX7_init_102 : decode cX7_init 102 = .ok (.bipush 6, 2) := by decide +kernel
theorem dX7_init_104 : decode cX7_init 104 = .ok (.newarray .int, 2) := by decide +kernel
theorem dX7_init_106 : decode cX7_init 106 = .ok (.putfield 47, 3) := by decide +kernel
theorem dX7_init_109 : decode cX7_init 109 = .ok (.aload_n 0, 1) := by decide +kernel
theorem dX7_init_110 : decode cX7_init 110 = .ok (.bipush 6, 2) := by decide +kernel
theorem dX7_init_112 : decode cX7_init 112 = .ok (.newarray .int, 2) := by decide +kernel
theorem dX7_init_114 : decode cX7_init 114 = .ok (.putfield 50, 3) := by decide +kernel
theorem dX7_init_117 : decode cX7_init 117 = .ok (.aload_n 0, 1) := by decide +kernel
theorem dX7_init_118 : decode cX7_init 118 = .ok (.sipush 3904, 3) := by decide +kernel
theorem dX7_init_121 : decode cX7_init 121 = .ok (.newarray .int, 2) := by decide +kernel
theorem dX7_init_123 : decode cX7_init 123 = .ok (.putfield 53, 3) := by decide +kernel
theorem dX7_init_126 : decode cX7_init 126 = .ok (.aload_n 0, 1) := by decide +kernel
theorem dX7_init_127 : decode cX7_init 127 = .ok (.invokevirtual 56, 3) := by decide +kernel
theorem dX7_init_130 : decode cX7_init 130 = .ok (.aload_n 0, 1) := by decide +kernel
theorem dX7_init_131 : decode cX7_init 131 = .ok (.invokevirtual 59, 3) := by decide +kernel
theorem dX7_init_134 : decode cX7_init 134 = .ok (.return_, 1) := by decide +kernel
set_option maxHeartbeats 4000000 in
set_option maxRecDepth 100000 in
theorem x7_A {p : Program} {l : Launch} {e : Env} {s : State} {m : MethodId} {args : Array Value} {below : List Frame} {meth : Method} {c : Code} {D : va_G} {C : Nat → ClassId} {h0 : Nat} {P : va_W} {A : Nat → Prop} {Q : State → Prop} (M : M0 p s m args meth c cX7_init 1 RX7 D C true) (hA : ∀ q, s.heap.size ≤ q → A q) {ls : Array Slot} (hl : lv_has ls 1 [(0, .ref h0)]) (hn : N0 D (P ++ (h0, .inr (7, [.int 0, .long 0, .null, .int 0, .int 0, .int 0, .int 0, .int 0, .int 0, .null, .int 0, .null, .null, .null, .null, .null, .null, .null, .null, .null, .int 0, .null, .null, .null, .int 0, .null])) :: []) A s.heap s.heap []) (kk : ∀ (q : Nat → Nat) (H : Heap) (locs : List Loc), q 92 = h0 → N0 D (P ++ [(q 92, .inr (7, [.int 0, .long 0, .ref (q 93), .int 0, .int 0, .int 0, .int 0, .int 0, .int 0, .ref (q 94), .int 0, .ref (q 95), .ref (q 96), .ref (q 97), .ref (q 98), .ref (q 99), .ref (q 100), .ref (q 101), .ref (q 102), .ref (q 103), .int 0, .ref (q 104), .ref (q 105), .ref (q 106), .int 0, .ref (q 107)])), (q 93, ia C 200), (q 94, ia C 8), (q 95, ia C 5), (q 96, ia C 10), (q 97, ia C 7), (q 98, ia C 14), (q 99, ba C 200), (q 100, ia C 27), (q 101, ia C 54), (q 102, ba C 2), (q 103, ia C 270), (q 104, ia C 6), (q 105, ia C 6), (q 106, ia C 6), (q 107, ia C 3904)]) A s.heap H locs → W p l e { frames := 1, cells := 15, slots := 4719, locals := 21 } s m args below meth c H locs 15 4719 Q (F0 m 126 ls [])) : W p l e { frames := 1, cells := 15, slots := 4719, locals := 21 } s m args below meth c s.heap [] 0 0 Q (F0 m 0 ls []) := by
  obtain ⟨hx, hb, hr, hml, hown, hlk, hT, hK, hin⟩ := id M
  refine lv_aload_n hx hb dX7_init_0 rfl (lv_at hl 0 rfl) ?_
  refine n_obj M tw_626 hl.1 rfl dX7_init_1 (Nat.le_of_ble_eq_true rfl) (Nat.le_of_ble_eq_true rfl) ?_
  refine lv_aload_n hx hb dX7_init_4 rfl (lv_at hl 0 rfl) ?_
  refine lv_sipush (v := 200) hx hb dX7_init_5 (by decide) ?_
  refine n_newi M hA hn 200 (by decide) rfl (Nat.le_of_ble_eq_true rfl) (Nat.le_of_ble_eq_true rfl) (Nat.le_of_ble_eq_true rfl) dX7_init_8 (fun q93 H hn => ?_)
  have hn : N0 D (P ++ (h0, .inr (7, [.int 0, .long 0, .null, .int 0, .int 0, .int 0, .int 0, .int 0, .int 0, .null, .int 0, .null, .null, .null, .null, .null, .null, .null, .null, .null, .int 0, .null, .null, .null, .int 0, .null])) :: [(q93, ia C 200)]) A s.heap H [] := by simpa only [List.append_assoc, List.cons_append, List.nil_append] using hn
  refine n_putF (v := .ref q93) M hn P.length mid_at rfl inq_7 tyX7 tyX7_ok nmX7 2 (by decide) tw_637 rfl rfl rfl rfl (Nat.le_of_ble_eq_true rfl) dX7_init_10 (fun H locs hn => ?_)
  rw [mid_set] at hn
  have hn : N0 D (P ++ (h0, .inr (7, [.int 0, .long 0, .ref q93, .int 0, .int 0, .int 0, .int 0, .int 0, .int 0, .null, .int 0, .null, .null, .null, .null, .null, .null, .null, .null, .null, .int 0, .null, .null, .null, .int 0, .null])) :: [(q93, ia C 200)]) A s.heap H locs := hn
  refine lv_aload_n hx hb dX7_init_13 rfl (lv_at hl 0 rfl) ?_
  refine lv_bipush (v := 8) hx hb dX7_init_14 (by decide) ?_
  refine n_newi M hA hn 8 (by decide) rfl (Nat.le_of_ble_eq_true rfl) (Nat.le_of_ble_eq_true rfl) (Nat.le_of_ble_eq_true rfl) dX7_init_16 (fun q94 H hn => ?_)
  have hn : N0 D (P ++ (h0, .inr (7, [.int 0, .long 0, .ref q93, .int 0, .int 0, .int 0, .int 0, .int 0, .int 0, .null, .int 0, .null, .null, .null, .null, .null, .null, .null, .null, .null, .int 0, .null, .null, .null, .int 0, .null])) :: [(q93, ia C 200), (q94, ia C 8)]) A s.heap H locs := by simpa only [List.append_assoc, List.cons_append, List.nil_append] using hn
  refine n_putF (v := .ref q94) M hn P.length mid_at rfl inq_7 tyX7 tyX7_ok nmX7 9 (by decide) tw_644 rfl rfl rfl rfl (Nat.le_of_ble_eq_true rfl) dX7_init_18 (fun H locs hn => ?_)
  rw [mid_set] at hn
  have hn : N0 D (P ++ (h0, .inr (7, [.int 0, .long 0, .ref q93, .int 0, .int 0, .int 0, .int 0, .int 0, .int 0, .ref q94, .int 0, .null, .null, .null, .null, .null, .null, .null, .null, .null, .int 0, .null, .null, .null, .int 0, .null])) :: [(q93, ia C 200), (q94, ia C 8)]) A s.heap H locs := hn
  refine lv_aload_n hx hb dX7_init_21 rfl (lv_at hl 0 rfl) ?_
  refine lv_iconst (v := 5) hx hb dX7_init_22 (by decide) ?_
  refine n_newi M hA hn 5 (by decide) rfl (Nat.le_of_ble_eq_true rfl) (Nat.le_of_ble_eq_true rfl) (Nat.le_of_ble_eq_true rfl) dX7_init_23 (fun q95 H hn => ?_)
  have hn : N0 D (P ++ (h0, .inr (7, [.int 0, .long 0, .ref q93, .int 0, .int 0, .int 0, .int 0, .int 0, .int 0, .ref q94, .int 0, .null, .null, .null, .null, .null, .null, .null, .null, .null, .int 0, .null, .null, .null, .int 0, .null])) :: [(q93, ia C 200), (q94, ia C 8), (q95, ia C 5)]) A s.heap H locs := by simpa only [List.append_assoc, List.cons_append, List.nil_append] using hn
  refine n_putF (v := .ref q95) M hn P.length mid_at rfl inq_7 tyX7 tyX7_ok nmX7 11 (by decide) tw_646 rfl rfl rfl rfl (Nat.le_of_ble_eq_true rfl) dX7_init_25 (fun H locs hn => ?_)
  rw [mid_set] at hn
  have hn : N0 D (P ++ (h0, .inr (7, [.int 0, .long 0, .ref q93, .int 0, .int 0, .int 0, .int 0, .int 0, .int 0, .ref q94, .int 0, .ref q95, .null, .null, .null, .null, .null, .null, .null, .null, .int 0, .null, .null, .null, .int 0, .null])) :: [(q93, ia C 200), (q94, ia C 8), (q95, ia C 5)]) A s.heap H locs := hn
  refine lv_aload_n hx hb dX7_init_28 rfl (lv_at hl 0 rfl) ?_
  refine lv_bipush (v := 10) hx hb dX7_init_29 (by decide) ?_
  refine n_newi M hA hn 10 (by decide) rfl (Nat.le_of_ble_eq_true rfl) (Nat.le_of_ble_eq_true rfl) (Nat.le_of_ble_eq_true rfl) dX7_init_31 (fun q96 H hn => ?_)
  have hn : N0 D (P ++ (h0, .inr (7, [.int 0, .long 0, .ref q93, .int 0, .int 0, .int 0, .int 0, .int 0, .int 0, .ref q94, .int 0, .ref q95, .null, .null, .null, .null, .null, .null, .null, .null, .int 0, .null, .null, .null, .int 0, .null])) :: [(q93, ia C 200), (q94, ia C 8), (q95, ia C 5), (q96, ia C 10)]) A s.heap H locs := by simpa only [List.append_assoc, List.cons_append, List.nil_append] using hn
  refine n_putF (v := .ref q96) M hn P.length mid_at rfl inq_7 tyX7 tyX7_ok nmX7 12 (by decide) tw_647 rfl rfl rfl rfl (Nat.le_of_ble_eq_true rfl) dX7_init_33 (fun H locs hn => ?_)
  rw [mid_set] at hn
  have hn : N0 D (P ++ (h0, .inr (7, [.int 0, .long 0, .ref q93, .int 0, .int 0, .int 0, .int 0, .int 0, .int 0, .ref q94, .int 0, .ref q95, .ref q96, .null, .null, .null, .null, .null, .null, .null, .int 0, .null, .null, .null, .int 0, .null])) :: [(q93, ia C 200), (q94, ia C 8), (q95, ia C 5), (q96, ia C 10)]) A s.heap H locs := hn
  refine lv_aload_n hx hb dX7_init_36 rfl (lv_at hl 0 rfl) ?_
  refine lv_bipush (v := 7) hx hb dX7_init_37 (by decide) ?_
  refine n_newi M hA hn 7 (by decide) rfl (Nat.le_of_ble_eq_true rfl) (Nat.le_of_ble_eq_true rfl) (Nat.le_of_ble_eq_true rfl) dX7_init_39 (fun q97 H hn => ?_)
  have hn : N0 D (P ++ (h0, .inr (7, [.int 0, .long 0, .ref q93, .int 0, .int 0, .int 0, .int 0, .int 0, .int 0, .ref q94, .int 0, .ref q95, .ref q96, .null, .null, .null, .null, .null, .null, .null, .int 0, .null, .null, .null, .int 0, .null])) :: [(q93, ia C 200), (q94, ia C 8), (q95, ia C 5), (q96, ia C 10), (q97, ia C 7)]) A s.heap H locs := by simpa only [List.append_assoc, List.cons_append, List.nil_append] using hn
  refine n_putF (v := .ref q97) M hn P.length mid_at rfl inq_7 tyX7 tyX7_ok nmX7 13 (by decide) tw_648 rfl rfl rfl rfl (Nat.le_of_ble_eq_true rfl) dX7_init_41 (fun H locs hn => ?_)
  rw [mid_set] at hn
  have hn : N0 D (P ++ (h0, .inr (7, [.int 0, .long 0, .ref q93, .int 0, .int 0, .int 0, .int 0, .int 0, .int 0, .ref q94, .int 0, .ref q95, .ref q96, .ref q97, .null, .null, .null, .null, .null, .null, .int 0, .null, .null, .null, .int 0, .null])) :: [(q93, ia C 200), (q94, ia C 8), (q95, ia C 5), (q96, ia C 10), (q97, ia C 7)]) A s.heap H locs := hn
  refine lv_aload_n hx hb dX7_init_44 rfl (lv_at hl 0 rfl) ?_
  refine lv_bipush (v := 14) hx hb dX7_init_45 (by decide) ?_
  refine n_newi M hA hn 14 (by decide) rfl (Nat.le_of_ble_eq_true rfl) (Nat.le_of_ble_eq_true rfl) (Nat.le_of_ble_eq_true rfl) dX7_init_47 (fun q98 H hn => ?_)
  have hn : N0 D (P ++ (h0, .inr (7, [.int 0, .long 0, .ref q93, .int 0, .int 0, .int 0, .int 0, .int 0, .int 0, .ref q94, .int 0, .ref q95, .ref q96, .ref q97, .null, .null, .null, .null, .null, .null, .int 0, .null, .null, .null, .int 0, .null])) :: [(q93, ia C 200), (q94, ia C 8), (q95, ia C 5), (q96, ia C 10), (q97, ia C 7), (q98, ia C 14)]) A s.heap H locs := by simpa only [List.append_assoc, List.cons_append, List.nil_append] using hn
  refine n_putF (v := .ref q98) M hn P.length mid_at rfl inq_7 tyX7 tyX7_ok nmX7 14 (by decide) tw_649 rfl rfl rfl rfl (Nat.le_of_ble_eq_true rfl) dX7_init_49 (fun H locs hn => ?_)
  rw [mid_set] at hn
  have hn : N0 D (P ++ (h0, .inr (7, [.int 0, .long 0, .ref q93, .int 0, .int 0, .int 0, .int 0, .int 0, .int 0, .ref q94, .int 0, .ref q95, .ref q96, .ref q97, .ref q98, .null, .null, .null, .null, .null, .int 0, .null, .null, .null, .int 0, .null])) :: [(q93, ia C 200), (q94, ia C 8), (q95, ia C 5), (q96, ia C 10), (q97, ia C 7), (q98, ia C 14)]) A s.heap H locs := hn
  refine lv_aload_n hx hb dX7_init_52 rfl (lv_at hl 0 rfl) ?_
  refine lv_sipush (v := 200) hx hb dX7_init_53 (by decide) ?_
  refine n_newz M hA hn 200 (by decide) rfl (Nat.le_of_ble_eq_true rfl) (Nat.le_of_ble_eq_true rfl) (Nat.le_of_ble_eq_true rfl) dX7_init_56 (fun q99 H hn => ?_)
  have hn : N0 D (P ++ (h0, .inr (7, [.int 0, .long 0, .ref q93, .int 0, .int 0, .int 0, .int 0, .int 0, .int 0, .ref q94, .int 0, .ref q95, .ref q96, .ref q97, .ref q98, .null, .null, .null, .null, .null, .int 0, .null, .null, .null, .int 0, .null])) :: [(q93, ia C 200), (q94, ia C 8), (q95, ia C 5), (q96, ia C 10), (q97, ia C 7), (q98, ia C 14), (q99, ba C 200)]) A s.heap H locs := by simpa only [List.append_assoc, List.cons_append, List.nil_append] using hn
  refine n_putF (v := .ref q99) M hn P.length mid_at rfl inq_7 tyX7 tyX7_ok nmX7 15 (by decide) tw_650 rfl rfl rfl rfl (Nat.le_of_ble_eq_true rfl) dX7_init_58 (fun H locs hn => ?_)
  rw [mid_set] at hn
  have hn : N0 D (P ++ (h0, .inr (7, [.int 0, .long 0, .ref q93, .int 0, .int 0, .int 0, .int 0, .int 0, .int 0, .ref q94, .int 0, .ref q95, .ref q96, .ref q97, .ref q98, .ref q99, .null, .null, .null, .null, .int 0, .null, .null, .null, .int 0, .null])) :: [(q93, ia C 200), (q94, ia C 8), (q95, ia C 5), (q96, ia C 10), (q97, ia C 7), (q98, ia C 14), (q99, ba C 200)]) A s.heap H locs := hn
  refine lv_aload_n hx hb dX7_init_61 rfl (lv_at hl 0 rfl) ?_
  refine lv_bipush (v := 27) hx hb dX7_init_62 (by decide) ?_
  refine n_newi M hA hn 27 (by decide) rfl (Nat.le_of_ble_eq_true rfl) (Nat.le_of_ble_eq_true rfl) (Nat.le_of_ble_eq_true rfl) dX7_init_64 (fun q100 H hn => ?_)
  have hn : N0 D (P ++ (h0, .inr (7, [.int 0, .long 0, .ref q93, .int 0, .int 0, .int 0, .int 0, .int 0, .int 0, .ref q94, .int 0, .ref q95, .ref q96, .ref q97, .ref q98, .ref q99, .null, .null, .null, .null, .int 0, .null, .null, .null, .int 0, .null])) :: [(q93, ia C 200), (q94, ia C 8), (q95, ia C 5), (q96, ia C 10), (q97, ia C 7), (q98, ia C 14), (q99, ba C 200), (q100, ia C 27)]) A s.heap H locs := by simpa only [List.append_assoc, List.cons_append, List.nil_append] using hn
  refine n_putF (v := .ref q100) M hn P.length mid_at rfl inq_7 tyX7 tyX7_ok nmX7 16 (by decide) tw_651 rfl rfl rfl rfl (Nat.le_of_ble_eq_true rfl) dX7_init_66 (fun H locs hn => ?_)
  rw [mid_set] at hn
  have hn : N0 D (P ++ (h0, .inr (7, [.int 0, .long 0, .ref q93, .int 0, .int 0, .int 0, .int 0, .int 0, .int 0, .ref q94, .int 0, .ref q95, .ref q96, .ref q97, .ref q98, .ref q99, .ref q100, .null, .null, .null, .int 0, .null, .null, .null, .int 0, .null])) :: [(q93, ia C 200), (q94, ia C 8), (q95, ia C 5), (q96, ia C 10), (q97, ia C 7), (q98, ia C 14), (q99, ba C 200), (q100, ia C 27)]) A s.heap H locs := hn
  refine lv_aload_n hx hb dX7_init_69 rfl (lv_at hl 0 rfl) ?_
  refine lv_bipush (v := 54) hx hb dX7_init_70 (by decide) ?_
  refine n_newi M hA hn 54 (by decide) rfl (Nat.le_of_ble_eq_true rfl) (Nat.le_of_ble_eq_true rfl) (Nat.le_of_ble_eq_true rfl) dX7_init_72 (fun q101 H hn => ?_)
  have hn : N0 D (P ++ (h0, .inr (7, [.int 0, .long 0, .ref q93, .int 0, .int 0, .int 0, .int 0, .int 0, .int 0, .ref q94, .int 0, .ref q95, .ref q96, .ref q97, .ref q98, .ref q99, .ref q100, .null, .null, .null, .int 0, .null, .null, .null, .int 0, .null])) :: [(q93, ia C 200), (q94, ia C 8), (q95, ia C 5), (q96, ia C 10), (q97, ia C 7), (q98, ia C 14), (q99, ba C 200), (q100, ia C 27), (q101, ia C 54)]) A s.heap H locs := by simpa only [List.append_assoc, List.cons_append, List.nil_append] using hn
  refine n_putF (v := .ref q101) M hn P.length mid_at rfl inq_7 tyX7 tyX7_ok nmX7 17 (by decide) tw_652 rfl rfl rfl rfl (Nat.le_of_ble_eq_true rfl) dX7_init_74 (fun H locs hn => ?_)
  rw [mid_set] at hn
  have hn : N0 D (P ++ (h0, .inr (7, [.int 0, .long 0, .ref q93, .int 0, .int 0, .int 0, .int 0, .int 0, .int 0, .ref q94, .int 0, .ref q95, .ref q96, .ref q97, .ref q98, .ref q99, .ref q100, .ref q101, .null, .null, .int 0, .null, .null, .null, .int 0, .null])) :: [(q93, ia C 200), (q94, ia C 8), (q95, ia C 5), (q96, ia C 10), (q97, ia C 7), (q98, ia C 14), (q99, ba C 200), (q100, ia C 27), (q101, ia C 54)]) A s.heap H locs := hn
  refine lv_aload_n hx hb dX7_init_77 rfl (lv_at hl 0 rfl) ?_
  refine lv_iconst (v := 2) hx hb dX7_init_78 (by decide) ?_
  refine n_newz M hA hn 2 (by decide) rfl (Nat.le_of_ble_eq_true rfl) (Nat.le_of_ble_eq_true rfl) (Nat.le_of_ble_eq_true rfl) dX7_init_79 (fun q102 H hn => ?_)
  have hn : N0 D (P ++ (h0, .inr (7, [.int 0, .long 0, .ref q93, .int 0, .int 0, .int 0, .int 0, .int 0, .int 0, .ref q94, .int 0, .ref q95, .ref q96, .ref q97, .ref q98, .ref q99, .ref q100, .ref q101, .null, .null, .int 0, .null, .null, .null, .int 0, .null])) :: [(q93, ia C 200), (q94, ia C 8), (q95, ia C 5), (q96, ia C 10), (q97, ia C 7), (q98, ia C 14), (q99, ba C 200), (q100, ia C 27), (q101, ia C 54), (q102, ba C 2)]) A s.heap H locs := by simpa only [List.append_assoc, List.cons_append, List.nil_append] using hn
  refine n_putF (v := .ref q102) M hn P.length mid_at rfl inq_7 tyX7 tyX7_ok nmX7 18 (by decide) tw_653 rfl rfl rfl rfl (Nat.le_of_ble_eq_true rfl) dX7_init_81 (fun H locs hn => ?_)
  rw [mid_set] at hn
  have hn : N0 D (P ++ (h0, .inr (7, [.int 0, .long 0, .ref q93, .int 0, .int 0, .int 0, .int 0, .int 0, .int 0, .ref q94, .int 0, .ref q95, .ref q96, .ref q97, .ref q98, .ref q99, .ref q100, .ref q101, .ref q102, .null, .int 0, .null, .null, .null, .int 0, .null])) :: [(q93, ia C 200), (q94, ia C 8), (q95, ia C 5), (q96, ia C 10), (q97, ia C 7), (q98, ia C 14), (q99, ba C 200), (q100, ia C 27), (q101, ia C 54), (q102, ba C 2)]) A s.heap H locs := hn
  refine lv_aload_n hx hb dX7_init_84 rfl (lv_at hl 0 rfl) ?_
  refine lv_sipush (v := 270) hx hb dX7_init_85 (by decide) ?_
  refine n_newi M hA hn 270 (by decide) rfl (Nat.le_of_ble_eq_true rfl) (Nat.le_of_ble_eq_true rfl) (Nat.le_of_ble_eq_true rfl) dX7_init_88 (fun q103 H hn => ?_)
  have hn : N0 D (P ++ (h0, .inr (7, [.int 0, .long 0, .ref q93, .int 0, .int 0, .int 0, .int 0, .int 0, .int 0, .ref q94, .int 0, .ref q95, .ref q96, .ref q97, .ref q98, .ref q99, .ref q100, .ref q101, .ref q102, .null, .int 0, .null, .null, .null, .int 0, .null])) :: [(q93, ia C 200), (q94, ia C 8), (q95, ia C 5), (q96, ia C 10), (q97, ia C 7), (q98, ia C 14), (q99, ba C 200), (q100, ia C 27), (q101, ia C 54), (q102, ba C 2), (q103, ia C 270)]) A s.heap H locs := by simpa only [List.append_assoc, List.cons_append, List.nil_append] using hn
  refine n_putF (v := .ref q103) M hn P.length mid_at rfl inq_7 tyX7 tyX7_ok nmX7 19 (by decide) tw_654 rfl rfl rfl rfl (Nat.le_of_ble_eq_true rfl) dX7_init_90 (fun H locs hn => ?_)
  rw [mid_set] at hn
  have hn : N0 D (P ++ (h0, .inr (7, [.int 0, .long 0, .ref q93, .int 0, .int 0, .int 0, .int 0, .int 0, .int 0, .ref q94, .int 0, .ref q95, .ref q96, .ref q97, .ref q98, .ref q99, .ref q100, .ref q101, .ref q102, .ref q103, .int 0, .null, .null, .null, .int 0, .null])) :: [(q93, ia C 200), (q94, ia C 8), (q95, ia C 5), (q96, ia C 10), (q97, ia C 7), (q98, ia C 14), (q99, ba C 200), (q100, ia C 27), (q101, ia C 54), (q102, ba C 2), (q103, ia C 270)]) A s.heap H locs := hn
  refine lv_aload_n hx hb dX7_init_93 rfl (lv_at hl 0 rfl) ?_
  refine lv_bipush (v := 6) hx hb dX7_init_94 (by decide) ?_
  refine n_newi M hA hn 6 (by decide) rfl (Nat.le_of_ble_eq_true rfl) (Nat.le_of_ble_eq_true rfl) (Nat.le_of_ble_eq_true rfl) dX7_init_96 (fun q104 H hn => ?_)
  have hn : N0 D (P ++ (h0, .inr (7, [.int 0, .long 0, .ref q93, .int 0, .int 0, .int 0, .int 0, .int 0, .int 0, .ref q94, .int 0, .ref q95, .ref q96, .ref q97, .ref q98, .ref q99, .ref q100, .ref q101, .ref q102, .ref q103, .int 0, .null, .null, .null, .int 0, .null])) :: [(q93, ia C 200), (q94, ia C 8), (q95, ia C 5), (q96, ia C 10), (q97, ia C 7), (q98, ia C 14), (q99, ba C 200), (q100, ia C 27), (q101, ia C 54), (q102, ba C 2), (q103, ia C 270), (q104, ia C 6)]) A s.heap H locs := by simpa only [List.append_assoc, List.cons_append, List.nil_append] using hn
  refine n_putF (v := .ref q104) M hn P.length mid_at rfl inq_7 tyX7 tyX7_ok nmX7 21 (by decide) tw_656 rfl rfl rfl rfl (Nat.le_of_ble_eq_true rfl) dX7_init_98 (fun H locs hn => ?_)
  rw [mid_set] at hn
  have hn : N0 D (P ++ (h0, .inr (7, [.int 0, .long 0, .ref q93, .int 0, .int 0, .int 0, .int 0, .int 0, .int 0, .ref q94, .int 0, .ref q95, .ref q96, .ref q97, .ref q98, .ref q99, .ref q100, .ref q101, .ref q102, .ref q103, .int 0, .ref q104, .null, .null, .int 0, .null])) :: [(q93, ia C 200), (q94, ia C 8), (q95, ia C 5), (q96, ia C 10), (q97, ia C 7), (q98, ia C 14), (q99, ba C 200), (q100, ia C 27), (q101, ia C 54), (q102, ba C 2), (q103, ia C 270), (q104, ia C 6)]) A s.heap H locs := hn
  refine lv_aload_n hx hb dX7_init_101 rfl (lv_at hl 0 rfl) ?_
  refine lv_bipush (v := 6) hx hb dX7_init_102 (by decide) ?_
  refine n_newi M hA hn 6 (by decide) rfl (Nat.le_of_ble_eq_true rfl) (Nat.le_of_ble_eq_true rfl) (Nat.le_of_ble_eq_true rfl) dX7_init_104 (fun q105 H hn => ?_)
  have hn : N0 D (P ++ (h0, .inr (7, [.int 0, .long 0, .ref q93, .int 0, .int 0, .int 0, .int 0, .int 0, .int 0, .ref q94, .int 0, .ref q95, .ref q96, .ref q97, .ref q98, .ref q99, .ref q100, .ref q101, .ref q102, .ref q103, .int 0, .ref q104, .null, .null, .int 0, .null])) :: [(q93, ia C 200), (q94, ia C 8), (q95, ia C 5), (q96, ia C 10), (q97, ia C 7), (q98, ia C 14), (q99, ba C 200), (q100, ia C 27), (q101, ia C 54), (q102, ba C 2), (q103, ia C 270), (q104, ia C 6), (q105, ia C 6)]) A s.heap H locs := by simpa only [List.append_assoc, List.cons_append, List.nil_append] using hn
  refine n_putF (v := .ref q105) M hn P.length mid_at rfl inq_7 tyX7 tyX7_ok nmX7 22 (by decide) tw_657 rfl rfl rfl rfl (Nat.le_of_ble_eq_true rfl) dX7_init_106 (fun H locs hn => ?_)
  rw [mid_set] at hn
  have hn : N0 D (P ++ (h0, .inr (7, [.int 0, .long 0, .ref q93, .int 0, .int 0, .int 0, .int 0, .int 0, .int 0, .ref q94, .int 0, .ref q95, .ref q96, .ref q97, .ref q98, .ref q99, .ref q100, .ref q101, .ref q102, .ref q103, .int 0, .ref q104, .ref q105, .null, .int 0, .null])) :: [(q93, ia C 200), (q94, ia C 8), (q95, ia C 5), (q96, ia C 10), (q97, ia C 7), (q98, ia C 14), (q99, ba C 200), (q100, ia C 27), (q101, ia C 54), (q102, ba C 2), (q103, ia C 270), (q104, ia C 6), (q105, ia C 6)]) A s.heap H locs := hn
  refine lv_aload_n hx hb dX7_init_109 rfl (lv_at hl 0 rfl) ?_
  refine lv_bipush (v := 6) hx hb dX7_init_110 (by decide) ?_
  refine n_newi M hA hn 6 (by decide) rfl (Nat.le_of_ble_eq_true rfl) (Nat.le_of_ble_eq_true rfl) (Nat.le_of_ble_eq_true rfl) dX7_init_112 (fun q106 H hn => ?_)
  have hn : N0 D (P ++ (h0, .inr (7, [.int 0, .long 0, .ref q93, .int 0, .int 0, .int 0, .int 0, .int 0, .int 0, .ref q94, .int 0, .ref q95, .ref q96, .ref q97, .ref q98, .ref q99, .ref q100, .ref q101, .ref q102, .ref q103, .int 0, .ref q104, .ref q105, .null, .int 0, .null])) :: [(q93, ia C 200), (q94, ia C 8), (q95, ia C 5), (q96, ia C 10), (q97, ia C 7), (q98, ia C 14), (q99, ba C 200), (q100, ia C 27), (q101, ia C 54), (q102, ba C 2), (q103, ia C 270), (q104, ia C 6), (q105, ia C 6), (q106, ia C 6)]) A s.heap H locs := by simpa only [List.append_assoc, List.cons_append, List.nil_append] using hn
  refine n_putF (v := .ref q106) M hn P.length mid_at rfl inq_7 tyX7 tyX7_ok nmX7 23 (by decide) tw_658 rfl rfl rfl rfl (Nat.le_of_ble_eq_true rfl) dX7_init_114 (fun H locs hn => ?_)
  rw [mid_set] at hn
  have hn : N0 D (P ++ (h0, .inr (7, [.int 0, .long 0, .ref q93, .int 0, .int 0, .int 0, .int 0, .int 0, .int 0, .ref q94, .int 0, .ref q95, .ref q96, .ref q97, .ref q98, .ref q99, .ref q100, .ref q101, .ref q102, .ref q103, .int 0, .ref q104, .ref q105, .ref q106, .int 0, .null])) :: [(q93, ia C 200), (q94, ia C 8), (q95, ia C 5), (q96, ia C 10), (q97, ia C 7), (q98, ia C 14), (q99, ba C 200), (q100, ia C 27), (q101, ia C 54), (q102, ba C 2), (q103, ia C 270), (q104, ia C 6), (q105, ia C 6), (q106, ia C 6)]) A s.heap H locs := hn
  refine lv_aload_n hx hb dX7_init_117 rfl (lv_at hl 0 rfl) ?_
  refine lv_sipush (v := 3904) hx hb dX7_init_118 (by decide) ?_
  refine n_newi M hA hn 3904 (by decide) rfl (Nat.le_of_ble_eq_true rfl) (Nat.le_of_ble_eq_true rfl) (Nat.le_of_ble_eq_true rfl) dX7_init_121 (fun q107 H hn => ?_)
  have hn : N0 D (P ++ (h0, .inr (7, [.int 0, .long 0, .ref q93, .int 0, .int 0, .int 0, .int 0, .int 0, .int 0, .ref q94, .int 0, .ref q95, .ref q96, .ref q97, .ref q98, .ref q99, .ref q100, .ref q101, .ref q102, .ref q103, .int 0, .ref q104, .ref q105, .ref q106, .int 0, .null])) :: [(q93, ia C 200), (q94, ia C 8), (q95, ia C 5), (q96, ia C 10), (q97, ia C 7), (q98, ia C 14), (q99, ba C 200), (q100, ia C 27), (q101, ia C 54), (q102, ba C 2), (q103, ia C 270), (q104, ia C 6), (q105, ia C 6), (q106, ia C 6), (q107, ia C 3904)]) A s.heap H locs := by simpa only [List.append_assoc, List.cons_append, List.nil_append] using hn
  refine n_putF (v := .ref q107) M hn P.length mid_at rfl inq_7 tyX7 tyX7_ok nmX7 25 (by decide) tw_660 rfl rfl rfl rfl (Nat.le_of_ble_eq_true rfl) dX7_init_123 (fun H locs hn => ?_)
  rw [mid_set] at hn
  have hn : N0 D (P ++ (h0, .inr (7, [.int 0, .long 0, .ref q93, .int 0, .int 0, .int 0, .int 0, .int 0, .int 0, .ref q94, .int 0, .ref q95, .ref q96, .ref q97, .ref q98, .ref q99, .ref q100, .ref q101, .ref q102, .ref q103, .int 0, .ref q104, .ref q105, .ref q106, .int 0, .ref q107])) :: [(q93, ia C 200), (q94, ia C 8), (q95, ia C 5), (q96, ia C 10), (q97, ia C 7), (q98, ia C 14), (q99, ba C 200), (q100, ia C 27), (q101, ia C 54), (q102, ba C 2), (q103, ia C 270), (q104, ia C 6), (q105, ia C 6), (q106, ia C 6), (q107, ia C 3904)]) A s.heap H locs := hn
  exact kk (fun a => ([h0, q93, q94, q95, q96, q97, q98, q99, q100, q101, q102, q103, q104, q105, q106, q107] : List Nat).getD (a - 92) 0) H locs rfl hn
