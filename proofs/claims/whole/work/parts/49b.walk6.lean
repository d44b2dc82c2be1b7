/-! MoonRights(), first half -/
theorem dX6_init_0 : decode cX6_init 0 = .ok (.aload_n 0, 1) := by decide +kernel
theorem dX6_init_1 : decode cX6_init 1 = .ok (.invokespecial 1, 3) := by decide +kernel
theorem dX6_init_4 : decode cX6_init 4 = .ok (.aload_n 0, 1) := by decide +kernel
theorem dX6_init_5 : decode cX6_init 5 = .ok (.new 7, 3) := by decide +kernel
theorem dX6_init_8 : decode cX6_init 8 = .ok (.dup, 1) := by decide +kernel
theorem dX6_init_9 : decode cX6_init 9 = .ok (.invokespecial 9, 3) := by decide +kernel
theorem dX6_init_12 : decode cX6_init 12 = .ok (.putfield 10, 3) := by decide +kernel
theorem dX6_init_15 : decode cX6_init 15 = .ok (.aload_n 0, 1) := by decide +kernel
theorem dX6_init_16 : decode cX6_init 16 = .ok (.new 16, 3) := by decide +kernel
theorem dX6_init_19 : decode cX6_init 19 = .ok (.dup, 1) := by decide +kernel
theorem dX6_init_20 : decode cX6_init 20 = .ok (.invokespecial 18, 3) := by decide +kernel
theorem dX6_init_23 : decode cX6_init 23 = .ok (.putfield 19, 3) := by decide +kernel
theorem dX6_init_26 : decode cX6_init 26 = .ok (.aload_n 0, 1) := by decide +kernel
theorem dX6_init_27 : decode cX6_init 27 = .ok (.new 16, 3) := by decide +kernel
theorem dX6_init_30 : decode cX6_init 30 = .ok (.dup, 1) := by decide +kernel
theorem dX6_init_31 : decode cX6_init 31 = .ok (.invokespecial 18, 3) := by decide +kernel
theorem dX6_init_34 : decode cX6_init 34 = .ok (.putfield 23, 3) := by decide +kernel
theorem dX6_init_37 : decode cX6_init 37 = .ok (.aload_n 0, 1) := by decide +kernel
theorem dX6_init_38 : decode cX6_init 38 = .ok (.new 26, 3) := by decide +kernel
theorem dX6_init_41 : decode cX6_init 41 = .ok (.dup, 1) := by decide +kernel
theorem dX6_init_42 : decode cX6_init 42 = .ok (.invokespecial 28, 3) := by decide +kernel
theorem dX6_init_45 : decode cX6_init 45 = .ok (.putfield 29, 3) := by decide +kernel
theorem dX6_init_48 : decode cX6_init 48 = .ok (.aload_n 0, 1) := by decide +kernel
theorem dX6_init_49 : decode cX6_init 49 = .ok (.new 33, 3) := by decide +kernel
theorem dX6_init_52 : decode cX6_init 52 = .ok (.dup, 1) := by decide +kernel
theorem dX6_init_53 : decode cX6_init 53 = .ok (.invokespecial 35, 3) := by decide +kernel
theorem dX6_init_56 : decode cX6_init 56 = .ok (.putfield 36, 3) := by decide +kernel
theorem dX6_init_59 : decode cX6_init 59 = .ok (.aload_n 0, 1) := by decide +kernel
theorem dX6_init_60 : decode cX6_init 60 = .ok (.new 40, 3) := by decide +kernel
theorem dX6_init_63 : decode cX6_init 63 = .ok (.dup, 1) := by decide +kernel
theorem dX6_init_64 : decode cX6_init 64 = .ok (.invokespecial 42, 3) := by decide +kernel
theorem dX6_init_67 : decode cX6_init 67 = .ok (.putfield 43, 3) := by decide +kernel
theorem dX6_init_70 : decode cX6_init 70 = .ok (.aload_n 0, 1) := by decide +kernel
theorem dX6_init_71 : decode cX6_init 71 = .ok (.iconst 2, 1) := by decide +kernel
theorem dX6_init_72 : decode cX6_init 72 = .ok (.anewarray 33, 3) := by decide +kernel
theorem dX6_init_75 : decode cX6_init 75 = .ok (.putfield 47, 3) := by decide +kernel
theorem dX6_init_78 : decode cX6_init 78 = .ok (.iconst 0, 1) := by decide +kernel
theorem dX6_init_79 : decode cX6_init 79 = .ok (.istore_n 1, 1) := by decide +kernel
theorem dX6_init_80 : decode cX6_init 80 = .ok (.iload_n 1, 1) := by decide +kernel
theorem dX6_init_81 : decode cX6_init 81 = .ok (.iconst 2, 1) := by decide +kernel
theorem dX6_init_82 : decode cX6_init 82 = .ok (.if_icmp .ge 22, 3) := by decide +kernel
theorem dX6_init_85 : decode cX6_init 85 = .ok (.aload_n 0, 1) := by decide +kernel
theorem dX6_init_86 : decode cX6_init 86 = .ok (.getfield 47, 3) := by decide +kernel
theorem dX6_init_89 : decode cX6_init 89 = .ok (.iload_n 1, 1) := by decide +kernel
theorem dX6_init_90 : decode cX6_init 90 = .ok (.new 33, 3) := by decide +kernel
theorem dX6_init_93 : decode cX6_init 93 = .ok (.dup, 1) := by decide +kernel
theorem dX6_init_94 : decode cX6_init 94 = .ok (.invokespecial 35, 3) := by decide +kernel
theorem dX6_init_97 : decode cX6_init 97 = .ok (.aastore, 1) := by decide +kernel
theorem dX6_init_98 : decode cX6_init 98 = .ok (.iinc 1 1, 3) := by decide +kernel
theorem dX6_init_101 : decode cX6_init 101 = .ok (.goto (-21), 3) := by decide +kernel
theorem dX6_init_104 : decode cX6_init 104 = .ok (.aload_n 0, 1) := by decide +kernel
theorem dX6_init_105 : decode cX6_init 105 = .ok (.iconst 2, 1) := by decide +kernel
theorem dX6_init_106 : decode cX6_init 106 = .ok (.newarray .boolean, 2) := by decide +kernel
theorem dX6_init_108 : decode cX6_init 108 = .ok (.putfield 51, 3) := by decide +kernel
theorem dX6_init_111 : decode cX6_init 111 = .ok (.aload_n 0, 1) := by decide +kernel
theorem dX6_init_112 : decode cX6_init 112 = .ok (.new 55, 3) := by decide +kernel
theorem dX6_init_115 : decode cX6_init 115 = .ok (.dup, 1) := by decide +kernel
theorem dX6_init_116 : decode cX6_init 116 = .ok (.invokespecial 57, 3) := by decide +kernel
theorem dX6_init_119 : decode cX6_init 119 = .ok (.putfield 58, 3) := by decide +kernel
theorem dX6_init_122 : decode cX6_init 122 = .ok (.aload_n 0, 1) := by decide +kernel
theorem dX6_init_123 : decode cX6_init 123 = .ok (.iconst 5, 1) := by decide +kernel
theorem dX6_init_124 : decode cX6_init 124 = .ok (.newarray .int, 2) := by decide +kernel
theorem dX6_init_126 : decode cX6_init 126 = .ok (.putfield 62, 3) := by decide +kernel
theorem dX6_init_129 : decode cX6_init 129 = .ok (.return_, 1) := by decide +kernel
def σz : St := up (up (fun _ _ => 0, 0, 0) 3 8 30) 9 8 30
def fsA (q : Nat → Nat) : List Value := [.ref (q 2), .ref (q 3), .ref (q 9), .ref (q 15), .ref (q 18), .null, .null, .null, .null, .null, .long 0]
set_option maxHeartbeats 4000000 in
set_option maxRecDepth 100000 in
theorem x6_A {p : Program} {l : Launch} {e : Env} {s : State} {m : MethodId} {args : Array Value} {below : List Frame} {meth : Method} {c : Code} {D : va_G} {C : Nat → ClassId} {h0 : Nat} {A : Nat → Prop} {Q : State → Prop} (M : M0 p s m args meth c cX6_init 2 RX6 D C true) (hA : ∀ q, s.heap.size ≤ q → A q) (hE : E6 s) {ls : Array Slot} (hl : lv_has ls 2 [(0, .ref h0)]) (hn : N0 D [(h0, .inr (6, [.null, .null, .null, .null, .null, .null, .null, .null, .null, .null, .long 0]))] A s.heap s.heap []) (kk : ∀ (q : Nat → Nat) (H : Heap) (locs : List Loc), q 0 = h0 → N0 D (wd (Yf D C q (fsA q)) σz) A s.heap H locs → W p l e { frames := 3, cells := 91, slots := 4891, locals := 53 } s m args below meth c H locs 22 4475 Q (F0 m 59 ls [])) : W p l e { frames := 3, cells := 91, slots := 4891, locals := 53 } s m args below meth c s.heap [] 0 0 Q (F0 m 0 ls []) := by
  obtain ⟨hx, hb, hr, hml, hown, hlk, hT, hK, hin⟩ := id M
  refine lv_aload_n hx hb dX6_init_0 rfl (lv_at hl 0 rfl) ?_
  refine n_obj M tw_63 hl.1 rfl dX6_init_1 (Nat.le_of_ble_eq_true rfl) (Nat.le_of_ble_eq_true rfl) ?_
  refine lv_aload_n hx hb dX6_init_4 rfl (lv_at hl 0 rfl) ?_
  refine n_new (ci := 5) (fs := [.null, .int 0, .int 0, .int 0, .int 0, .int 0]) M hA hn inq_5 tyX5 tyX5_ok tw_66 tw_67 tw_50 rfl (by decide) (Nat.le_of_ble_eq_true rfl) (Nat.le_of_ble_eq_true rfl) dX6_init_5 (fun q2 H hn => ?_)
  have hn : N0 D [(h0, .inr (6, [.null, .null, .null, .null, .null, .null, .null, .null, .null, .null, .long 0])), (q2, .inr (5, [.null, .int 0, .int 0, .int 0, .int 0, .int 0]))] A s.heap H _ := hn
  refine lv_dup hx hb dX6_init_8 rfl ?_
  refine n_lastN (ws := [(h0, .inr (6, [.null, .null, .null, .null, .null, .null, .null, .null, .null, .null, .long 0]))]) (rest := [.ref q2, .ref h0]) (As := []) M hA hn eb1 trivial (ctX5_init l D C q2 H.size) miX5_init hE.2.1 rfl hl.1 rfl (Nat.le_of_ble_eq_true rfl) ⟨(Nat.le_of_ble_eq_true rfl), (Nat.le_of_ble_eq_true rfl)⟩ ⟨(Nat.le_of_ble_eq_true rfl), (Nat.le_of_ble_eq_true rfl)⟩ dX6_init_9 (fun ux H locs hn => ?_)
  have hn : N0 D [(h0, .inr (6, [.null, .null, .null, .null, .null, .null, .null, .null, .null, .null, .long 0])), (q2, .inr (5, [.ref (ux 1), .int 0, .int 0, .int 0, .int 0, .int 0])), (ux 1, ca C 200)] A s.heap H _ := hn
  refine n_putF (v := .ref q2) M hn 0 rfl rfl inq_6 tyX6 tyX6_ok nmX6 0 (by decide) tw_257 rfl rfl rfl rfl (Nat.le_of_ble_eq_true rfl) dX6_init_12 (fun H locs hn => ?_)
  have hn : N0 D [(h0, .inr (6, [.ref q2, .null, .null, .null, .null, .null, .null, .null, .null, .null, .long 0])), (q2, .inr (5, [.ref (ux 1), .int 0, .int 0, .int 0, .int 0, .int 0])), (ux 1, ca C 200)] A s.heap H _ := hn
  refine lv_aload_n hx hb dX6_init_15 rfl (lv_at hl 0 rfl) ?_
  refine n_new (ci := 3) (fs := [.null, .null, .null, .null, .null, .int 0, .int 0, .int 0, .int 0, .int 0, .int 0]) M hA hn inq_3 tyX3 tyX3_ok tw_93 tw_94 tw_51 rfl (by decide) (Nat.le_of_ble_eq_true rfl) (Nat.le_of_ble_eq_true rfl) dX6_init_16 (fun q3 H hn => ?_)
  have hn : N0 D [(h0, .inr (6, [.ref q2, .null, .null, .null, .null, .null, .null, .null, .null, .null, .long 0])), (q2, .inr (5, [.ref (ux 1), .int 0, .int 0, .int 0, .int 0, .int 0])), (ux 1, ca C 200), (q3, .inr (3, [.null, .null, .null, .null, .null, .int 0, .int 0, .int 0, .int 0, .int 0, .int 0]))] A s.heap H _ := hn
  refine lv_dup hx hb dX6_init_19 rfl ?_
  refine n_lastN (ws := [(h0, .inr (6, [.ref q2, .null, .null, .null, .null, .null, .null, .null, .null, .null, .long 0])), (q2, .inr (5, [.ref (ux 1), .int 0, .int 0, .int 0, .int 0, .int 0])), (ux 1, ca C 200)]) (rest := [.ref q3, .ref h0]) (As := []) M hA hn eb1 trivial (ctX3_init l D C q3 H.size) miX3_init hE.2.2.1 rfl hl.1 rfl (Nat.le_of_ble_eq_true rfl) ⟨(Nat.le_of_ble_eq_true rfl), (Nat.le_of_ble_eq_true rfl)⟩ ⟨(Nat.le_of_ble_eq_true rfl), (Nat.le_of_ble_eq_true rfl)⟩ dX6_init_20 (fun ut H locs hn => ?_)
  have hn : N0 D [(h0, .inr (6, [.ref q2, .null, .null, .null, .null, .null, .null, .null, .null, .null, .long 0])), (q2, .inr (5, [.ref (ux 1), .int 0, .int 0, .int 0, .int 0, .int 0])), (ux 1, ca C 200), (q3, .inr (3, [.ref (ut 1), .ref (ut 2), .ref (ut 3), .ref (ut 4), .ref (ut 5), .int 0, .int 0, .int 0, .int 30, .int 0, .int 0])), (ut 1, ia C 5), (ut 2, ia C 5), (ut 3, ia C 7), (ut 4, ia C 7), (ut 5, ba C 100)] A s.heap H _ := hn
  refine n_put (v := .ref q3) M hn 0 rfl rfl inq_6 tyX6 tyX6_ok nmX6 1 (by decide) tw_258 rfl rfl rfl (Nat.le_of_ble_eq_true rfl) dX6_init_23 (fun H locs hn => ?_)
  have hn : N0 D [(h0, .inr (6, [.ref q2, .ref q3, .null, .null, .null, .null, .null, .null, .null, .null, .long 0])), (q2, .inr (5, [.ref (ux 1), .int 0, .int 0, .int 0, .int 0, .int 0])), (ux 1, ca C 200), (q3, .inr (3, [.ref (ut 1), .ref (ut 2), .ref (ut 3), .ref (ut 4), .ref (ut 5), .int 0, .int 0, .int 0, .int 30, .int 0, .int 0])), (ut 1, ia C 5), (ut 2, ia C 5), (ut 3, ia C 7), (ut 4, ia C 7), (ut 5, ba C 100)] A s.heap H _ := hn
  refine lv_aload_n hx hb dX6_init_26 rfl (lv_at hl 0 rfl) ?_
  refine n_new (ci := 3) (fs := [.null, .null, .null, .null, .null, .int 0, .int 0, .int 0, .int 0, .int 0, .int 0]) M hA hn inq_3 tyX3 tyX3_ok tw_93 tw_94 tw_51 rfl (by decide) (Nat.le_of_ble_eq_true rfl) (Nat.le_of_ble_eq_true rfl) dX6_init_27 (fun q9 H hn => ?_)
  have hn : N0 D [(h0, .inr (6, [.ref q2, .ref q3, .null, .null, .null, .null, .null, .null, .null, .null, .long 0])), (q2, .inr (5, [.ref (ux 1), .int 0, .int 0, .int 0, .int 0, .int 0])), (ux 1, ca C 200), (q3, .inr (3, [.ref (ut 1), .ref (ut 2), .ref (ut 3), .ref (ut 4), .ref (ut 5), .int 0, .int 0, .int 0, .int 30, .int 0, .int 0])), (ut 1, ia C 5), (ut 2, ia C 5), (ut 3, ia C 7), (ut 4, ia C 7), (ut 5, ba C 100), (q9, .inr (3, [.null, .null, .null, .null, .null, .int 0, .int 0, .int 0, .int 0, .int 0, .int 0]))] A s.heap H _ := hn
  refine lv_dup hx hb dX6_init_30 rfl ?_
  refine n_lastN (ws := [(h0, .inr (6, [.ref q2, .ref q3, .null, .null, .null, .null, .null, .null, .null, .null, .long 0])), (q2, .inr (5, [.ref (ux 1), .int 0, .int 0, .int 0, .int 0, .int 0])), (ux 1, ca C 200), (q3, .inr (3, [.ref (ut 1), .ref (ut 2), .ref (ut 3), .ref (ut 4), .ref (ut 5), .int 0, .int 0, .int 0, .int 30, .int 0, .int 0])), (ut 1, ia C 5), (ut 2, ia C 5), (ut 3, ia C 7), (ut 4, ia C 7), (ut 5, ba C 100)]) (rest := [.ref q9, .ref h0]) (As := []) M hA hn eb1 trivial (ctX3_init l D C q9 H.size) miX3_init hE.2.2.1 rfl hl.1 rfl (Nat.le_of_ble_eq_true rfl) ⟨(Nat.le_of_ble_eq_true rfl), (Nat.le_of_ble_eq_true rfl)⟩ ⟨(Nat.le_of_ble_eq_true rfl), (Nat.le_of_ble_eq_true rfl)⟩ dX6_init_31 (fun us H locs hn => ?_)
  have hn : N0 D [(h0, .inr (6, [.ref q2, .ref q3, .null, .null, .null, .null, .null, .null, .null, .null, .long 0])), (q2, .inr (5, [.ref (ux 1), .int 0, .int 0, .int 0, .int 0, .int 0])), (ux 1, ca C 200), (q3, .inr (3, [.ref (ut 1), .ref (ut 2), .ref (ut 3), .ref (ut 4), .ref (ut 5), .int 0, .int 0, .int 0, .int 30, .int 0, .int 0])), (ut 1, ia C 5), (ut 2, ia C 5), (ut 3, ia C 7), (ut 4, ia C 7), (ut 5, ba C 100), (q9, .inr (3, [.ref (us 1), .ref (us 2), .ref (us 3), .ref (us 4), .ref (us 5), .int 0, .int 0, .int 0, .int 30, .int 0, .int 0])), (us 1, ia C 5), (us 2, ia C 5), (us 3, ia C 7), (us 4, ia C 7), (us 5, ba C 100)] A s.heap H _ := hn
  refine n_put (v := .ref q9) M hn 0 rfl rfl inq_6 tyX6 tyX6_ok nmX6 2 (by decide) tw_259 rfl rfl rfl (Nat.le_of_ble_eq_true rfl) dX6_init_34 (fun H locs hn => ?_)
  have hn : N0 D [(h0, .inr (6, [.ref q2, .ref q3, .ref q9, .null, .null, .null, .null, .null, .null, .null, .long 0])), (q2, .inr (5, [.ref (ux 1), .int 0, .int 0, .int 0, .int 0, .int 0])), (ux 1, ca C 200), (q3, .inr (3, [.ref (ut 1), .ref (ut 2), .ref (ut 3), .ref (ut 4), .ref (ut 5), .int 0, .int 0, .int 0, .int 30, .int 0, .int 0])), (ut 1, ia C 5), (ut 2, ia C 5), (ut 3, ia C 7), (ut 4, ia C 7), (ut 5, ba C 100), (q9, .inr (3, [.ref (us 1), .ref (us 2), .ref (us 3), .ref (us 4), .ref (us 5), .int 0, .int 0, .int 0, .int 30, .int 0, .int 0])), (us 1, ia C 5), (us 2, ia C 5), (us 3, ia C 7), (us 4, ia C 7), (us 5, ba C 100)] A s.heap H _ := hn
  refine lv_aload_n hx hb dX6_init_37 rfl (lv_at hl 0 rfl) ?_
  refine n_new (ci := 0) (fs := [.null, .null, .int 0, .int 0]) M hA hn inq_0 tyX0 tyX0_ok tw_159 tw_160 tw_52 rfl (by decide) (Nat.le_of_ble_eq_true rfl) (Nat.le_of_ble_eq_true rfl) dX6_init_38 (fun q15 H hn => ?_)
  have hn : N0 D [(h0, .inr (6, [.ref q2, .ref q3, .ref q9, .null, .null, .null, .null, .null, .null, .null, .long 0])), (q2, .inr (5, [.ref (ux 1), .int 0, .int 0, .int 0, .int 0, .int 0])), (ux 1, ca C 200), (q3, .inr (3, [.ref (ut 1), .ref (ut 2), .ref (ut 3), .ref (ut 4), .ref (ut 5), .int 0, .int 0, .int 0, .int 30, .int 0, .int 0])), (ut 1, ia C 5), (ut 2, ia C 5), (ut 3, ia C 7), (ut 4, ia C 7), (ut 5, ba C 100), (q9, .inr (3, [.ref (us 1), .ref (us 2), .ref (us 3), .ref (us 4), .ref (us 5), .int 0, .int 0, .int 0, .int 30, .int 0, .int 0])), (us 1, ia C 5), (us 2, ia C 5), (us 3, ia C 7), (us 4, ia C 7), (us 5, ba C 100), (q15, .inr (0, [.null, .null, .int 0, .int 0]))] A s.heap H _ := hn
  refine lv_dup hx hb dX6_init_41 rfl ?_
  refine n_lastN (ws := [(h0, .inr (6, [.ref q2, .ref q3, .ref q9, .null, .null, .null, .null, .null, .null, .null, .long 0])), (q2, .inr (5, [.ref (ux 1), .int 0, .int 0, .int 0, .int 0, .int 0])), (ux 1, ca C 200), (q3, .inr (3, [.ref (ut 1), .ref (ut 2), .ref (ut 3), .ref (ut 4), .ref (ut 5), .int 0, .int 0, .int 0, .int 30, .int 0, .int 0])), (ut 1, ia C 5), (ut 2, ia C 5), (ut 3, ia C 7), (ut 4, ia C 7), (ut 5, ba C 100), (q9, .inr (3, [.ref (us 1), .ref (us 2), .ref (us 3), .ref (us 4), .ref (us 5), .int 0, .int 0, .int 0, .int 30, .int 0, .int 0])), (us 1, ia C 5), (us 2, ia C 5), (us 3, ia C 7), (us 4, ia C 7), (us 5, ba C 100)]) (rest := [.ref q15, .ref h0]) (As := []) M hA hn eb1 trivial (ctX0_init l D C q15 H.size) miX0_init hE.2.2.2.1 rfl hl.1 rfl (Nat.le_of_ble_eq_true rfl) ⟨(Nat.le_of_ble_eq_true rfl), (Nat.le_of_ble_eq_true rfl)⟩ ⟨(Nat.le_of_ble_eq_true rfl), (Nat.le_of_ble_eq_true rfl)⟩ dX6_init_42 (fun ua H locs hn => ?_)
  have hn : N0 D [(h0, .inr (6, [.ref q2, .ref q3, .ref q9, .null, .null, .null, .null, .null, .null, .null, .long 0])), (q2, .inr (5, [.ref (ux 1), .int 0, .int 0, .int 0, .int 0, .int 0])), (ux 1, ca C 200), (q3, .inr (3, [.ref (ut 1), .ref (ut 2), .ref (ut 3), .ref (ut 4), .ref (ut 5), .int 0, .int 0, .int 0, .int 30, .int 0, .int 0])), (ut 1, ia C 5), (ut 2, ia C 5), (ut 3, ia C 7), (ut 4, ia C 7), (ut 5, ba C 100), (q9, .inr (3, [.ref (us 1), .ref (us 2), .ref (us 3), .ref (us 4), .ref (us 5), .int 0, .int 0, .int 0, .int 30, .int 0, .int 0])), (us 1, ia C 5), (us 2, ia C 5), (us 3, ia C 7), (us 4, ia C 7), (us 5, ba C 100), (q15, .inr (0, [.ref (ua 1), .ref (ua 2), .int 0, .int 0])), (ua 1, ia C 3904), (ua 2, ia C 60)] A s.heap H _ := hn
  refine n_putF (v := .ref q15) M hn 0 rfl rfl inq_6 tyX6 tyX6_ok nmX6 3 (by decide) tw_260 rfl rfl rfl rfl (Nat.le_of_ble_eq_true rfl) dX6_init_45 (fun H locs hn => ?_)
  have hn : N0 D [(h0, .inr (6, [.ref q2, .ref q3, .ref q9, .ref q15, .null, .null, .null, .null, .null, .null, .long 0])), (q2, .inr (5, [.ref (ux 1), .int 0, .int 0, .int 0, .int 0, .int 0])), (ux 1, ca C 200), (q3, .inr (3, [.ref (ut 1), .ref (ut 2), .ref (ut 3), .ref (ut 4), .ref (ut 5), .int 0, .int 0, .int 0, .int 30, .int 0, .int 0])), (ut 1, ia C 5), (ut 2, ia C 5), (ut 3, ia C 7), (ut 4, ia C 7), (ut 5, ba C 100), (q9, .inr (3, [.ref (us 1), .ref (us 2), .ref (us 3), .ref (us 4), .ref (us 5), .int 0, .int 0, .int 0, .int 30, .int 0, .int 0])), (us 1, ia C 5), (us 2, ia C 5), (us 3, ia C 7), (us 4, ia C 7), (us 5, ba C 100), (q15, .inr (0, [.ref (ua 1), .ref (ua 2), .int 0, .int 0])), (ua 1, ia C 3904), (ua 2, ia C 60)] A s.heap H _ := hn
  refine lv_aload_n hx hb dX6_init_48 rfl (lv_at hl 0 rfl) ?_
  refine n_new (ci := 4) (fs := [.null, .null, .null, .null, .int 0, .int 0, .int 0]) M hA hn inq_4 tyX4 tyX4_ok tw_179 tw_180 tw_53 rfl (by decide) (Nat.le_of_ble_eq_true rfl) (Nat.le_of_ble_eq_true rfl) dX6_init_49 (fun q18 H hn => ?_)
  have hn : N0 D [(h0, .inr (6, [.ref q2, .ref q3, .ref q9, .ref q15, .null, .null, .null, .null, .null, .null, .long 0])), (q2, .inr (5, [.ref (ux 1), .int 0, .int 0, .int 0, .int 0, .int 0])), (ux 1, ca C 200), (q3, .inr (3, [.ref (ut 1), .ref (ut 2), .ref (ut 3), .ref (ut 4), .ref (ut 5), .int 0, .int 0, .int 0, .int 30, .int 0, .int 0])), (ut 1, ia C 5), (ut 2, ia C 5), (ut 3, ia C 7), (ut 4, ia C 7), (ut 5, ba C 100), (q9, .inr (3, [.ref (us 1), .ref (us 2), .ref (us 3), .ref (us 4), .ref (us 5), .int 0, .int 0, .int 0, .int 30, .int 0, .int 0])), (us 1, ia C 5), (us 2, ia C 5), (us 3, ia C 7), (us 4, ia C 7), (us 5, ba C 100), (q15, .inr (0, [.ref (ua 1), .ref (ua 2), .int 0, .int 0])), (ua 1, ia C 3904), (ua 2, ia C 60), (q18, .inr (4, [.null, .null, .null, .null, .int 0, .int 0, .int 0]))] A s.heap H _ := hn
  refine lv_dup hx hb dX6_init_52 rfl ?_
  refine n_lastN (ws := [(h0, .inr (6, [.ref q2, .ref q3, .ref q9, .ref q15, .null, .null, .null, .null, .null, .null, .long 0])), (q2, .inr (5, [.ref (ux 1), .int 0, .int 0, .int 0, .int 0, .int 0])), (ux 1, ca C 200), (q3, .inr (3, [.ref (ut 1), .ref (ut 2), .ref (ut 3), .ref (ut 4), .ref (ut 5), .int 0, .int 0, .int 0, .int 30, .int 0, .int 0])), (ut 1, ia C 5), (ut 2, ia C 5), (ut 3, ia C 7), (ut 4, ia C 7), (ut 5, ba C 100), (q9, .inr (3, [.ref (us 1), .ref (us 2), .ref (us 3), .ref (us 4), .ref (us 5), .int 0, .int 0, .int 0, .int 30, .int 0, .int 0])), (us 1, ia C 5), (us 2, ia C 5), (us 3, ia C 7), (us 4, ia C 7), (us 5, ba C 100), (q15, .inr (0, [.ref (ua 1), .ref (ua 2), .int 0, .int 0])), (ua 1, ia C 3904), (ua 2, ia C 60)]) (rest := [.ref q18, .ref h0]) (As := []) M hA hn eb1 trivial (ctX4_init l D C q18 H.size) miX4_init hE.2.2.2.2.1 rfl hl.1 rfl (Nat.le_of_ble_eq_true rfl) ⟨(Nat.le_of_ble_eq_true rfl), (Nat.le_of_ble_eq_true rfl)⟩ ⟨(Nat.le_of_ble_eq_true rfl), (Nat.le_of_ble_eq_true rfl)⟩ dX6_init_53 (fun ud H locs hn => ?_)
  have hn : N0 D [(h0, .inr (6, [.ref q2, .ref q3, .ref q9, .ref q15, .null, .null, .null, .null, .null, .null, .long 0])), (q2, .inr (5, [.ref (ux 1), .int 0, .int 0, .int 0, .int 0, .int 0])), (ux 1, ca C 200), (q3, .inr (3, [.ref (ut 1), .ref (ut 2), .ref (ut 3), .ref (ut 4), .ref (ut 5), .int 0, .int 0, .int 0, .int 30, .int 0, .int 0])), (ut 1, ia C 5), (ut 2, ia C 5), (ut 3, ia C 7), (ut 4, ia C 7), (ut 5, ba C 100), (q9, .inr (3, [.ref (us 1), .ref (us 2), .ref (us 3), .ref (us 4), .ref (us 5), .int 0, .int 0, .int 0, .int 30, .int 0, .int 0])), (us 1, ia C 5), (us 2, ia C 5), (us 3, ia C 7), (us 4, ia C 7), (us 5, ba C 100), (q15, .inr (0, [.ref (ua 1), .ref (ua 2), .int 0, .int 0])), (ua 1, ia C 3904), (ua 2, ia C 60), (q18, .inr (4, [.ref (ud 1), .ref (ud 2), .ref (ud 3), .ref (ud 4), .int 0, .int 0, .int 0])), (ud 1, ia C 5), (ud 2, ia C 5), (ud 3, ia C 7), (ud 4, ia C 7)] A s.heap H _ := hn
  refine n_putF (v := .ref q18) M hn 0 rfl rfl inq_6 tyX6 tyX6_ok nmX6 4 (by decide) tw_261 rfl rfl rfl rfl (Nat.le_of_ble_eq_true rfl) dX6_init_56 (fun H locs hn => ?_)
  have hn : N0 D [(h0, .inr (6, [.ref q2, .ref q3, .ref q9, .ref q15, .ref q18, .null, .null, .null, .null, .null, .long 0])), (q2, .inr (5, [.ref (ux 1), .int 0, .int 0, .int 0, .int 0, .int 0])), (ux 1, ca C 200), (q3, .inr (3, [.ref (ut 1), .ref (ut 2), .ref (ut 3), .ref (ut 4), .ref (ut 5), .int 0, .int 0, .int 0, .int 30, .int 0, .int 0])), (ut 1, ia C 5), (ut 2, ia C 5), (ut 3, ia C 7), (ut 4, ia C 7), (ut 5, ba C 100), (q9, .inr (3, [.ref (us 1), .ref (us 2), .ref (us 3), .ref (us 4), .ref (us 5), .int 0, .int 0, .int 0, .int 30, .int 0, .int 0])), (us 1, ia C 5), (us 2, ia C 5), (us 3, ia C 7), (us 4, ia C 7), (us 5, ba C 100), (q15, .inr (0, [.ref (ua 1), .ref (ua 2), .int 0, .int 0])), (ua 1, ia C 3904), (ua 2, ia C 60), (q18, .inr (4, [.ref (ud 1), .ref (ud 2), .ref (ud 3), .ref (ud 4), .int 0, .int 0, .int 0])), (ud 1, ia C 5), (ud 2, ia C 5), (ud 3, ia C 7), (ud 4, ia C 7)] A s.heap H _ := hn
  refine kk (fun i => ([h0, ux 1, q2, q3, ut 1, ut 2, ut 3, ut 4, ut 5, q9, us 1, us 2, us 3, us 4, us 5, q15, ua 1, ua 2, q18, ud 1, ud 2, ud 3, ud 4] : List Nat).getD i 0) H locs rfl ⟨hn.1.sub [0, 2, 1, 3, 4, 5, 6, 7, 8, 9, 10, 11, 12, 13, 14, 15, 16, 17, 18, 19, 20, 21, 22] rfl, hn.2.1.sub [0, 2, 1, 3, 4, 5, 6, 7, 8, 9, 10, 11, 12, 13, 14, 15, 16, 17, 18, 19, 20, 21, 22] (by decide) rfl, hn.2.2⟩
