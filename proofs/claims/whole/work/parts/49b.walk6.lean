/-! MoonRights(), first half -/
theorem dX6_init_0 : decode cX6_init 0 = .ok (.aload_n 0, 1) := by decide +kernel
theorem dX6_init_1 : decode cX6_init 1 = .ok (.invokespecial 1, 3) := by decide +kernel
theorem dX6_init_4 : decode cX6_init 4 = .ok (.aload_n 0, 1) := by decide +kernel
theorem dX6_init_5 : decode cX6_init 5 = .ok (.sipush 200, 3) := by decide +kernel
theorem dX6_init_8 : decode cX6_init 8 = .ok (.newarray .char, 2) := by decide +kernel
theorem dX6_init_10 : decode cX6_init 10 = .ok (.putfield 9, 3) := by decide +kernel
theorem dX6_init_13 : decode cX6_init 13 = .ok (.aload_n 0, 1) := by decide +kernel
theorem dX6_init_14 : decode cX6_init 14 = .ok (.new 13, 3) := by decide +kernel
theorem dX6_init_17 : decode cX6_init 17 = .ok (.dup, 1) := by decide +kernel
theorem dX6_init_18 : decode cX6_init 18 = .ok (.aload_n 0, 1) := by decide +kernel
theorem dX6_init_19 : decode cX6_init 19 = .ok (.getfield 9, 3) := by decide +kernel
theorem dX6_init_22 : decode cX6_init 22 = .ok (.invokespecial 15, 3) := by decide +kernel
theorem dX6_init_25 : decode cX6_init 25 = .ok (.putfield 18, 3) := by decide +kernel
theorem dX6_init_28 : decode cX6_init 28 = .ok (.aload_n 0, 1) := by decide +kernel
theorem dX6_init_29 : decode cX6_init 29 = .ok (.new 22, 3) := by decide +kernel
theorem dX6_init_32 : decode cX6_init 32 = .ok (.dup, 1) := by decide +kernel
theorem dX6_init_33 : decode cX6_init 33 = .ok (.invokespecial 24, 3) := by decide +kernel
theorem dX6_init_36 : decode cX6_init 36 = .ok (.putfield 25, 3) := by decide +kernel
theorem dX6_init_39 : decode cX6_init 39 = .ok (.aload_n 0, 1) := by decide +kernel
theorem dX6_init_40 : decode cX6_init 40 = .ok (.new 22, 3) := by decide +kernel
theorem dX6_init_43 : decode cX6_init 43 = .ok (.dup, 1) := by decide +kernel
theorem dX6_init_44 : decode cX6_init 44 = .ok (.invokespecial 24, 3) := by decide +kernel
theorem dX6_init_47 : decode cX6_init 47 = .ok (.putfield 29, 3) := by decide +kernel
theorem dX6_init_50 : decode cX6_init 50 = .ok (.aload_n 0, 1) := by decide +kernel
theorem dX6_init_51 : decode cX6_init 51 = .ok (.new 32, 3) := by decide +kernel
theorem dX6_init_54 : decode cX6_init 54 = .ok (.dup, 1) := by decide +kernel
theorem dX6_init_55 : decode cX6_init 55 = .ok (.aload_n 0, 1) := by decide +kernel
theorem dX6_init_56 : decode cX6_init 56 = .ok (.getfield 25, 3) := by decide +kernel
theorem dX6_init_59 : decode cX6_init 59 = .ok (.invokespecial 34, 3) := by decide +kernel
theorem dX6_init_62 : decode cX6_init 62 = .ok (.putfield 37, 3) := by decide +kernel
theorem dX6_init_65 : decode cX6_init 65 = .ok (.aload_n 0, 1) := by decide +kernel
theorem dX6_init_66 : decode cX6_init 66 = .ok (.new 41, 3) := by decide +kernel
theorem dX6_init_69 : decode cX6_init 69 = .ok (.dup, 1) := by decide +kernel
theorem dX6_init_70 : decode cX6_init 70 = .ok (.invokespecial 43, 3) := by decide +kernel
theorem dX6_init_73 : decode cX6_init 73 = .ok (.putfield 44, 3) := by decide +kernel
theorem dX6_init_76 : decode cX6_init 76 = .ok (.aload_n 0, 1) := by decide +kernel
theorem dX6_init_77 : decode cX6_init 77 = .ok (.getfield 44, 3) := by decide +kernel
theorem dX6_init_80 : decode cX6_init 80 = .ok (.aload_n 0, 1) := by decide +kernel
theorem dX6_init_81 : decode cX6_init 81 = .ok (.getfield 25, 3) := by decide +kernel
theorem dX6_init_84 : decode cX6_init 84 = .ok (.invokevirtual 48, 3) := by decide +kernel
theorem dX6_init_87 : decode cX6_init 87 = .ok (.aload_n 0, 1) := by decide +kernel
theorem dX6_init_88 : decode cX6_init 88 = .ok (.new 51, 3) := by decide +kernel
theorem dX6_init_91 : decode cX6_init 91 = .ok (.dup, 1) := by decide +kernel
theorem dX6_init_92 : decode cX6_init 92 = .ok (.invokespecial 53, 3) := by decide +kernel
theorem dX6_init_95 : decode cX6_init 95 = .ok (.putfield 54, 3) := by decide +kernel
theorem dX6_init_98 : decode cX6_init 98 = .ok (.aload_n 0, 1) := by decide +kernel
theorem dX6_init_99 : decode cX6_init 99 = .ok (.iconst 2, 1) := by decide +kernel
theorem dX6_init_100 : decode cX6_init 100 = .ok (.anewarray 41, 3) := by decide +kernel
theorem dX6_init_103 : decode cX6_init 103 = .ok (.putfield 58, 3) := by decide +kernel
theorem dX6_init_106 : decode cX6_init 106 = .ok (.iconst 0, 1) := by decide +kernel
theorem dX6_init_107 : decode cX6_init 107 = .ok (.istore_n 1, 1) := by decide +kernel
theorem dX6_init_108 : decode cX6_init 108 = .ok (.iload_n 1, 1) := by decide +kernel
theorem dX6_init_109 : decode cX6_init 109 = .ok (.iconst 2, 1) := by decide +kernel
theorem dX6_init_110 : decode cX6_init 110 = .ok (.if_icmp .ge 22, 3) := by decide +kernel
theorem dX6_init_113 : decode cX6_init 113 = .ok (.aload_n 0, 1) := by decide +kernel
theorem dX6_init_114 : decode cX6_init 114 = .ok (.getfield 58, 3) := by decide +kernel
theorem dX6_init_117 : decode cX6_init 117 = .ok (.iload_n 1, 1) := by decide +kernel
theorem dX6_init_118 : decode cX6_init 118 = .ok (.new 41, 3) := by decide +kernel
theorem dX6_init_121 : decode cX6_init 121 = .ok (.dup, 1) := by decide +kernel
theorem dX6_init_122 : decode cX6_init 122 = .ok (.invokespecial 43, 3) := by decide +kernel
theorem dX6_init_125 : decode cX6_init 125 = .ok (.aastore, 1) := by decide +kernel
theorem dX6_init_126 : decode cX6_init 126 = .ok (.iinc 1 1, 3) := by decide +kernel
theorem dX6_init_129 : decode cX6_init 129 = .ok (.goto (-21), 3) := by decide +kernel
theorem dX6_init_132 : decode cX6_init 132 = .ok (.aload_n 0, 1) := by decide +kernel
theorem dX6_init_133 : decode cX6_init 133 = .ok (.iconst 2, 1) := by decide +kernel
theorem dX6_init_134 : decode cX6_init 134 = .ok (.newarray .boolean, 2) := by decide +kernel
theorem dX6_init_136 : decode cX6_init 136 = .ok (.putfield 62, 3) := by decide +kernel
theorem dX6_init_139 : decode cX6_init 139 = .ok (.aload_n 0, 1) := by decide +kernel
theorem dX6_init_140 : decode cX6_init 140 = .ok (.new 66, 3) := by decide +kernel
theorem dX6_init_143 : decode cX6_init 143 = .ok (.dup, 1) := by decide +kernel
theorem dX6_init_144 : decode cX6_init 144 = .ok (.invokespecial 68, 3) := by decide +kernel
theorem dX6_init_147 : decode cX6_init 147 = .ok (.putfield 69, 3) := by decide +kernel
theorem dX6_init_150 : decode cX6_init 150 = .ok (.aload_n 0, 1) := by decide +kernel
theorem dX6_init_151 : decode cX6_init 151 = .ok (.iconst 5, 1) := by decide +kernel
theorem dX6_init_152 : decode cX6_init 152 = .ok (.newarray .int, 2) := by decide +kernel
theorem dX6_init_154 : decode cX6_init 154 = .ok (.putfield 73, 3) := by decide +kernel
theorem dX6_init_157 : decode cX6_init 157 = .ok (.return_, 1) := by decide +kernel
def σz : St := up (up (up (up (fun _ _ => 0, 0, 0) 3 8 30) 9 8 30) 15 2 3) 15 3 30
def fsA (q : Nat → Nat) : List Value := [.ref (q 1), .int 0, .ref (q 2), .ref (q 3), .ref (q 9), .ref (q 15), .ref (q 18), .null, .null, .null, .null, .null, .long 0]
set_option maxHeartbeats 4000000 in
set_option maxRecDepth 100000 in
theorem x6_A {p : Program} {l : Launch} {e : Env} {s : State} {m : MethodId} {args : Array Value} {below : List Frame} {meth : Method} {c : Code} {D : va_G} {C : Nat → ClassId} {h0 : Nat} {A : Nat → Prop} {Q : State → Prop} (M : M0 p s m args meth c cX6_init 2 RX6 D C true) (hA : ∀ q, s.heap.size ≤ q → A q) (hE : E6 s) {ls : Array Slot} (hl : lv_has ls 2 [(0, .ref h0)]) (hn : N0 D [(h0, .inr (6, [.null, .int 0, .null, .null, .null, .null, .null, .null, .null, .null, .null, .null, .long 0]))] A s.heap s.heap []) (kk : ∀ (q : Nat → Nat) (H : Heap) (locs : List Loc), q 0 = h0 → N0 D (wd (Yf D C q (fsA q)) σz) A s.heap H locs → W p l e { frames := 3, cells := 91, slots := 4892, locals := 53 } s m args below meth c H locs 22 4476 Q (F0 m 76 ls [])) : W p l e { frames := 3, cells := 91, slots := 4892, locals := 53 } s m args below meth c s.heap [] 0 0 Q (F0 m 0 ls []) := by
  obtain ⟨hx, hb, hr, hml, hown, hlk, hT, hK, hin⟩ := id M
  refine lv_aload_n hx hb dX6_init_0 rfl (lv_at hl 0 rfl) ?_
  refine n_obj M tw_63 hl.1 rfl dX6_init_1 (Nat.le_of_ble_eq_true rfl) (Nat.le_of_ble_eq_true rfl) ?_
  refine lv_aload_n hx hb dX6_init_4 rfl (lv_at hl 0 rfl) ?_
  refine lv_sipush (v := 200) hx hb dX6_init_5 (by decide) ?_
  refine n_newc M hA hn 200 (by decide) rfl (Nat.le_of_ble_eq_true rfl) (Nat.le_of_ble_eq_true rfl) (Nat.le_of_ble_eq_true rfl) dX6_init_8 (fun q1 H hn => ?_)
  have hn : N0 D [(h0, .inr (6, [.null, .int 0, .null, .null, .null, .null, .null, .null, .null, .null, .null, .null, .long 0])), (q1, ca C 200)] A s.heap H _ := hn
  refine n_putF (v := .ref q1) M hn 0 rfl rfl inq_6 tyX6 tyX6_ok nmX6 0 (by decide) tw_266 rfl rfl rfl rfl (Nat.le_of_ble_eq_true rfl) dX6_init_10 (fun H locs hn => ?_)
  have hn : N0 D [(h0, .inr (6, [.ref q1, .int 0, .null, .null, .null, .null, .null, .null, .null, .null, .null, .null, .long 0])), (q1, ca C 200)] A s.heap H _ := hn
  refine lv_aload_n hx hb dX6_init_13 rfl (lv_at hl 0 rfl) ?_
  refine n_new (ci := 4) (fs := [.null, .int 0, .int 0, .int 0, .int 0, .int 0]) M hA hn inq_4 tyX4 tyX4_ok tw_66 tw_67 tw_50 rfl (by decide) (Nat.le_of_ble_eq_true rfl) (Nat.le_of_ble_eq_true rfl) dX6_init_14 (fun q2 H hn => ?_)
  have hn : N0 D [(h0, .inr (6, [.ref q1, .int 0, .null, .null, .null, .null, .null, .null, .null, .null, .null, .null, .long 0])), (q1, ca C 200), (q2, .inr (4, [.null, .int 0, .int 0, .int 0, .int 0, .int 0]))] A s.heap H _ := hn
  refine lv_dup hx hb dX6_init_17 rfl ?_
  refine lv_aload_n hx hb dX6_init_18 rfl (lv_at hl 0 rfl) ?_
  refine n_get (v := .ref q1) M hn 0 rfl rfl inq_6 0 (by decide) tw_266 rfl dX6_init_19 ?_
  refine n_last (ws := [(h0, .inr (6, [.ref q1, .int 0, .null, .null, .null, .null, .null, .null, .null, .null, .null, .null, .long 0])), (q1, ca C 200)]) (rest := [.ref q2, .ref h0]) (As := [.ref q1]) M hA hn eb1 trivial (ctX4_init l D C q2 q1 H.size) miX4_init tw_68 rfl hl.1 rfl (Nat.le_of_ble_eq_true rfl) ⟨(Nat.le_of_ble_eq_true rfl), (Nat.le_of_ble_eq_true rfl)⟩ ⟨(Nat.le_of_ble_eq_true rfl), (Nat.le_of_ble_eq_true rfl)⟩ dX6_init_22 (fun _ H locs hn => ?_)
  have hn : N0 D [(h0, .inr (6, [.ref q1, .int 0, .null, .null, .null, .null, .null, .null, .null, .null, .null, .null, .long 0])), (q1, ca C 200), (q2, .inr (4, [.ref q1, .int 0, .int 0, .int 0, .int 0, .int 0]))] A s.heap H _ := hn
  refine n_putF (v := .ref q2) M hn 0 rfl rfl inq_6 tyX6 tyX6_ok nmX6 2 (by decide) tw_268 rfl rfl rfl rfl (Nat.le_of_ble_eq_true rfl) dX6_init_25 (fun H locs hn => ?_)
  have hn : N0 D [(h0, .inr (6, [.ref q1, .int 0, .ref q2, .null, .null, .null, .null, .null, .null, .null, .null, .null, .long 0])), (q1, ca C 200), (q2, .inr (4, [.ref q1, .int 0, .int 0, .int 0, .int 0, .int 0]))] A s.heap H _ := hn
  refine lv_aload_n hx hb dX6_init_28 rfl (lv_at hl 0 rfl) ?_
  refine n_new (ci := 3) (fs := [.null, .null, .null, .null, .null, .int 0, .int 0, .int 0, .int 0, .int 0, .int 0]) M hA hn inq_3 tyX3 tyX3_ok tw_92 tw_93 tw_51 rfl (by decide) (Nat.le_of_ble_eq_true rfl) (Nat.le_of_ble_eq_true rfl) dX6_init_29 (fun q3 H hn => ?_)
  have hn : N0 D [(h0, .inr (6, [.ref q1, .int 0, .ref q2, .null, .null, .null, .null, .null, .null, .null, .null, .null, .long 0])), (q1, ca C 200), (q2, .inr (4, [.ref q1, .int 0, .int 0, .int 0, .int 0, .int 0])), (q3, .inr (3, [.null, .null, .null, .null, .null, .int 0, .int 0, .int 0, .int 0, .int 0, .int 0]))] A s.heap H _ := hn
  refine lv_dup hx hb dX6_init_32 rfl ?_
  refine n_lastN (ws := [(h0, .inr (6, [.ref q1, .int 0, .ref q2, .null, .null, .null, .null, .null, .null, .null, .null, .null, .long 0])), (q1, ca C 200), (q2, .inr (4, [.ref q1, .int 0, .int 0, .int 0, .int 0, .int 0]))]) (rest := [.ref q3, .ref h0]) (As := []) M hA hn eb1 trivial (ctX3_init l D C q3 H.size) miX3_init hE.2.1 rfl hl.1 rfl (Nat.le_of_ble_eq_true rfl) ⟨(Nat.le_of_ble_eq_true rfl), (Nat.le_of_ble_eq_true rfl)⟩ ⟨(Nat.le_of_ble_eq_true rfl), (Nat.le_of_ble_eq_true rfl)⟩ dX6_init_33 (fun ut H locs hn => ?_)
  have hn : N0 D [(h0, .inr (6, [.ref q1, .int 0, .ref q2, .null, .null, .null, .null, .null, .null, .null, .null, .null, .long 0])), (q1, ca C 200), (q2, .inr (4, [.ref q1, .int 0, .int 0, .int 0, .int 0, .int 0])), (q3, .inr (3, [.ref (ut 1), .ref (ut 2), .ref (ut 3), .ref (ut 4), .ref (ut 5), .int 0, .int 0, .int 0, .int 30, .int 0, .int 0])), (ut 1, ia C 5), (ut 2, ia C 5), (ut 3, ia C 7), (ut 4, ia C 7), (ut 5, ba C 100)] A s.heap H _ := hn
  refine n_put (v := .ref q3) M hn 0 rfl rfl inq_6 tyX6 tyX6_ok nmX6 3 (by decide) tw_269 rfl rfl rfl (Nat.le_of_ble_eq_true rfl) dX6_init_36 (fun H locs hn => ?_)
  have hn : N0 D [(h0, .inr (6, [.ref q1, .int 0, .ref q2, .ref q3, .null, .null, .null, .null, .null, .null, .null, .null, .long 0])), (q1, ca C 200), (q2, .inr (4, [.ref q1, .int 0, .int 0, .int 0, .int 0, .int 0])), (q3, .inr (3, [.ref (ut 1), .ref (ut 2), .ref (ut 3), .ref (ut 4), .ref (ut 5), .int 0, .int 0, .int 0, .int 30, .int 0, .int 0])), (ut 1, ia C 5), (ut 2, ia C 5), (ut 3, ia C 7), (ut 4, ia C 7), (ut 5, ba C 100)] A s.heap H _ := hn
  refine lv_aload_n hx hb dX6_init_39 rfl (lv_at hl 0 rfl) ?_
  refine n_new (ci := 3) (fs := [.null, .null, .null, .null, .null, .int 0, .int 0, .int 0, .int 0, .int 0, .int 0]) M hA hn inq_3 tyX3 tyX3_ok tw_92 tw_93 tw_51 rfl (by decide) (Nat.le_of_ble_eq_true rfl) (Nat.le_of_ble_eq_true rfl) dX6_init_40 (fun q9 H hn => ?_)
  have hn : N0 D [(h0, .inr (6, [.ref q1, .int 0, .ref q2, .ref q3, .null, .null, .null, .null, .null, .null, .null, .null, .long 0])), (q1, ca C 200), (q2, .inr (4, [.ref q1, .int 0, .int 0, .int 0, .int 0, .int 0])), (q3, .inr (3, [.ref (ut 1), .ref (ut 2), .ref (ut 3), .ref (ut 4), .ref (ut 5), .int 0, .int 0, .int 0, .int 30, .int 0, .int 0])), (ut 1, ia C 5), (ut 2, ia C 5), (ut 3, ia C 7), (ut 4, ia C 7), (ut 5, ba C 100), (q9, .inr (3, [.null, .null, .null, .null, .null, .int 0, .int 0, .int 0, .int 0, .int 0, .int 0]))] A s.heap H _ := hn
  refine lv_dup hx hb dX6_init_43 rfl ?_
  refine n_lastN (ws := [(h0, .inr (6, [.ref q1, .int 0, .ref q2, .ref q3, .null, .null, .null, .null, .null, .null, .null, .null, .long 0])), (q1, ca C 200), (q2, .inr (4, [.ref q1, .int 0, .int 0, .int 0, .int 0, .int 0])), (q3, .inr (3, [.ref (ut 1), .ref (ut 2), .ref (ut 3), .ref (ut 4), .ref (ut 5), .int 0, .int 0, .int 0, .int 30, .int 0, .int 0])), (ut 1, ia C 5), (ut 2, ia C 5), (ut 3, ia C 7), (ut 4, ia C 7), (ut 5, ba C 100)]) (rest := [.ref q9, .ref h0]) (As := []) M hA hn eb1 trivial (ctX3_init l D C q9 H.size) miX3_init hE.2.1 rfl hl.1 rfl (Nat.le_of_ble_eq_true rfl) ⟨(Nat.le_of_ble_eq_true rfl), (Nat.le_of_ble_eq_true rfl)⟩ ⟨(Nat.le_of_ble_eq_true rfl), (Nat.le_of_ble_eq_true rfl)⟩ dX6_init_44 (fun us H locs hn => ?_)
  have hn : N0 D [(h0, .inr (6, [.ref q1, .int 0, .ref q2, .ref q3, .null, .null, .null, .null, .null, .null, .null, .null, .long 0])), (q1, ca C 200), (q2, .inr (4, [.ref q1, .int 0, .int 0, .int 0, .int 0, .int 0])), (q3, .inr (3, [.ref (ut 1), .ref (ut 2), .ref (ut 3), .ref (ut 4), .ref (ut 5), .int 0, .int 0, .int 0, .int 30, .int 0, .int 0])), (ut 1, ia C 5), (ut 2, ia C 5), (ut 3, ia C 7), (ut 4, ia C 7), (ut 5, ba C 100), (q9, .inr (3, [.ref (us 1), .ref (us 2), .ref (us 3), .ref (us 4), .ref (us 5), .int 0, .int 0, .int 0, .int 30, .int 0, .int 0])), (us 1, ia C 5), (us 2, ia C 5), (us 3, ia C 7), (us 4, ia C 7), (us 5, ba C 100)] A s.heap H _ := hn
  refine n_put (v := .ref q9) M hn 0 rfl rfl inq_6 tyX6 tyX6_ok nmX6 4 (by decide) tw_270 rfl rfl rfl (Nat.le_of_ble_eq_true rfl) dX6_init_47 (fun H locs hn => ?_)
  have hn : N0 D [(h0, .inr (6, [.ref q1, .int 0, .ref q2, .ref q3, .ref q9, .null, .null, .null, .null, .null, .null, .null, .long 0])), (q1, ca C 200), (q2, .inr (4, [.ref q1, .int 0, .int 0, .int 0, .int 0, .int 0])), (q3, .inr (3, [.ref (ut 1), .ref (ut 2), .ref (ut 3), .ref (ut 4), .ref (ut 5), .int 0, .int 0, .int 0, .int 30, .int 0, .int 0])), (ut 1, ia C 5), (ut 2, ia C 5), (ut 3, ia C 7), (ut 4, ia C 7), (ut 5, ba C 100), (q9, .inr (3, [.ref (us 1), .ref (us 2), .ref (us 3), .ref (us 4), .ref (us 5), .int 0, .int 0, .int 0, .int 30, .int 0, .int 0])), (us 1, ia C 5), (us 2, ia C 5), (us 3, ia C 7), (us 4, ia C 7), (us 5, ba C 100)] A s.heap H _ := hn
  refine lv_aload_n hx hb dX6_init_50 rfl (lv_at hl 0 rfl) ?_
  refine n_new (ci := 0) (fs := [.null, .null, .null, .int 0, .int 0]) M hA hn inq_0 tyX0 tyX0_ok tw_158 tw_159 tw_52 rfl (by decide) (Nat.le_of_ble_eq_true rfl) (Nat.le_of_ble_eq_true rfl) dX6_init_51 (fun q15 H hn => ?_)
  have hn : N0 D [(h0, .inr (6, [.ref q1, .int 0, .ref q2, .ref q3, .ref q9, .null, .null, .null, .null, .null, .null, .null, .long 0])), (q1, ca C 200), (q2, .inr (4, [.ref q1, .int 0, .int 0, .int 0, .int 0, .int 0])), (q3, .inr (3, [.ref (ut 1), .ref (ut 2), .ref (ut 3), .ref (ut 4), .ref (ut 5), .int 0, .int 0, .int 0, .int 30, .int 0, .int 0])), (ut 1, ia C 5), (ut 2, ia C 5), (ut 3, ia C 7), (ut 4, ia C 7), (ut 5, ba C 100), (q9, .inr (3, [.ref (us 1), .ref (us 2), .ref (us 3), .ref (us 4), .ref (us 5), .int 0, .int 0, .int 0, .int 30, .int 0, .int 0])), (us 1, ia C 5), (us 2, ia C 5), (us 3, ia C 7), (us 4, ia C 7), (us 5, ba C 100), (q15, .inr (0, [.null, .null, .null, .int 0, .int 0]))] A s.heap H _ := hn
  refine lv_dup hx hb dX6_init_54 rfl ?_
  refine lv_aload_n hx hb dX6_init_55 rfl (lv_at hl 0 rfl) ?_
  refine n_get (v := .ref q3) M hn 0 rfl rfl inq_6 3 (by decide) tw_269 rfl dX6_init_56 ?_
  refine n_call (wc := [(q15, .inr (0, [.null, .null, .null, .int 0, .int 0])), (q3, .inr (3, [.ref (ut 1), .ref (ut 2), .ref (ut 3), .ref (ut 4), .ref (ut 5), .int 0, .int 0, .int 0, .int 30, .int 0, .int 0]))]) (wr := [(h0, .inr (6, [.ref q1, .int 0, .ref q2, .ref q3, .ref q9, .null, .null, .null, .null, .null, .null, .null, .long 0])), (q1, ca C 200), (q2, .inr (4, [.ref q1, .int 0, .int 0, .int 0, .int 0, .int 0])), (ut 1, ia C 5), (ut 2, ia C 5), (ut 3, ia C 7), (ut 4, ia C 7), (ut 5, ba C 100), (q9, .inr (3, [.ref (us 1), .ref (us 2), .ref (us 3), .ref (us 4), .ref (us 5), .int 0, .int 0, .int 0, .int 30, .int 0, .int 0])), (us 1, ia C 5), (us 2, ia C 5), (us 3, ia C 7), (us 4, ia C 7), (us 5, ba C 100)]) (rest := [.ref q15, .ref h0]) (As := [.ref q3]) M hA hn eb1 trivial [15, 3] [0, 1, 2, 4, 5, 6, 7, 8, 9, 10, 11, 12, 13, 14] rfl rfl rfl rfl rfl (by decide) (ctX0_init l D C q15 q3 (ut 1) (ut 2) (ut 3) (ut 4) (ut 5) 0 0 0 30 0 0 H.size) miX0_init tw_160 rfl hl.1 rfl (Nat.le_of_ble_eq_true rfl) ⟨(Nat.le_of_ble_eq_true rfl), (Nat.le_of_ble_eq_true rfl)⟩ ⟨(Nat.le_of_ble_eq_true rfl), (Nat.le_of_ble_eq_true rfl)⟩ dX6_init_59 (fun ua H locs hn => ?_)
  have hn : N0 D [(h0, .inr (6, [.ref q1, .int 0, .ref q2, .ref q3, .ref q9, .null, .null, .null, .null, .null, .null, .null, .long 0])), (q1, ca C 200), (q2, .inr (4, [.ref q1, .int 0, .int 0, .int 0, .int 0, .int 0])), (ut 1, ia C 5), (ut 2, ia C 5), (ut 3, ia C 7), (ut 4, ia C 7), (ut 5, ba C 100), (q9, .inr (3, [.ref (us 1), .ref (us 2), .ref (us 3), .ref (us 4), .ref (us 5), .int 0, .int 0, .int 0, .int 30, .int 0, .int 0])), (us 1, ia C 5), (us 2, ia C 5), (us 3, ia C 7), (us 4, ia C 7), (us 5, ba C 100), (ua 1, ia C 3904), (ua 2, ia C 60), (q15, .inr (0, [.ref (ua 1), .ref (ua 2), .ref q3, .int 30, .int 0])), (q3, .inr (3, [.ref (ut 1), .ref (ut 2), .ref (ut 3), .ref (ut 4), .ref (ut 5), .int 0, .int 0, .int 0, .int 30, .int 0, .int 0]))] A s.heap H _ := hn
  refine n_putF (v := .ref q15) M hn 0 rfl rfl inq_6 tyX6 tyX6_ok nmX6 5 (by decide) tw_271 rfl rfl rfl rfl (Nat.le_of_ble_eq_true rfl) dX6_init_62 (fun H locs hn => ?_)
  have hn : N0 D [(h0, .inr (6, [.ref q1, .int 0, .ref q2, .ref q3, .ref q9, .ref q15, .null, .null, .null, .null, .null, .null, .long 0])), (q1, ca C 200), (q2, .inr (4, [.ref q1, .int 0, .int 0, .int 0, .int 0, .int 0])), (ut 1, ia C 5), (ut 2, ia C 5), (ut 3, ia C 7), (ut 4, ia C 7), (ut 5, ba C 100), (q9, .inr (3, [.ref (us 1), .ref (us 2), .ref (us 3), .ref (us 4), .ref (us 5), .int 0, .int 0, .int 0, .int 30, .int 0, .int 0])), (us 1, ia C 5), (us 2, ia C 5), (us 3, ia C 7), (us 4, ia C 7), (us 5, ba C 100), (ua 1, ia C 3904), (ua 2, ia C 60), (q15, .inr (0, [.ref (ua 1), .ref (ua 2), .ref q3, .int 30, .int 0])), (q3, .inr (3, [.ref (ut 1), .ref (ut 2), .ref (ut 3), .ref (ut 4), .ref (ut 5), .int 0, .int 0, .int 0, .int 30, .int 0, .int 0]))] A s.heap H _ := hn
  refine lv_aload_n hx hb dX6_init_65 rfl (lv_at hl 0 rfl) ?_
  refine n_new (ci := 5) (fs := [.null, .null, .null, .null, .int 0, .int 0, .int 0]) M hA hn inq_5 tyX5 tyX5_ok tw_184 tw_185 tw_53 rfl (by decide) (Nat.le_of_ble_eq_true rfl) (Nat.le_of_ble_eq_true rfl) dX6_init_66 (fun q18 H hn => ?_)
  have hn : N0 D [(h0, .inr (6, [.ref q1, .int 0, .ref q2, .ref q3, .ref q9, .ref q15, .null, .null, .null, .null, .null, .null, .long 0])), (q1, ca C 200), (q2, .inr (4, [.ref q1, .int 0, .int 0, .int 0, .int 0, .int 0])), (ut 1, ia C 5), (ut 2, ia C 5), (ut 3, ia C 7), (ut 4, ia C 7), (ut 5, ba C 100), (q9, .inr (3, [.ref (us 1), .ref (us 2), .ref (us 3), .ref (us 4), .ref (us 5), .int 0, .int 0, .int 0, .int 30, .int 0, .int 0])), (us 1, ia C 5), (us 2, ia C 5), (us 3, ia C 7), (us 4, ia C 7), (us 5, ba C 100), (ua 1, ia C 3904), (ua 2, ia C 60), (q15, .inr (0, [.ref (ua 1), .ref (ua 2), .ref q3, .int 30, .int 0])), (q3, .inr (3, [.ref (ut 1), .ref (ut 2), .ref (ut 3), .ref (ut 4), .ref (ut 5), .int 0, .int 0, .int 0, .int 30, .int 0, .int 0])), (q18, .inr (5, [.null, .null, .null, .null, .int 0, .int 0, .int 0]))] A s.heap H _ := hn
  refine lv_dup hx hb dX6_init_69 rfl ?_
  refine n_lastN (ws := [(h0, .inr (6, [.ref q1, .int 0, .ref q2, .ref q3, .ref q9, .ref q15, .null, .null, .null, .null, .null, .null, .long 0])), (q1, ca C 200), (q2, .inr (4, [.ref q1, .int 0, .int 0, .int 0, .int 0, .int 0])), (ut 1, ia C 5), (ut 2, ia C 5), (ut 3, ia C 7), (ut 4, ia C 7), (ut 5, ba C 100), (q9, .inr (3, [.ref (us 1), .ref (us 2), .ref (us 3), .ref (us 4), .ref (us 5), .int 0, .int 0, .int 0, .int 30, .int 0, .int 0])), (us 1, ia C 5), (us 2, ia C 5), (us 3, ia C 7), (us 4, ia C 7), (us 5, ba C 100), (ua 1, ia C 3904), (ua 2, ia C 60), (q15, .inr (0, [.ref (ua 1), .ref (ua 2), .ref q3, .int 30, .int 0])), (q3, .inr (3, [.ref (ut 1), .ref (ut 2), .ref (ut 3), .ref (ut 4), .ref (ut 5), .int 0, .int 0, .int 0, .int 30, .int 0, .int 0]))]) (rest := [.ref q18, .ref h0]) (As := []) M hA hn eb1 trivial (ctX5_init l D C q18 H.size) miX5_init hE.2.2.1 rfl hl.1 rfl (Nat.le_of_ble_eq_true rfl) ⟨(Nat.le_of_ble_eq_true rfl), (Nat.le_of_ble_eq_true rfl)⟩ ⟨(Nat.le_of_ble_eq_true rfl), (Nat.le_of_ble_eq_true rfl)⟩ dX6_init_70 (fun ud H locs hn => ?_)
  have hn : N0 D [(h0, .inr (6, [.ref q1, .int 0, .ref q2, .ref q3, .ref q9, .ref q15, .null, .null, .null, .null, .null, .null, .long 0])), (q1, ca C 200), (q2, .inr (4, [.ref q1, .int 0, .int 0, .int 0, .int 0, .int 0])), (ut 1, ia C 5), (ut 2, ia C 5), (ut 3, ia C 7), (ut 4, ia C 7), (ut 5, ba C 100), (q9, .inr (3, [.ref (us 1), .ref (us 2), .ref (us 3), .ref (us 4), .ref (us 5), .int 0, .int 0, .int 0, .int 30, .int 0, .int 0])), (us 1, ia C 5), (us 2, ia C 5), (us 3, ia C 7), (us 4, ia C 7), (us 5, ba C 100), (ua 1, ia C 3904), (ua 2, ia C 60), (q15, .inr (0, [.ref (ua 1), .ref (ua 2), .ref q3, .int 30, .int 0])), (q3, .inr (3, [.ref (ut 1), .ref (ut 2), .ref (ut 3), .ref (ut 4), .ref (ut 5), .int 0, .int 0, .int 0, .int 30, .int 0, .int 0])), (q18, .inr (5, [.ref (ud 1), .ref (ud 2), .ref (ud 3), .ref (ud 4), .int 0, .int 0, .int 0])), (ud 1, ia C 5), (ud 2, ia C 5), (ud 3, ia C 7), (ud 4, ia C 7)] A s.heap H _ := hn
  refine n_putF (v := .ref q18) M hn 0 rfl rfl inq_6 tyX6 tyX6_ok nmX6 6 (by decide) tw_272 rfl rfl rfl rfl (Nat.le_of_ble_eq_true rfl) dX6_init_73 (fun H locs hn => ?_)
  have hn : N0 D [(h0, .inr (6, [.ref q1, .int 0, .ref q2, .ref q3, .ref q9, .ref q15, .ref q18, .null, .null, .null, .null, .null, .long 0])), (q1, ca C 200), (q2, .inr (4, [.ref q1, .int 0, .int 0, .int 0, .int 0, .int 0])), (ut 1, ia C 5), (ut 2, ia C 5), (ut 3, ia C 7), (ut 4, ia C 7), (ut 5, ba C 100), (q9, .inr (3, [.ref (us 1), .ref (us 2), .ref (us 3), .ref (us 4), .ref (us 5), .int 0, .int 0, .int 0, .int 30, .int 0, .int 0])), (us 1, ia C 5), (us 2, ia C 5), (us 3, ia C 7), (us 4, ia C 7), (us 5, ba C 100), (ua 1, ia C 3904), (ua 2, ia C 60), (q15, .inr (0, [.ref (ua 1), .ref (ua 2), .ref q3, .int 30, .int 0])), (q3, .inr (3, [.ref (ut 1), .ref (ut 2), .ref (ut 3), .ref (ut 4), .ref (ut 5), .int 0, .int 0, .int 0, .int 30, .int 0, .int 0])), (q18, .inr (5, [.ref (ud 1), .ref (ud 2), .ref (ud 3), .ref (ud 4), .int 0, .int 0, .int 0])), (ud 1, ia C 5), (ud 2, ia C 5), (ud 3, ia C 7), (ud 4, ia C 7)] A s.heap H _ := hn
  refine kk (fun i => ([h0, q1, q2, q3, ut 1, ut 2, ut 3, ut 4, ut 5, q9, us 1, us 2, us 3, us 4, us 5, q15, ua 1, ua 2, q18, ud 1, ud 2, ud 3, ud 4] : List Nat).getD i 0) H locs rfl ⟨hn.1.sub [0, 1, 2, 17, 3, 4, 5, 6, 7, 8, 9, 10, 11, 12, 13, 16, 14, 15, 18, 19, 20, 21, 22] rfl, hn.2.1.sub [0, 1, 2, 17, 3, 4, 5, 6, 7, 8, 9, 10, 11, 12, 13, 16, 14, 15, 18, 19, 20, 21, 22] (by decide) rfl, hn.2.2⟩
