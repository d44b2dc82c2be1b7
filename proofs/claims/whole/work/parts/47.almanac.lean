/-! Almanac(parish) -/
def woBegin (a1 a2 : Nat) (h0 hp p1 p2 p3 p4 p5 : Nat) (x5 x6 x7 x8 x9 x10 : Int32) (_ : Nat → Nat) : va_W := [(h0, .inr (0, [.ref a1, .ref a2, .ref hp, .int x8, .int 0])), (hp, .inr (3, [.ref p1, .ref p2, .ref p3, .ref p4, .ref p5, .int x5, .int x6, .int x7, .int x8, .int x9, .int x10]))]
set_option maxHeartbeats 4000000 in
set_option maxRecDepth 100000 in
theorem ctLBegin (l : Launch) (D : va_G) (C : Nat → ClassId) (a1 a2 : Nat) (h0 hp p1 p2 p3 p4 p5 : Nat) (x5 x6 x7 x8 x9 x10 : Int32) (sz : Nat) : Met l yX0_begin (Cond.code yX0_begin cX0_begin 2 none :: TB) { frames := 0, cells := 0, slots := 0, locals := 0 } (va_Pc [.ref h0, .ref hp] (PN D C E1 [(h0, .inr (0, [.ref a1, .ref a2, .null, .int 0, .int 0])), (hp, .inr (3, [.ref p1, .ref p2, .ref p3, .ref p4, .ref p5, .int x5, .int x6, .int x7, .int x8, .int x9, .int x10]))] sz)) (QN D [(h0, .inr (0, [.ref a1, .ref a2, .null, .int 0, .int 0])), (hp, .inr (3, [.ref p1, .ref p2, .ref p3, .ref p4, .ref p5, .int x5, .int x6, .int x7, .int x8, .int x9, .int x10]))] sz (woBegin a1 a2 h0 hp p1 p2 p3 p4 p5 x5 x6 x7 x8 x9 x10)) 0 0 (va_A [(h0, .inr (0, [.ref a1, .ref a2, .null, .int 0, .int 0])), (hp, .inr (3, [.ref p1, .ref p2, .ref p3, .ref p4, .ref p5, .int x5, .int x6, .int x7, .int x8, .int x9, .int x10]))] sz) := by
  refine n_entV (by decide +kernel) (Nat.le_of_ble_eq_true rfl) (fun p e s m below meth c ls A hsz hAe hA M hn hl _ => ?_)
  obtain ⟨hx, hb, hr, hml, hown, hlk, hT, hK, hin⟩ := id M
  refine lv_aload_n hx hb dX0_begin_0 rfl (lv_at hl 0 rfl) ?_
  refine lv_aload_n hx hb dX0_begin_1 rfl (lv_at hl 1 rfl) ?_
  refine n_put (v := .ref hp) M hn 0 rfl rfl inq_0 tyX0 tyX0_ok nmX0 2 (by decide) tw_170 rfl rfl rfl (Nat.le_of_ble_eq_true rfl) dX0_begin_2 (fun H locs hn => ?_)
  refine lv_aload_n hx hb dX0_begin_5 rfl (lv_at hl 0 rfl) ?_
  refine lv_aload_n hx hb dX0_begin_6 rfl (lv_at hl 1 rfl) ?_
  refine n_get (v := .int x8) M hn 1 rfl rfl inq_3 8 (by decide) tw_126 rfl dX0_begin_7 ?_
  refine n_put (v := .int x8) M hn 0 rfl rfl inq_0 tyX0 tyX0_ok nmX0 3 (by decide) tw_171 rfl rfl rfl (Nat.le_of_ble_eq_true rfl) dX0_begin_10 (fun H locs hn => ?_)
  refine lv_aload_n hx hb dX0_begin_13 rfl (lv_at hl 0 rfl) ?_
  refine lv_iconst (v := 0) hx hb dX0_begin_14 (by decide) ?_
  refine n_put (v := .int 0) M hn 0 rfl rfl inq_0 tyX0 tyX0_ok nmX0 4 (by decide) tw_172 rfl (by decide) rfl (Nat.le_of_ble_eq_true rfl) dX0_begin_15 (fun H locs hn => ?_)
  subst hAe
  exact n_ret (wo := woBegin a1 a2 h0 hp p1 p2 p3 p4 p5 x5 x6 x7 x8 x9 x10) M (fun _ => 0) hn rfl (Nat.le_of_ble_eq_true rfl) (Nat.le_of_ble_eq_true rfl) dX0_begin_18
theorem dX0_init_0 : decode cX0_init 0 = .ok (.aload_n 0, 1) := by decide +kernel
theorem dX0_init_1 : decode cX0_init 1 = .ok (.invokespecial 3, 3) := by decide +kernel
theorem dX0_init_4 : decode cX0_init 4 = .ok (.aload_n 0, 1) := by decide +kernel
theorem dX0_init_5 : decode cX0_init 5 = .ok (.sipush 3904, 3) := by decide +kernel
theorem dX0_init_8 : decode cX0_init 8 = .ok (.newarray .int, 2) := by decide +kernel
theorem dX0_init_10 : decode cX0_init 10 = .ok (.putfield 11, 3) := by decide +kernel
theorem dX0_init_13 : decode cX0_init 13 = .ok (.aload_n 0, 1) := by decide +kernel
theorem dX0_init_14 : decode cX0_init 14 = .ok (.bipush 60, 2) := by decide +kernel
theorem dX0_init_16 : decode cX0_init 16 = .ok (.newarray .int, 2) := by decide +kernel
theorem dX0_init_18 : decode cX0_init 18 = .ok (.putfield 15, 3) := by decide +kernel
theorem dX0_init_21 : decode cX0_init 21 = .ok (.aload_n 0, 1) := by decide +kernel
theorem dX0_init_22 : decode cX0_init 22 = .ok (.aload_n 1, 1) := by decide +kernel
theorem dX0_init_23 : decode cX0_init 23 = .ok (.invokevirtual 18, 3) := by decide +kernel
theorem dX0_init_26 : decode cX0_init 26 = .ok (.return_, 1) := by decide +kernel
def woX0_init (C : Nat → ClassId) (h0 hp p1 p2 p3 p4 p5 : Nat) (x5 x6 x7 x8 x9 x10 : Int32) (q : Nat → Nat) : va_W := [(q 1, ia C 3904), (q 2, ia C 60), (h0, .inr (0, [.ref (q 1), .ref (q 2), .ref hp, .int x8, .int 0])), (hp, .inr (3, [.ref p1, .ref p2, .ref p3, .ref p4, .ref p5, .int x5, .int x6, .int x7, .int x8, .int x9, .int x10]))]
set_option maxHeartbeats 4000000 in
set_option maxRecDepth 100000 in
theorem ctX0_init (l : Launch) (D : va_G) (C : Nat → ClassId) (h0 hp p1 p2 p3 p4 p5 : Nat) (x5 x6 x7 x8 x9 x10 : Int32) (sz : Nat) : Met l yX0_init (Cond.code yX0_init cX0_init 2 none :: TB) { frames := 1, cells := 2, slots := 3964, locals := 21 } (va_Pc [.ref h0, .ref hp] (PN D C E1 [(h0, .inr (0, [.null, .null, .null, .int 0, .int 0])), (hp, .inr (3, [.ref p1, .ref p2, .ref p3, .ref p4, .ref p5, .int x5, .int x6, .int x7, .int x8, .int x9, .int x10]))] sz)) (QN D [(h0, .inr (0, [.null, .null, .null, .int 0, .int 0])), (hp, .inr (3, [.ref p1, .ref p2, .ref p3, .ref p4, .ref p5, .int x5, .int x6, .int x7, .int x8, .int x9, .int x10]))] sz (woX0_init C h0 hp p1 p2 p3 p4 p5 x5 x6 x7 x8 x9 x10)) 2 3964 (va_A [(h0, .inr (0, [.null, .null, .null, .int 0, .int 0])), (hp, .inr (3, [.ref p1, .ref p2, .ref p3, .ref p4, .ref p5, .int x5, .int x6, .int x7, .int x8, .int x9, .int x10]))] sz) := by
  refine n_ent (by decide +kernel) rfl (Nat.le_of_ble_eq_true rfl) (fun p e s m below meth c ls A hsz hAe hA M hn hl _ => ?_)
  obtain ⟨hx, hb, hr, hml, hown, hlk, hT, hK, hin⟩ := id M
  refine lv_aload_n hx hb dX0_init_0 rfl (lv_at hl 0 rfl) ?_
  refine n_obj M tw_163 hl.1 rfl dX0_init_1 (Nat.le_of_ble_eq_true rfl) (Nat.le_of_ble_eq_true rfl) ?_
  refine lv_aload_n hx hb dX0_init_4 rfl (lv_at hl 0 rfl) ?_
  refine lv_sipush (v := 3904) hx hb dX0_init_5 (by decide) ?_
  refine n_newi M hA hn 3904 (by decide) rfl (Nat.le_of_ble_eq_true rfl) (Nat.le_of_ble_eq_true rfl) (Nat.le_of_ble_eq_true rfl) dX0_init_8 (fun q1 H hn => ?_)
  refine n_putF (v := .ref q1) M hn 0 rfl rfl inq_0 tyX0 tyX0_ok nmX0 0 (by decide) tw_168 rfl rfl rfl rfl (Nat.le_of_ble_eq_true rfl) dX0_init_10 (fun H locs hn => ?_)
  refine lv_aload_n hx hb dX0_init_13 rfl (lv_at hl 0 rfl) ?_
  refine lv_bipush (v := 60) hx hb dX0_init_14 (by decide) ?_
  refine n_newi M hA hn 60 (by decide) rfl (Nat.le_of_ble_eq_true rfl) (Nat.le_of_ble_eq_true rfl) (Nat.le_of_ble_eq_true rfl) dX0_init_16 (fun q2 H hn => ?_)
  refine n_putF (v := .ref q2) M hn 0 rfl rfl inq_0 tyX0 tyX0_ok nmX0 1 (by decide) tw_169 rfl rfl rfl rfl (Nat.le_of_ble_eq_true rfl) dX0_init_18 (fun H locs hn => ?_)
  have hn : N0 D [(h0, .inr (0, [.ref q1, .ref q2, .null, .int 0, .int 0])), (hp, .inr (3, [.ref p1, .ref p2, .ref p3, .ref p4, .ref p5, .int x5, .int x6, .int x7, .int x8, .int x9, .int x10])), (q1, ia C 3904), (q2, ia C 60)] A s.heap H locs := hn
  refine lv_aload_n hx hb dX0_init_21 rfl (lv_at hl 0 rfl) ?_
  refine lv_aload_n hx hb dX0_init_22 rfl (lv_at hl 1 rfl) ?_
  refine n_callV (wc := [(h0, .inr (0, [.ref q1, .ref q2, .null, .int 0, .int 0])), (hp, .inr (3, [.ref p1, .ref p2, .ref p3, .ref p4, .ref p5, .int x5, .int x6, .int x7, .int x8, .int x9, .int x10]))]) (wr := [(q1, ia C 3904), (q2, ia C 60)]) (rest := []) (As := [.ref hp]) (q0 := 0) M hA hn eb1 trivial [0, 1] [2, 3] rfl rfl rfl rfl rfl (by decide) rfl rfl (ctLBegin l D C q1 q2 h0 hp p1 p2 p3 p4 p5 x5 x6 x7 x8 x9 x10 H.size) mbX0_begin tw_164 rfl hl.1 rfl (Nat.le_of_ble_eq_true rfl) ⟨(Nat.le_of_ble_eq_true rfl), (Nat.le_of_ble_eq_true rfl)⟩ ⟨(Nat.le_of_ble_eq_true rfl), (Nat.le_of_ble_eq_true rfl)⟩ dX0_init_23 (fun u H locs hn => ?_)
  subst hAe
  exact n_ret (wo := woX0_init C h0 hp p1 p2 p3 p4 p5 x5 x6 x7 x8 x9 x10) M (fun i => [0, q1, q2].getD i 0) hn rfl (Nat.le_of_ble_eq_true rfl) (Nat.le_of_ble_eq_true rfl) dX0_init_26
theorem miX0_init : MI yX0_init cX0_init 1 2 := ⟨tw_161, tw_52, tw_162, rfl, by decide +kernel⟩
