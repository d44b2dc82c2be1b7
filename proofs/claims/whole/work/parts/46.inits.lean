/-! constructors that make arrays alone -/
theorem dX4_init_0 : decode cX4_init 0 = .ok (.aload_n 0, 1) := by decide +kernel
theorem dX4_init_1 : decode cX4_init 1 = .ok (.invokespecial 3, 3) := by decide +kernel
theorem dX4_init_4 : decode cX4_init 4 = .ok (.aload_n 0, 1) := by decide +kernel
theorem dX4_init_5 : decode cX4_init 5 = .ok (.iconst 5, 1) := by decide +kernel
theorem dX4_init_6 : decode cX4_init 6 = .ok (.newarray .int, 2) := by decide +kernel
theorem dX4_init_8 : decode cX4_init 8 = .ok (.putfield 9, 3) := by decide +kernel
theorem dX4_init_11 : decode cX4_init 11 = .ok (.aload_n 0, 1) := by decide +kernel
theorem dX4_init_12 : decode cX4_init 12 = .ok (.iconst 5, 1) := by decide +kernel
theorem dX4_init_13 : decode cX4_init 13 = .ok (.newarray .int, 2) := by decide +kernel
theorem dX4_init_15 : decode cX4_init 15 = .ok (.putfield 15, 3) := by decide +kernel
theorem dX4_init_18 : decode cX4_init 18 = .ok (.aload_n 0, 1) := by decide +kernel
theorem dX4_init_19 : decode cX4_init 19 = .ok (.bipush 7, 2) := by decide +kernel
theorem dX4_init_21 : decode cX4_init 21 = .ok (.newarray .int, 2) := by decide +kernel
theorem dX4_init_23 : decode cX4_init 23 = .ok (.putfield 18, 3) := by decide +kernel
theorem dX4_init_26 : decode cX4_init 26 = .ok (.aload_n 0, 1) := by decide +kernel
theorem dX4_init_27 : decode cX4_init 27 = .ok (.bipush 7, 2) := by decide +kernel
theorem dX4_init_29 : decode cX4_init 29 = .ok (.newarray .int, 2) := by decide +kernel
theorem dX4_init_31 : decode cX4_init 31 = .ok (.putfield 21, 3) := by decide +kernel
theorem dX4_init_34 : decode cX4_init 34 = .ok (.return_, 1) := by decide +kernel
def woX4_init (C : Nat → ClassId) (h0 : Nat) (q : Nat → Nat) : va_W := [(h0, .inr (4, [.ref (q 1), .ref (q 2), .ref (q 3), .ref (q 4), .int 0, .int 0, .int 0])), ((q 1), ia C 5), ((q 2), ia C 5), ((q 3), ia C 7), ((q 4), ia C 7)]
set_option maxHeartbeats 4000000 in
set_option maxRecDepth 100000 in
theorem ctX4_init (l : Launch) (D : va_G) (C : Nat → ClassId) (h0 sz : Nat) : Met l yX4_init (Cond.code yX4_init cX4_init 1 none :: TB) { frames := 1, cells := 4, slots := 24, locals := 12 } (va_Pc [.ref h0] (PN D C E1 [(h0, .inr (4, [.null, .null, .null, .null, .int 0, .int 0, .int 0]))] sz)) (QN D [(h0, .inr (4, [.null, .null, .null, .null, .int 0, .int 0, .int 0]))] sz (woX4_init C h0)) 4 24 (va_A [(h0, .inr (4, [.null, .null, .null, .null, .int 0, .int 0, .int 0]))] sz) := by
  refine n_ent (by decide +kernel) rfl (Nat.le_of_ble_eq_true rfl) (fun p e s m below meth c ls A hsz hAe hA M hn hl _ => ?_)
  obtain ⟨hx, hb, hr, hml, hown, hlk, hT, hK, hin⟩ := id M
  refine lv_aload_n hx hb dX4_init_0 rfl (lv_at hl 0 rfl) ?_
  refine n_obj M tw_184 hl.1 rfl dX4_init_1 (Nat.le_of_ble_eq_true rfl) (Nat.le_of_ble_eq_true rfl) ?_
  refine lv_aload_n hx hb dX4_init_4 rfl (lv_at hl 0 rfl) ?_
  refine lv_iconst (v := 5) hx hb dX4_init_5 (by decide) ?_
  refine n_newi M hA hn 5 (by decide) rfl (Nat.le_of_ble_eq_true rfl) (Nat.le_of_ble_eq_true rfl) (Nat.le_of_ble_eq_true rfl) dX4_init_6 (fun q1 H hn => ?_)
  have hn : N0 D [(h0, .inr (4, [.null, .null, .null, .null, .int 0, .int 0, .int 0])), (q1, ia C 5)] A s.heap H _ := hn
  refine n_putF (v := .ref q1) M hn 0 rfl rfl inq_4 tyX4 tyX4_ok nmX4 0 (by decide) tw_185 rfl rfl rfl rfl (Nat.le_of_ble_eq_true rfl) dX4_init_8 (fun H locs hn => ?_)
  have hn : N0 D [(h0, .inr (4, [.ref q1, .null, .null, .null, .int 0, .int 0, .int 0])), (q1, ia C 5)] A s.heap H locs := hn
  refine lv_aload_n hx hb dX4_init_11 rfl (lv_at hl 0 rfl) ?_
  refine lv_iconst (v := 5) hx hb dX4_init_12 (by decide) ?_
  refine n_newi M hA hn 5 (by decide) rfl (Nat.le_of_ble_eq_true rfl) (Nat.le_of_ble_eq_true rfl) (Nat.le_of_ble_eq_true rfl) dX4_init_13 (fun q2 H hn => ?_)
  have hn : N0 D [(h0, .inr (4, [.ref q1, .null, .null, .null, .int 0, .int 0, .int 0])), (q1, ia C 5), (q2, ia C 5)] A s.heap H _ := hn
  refine n_putF (v := .ref q2) M hn 0 rfl rfl inq_4 tyX4 tyX4_ok nmX4 1 (by decide) tw_187 rfl rfl rfl rfl (Nat.le_of_ble_eq_true rfl) dX4_init_15 (fun H locs hn => ?_)
  have hn : N0 D [(h0, .inr (4, [.ref q1, .ref q2, .null, .null, .int 0, .int 0, .int 0])), (q1, ia C 5), (q2, ia C 5)] A s.heap H locs := hn
  refine lv_aload_n hx hb dX4_init_18 rfl (lv_at hl 0 rfl) ?_
  refine lv_bipush (v := 7) hx hb dX4_init_19 (by decide) ?_
  refine n_newi M hA hn 7 (by decide) rfl (Nat.le_of_ble_eq_true rfl) (Nat.le_of_ble_eq_true rfl) (Nat.le_of_ble_eq_true rfl) dX4_init_21 (fun q3 H hn => ?_)
  have hn : N0 D [(h0, .inr (4, [.ref q1, .ref q2, .null, .null, .int 0, .int 0, .int 0])), (q1, ia C 5), (q2, ia C 5), (q3, ia C 7)] A s.heap H _ := hn
  refine n_putF (v := .ref q3) M hn 0 rfl rfl inq_4 tyX4 tyX4_ok nmX4 2 (by decide) tw_189 rfl rfl rfl rfl (Nat.le_of_ble_eq_true rfl) dX4_init_23 (fun H locs hn => ?_)
  have hn : N0 D [(h0, .inr (4, [.ref q1, .ref q2, .ref q3, .null, .int 0, .int 0, .int 0])), (q1, ia C 5), (q2, ia C 5), (q3, ia C 7)] A s.heap H locs := hn
  refine lv_aload_n hx hb dX4_init_26 rfl (lv_at hl 0 rfl) ?_
  refine lv_bipush (v := 7) hx hb dX4_init_27 (by decide) ?_
  refine n_newi M hA hn 7 (by decide) rfl (Nat.le_of_ble_eq_true rfl) (Nat.le_of_ble_eq_true rfl) (Nat.le_of_ble_eq_true rfl) dX4_init_29 (fun q4 H hn => ?_)
  have hn : N0 D [(h0, .inr (4, [.ref q1, .ref q2, .ref q3, .null, .int 0, .int 0, .int 0])), (q1, ia C 5), (q2, ia C 5), (q3, ia C 7), (q4, ia C 7)] A s.heap H _ := hn
  refine n_putF (v := .ref q4) M hn 0 rfl rfl inq_4 tyX4 tyX4_ok nmX4 3 (by decide) tw_191 rfl rfl rfl rfl (Nat.le_of_ble_eq_true rfl) dX4_init_31 (fun H locs hn => ?_)
  have hn : N0 D [(h0, .inr (4, [.ref q1, .ref q2, .ref q3, .ref q4, .int 0, .int 0, .int 0])), (q1, ia C 5), (q2, ia C 5), (q3, ia C 7), (q4, ia C 7)] A s.heap H locs := hn
  subst hAe
  exact n_ret M (fun i => [0, q1, q2, q3, q4].getD i 0) hn rfl (Nat.le_of_ble_eq_true rfl) (Nat.le_of_ble_eq_true rfl) dX4_init_34
theorem miX4_init : MI yX4_init cX4_init 0 1 := ⟨tw_182, tw_53, tw_183, rfl, by decide +kernel⟩
theorem dX3_init_0 : decode cX3_init 0 = .ok (.aload_n 0, 1) := by decide +kernel
theorem dX3_init_1 : decode cX3_init 1 = .ok (.invokespecial 3, 3) := by decide +kernel
theorem dX3_init_4 : decode cX3_init 4 = .ok (.aload_n 0, 1) := by decide +kernel
theorem dX3_init_5 : decode cX3_init 5 = .ok (.iconst 5, 1) := by decide +kernel
theorem dX3_init_6 : decode cX3_init 6 = .ok (.newarray .int, 2) := by decide +kernel
theorem dX3_init_8 : decode cX3_init 8 = .ok (.putfield 9, 3) := by decide +kernel
theorem dX3_init_11 : decode cX3_init 11 = .ok (.aload_n 0, 1) := by decide +kernel
theorem dX3_init_12 : decode cX3_init 12 = .ok (.iconst 5, 1) := by decide +kernel
theorem dX3_init_13 : decode cX3_init 13 = .ok (.newarray .int, 2) := by decide +kernel
theorem dX3_init_15 : decode cX3_init 15 = .ok (.putfield 15, 3) := by decide +kernel
theorem dX3_init_18 : decode cX3_init 18 = .ok (.aload_n 0, 1) := by decide +kernel
theorem dX3_init_19 : decode cX3_init 19 = .ok (.bipush 7, 2) := by decide +kernel
theorem dX3_init_21 : decode cX3_init 21 = .ok (.newarray .int, 2) := by decide +kernel
theorem dX3_init_23 : decode cX3_init 23 = .ok (.putfield 18, 3) := by decide +kernel
theorem dX3_init_26 : decode cX3_init 26 = .ok (.aload_n 0, 1) := by decide +kernel
theorem dX3_init_27 : decode cX3_init 27 = .ok (.bipush 7, 2) := by decide +kernel
theorem dX3_init_29 : decode cX3_init 29 = .ok (.newarray .int, 2) := by decide +kernel
theorem dX3_init_31 : decode cX3_init 31 = .ok (.putfield 21, 3) := by decide +kernel
theorem dX3_init_34 : decode cX3_init 34 = .ok (.aload_n 0, 1) := by decide +kernel
theorem dX3_init_35 : decode cX3_init 35 = .ok (.bipush 100, 2) := by decide +kernel
theorem dX3_init_37 : decode cX3_init 37 = .ok (.newarray .boolean, 2) := by decide +kernel
theorem dX3_init_39 : decode cX3_init 39 = .ok (.putfield 24, 3) := by decide +kernel
theorem dX3_init_42 : decode cX3_init 42 = .ok (.aload_n 0, 1) := by decide +kernel
theorem dX3_init_43 : decode cX3_init 43 = .ok (.bipush 30, 2) := by decide +kernel
theorem dX3_init_45 : decode cX3_init 45 = .ok (.putfield 28, 3) := by decide +kernel
theorem dX3_init_48 : decode cX3_init 48 = .ok (.return_, 1) := by decide +kernel
def woX3_init (C : Nat → ClassId) (h0 : Nat) (q : Nat → Nat) : va_W := [(h0, .inr (3, [.ref (q 1), .ref (q 2), .ref (q 3), .ref (q 4), .ref (q 5), .int 0, .int 0, .int 0, .int 30, .int 0, .int 0])), ((q 1), ia C 5), ((q 2), ia C 5), ((q 3), ia C 7), ((q 4), ia C 7), ((q 5), ba C 100)]
set_option maxHeartbeats 4000000 in
set_option maxRecDepth 100000 in
theorem ctX3_init (l : Launch) (D : va_G) (C : Nat → ClassId) (h0 sz : Nat) : Met l yX3_init (Cond.code yX3_init cX3_init 1 none :: TB) { frames := 1, cells := 5, slots := 124, locals := 12 } (va_Pc [.ref h0] (PN D C E1 [(h0, .inr (3, [.null, .null, .null, .null, .null, .int 0, .int 0, .int 0, .int 0, .int 0, .int 0]))] sz)) (QN D [(h0, .inr (3, [.null, .null, .null, .null, .null, .int 0, .int 0, .int 0, .int 0, .int 0, .int 0]))] sz (woX3_init C h0)) 5 124 (va_A [(h0, .inr (3, [.null, .null, .null, .null, .null, .int 0, .int 0, .int 0, .int 0, .int 0, .int 0]))] sz) := by
  refine n_ent (by decide +kernel) rfl (Nat.le_of_ble_eq_true rfl) (fun p e s m below meth c ls A hsz hAe hA M hn hl _ => ?_)
  obtain ⟨hx, hb, hr, hml, hown, hlk, hT, hK, hin⟩ := id M
  refine lv_aload_n hx hb dX3_init_0 rfl (lv_at hl 0 rfl) ?_
  refine n_obj M tw_98 hl.1 rfl dX3_init_1 (Nat.le_of_ble_eq_true rfl) (Nat.le_of_ble_eq_true rfl) ?_
  refine lv_aload_n hx hb dX3_init_4 rfl (lv_at hl 0 rfl) ?_
  refine lv_iconst (v := 5) hx hb dX3_init_5 (by decide) ?_
  refine n_newi M hA hn 5 (by decide) rfl (Nat.le_of_ble_eq_true rfl) (Nat.le_of_ble_eq_true rfl) (Nat.le_of_ble_eq_true rfl) dX3_init_6 (fun q1 H hn => ?_)
  have hn : N0 D [(h0, .inr (3, [.null, .null, .null, .null, .null, .int 0, .int 0, .int 0, .int 0, .int 0, .int 0])), (q1, ia C 5)] A s.heap H _ := hn
  refine n_putF (v := .ref q1) M hn 0 rfl rfl inq_3 tyX3 tyX3_ok nmX3 0 (by decide) tw_99 rfl rfl rfl rfl (Nat.le_of_ble_eq_true rfl) dX3_init_8 (fun H locs hn => ?_)
  have hn : N0 D [(h0, .inr (3, [.ref q1, .null, .null, .null, .null, .int 0, .int 0, .int 0, .int 0, .int 0, .int 0])), (q1, ia C 5)] A s.heap H locs := hn
  refine lv_aload_n hx hb dX3_init_11 rfl (lv_at hl 0 rfl) ?_
  refine lv_iconst (v := 5) hx hb dX3_init_12 (by decide) ?_
  refine n_newi M hA hn 5 (by decide) rfl (Nat.le_of_ble_eq_true rfl) (Nat.le_of_ble_eq_true rfl) (Nat.le_of_ble_eq_true rfl) dX3_init_13 (fun q2 H hn => ?_)
  have hn : N0 D [(h0, .inr (3, [.ref q1, .null, .null, .null, .null, .int 0, .int 0, .int 0, .int 0, .int 0, .int 0])), (q1, ia C 5), (q2, ia C 5)] A s.heap H _ := hn
  refine n_putF (v := .ref q2) M hn 0 rfl rfl inq_3 tyX3 tyX3_ok nmX3 1 (by decide) tw_102 rfl rfl rfl rfl (Nat.le_of_ble_eq_true rfl) dX3_init_15 (fun H locs hn => ?_)
  have hn : N0 D [(h0, .inr (3, [.ref q1, .ref q2, .null, .null, .null, .int 0, .int 0, .int 0, .int 0, .int 0, .int 0])), (q1, ia C 5), (q2, ia C 5)] A s.heap H locs := hn
  refine lv_aload_n hx hb dX3_init_18 rfl (lv_at hl 0 rfl) ?_
  refine lv_bipush (v := 7) hx hb dX3_init_19 (by decide) ?_
  refine n_newi M hA hn 7 (by decide) rfl (Nat.le_of_ble_eq_true rfl) (Nat.le_of_ble_eq_true rfl) (Nat.le_of_ble_eq_true rfl) dX3_init_21 (fun q3 H hn => ?_)
  have hn : N0 D [(h0, .inr (3, [.ref q1, .ref q2, .null, .null, .null, .int 0, .int 0, .int 0, .int 0, .int 0, .int 0])), (q1, ia C 5), (q2, ia C 5), (q3, ia C 7)] A s.heap H _ := hn
  refine n_putF (v := .ref q3) M hn 0 rfl rfl inq_3 tyX3 tyX3_ok nmX3 2 (by decide) tw_105 rfl rfl rfl rfl (Nat.le_of_ble_eq_true rfl) dX3_init_23 (fun H locs hn => ?_)
  have hn : N0 D [(h0, .inr (3, [.ref q1, .ref q2, .ref q3, .null, .null, .int 0, .int 0, .int 0, .int 0, .int 0, .int 0])), (q1, ia C 5), (q2, ia C 5), (q3, ia C 7)] A s.heap H locs := hn
  refine lv_aload_n hx hb dX3_init_26 rfl (lv_at hl 0 rfl) ?_
  refine lv_bipush (v := 7) hx hb dX3_init_27 (by decide) ?_
  refine n_newi M hA hn 7 (by decide) rfl (Nat.le_of_ble_eq_true rfl) (Nat.le_of_ble_eq_true rfl) (Nat.le_of_ble_eq_true rfl) dX3_init_29 (fun q4 H hn => ?_)
  have hn : N0 D [(h0, .inr (3, [.ref q1, .ref q2, .ref q3, .null, .null, .int 0, .int 0, .int 0, .int 0, .int 0, .int 0])), (q1, ia C 5), (q2, ia C 5), (q3, ia C 7), (q4, ia C 7)] A s.heap H _ := hn
  refine n_putF (v := .ref q4) M hn 0 rfl rfl inq_3 tyX3 tyX3_ok nmX3 3 (by decide) tw_108 rfl rfl rfl rfl (Nat.le_of_ble_eq_true rfl) dX3_init_31 (fun H locs hn => ?_)
  have hn : N0 D [(h0, .inr (3, [.ref q1, .ref q2, .ref q3, .ref q4, .null, .int 0, .int 0, .int 0, .int 0, .int 0, .int 0])), (q1, ia C 5), (q2, ia C 5), (q3, ia C 7), (q4, ia C 7)] A s.heap H locs := hn
  refine lv_aload_n hx hb dX3_init_34 rfl (lv_at hl 0 rfl) ?_
  refine lv_bipush (v := 100) hx hb dX3_init_35 (by decide) ?_
  refine n_newz M hA hn 100 (by decide) rfl (Nat.le_of_ble_eq_true rfl) (Nat.le_of_ble_eq_true rfl) (Nat.le_of_ble_eq_true rfl) dX3_init_37 (fun q5 H hn => ?_)
  have hn : N0 D [(h0, .inr (3, [.ref q1, .ref q2, .ref q3, .ref q4, .null, .int 0, .int 0, .int 0, .int 0, .int 0, .int 0])), (q1, ia C 5), (q2, ia C 5), (q3, ia C 7), (q4, ia C 7), (q5, ba C 100)] A s.heap H _ := hn
  refine n_putF (v := .ref q5) M hn 0 rfl rfl inq_3 tyX3 tyX3_ok nmX3 4 (by decide) tw_112 rfl rfl rfl rfl (Nat.le_of_ble_eq_true rfl) dX3_init_39 (fun H locs hn => ?_)
  have hn : N0 D [(h0, .inr (3, [.ref q1, .ref q2, .ref q3, .ref q4, .ref q5, .int 0, .int 0, .int 0, .int 0, .int 0, .int 0])), (q1, ia C 5), (q2, ia C 5), (q3, ia C 7), (q4, ia C 7), (q5, ba C 100)] A s.heap H locs := hn
  refine lv_aload_n hx hb dX3_init_42 rfl (lv_at hl 0 rfl) ?_
  refine lv_bipush (v := 30) hx hb dX3_init_43 (by decide) ?_
  refine n_put (v := .int 30) M hn 0 rfl rfl inq_3 tyX3 tyX3_ok nmX3 8 (by decide) tw_126 rfl rfl rfl (Nat.le_of_ble_eq_true rfl) dX3_init_45 (fun H locs hn => ?_)
  have hn : N0 D [(h0, .inr (3, [.ref q1, .ref q2, .ref q3, .ref q4, .ref q5, .int 0, .int 0, .int 0, .int 30, .int 0, .int 0])), (q1, ia C 5), (q2, ia C 5), (q3, ia C 7), (q4, ia C 7), (q5, ba C 100)] A s.heap H locs := hn
  subst hAe
  exact n_ret M (fun i => [0, q1, q2, q3, q4, q5].getD i 0) hn rfl (Nat.le_of_ble_eq_true rfl) (Nat.le_of_ble_eq_true rfl) dX3_init_48
theorem miX3_init : MI yX3_init cX3_init 0 1 := ⟨tw_96, tw_51, tw_97, rfl, by decide +kernel⟩
theorem dX1_init_0 : decode cX1_init 0 = .ok (.aload_n 0, 1) := by decide +kernel
theorem dX1_init_1 : decode cX1_init 1 = .ok (.invokespecial 3, 3) := by decide +kernel
theorem dX1_init_4 : decode cX1_init 4 = .ok (.aload_n 0, 1) := by decide +kernel
theorem dX1_init_5 : decode cX1_init 5 = .ok (.bipush 6, 2) := by decide +kernel
theorem dX1_init_7 : decode cX1_init 7 = .ok (.newarray .int, 2) := by decide +kernel
theorem dX1_init_9 : decode cX1_init 9 = .ok (.putfield 9, 3) := by decide +kernel
theorem dX1_init_12 : decode cX1_init 12 = .ok (.aload_n 0, 1) := by decide +kernel
theorem dX1_init_13 : decode cX1_init 13 = .ok (.bipush 6, 2) := by decide +kernel
theorem dX1_init_15 : decode cX1_init 15 = .ok (.newarray .int, 2) := by decide +kernel
theorem dX1_init_17 : decode cX1_init 17 = .ok (.putfield 15, 3) := by decide +kernel
theorem dX1_init_20 : decode cX1_init 20 = .ok (.aload_n 0, 1) := by decide +kernel
theorem dX1_init_21 : decode cX1_init 21 = .ok (.bipush 6, 2) := by decide +kernel
theorem dX1_init_23 : decode cX1_init 23 = .ok (.newarray .int, 2) := by decide +kernel
theorem dX1_init_25 : decode cX1_init 25 = .ok (.putfield 18, 3) := by decide +kernel
theorem dX1_init_28 : decode cX1_init 28 = .ok (.return_, 1) := by decide +kernel
def woX1_init (C : Nat → ClassId) (h0 : Nat) (q : Nat → Nat) : va_W := [(h0, .inr (1, [.ref (q 1), .ref (q 2), .ref (q 3), .int 0])), ((q 1), ia C 6), ((q 2), ia C 6), ((q 3), ia C 6)]
set_option maxHeartbeats 4000000 in
set_option maxRecDepth 100000 in
theorem ctX1_init (l : Launch) (D : va_G) (C : Nat → ClassId) (h0 sz : Nat) : Met l yX1_init (Cond.code yX1_init cX1_init 1 none :: TB) { frames := 1, cells := 3, slots := 18, locals := 12 } (va_Pc [.ref h0] (PN D C E1 [(h0, .inr (1, [.null, .null, .null, .int 0]))] sz)) (QN D [(h0, .inr (1, [.null, .null, .null, .int 0]))] sz (woX1_init C h0)) 3 18 (va_A [(h0, .inr (1, [.null, .null, .null, .int 0]))] sz) := by
  refine n_ent (by decide +kernel) rfl (Nat.le_of_ble_eq_true rfl) (fun p e s m below meth c ls A hsz hAe hA M hn hl _ => ?_)
  obtain ⟨hx, hb, hr, hml, hown, hlk, hT, hK, hin⟩ := id M
  refine lv_aload_n hx hb dX1_init_0 rfl (lv_at hl 0 rfl) ?_
  refine n_obj M tw_239 hl.1 rfl dX1_init_1 (Nat.le_of_ble_eq_true rfl) (Nat.le_of_ble_eq_true rfl) ?_
  refine lv_aload_n hx hb dX1_init_4 rfl (lv_at hl 0 rfl) ?_
  refine lv_bipush (v := 6) hx hb dX1_init_5 (by decide) ?_
  refine n_newi M hA hn 6 (by decide) rfl (Nat.le_of_ble_eq_true rfl) (Nat.le_of_ble_eq_true rfl) (Nat.le_of_ble_eq_true rfl) dX1_init_7 (fun q1 H hn => ?_)
  have hn : N0 D [(h0, .inr (1, [.null, .null, .null, .int 0])), (q1, ia C 6)] A s.heap H _ := hn
  refine n_putF (v := .ref q1) M hn 0 rfl rfl inq_1 tyX1 tyX1_ok nmX1 0 (by decide) tw_240 rfl rfl rfl rfl (Nat.le_of_ble_eq_true rfl) dX1_init_9 (fun H locs hn => ?_)
  have hn : N0 D [(h0, .inr (1, [.ref q1, .null, .null, .int 0])), (q1, ia C 6)] A s.heap H locs := hn
  refine lv_aload_n hx hb dX1_init_12 rfl (lv_at hl 0 rfl) ?_
  refine lv_bipush (v := 6) hx hb dX1_init_13 (by decide) ?_
  refine n_newi M hA hn 6 (by decide) rfl (Nat.le_of_ble_eq_true rfl) (Nat.le_of_ble_eq_true rfl) (Nat.le_of_ble_eq_true rfl) dX1_init_15 (fun q2 H hn => ?_)
  have hn : N0 D [(h0, .inr (1, [.ref q1, .null, .null, .int 0])), (q1, ia C 6), (q2, ia C 6)] A s.heap H _ := hn
  refine n_putF (v := .ref q2) M hn 0 rfl rfl inq_1 tyX1 tyX1_ok nmX1 1 (by decide) tw_242 rfl rfl rfl rfl (Nat.le_of_ble_eq_true rfl) dX1_init_17 (fun H locs hn => ?_)
  have hn : N0 D [(h0, .inr (1, [.ref q1, .ref q2, .null, .int 0])), (q1, ia C 6), (q2, ia C 6)] A s.heap H locs := hn
  refine lv_aload_n hx hb dX1_init_20 rfl (lv_at hl 0 rfl) ?_
  refine lv_bipush (v := 6) hx hb dX1_init_21 (by decide) ?_
  refine n_newi M hA hn 6 (by decide) rfl (Nat.le_of_ble_eq_true rfl) (Nat.le_of_ble_eq_true rfl) (Nat.le_of_ble_eq_true rfl) dX1_init_23 (fun q3 H hn => ?_)
  have hn : N0 D [(h0, .inr (1, [.ref q1, .ref q2, .null, .int 0])), (q1, ia C 6), (q2, ia C 6), (q3, ia C 6)] A s.heap H _ := hn
  refine n_putF (v := .ref q3) M hn 0 rfl rfl inq_1 tyX1 tyX1_ok nmX1 2 (by decide) tw_244 rfl rfl rfl rfl (Nat.le_of_ble_eq_true rfl) dX1_init_25 (fun H locs hn => ?_)
  have hn : N0 D [(h0, .inr (1, [.ref q1, .ref q2, .ref q3, .int 0])), (q1, ia C 6), (q2, ia C 6), (q3, ia C 6)] A s.heap H locs := hn
  subst hAe
  exact n_ret M (fun i => [0, q1, q2, q3].getD i 0) hn rfl (Nat.le_of_ble_eq_true rfl) (Nat.le_of_ble_eq_true rfl) dX1_init_28
theorem miX1_init : MI yX1_init cX1_init 0 1 := ⟨tw_237, tw_55, tw_238, rfl, by decide +kernel⟩
theorem dX5_init_0 : decode cX5_init 0 = .ok (.aload_n 0, 1) := by decide +kernel
theorem dX5_init_1 : decode cX5_init 1 = .ok (.invokespecial 3, 3) := by decide +kernel
theorem dX5_init_4 : decode cX5_init 4 = .ok (.aload_n 0, 1) := by decide +kernel
theorem dX5_init_5 : decode cX5_init 5 = .ok (.sipush 200, 3) := by decide +kernel
theorem dX5_init_8 : decode cX5_init 8 = .ok (.newarray .char, 2) := by decide +kernel
theorem dX5_init_10 : decode cX5_init 10 = .ok (.putfield 9, 3) := by decide +kernel
theorem dX5_init_13 : decode cX5_init 13 = .ok (.return_, 1) := by decide +kernel
def woX5_init (C : Nat → ClassId) (h0 : Nat) (q : Nat → Nat) : va_W := [(h0, .inr (5, [.ref (q 1), .int 0, .int 0, .int 0, .int 0, .int 0])), ((q 1), ca C 200)]
set_option maxHeartbeats 4000000 in
set_option maxRecDepth 100000 in
theorem ctX5_init (l : Launch) (D : va_G) (C : Nat → ClassId) (h0 sz : Nat) : Met l yX5_init (Cond.code yX5_init cX5_init 1 none :: TB) { frames := 1, cells := 1, slots := 200, locals := 12 } (va_Pc [.ref h0] (PN D C E1 [(h0, .inr (5, [.null, .int 0, .int 0, .int 0, .int 0, .int 0]))] sz)) (QN D [(h0, .inr (5, [.null, .int 0, .int 0, .int 0, .int 0, .int 0]))] sz (woX5_init C h0)) 1 200 (va_A [(h0, .inr (5, [.null, .int 0, .int 0, .int 0, .int 0, .int 0]))] sz) := by
  refine n_ent (by decide +kernel) rfl (Nat.le_of_ble_eq_true rfl) (fun p e s m below meth c ls A hsz hAe hA M hn hl _ => ?_)
  obtain ⟨hx, hb, hr, hml, hown, hlk, hT, hK, hin⟩ := id M
  refine lv_aload_n hx hb dX5_init_0 rfl (lv_at hl 0 rfl) ?_
  refine n_obj M tw_71 hl.1 rfl dX5_init_1 (Nat.le_of_ble_eq_true rfl) (Nat.le_of_ble_eq_true rfl) ?_
  refine lv_aload_n hx hb dX5_init_4 rfl (lv_at hl 0 rfl) ?_
  refine lv_sipush (v := 200) hx hb dX5_init_5 (by decide) ?_
  refine n_newc M hA hn 200 (by decide) rfl (Nat.le_of_ble_eq_true rfl) (Nat.le_of_ble_eq_true rfl) (Nat.le_of_ble_eq_true rfl) dX5_init_8 (fun q1 H hn => ?_)
  have hn : N0 D [(h0, .inr (5, [.null, .int 0, .int 0, .int 0, .int 0, .int 0])), (q1, ca C 200)] A s.heap H _ := hn
  refine n_putF (v := .ref q1) M hn 0 rfl rfl inq_5 tyX5 tyX5_ok nmX5 0 (by decide) tw_72 rfl rfl rfl rfl (Nat.le_of_ble_eq_true rfl) dX5_init_10 (fun H locs hn => ?_)
  have hn : N0 D [(h0, .inr (5, [.ref q1, .int 0, .int 0, .int 0, .int 0, .int 0])), (q1, ca C 200)] A s.heap H locs := hn
  subst hAe
  exact n_ret M (fun i => [0, q1].getD i 0) hn rfl (Nat.le_of_ble_eq_true rfl) (Nat.le_of_ble_eq_true rfl) dX5_init_13
theorem miX5_init : MI yX5_init cX5_init 0 1 := ⟨tw_69, tw_50, tw_70, rfl, by decide +kernel⟩
theorem dX0_init_0 : decode cX0_init 0 = .ok (.aload_n 0, 1) := by decide +kernel
theorem dX0_init_1 : decode cX0_init 1 = .ok (.invokespecial 3, 3) := by decide +kernel
theorem dX0_init_4 : decode cX0_init 4 = .ok (.aload_n 0, 1) := by decide +kernel
theorem dX0_init_5 : decode cX0_init 5 = .ok (.sipush 3904, 3) := by decide +kernel
theorem dX0_init_8 : decode cX0_init 8 = .ok (.newarray .int, 2) := by decide +kernel
theorem dX0_init_10 : decode cX0_init 10 = .ok (.putfield 11, 3) := by decide +kernel
theorem dX0_init_13 : decode cX0_init 13 = .ok (.aload_n 0, 1) := by decide +kernel
theorem dX0_init_14 : decode cX0_init 14 = .ok (.bipush 60, 2) := by decide +kernel
theorem dX0_init_16 : decode cX0_init 16 = .ok (.newarray .int, 2) := by decide +kernel
theorem dX0_init_18 : decode cX0_init 18 = .ok (.putfield 15, 3) := by decide +kernel
theorem dX0_init_21 : decode cX0_init 21 = .ok (.return_, 1) := by decide +kernel
def woX0_init (C : Nat → ClassId) (h0 : Nat) (q : Nat → Nat) : va_W := [(h0, .inr (0, [.ref (q 1), .ref (q 2), .int 0, .int 0])), ((q 1), ia C 3904), ((q 2), ia C 60)]
set_option maxHeartbeats 4000000 in
set_option maxRecDepth 100000 in
theorem ctX0_init (l : Launch) (D : va_G) (C : Nat → ClassId) (h0 sz : Nat) : Met l yX0_init (Cond.code yX0_init cX0_init 1 none :: TB) { frames := 1, cells := 2, slots := 3964, locals := 12 } (va_Pc [.ref h0] (PN D C E1 [(h0, .inr (0, [.null, .null, .int 0, .int 0]))] sz)) (QN D [(h0, .inr (0, [.null, .null, .int 0, .int 0]))] sz (woX0_init C h0)) 2 3964 (va_A [(h0, .inr (0, [.null, .null, .int 0, .int 0]))] sz) := by
  refine n_ent (by decide +kernel) rfl (Nat.le_of_ble_eq_true rfl) (fun p e s m below meth c ls A hsz hAe hA M hn hl _ => ?_)
  obtain ⟨hx, hb, hr, hml, hown, hlk, hT, hK, hin⟩ := id M
  refine lv_aload_n hx hb dX0_init_0 rfl (lv_at hl 0 rfl) ?_
  refine n_obj M tw_164 hl.1 rfl dX0_init_1 (Nat.le_of_ble_eq_true rfl) (Nat.le_of_ble_eq_true rfl) ?_
  refine lv_aload_n hx hb dX0_init_4 rfl (lv_at hl 0 rfl) ?_
  refine lv_sipush (v := 3904) hx hb dX0_init_5 (by decide) ?_
  refine n_newi M hA hn 3904 (by decide) rfl (Nat.le_of_ble_eq_true rfl) (Nat.le_of_ble_eq_true rfl) (Nat.le_of_ble_eq_true rfl) dX0_init_8 (fun q1 H hn => ?_)
  have hn : N0 D [(h0, .inr (0, [.null, .null, .int 0, .int 0])), (q1, ia C 3904)] A s.heap H _ := hn
  refine n_putF (v := .ref q1) M hn 0 rfl rfl inq_0 tyX0 tyX0_ok nmX0 0 (by decide) tw_165 rfl rfl rfl rfl (Nat.le_of_ble_eq_true rfl) dX0_init_10 (fun H locs hn => ?_)
  have hn : N0 D [(h0, .inr (0, [.ref q1, .null, .int 0, .int 0])), (q1, ia C 3904)] A s.heap H locs := hn
  refine lv_aload_n hx hb dX0_init_13 rfl (lv_at hl 0 rfl) ?_
  refine lv_bipush (v := 60) hx hb dX0_init_14 (by decide) ?_
  refine n_newi M hA hn 60 (by decide) rfl (Nat.le_of_ble_eq_true rfl) (Nat.le_of_ble_eq_true rfl) (Nat.le_of_ble_eq_true rfl) dX0_init_16 (fun q2 H hn => ?_)
  have hn : N0 D [(h0, .inr (0, [.ref q1, .null, .int 0, .int 0])), (q1, ia C 3904), (q2, ia C 60)] A s.heap H _ := hn
  refine n_putF (v := .ref q2) M hn 0 rfl rfl inq_0 tyX0 tyX0_ok nmX0 1 (by decide) tw_166 rfl rfl rfl rfl (Nat.le_of_ble_eq_true rfl) dX0_init_18 (fun H locs hn => ?_)
  have hn : N0 D [(h0, .inr (0, [.ref q1, .ref q2, .int 0, .int 0])), (q1, ia C 3904), (q2, ia C 60)] A s.heap H locs := hn
  subst hAe
  exact n_ret M (fun i => [0, q1, q2].getD i 0) hn rfl (Nat.le_of_ble_eq_true rfl) (Nat.le_of_ble_eq_true rfl) dX0_init_21
theorem miX0_init : MI yX0_init cX0_init 0 1 := ⟨tw_162, tw_52, tw_163, rfl, by decide +kernel⟩
