/-! the law from its entry to its loop -/
section
variable {p : Program} {l : Launch} {e : Env} {R : Room} {s : State} {m : MethodId} {args : Array Value} {below : List Frame} {meth : Method} {c : Code} {H : Heap} {locs : List Loc} {cells slots mc ms : Nat} {Q : State → Prop}
variable {cc : ByteArray} {pc nL : Nat} {ls : Array Slot} {rest st As : List Value} {A : Nat → Prop} {H0 : Heap} {D : va_G} {C : Nat → ClassId} {ws : va_W} {own : String} {E : State → Prop} {y : MethodName} {b : ByteArray} {nL' n fr lo index bq : Nat}
theorem n_callG {S9 : Type} {Pq : S9 → Prop} {wo : S9 → va_W} (hx : p.tables.exec = Jvm.exec) (hb : c.code = cc) (hmx : c.maxLocals = nL) (hown : s.vm.findClass own = some m.cls) (hT : ∀ w ∈ TB, w.before args s = true) (hK : va_K D vwCl (tyC C) s) (hA : ∀ q, H0.size ≤ q → A q) (hn : N0 D ws A H0 H locs) (hEB : EB E) (hE : E s) (hM : Met l y (Cond.code y b nL' none :: TB) { frames := fr, cells := mc, slots := ms, locals := lo } (va_Pc (.ref bq :: As) (PN D C E ws H.size)) (va_Qv Pq (fun u t => va_P D vwCl (wo u) t.heap ∧ va_D (va_A ws H.size) (wo u)) (va_A ws H.size)) mc ms (va_A ws H.size)) (hmi : MI y b n nL')
    (hml' : Cond.methodLink own index y ∈ TB) (hln : As.length = n) (hls : ls.size = nL) (hst : st = As.reverse ++ .ref bq :: rest) (hrm : (rest.map fun v => v.category).sum ≤ 8) (hRm : fr + 1 ≤ R.frames ∧ 8 + (nL' + 11) + lo ≤ R.locals) (hcs : cells + mc ≤ R.cells ∧ slots + ms ≤ R.slots) (hdg : decode cc pc = .ok (.invokespecial index, 3))
    (kk : ∀ (u : S9) (H1 : Heap) (locs1 : List Loc), Pq u → N0 D (wo u) A H0 H1 locs1 → W p l e R s m args below meth c H1 locs1 (cells + mc) (slots + ms) Q (F0 m (pc + 3) ls rest)) : W p l e R s m args below meth c H locs cells slots Q (F0 m pc ls st) := by
  obtain ⟨b1, b2, b3, b4, b5⟩ := hmi
  have hFc : ∀ q, va_A ws H.size q → A q := by
    rintro q (⟨k, e, h⟩ | h)
    · exact hn.2.1.2 k _ h
    · exact hA q (Nat.le_trans hn.2.2.1 h)
  refine va_callv (va_runI (As := As) (rest := rest) ⟨hx, hb, hmx, hown, hT⟩ hM (cwI n hT (gdT (fun w h => ?_)) rfl rfl rfl (hT _ b2) (hT _ hml') (hT _ b1) b4 b5 hRm) ⟨fun a U g mk q => ?_, fun U hU hW => ⟨rfl, by rw [hU], by rw [hU]; exact hn.1, va_K.moved hW.alike hK, hn.2.1.weaken (fun _ _ _ _ => trivial), hEB.2 s U hW hE⟩⟩ rfl hln hls hst (lv_room hrm) hdg hcs) hn.2.2 (fun q _ h => hFc q h) hFc (fun u t H1 locs1 ht hvm hw hB hz1 hk1 hS => ?_)
  · rcases List.mem_cons.mp h with rfl | h
    · exact b3
    · exact h
  · obtain ⟨q0, q1, qP, qK, qD, qE⟩ := q
    exact ⟨q0, q1, qP, va_K.moved (u := U) (U := U.calling g mk a) (Vm.Alike.refl U.vm) qK, qD, hEB.1 U _ rfl qE⟩
  · obtain ⟨hP1, hD1⟩ := hB
    rw [ht] at hP1
    exact kk u H1 locs1 hw ⟨hP1, hD1.weaken (fun _ q _ h => hFc q.1 h), hS⟩
end
theorem nw_X5 : Cond.methodLinkNest "MoonRights" 9 yX5_init "MoonRights" ∈ lw_tbl := List.mem_of_getElem? (i := 68) (by decide +kernel)
theorem nw_X3 : Cond.methodLinkNest "MoonRights" 18 yX3_init "MoonRights" ∈ lw_tbl := List.mem_of_getElem? (i := 95) (by decide +kernel)
theorem nw_X0 : Cond.methodLinkNest "MoonRights" 28 yX0_init "MoonRights" ∈ lw_tbl := List.mem_of_getElem? (i := 161) (by decide +kernel)
theorem nw_X4 : Cond.methodLinkNest "MoonRights" 35 yX4_init "MoonRights" ∈ lw_tbl := List.mem_of_getElem? (i := 181) (by decide +kernel)
theorem nw_X1 : Cond.methodLinkNest "MoonRights" 57 yX1_init "MoonRights" ∈ lw_tbl := List.mem_of_getElem? (i := 236) (by decide +kernel)
theorem nw_AO : Cond.arrayOver (.object "MoonRights$Standing") ∈ lw_tbl := List.mem_of_getElem? (i := 221) (by decide +kernel)
theorem nw_H : Cond.methodLinkNest "MoonRights$History" 17 yX4_init "MoonRights" ∈ lw_tbl := List.mem_of_getElem? (i := 222) (by decide +kernel)
theorem st_E6 {s : State} {a : Array Value} (hts : ∀ w ∈ lw_tbl, w.before a s = true) : E6 s := ⟨⟨va_AO.of (hts _ nw_AO), va_Nw.of rfl (hts _ nw_H)⟩, va_Nw.of rfl (hts _ nw_X5), va_Nw.of rfl (hts _ nw_X3), va_Nw.of rfl (hts _ nw_X0), va_Nw.of rfl (hts _ nw_X4), va_Nw.of rfl (hts _ nw_X1)⟩
theorem st_D {s : State} {a : Array Value} (hT : ∀ w ∈ TB, w.before a s = true) : ∃ D : va_G, ∀ (k : Nat) (q : vw_C), vwCl[k]? = some q → u_Kn s q.1 q.2.1 q.2.2 (D.1 k) (D.2 k) := by
  obtain ⟨c0, i0, k0⟩ := u_known hT inq_0 (hT _ tw_160)
  obtain ⟨c1, i1, k1⟩ := u_known hT inq_1 (hT _ tw_235)
  obtain ⟨c2, i2, k2⟩ := u_known hT inq_2 (hT _ tw_215)
  obtain ⟨c3, i3, k3⟩ := u_known hT inq_3 (hT _ tw_94)
  obtain ⟨c4, i4, k4⟩ := u_known hT inq_4 (hT _ tw_180)
  obtain ⟨c5, i5, k5⟩ := u_known hT inq_5 (hT _ tw_67)
  obtain ⟨c6, i6, k6⟩ := u_known hT inq_6 (hT _ tw_59)
  obtain ⟨c7, i7, k7⟩ := u_known hT inq_7 (hT _ tw_622)
  refine ⟨(fun k => match k with | 0 => c0 | 1 => c1 | 2 => c2 | 3 => c3 | 4 => c4 | 5 => c5 | 6 => c6 | _ => c7, fun k => match k with | 0 => i0 | 1 => i1 | 2 => i2 | 3 => i3 | 4 => i4 | 5 => i5 | 6 => i6 | _ => i7), ?_⟩
  intro k q hq
  match k, hq with
  | 0, hq => cases hq; exact k0
  | 1, hq => cases hq; exact k1
  | 2, hq => cases hq; exact k2
  | 3, hq => cases hq; exact k3
  | 4, hq => cases hq; exact k4
  | 5, hq => cases hq; exact k5
  | 6, hq => cases hq; exact k6
  | 7, hq => cases hq; exact k7
  | k + 8, hq => simp [vwCl] at hq
theorem st_C {s : State} {a : Array Value} (hts : ∀ w ∈ lw_tbl, w.before a s = true) : ∃ C : Nat → ClassId, ∀ (k : Nat) (q : ClassId × FieldType), (tyC C)[k]? = some q → ArrOfT s q.1 q.2 ∧ va_RA s q.1 q.2 := by
  obtain ⟨cI, kI, pI, f1, f2, f3⟩ := Cond.arrayClass_spec (hts _ (tb_sub _ tw_157))
  obtain ⟨cB, kB, pB, g1, g2, g3⟩ := Cond.arrayClass_spec (hts _ (tb_sub _ tw_158))
  obtain ⟨cC, kC, pC, h1, h2, h3⟩ := Cond.arrayClass_spec (hts _ (tb_sub _ tw_92))
  obtain ⟨pS, cS, kS, j1, j2, j3, j4, j5⟩ := Cond.arrayOver_spec (hts _ nw_AO)
  have zI : ArrOfT s cI .int ∧ va_RA s cI .int := ⟨fun n z => ⟨fun k h => (by cases h), kI, f2, pI, f3⟩, f1⟩
  have zB : ArrOfT s cB .boolean ∧ va_RA s cB .boolean := ⟨fun n z => ⟨fun k h => (by cases h), kB, g2, pB, g3⟩, g1⟩
  have zC : ArrOfT s cC .char ∧ va_RA s cC .char := ⟨fun n z => ⟨fun k h => (by cases h), kC, h2, pC, h3⟩, h1⟩
  have zS : ArrOfT s cS (.object "MoonRights$Standing") ∧ va_RA s cS (.object "MoonRights$Standing") := ⟨fun n z => ⟨fun k h => (by cases h), kS, j3, pS, j4⟩, kS, pS, j3, j4, j1, j5⟩
  refine ⟨fun k => match k with | 0 => cI | 1 => cB | 2 => cC | _ => cS, ?_⟩
  intro k q hq
  match k, hq with
  | 0, hq => cases hq; exact zI
  | 1, hq => cases hq; exact zB
  | 2, hq => cases hq; exact zC
  | 3, hq => cases hq; exact zS
  | k + 4, hq => simp [tyC] at hq
set_option maxHeartbeats 4000000 in
set_option maxRecDepth 100000 in
theorem whole_start {p : Program} {e : Env} {s : State} {m : MethodId} {below : List Frame} {meth : Method} {c : Code} (l : Launch) (hflags : l.flags = flags0) {b L : Nat} {xs : Nat → Int32} (hL : L ≤ 256) (C0 : lw_At p s m meth c b L xs) : W p l e room_1 s m #[Value.ref b] below meth c s.heap [] 0 0 (lw_Z below #[Value.ref b] s) (entryFrame m ([Value.ref b] : List Value).toArray 4) := by
  obtain ⟨hx, hb, hr, hml, hown, hts, hX, hbl, hlocks, hgv⟩ := id C0
  have hA : ∀ q : Nat, s.heap.size ≤ q → (fun q : Nat => s.heap.size ≤ q) q := fun _ h => h
  have hT : ∀ w ∈ TB, w.before #[Value.ref b] s = true := fun w h => hts w (tb_sub w h)
  have hE : E6 s := st_E6 hts
  obtain ⟨D, hKc⟩ := st_D hT
  obtain ⟨C, hCt⟩ := st_C hts
  have hK : va_K D vwCl (tyC C) s := ⟨hKc, hCt⟩
  have hn : N0 D [] (fun q : Nat => s.heap.size ≤ q) s.heap s.heap [] := ⟨fun k q h => by simp at h, ⟨fun i j p q h => by simp at h, fun k q h => by simp at h⟩, va_S.rf⟩
  have hl := lv_entry ([.ref b]) (n := 4) (Nat.le_of_ble_eq_true rfl)
  rw [lg_entry_eq]
  generalize (lg_sl ([.ref b]) ++ List.replicate (4 - (lg_sl ([.ref b])).length) Slot.unset).toArray = ls at hl ⊢
  have hl : lv_has ls 4 [(0, .ref b)] := hl
  refine va_new (ci := 6) (fs := [.null, .null, .null, .null, .null, .null, .null, .null, .null, .null, .long 0]) hx hb hT inq_6 tyX6 tyX6_ok hown (hT _ tw_58) (hT _ tw_59) (hT _ tw_49) hK hn.1 hn.2.1 hn.2.2 hA rfl (by decide) (Nat.le_of_ble_eq_true rfl) (Nat.le_of_ble_eq_true rfl) dL_law_0 (fun q0 H hP hD hS => ?_)
  have hn : N0 D [(q0, .inr (6, [.null, .null, .null, .null, .null, .null, .null, .null, .null, .null, .long 0]))] (fun q : Nat => s.heap.size ≤ q) s.heap H [] := ⟨hP, hD, hS⟩
  refine lv_dup hx hb dL_law_3 rfl ?_
  refine n_callG (Pq := fun u : (Nat → Nat) × St => u.1 0 = q0 ∧ ∃ σ1, BZ σ1 ∧ u.2 = σ23 σ1) (wo := fun u => wd (YF D C u.1 92) u.2) (rest := [.ref q0]) (As := []) hx hb hml hown hT hK hA hn eb6 hE (ctX6_init l D C q0 H.size) miX6_init tw_60 rfl hl.1 rfl (Nat.le_of_ble_eq_true rfl) ⟨(Nat.le_of_ble_eq_true rfl), (Nat.le_of_ble_eq_true rfl)⟩ ⟨(Nat.le_of_ble_eq_true rfl), (Nat.le_of_ble_eq_true rfl)⟩ dL_law_4 (fun u H locs hu hn => ?_)
  obtain ⟨q, σ⟩ := u
  obtain ⟨hq0, σ1, hz1, hσ⟩ := hu
  have hz : BZ σ := by rw [show σ = σ23 σ1 from hσ]; exact bz23 hz1
  have hn : N0 D (wd (YF D C q 92) σ) (fun q : Nat => s.heap.size ≤ q) s.heap H locs := hn
  refine lv_astore_n (lv' := [(1, .ref q0), (0, .ref b)]) hx hb dL_law_7 rfl hl (by decide) rfl (fun ls hl => ?_)
  refine va_new (ci := 7) (fs := [.int 0, .long 0, .null, .int 0, .int 0, .int 0, .int 0, .int 0, .int 0, .null, .int 0, .null, .null, .null, .null, .null, .null, .null, .null, .null, .int 0, .null, .null, .null, .int 0, .null]) hx hb hT inq_7 tyX7 tyX7_ok hown (hT _ tw_621) (hT _ tw_622) (hT _ tw_56) hK hn.1 hn.2.1 hn.2.2 hA rfl (by decide) (Nat.le_of_ble_eq_true rfl) (Nat.le_of_ble_eq_true rfl) dL_law_8 (fun q1 H hP hD hS => ?_)
  have hn : N0 D (wd (YF D C q 92) σ ++ [(q1, .inr (7, [.int 0, .long 0, .null, .int 0, .int 0, .int 0, .int 0, .int 0, .int 0, .null, .int 0, .null, .null, .null, .null, .null, .null, .null, .null, .null, .int 0, .null, .null, .null, .int 0, .null]))]) (fun q : Nat => s.heap.size ≤ q) s.heap H locs := ⟨hP, hD, hS⟩
  refine lv_dup hx hb dL_law_11 rfl ?_
  refine n_callG (Pq := fun u : (Nat → Nat) × St => u.1 0 = q 0 ∧ u.1 92 = q1 ∧ INV u.2) (wo := fun u => wd (YF D C u.1 108) u.2) (rest := [.ref q1]) (As := []) hx hb hml hown hT hK hA hn eb1 trivial (ctX7_init l D C q hz q1 H.size) miX7_init tw_623 rfl hl.1 rfl (Nat.le_of_ble_eq_true rfl) ⟨(Nat.le_of_ble_eq_true rfl), (Nat.le_of_ble_eq_true rfl)⟩ ⟨(Nat.le_of_ble_eq_true rfl), (Nat.le_of_ble_eq_true rfl)⟩ dL_law_12 (fun u H locs hu hn => ?_)
  obtain ⟨v, τ⟩ := u
  obtain ⟨hv0, hv1, hI⟩ := hu
  have hn : WS (YF D C v 108) (fun q : Nat => s.heap.size ≤ q) s.heap τ H locs := hn
  refine lv_astore_n (lv' := [(2, .ref q1), (1, .ref q0), (0, .ref b)]) hx hb dL_law_15 rfl hl (by decide) rfl (fun ls hl => ?_)
  refine lv_iconst (v := 0) hx hb dL_law_16 (by decide) ?_
  refine lv_istore_n (lv' := [(3, .int 0), (2, .ref q1), (1, .ref q0), (0, .ref b)]) hx hb dL_law_17 rfl hl (by decide) rfl (fun ls hl => ?_)
  refine W.widen (k := 600000) (n := 7302250) (Nat.le_of_ble_eq_true rfl) (Nat.le_of_ble_eq_true rfl) ?_
  exact law_loop hX hbl hL (L + 1) 0 (Nat.zero_le _) (by omega) (YF D C v 108) τ H locs ls ⟨hx, hb, hr, hml, hown, hlocks, hT, hK, c0s_B YF_c⟩ rfl YF_c hI hn (by rw [show yA (YF D C v 108) 0 = q0 from hv0.trans hq0, show yA (YF D C v 108) 92 = q1 from hv1]; exact lv_sub hl [3, 2, 1, 0] rfl)
