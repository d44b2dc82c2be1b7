/-! MoonRightsModel(): its contract -/
def Q108 (q u : Nat → Nat) (a : Nat) : Nat := if a < 92 then q a else u a
theorem q108_lo {q u : Nat → Nat} {a : Nat} (h : a < 92) : Q108 q u a = q a := if_pos h
def tl108 (C : Nat → ClassId) (q : Nat → Nat) (σ : St) : va_W := [(q 92, .inr (7, [.int (σ.1 92 0), .long σ.2.2, .ref (q 93), .int (σ.1 92 3), .int (σ.1 92 4), .int (σ.1 92 5), .int (σ.1 92 6), .int (σ.1 92 7), .int (σ.1 92 8), .ref (q 94), .int (σ.1 92 10), .ref (q 95), .ref (q 96), .ref (q 97), .ref (q 98), .ref (q 99), .ref (q 100), .ref (q 101), .ref (q 102), .ref (q 103), .int (σ.1 92 20), .ref (q 104), .ref (q 105), .ref (q 106), .int (σ.1 92 24), .ref (q 107)])), (q 93, .inl (C 0, 200, .inl (σ.1 93))), (q 94, .inl (C 0, 8, .inl (σ.1 94))), (q 95, .inl (C 0, 5, .inl (σ.1 95))), (q 96, .inl (C 0, 10, .inl (σ.1 96))), (q 97, .inl (C 0, 7, .inl (σ.1 97))), (q 98, .inl (C 0, 14, .inl (σ.1 98))), (q 99, .inl (C 1, 200, .inl (σ.1 99))), (q 100, .inl (C 0, 27, .inl (σ.1 100))), (q 101, .inl (C 0, 54, .inl (σ.1 101))), (q 102, .inl (C 1, 2, .inl (σ.1 102))), (q 103, .inl (C 0, 270, .inl (σ.1 103))), (q 104, .inl (C 0, 6, .inl (σ.1 104))), (q 105, .inl (C 0, 6, .inl (σ.1 105))), (q 106, .inl (C 0, 6, .inl (σ.1 106))), (q 107, .inl (C 0, 3904, .inl (σ.1 107)))]
set_option maxHeartbeats 4000000 in
set_option maxRecDepth 100000 in
theorem wd108 {D : va_G} {C : Nat → ClassId} {q u : Nat → Nat} {σ : St} : wd (YF D C (Q108 q u) 108) σ = wd (YF D C q 92) σ ++ tl108 C u σ := by
  have e : wd (YF D C (Q108 q u) 108) σ = (List.range (92 + 16)).map (fun i => (Q108 q u i, ce (YF D C (Q108 q u) 108) σ i)) := rfl
  rw [e, List.range_add, List.map_append, List.map_map]
  have e1 : (List.range 92).map (fun i => (Q108 q u i, ce (YF D C (Q108 q u) 108) σ i)) = wd (YF D C q 92) σ := by
    apply List.map_congr_left
    intro i hi
    have hi := List.mem_range.mp hi
    rw [q108_lo hi, ce_ext (Y := YF D C (Q108 q u) 108) (Y' := YF D C q 92) (σ := σ) (σ' := σ) kb92 rfl (fun a ha => q108_lo ha) (fun _ _ => rfl) rfl hi]
    rfl
  rw [e1]
  rfl
theorem tl108_0 {C : Nat → ClassId} {q : Nat → Nat} {σ : St} (h : ∀ i, 92 ≤ i → σ.1 i = fun _ => 0) (h2 : σ.2.2 = 0) : tl108 C q σ = [(q 92, .inr (7, [.int 0, .long 0, .ref (q 93), .int 0, .int 0, .int 0, .int 0, .int 0, .int 0, .ref (q 94), .int 0, .ref (q 95), .ref (q 96), .ref (q 97), .ref (q 98), .ref (q 99), .ref (q 100), .ref (q 101), .ref (q 102), .ref (q 103), .int 0, .ref (q 104), .ref (q 105), .ref (q 106), .int 0, .ref (q 107)])), (q 93, ia C 200), (q 94, ia C 8), (q 95, ia C 5), (q 96, ia C 10), (q 97, ia C 7), (q 98, ia C 14), (q 99, ba C 200), (q 100, ia C 27), (q 101, ia C 54), (q 102, ba C 2), (q 103, ia C 270), (q 104, ia C 6), (q 105, ia C 6), (q 106, ia C 6), (q 107, ia C 3904)] := by
  unfold tl108
  rw [h2, h 92 (by omega), h 93 (by omega), h 94 (by omega), h 95 (by omega), h 96 (by omega), h 97 (by omega), h 98 (by omega), h 99 (by omega), h 100 (by omega), h 101 (by omega), h 102 (by omega), h 103 (by omega), h 104 (by omega), h 105 (by omega), h 106 (by omega), h 107 (by omega)]
def Q7 (D : va_G) (C : Nat → ClassId) (h0 h92 : Nat) (wi : va_W) (sz : Nat) : Array Value → State → Outcome → State → Prop := va_Qv (fun u : (Nat → Nat) × St => u.1 0 = h0 ∧ u.1 92 = h92 ∧ INV u.2) (fun u t => va_P D vwCl (wd (YF D C u.1 108) u.2) t.heap ∧ va_D (va_A wi sz) (wd (YF D C u.1 108) u.2)) (va_A wi sz)
set_option maxHeartbeats 4000000 in
set_option maxRecDepth 100000 in
theorem ctX7_init (l : Launch) (D : va_G) (C : Nat → ClassId) (q0 : Nat → Nat) {σ : St} (hσ : BZ σ) (h0 sz : Nat) : Met l yX7_init (Cond.code yX7_init cX7_init 1 none :: TB) { frames := 1, cells := 15, slots := 4719, locals := 21 } (va_Pc [.ref h0] (PN D C E1 (wd (YF D C q0 92) σ ++ [(h0, .inr (7, [.int 0, .long 0, .null, .int 0, .int 0, .int 0, .int 0, .int 0, .int 0, .null, .int 0, .null, .null, .null, .null, .null, .null, .null, .null, .null, .int 0, .null, .null, .null, .int 0, .null]))]) sz)) (Q7 D C (q0 0) h0 (wd (YF D C q0 92) σ ++ [(h0, .inr (7, [.int 0, .long 0, .null, .int 0, .int 0, .int 0, .int 0, .int 0, .int 0, .null, .int 0, .null, .null, .null, .null, .null, .null, .null, .null, .null, .int 0, .null, .null, .null, .int 0, .null]))]) sz) 15 4719 (va_A (wd (YF D C q0 92) σ ++ [(h0, .inr (7, [.int 0, .long 0, .null, .int 0, .int 0, .int 0, .int 0, .int 0, .int 0, .null, .int 0, .null, .null, .null, .null, .null, .null, .null, .null, .null, .int 0, .null, .null, .null, .int 0, .null]))]) sz) := by
  have hz : ∀ i, 23 ≤ i → σ.1 i = fun _ => 0 := bz_hi hσ
  refine Met.ofW (cc := cX7_init) (maxL := 1) (ret := none) (by decide +kernel) rfl ?_
  intro p e s m args below meth c s₁ B hml hv
  obtain ⟨rfl, hsz, hP, hK, hD0, hE⟩ := hv
  have hts := atoms_spec (ws := Cond.code yX7_init cX7_init 1 none :: TB) B.pre
  have hl := lv_entry [.ref h0] (n := 1) (Nat.le_of_ble_eq_true rfl)
  rw [lg_entry_eq]
  subst hsz
  have M : M0 p s m #[Value.ref h0] meth c cX7_init 1 RX7 D C true := ⟨B.exec, B.bytes, B.returns, hml, findClass_of_methodNamed B.named, B.notSynchronized, fun w h => hts w (List.mem_cons_of_mem _ h), hK, fun _ => (name_of_methodNamed B.named B.method).1⟩
  obtain ⟨hx, hb, hr, hml, hown, hlk, hT, hK, hin⟩ := id M
  have hA : ∀ q, s.heap.size ≤ q → va_A (wd (YF D C q0 92) σ ++ [(h0, .inr (7, [.int 0, .long 0, .null, .int 0, .int 0, .int 0, .int 0, .int 0, .int 0, .null, .int 0, .null, .null, .null, .null, .null, .null, .null, .null, .null, .int 0, .null, .null, .null, .int 0, .null]))]) s.heap.size q := fun q h => Or.inr h
  have hn0 : N0 D (wd (YF D C q0 92) σ ++ [(h0, .inr (7, [.int 0, .long 0, .null, .int 0, .int 0, .int 0, .int 0, .int 0, .int 0, .null, .int 0, .null, .null, .null, .null, .null, .null, .null, .null, .null, .int 0, .null, .null, .null, .int 0, .null]))]) (va_A (wd (YF D C q0 92) σ ++ [(h0, .inr (7, [.int 0, .long 0, .null, .int 0, .int 0, .int 0, .int 0, .int 0, .int 0, .null, .int 0, .null, .null, .null, .null, .null, .null, .null, .null, .null, .int 0, .null, .null, .null, .int 0, .null]))]) s.heap.size) s.heap s.heap [] := ⟨hP, hD0.self (sz := s.heap.size), va_S.rf⟩
  refine x7_A M hA hl hn0 (fun u H locs hu hn => ?_)
  rw [← tl108_0 (σ := σ) (fun i hi => hz i (by omega)) (by rw [hσ.1]), ← wd108] at hn
  have hw : WS (YF D C (Q108 q0 u) 108) (va_A (wd (YF D C q0 92) σ ++ [(h0, .inr (7, [.int 0, .long 0, .null, .int 0, .int 0, .int 0, .int 0, .int 0, .int 0, .null, .int 0, .null, .null, .null, .null, .null, .null, .null, .null, .null, .int 0, .null, .null, .null, .int 0, .null]))]) s.heap.size) s.heap σ H locs := hn
  have MY : MC p s m #[Value.ref h0] meth c cX7_init 1 none RX7 (YF D C (Q108 q0 u) 108) := ⟨hx, hb, hr, hml, hown, hlk, hT, hK, c0s_B YF_c⟩
  have h92 : yA (YF D C (Q108 q0 u) 108) 92 = h0 := hu
  refine lv_aload_n hx hb dX7_init_126 rfl (lv_at hl 0 rfl) ?_
  refine q_goV hw (q_runV (rest := []) (As := []) (i := 92) MY hw (ctX7_begins l MY.2.2.2.2.2.2.2.2 rfl σ _ (INV_start hσ)) mbX7_begins (ob_92 rfl) rfl tw_627 rfl hl.1 (by rw [h92]; first | done | rfl) (Nat.le_of_ble_eq_true rfl) ⟨(Nat.le_of_ble_eq_true rfl), (Nat.le_of_ble_eq_true rfl)⟩ ⟨(Nat.le_of_ble_eq_true rfl), (Nat.le_of_ble_eq_true rfl)⟩ dX7_init_127) (fun σ1 H locs h hw => ?_)
  refine lv_aload_n hx hb dX7_init_130 rfl (lv_at hl 0 rfl) ?_
  refine q_goV hw (q_runV (rest := []) (As := []) (i := 92) MY hw (ctX7_settles l MY.2.2.2.2.2.2.2.2 rfl σ1 _ h) mbX7_settles (ob_92 rfl) rfl tw_631 rfl hl.1 (by rw [h92]; first | done | rfl) (Nat.le_of_ble_eq_true rfl) ⟨(Nat.le_of_ble_eq_true rfl), (Nat.le_of_ble_eq_true rfl)⟩ ⟨(Nat.le_of_ble_eq_true rfl), (Nat.le_of_ble_eq_true rfl)⟩ dX7_init_131) (fun σ2 H locs h hw => ?_)
  exact W.vret hx hb hr (fun t ht hW => ⟨⟨(Q108 q0 u, σ2), rfl, ⟨rfl, hu, h⟩, by rw [ht]; exact hw.1, hw.2.1⟩, hw.2.2.F ht⟩) hw.2.2.2.2 dX7_init_134 hlk
theorem miX7_init : MI yX7_init cX7_init 0 1 := ⟨tw_624, tw_56, tw_625, rfl, by decide +kernel⟩
