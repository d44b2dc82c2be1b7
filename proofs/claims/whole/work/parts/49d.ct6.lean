/-! MoonRights(): its contract -/
def YF (D : va_G) (C : Nat → ClassId) (q : Nat → Nat) (N : Nat) : LY := (D, C, q, N, fun σ => .inr (6, [.ref (q 2), .ref (q 3), .ref (q 9), .ref (q 15), .ref (q 18), .ref (q 23), .ref (q 75), .ref (q 86), .ref (q 87), .ref (q 91), .long σ.2.1]))
theorem YF_c {D : va_G} {C : Nat → ClassId} {q : Nat → Nat} {N : Nat} : c0s (YF D C q N) 3 9 := fun _ => rfl
/-- the first state -/
def BZ (σ : St) : Prop := σ.2 = (0, 0) ∧ (∀ i, ¬ (18 ≤ i ∧ i ≤ 22) → σ.1 i = σz.1 i) ∧ σ.1 18 4 = 0 ∧ σ.1 18 5 = 0 ∧ σ.1 18 6 = 0
theorem bz0 : BZ σz := ⟨rfl, fun _ _ => rfl, rfl, rfl, rfl⟩
def KB (b : Nat) : Prop := ∀ i, i < b → i ≠ 0 → ((kd i).1 = 1 ∨ (kd i).1 = 2 ∨ (kd i).1 = 3 ∨ ((kd i).1 = 4 ∧ 1 < b) ∨ ((kd i).1 = 5 ∧ i + 5 < b) ∨ ((kd i).1 = 6 ∧ i = 15 ∧ 17 < b) ∨ ((kd i).1 = 7 ∧ i + 4 < b) ∨ ((kd i).1 = 8 ∧ 24 < b) ∨ ((kd i).1 = 9 ∧ i + 1 + 5 * (kd i).2 ≤ b) ∨ ((kd i).1 = 11 ∧ 90 < b))
def kbT (b i : Nat) : Bool := ((kd i).1 == 1 || ((kd i).1 == 2 || ((kd i).1 == 3 || (((kd i).1 == 4 && decide (1 < b)) || (((kd i).1 == 5 && decide (i + 5 < b)) || (((kd i).1 == 6 && (i == 15 && decide (17 < b))) || (((kd i).1 == 7 && decide (i + 4 < b)) || (((kd i).1 == 8 && decide (24 < b)) || (((kd i).1 == 9 && decide (i + 1 + 5 * (kd i).2 ≤ b)) || ((kd i).1 == 11 && decide (90 < b)))))))))))
theorem kb_of {b : Nat} (h : ∀ i, i < b → i ≠ 0 → kbT b i = true) : KB b := fun i h1 h2 => by
  have := h i h1 h2
  unfold kbT at this
  simp only [Bool.or_eq_true, Bool.and_eq_true, beq_iff_eq, decide_eq_true_eq] at this
  exact this
theorem kb23 : KB 23 := kb_of (by decide)
theorem kb92 : KB 92 := kb_of (by decide)
theorem ce_ext {Y Y' : LY} {σ σ' : St} {b : Nat} (hb : KB b) (hC : yC Y = yC Y') (hq : ∀ a, a < b → yA Y a = yA Y' a) (hσ : ∀ i, i < b → σ.1 i = σ'.1 i) (h0 : y0 Y σ = y0 Y' σ') {i : Nat} (hi : i < b) : ce Y σ i = ce Y' σ' i := by
  unfold ce
  by_cases c : i = 0
  · rw [if_pos c, if_pos c]; exact h0
  · rw [if_neg c, if_neg c]
    have es := hσ i hi
    rcases hb i hi c with h | h | h | ⟨h, k⟩ | ⟨h, k⟩ | ⟨h, rfl, k⟩ | ⟨h, k⟩ | ⟨h, k⟩ | ⟨h, k⟩ | ⟨h, k⟩
    · rw [h]; simp only [cek]; rw [hC, es]
    · rw [h]; simp only [cek]; rw [hC, es]
    · rw [h]; simp only [cek]; rw [hC, es]
    · rw [h]; simp only [cek]; rw [hq 1 (by omega), es]
    · rw [h]; simp only [cek]; rw [hq (i + 1) (by omega), hq (i + 2) (by omega), hq (i + 3) (by omega), hq (i + 4) (by omega), hq (i + 5) (by omega), es]
    · rw [h]; simp only [cek]; rw [es, hq 16 (by omega), hq 17 (by omega)]
    · rw [h]; simp only [cek]; rw [hq (i + 1) (by omega), hq (i + 2) (by omega), hq (i + 3) (by omega), hq (i + 4) (by omega), es]
    · rw [h]; simp only [cek]; rw [hq 24 (by omega), es]
    · generalize (kd i).2 = n at k
      have e : (fun j => if j < n then some (yA Y (i + 1 + 5 * j)) else none) = (fun j => if j < n then some (yA Y' (i + 1 + 5 * j)) else none) := by
        funext j
        by_cases c : j < n
        · rw [if_pos c, if_pos c, hq _ (by omega)]
        · rw [if_neg c, if_neg c]
      rw [h]; simp only [cek]; rw [hC, e]
    · rw [h]; simp only [cek]; rw [hq 88 (by omega), hq 89 (by omega), hq 90 (by omega), es]
def Q92 (q : Nat → Nat) (q23 : Nat) (uh : Nat → Nat) (q75 q76 : Nat) (u0 : Nat → Nat) (q81 : Nat) (u1 : Nat → Nat) (q86 q87 : Nat) (uc : Nat → Nat) (q91 : Nat) (a : Nat) : Nat :=
  if a < 23 then q a else if a = 23 then q23 else if a < 75 then uh (a - 24) else if a = 75 then q75 else if a = 76 then q76 else if a < 81 then u0 (a - 76) else if a = 81 then q81 else if a < 86 then u1 (a - 81) else if a = 86 then q86 else if a = 87 then q87 else if a < 91 then uc (a - 87) else q91
def σ23 (σ1 : St) : St := (fun a => if a < 23 then σ1.1 a else fun _ => 0, σ1.2)
section
variable {C : Nat → ClassId} {D : va_G} {q : Nat → Nat} {q23 : Nat} {uh : Nat → Nat} {q75 q76 : Nat} {u0 : Nat → Nat} {q81 : Nat} {u1 : Nat → Nat} {q86 q87 : Nat} {uc : Nat → Nat} {q91 : Nat}
theorem q92_past : (fun j => if j < 10 then some (uh (1 + 5 * j)) else none) = (fun j => if j < 10 then some (Q92 q q23 uh q75 q76 u0 q81 u1 q86 q87 uc q91 (24 + 1 + 5 * j)) else none) := by
  funext j
  by_cases h : j < 10
  · rw [if_pos h, if_pos h]
    unfold Q92
    rw [if_neg (by omega), if_neg (by omega), if_pos (by omega), show 24 + 1 + 5 * j - 24 = 1 + 5 * j by omega]
  · rw [if_neg h, if_neg h]
theorem q92_img : (va_up (va_up (fun _ => none) 0 (some q76)) 1 (some q81)) = (fun j => if j < 2 then some (Q92 q q23 uh q75 q76 u0 q81 u1 q86 q87 uc q91 (75 + 1 + 5 * j)) else none) := by
  funext j
  match j with
  | 0 => rfl
  | 1 => rfl
  | j + 2 =>
    rw [if_neg (by omega)]
    unfold va_up
    rw [if_neg (by omega), if_neg (by omega)]
set_option maxHeartbeats 4000000 in
set_option maxRecDepth 100000 in
theorem q92_wd {σ1 : St} (h2 : σ1.2.1 = 0) : wd (Yf D C q [.ref (q 2), .ref (q 3), .ref (q 9), .ref (q 15), .ref (q 18), .ref q23, .ref q75, .ref q86, .ref q87, .ref q91, .long 0]) σ1 ++ (woX2_init C q23 uh ++ ((q75, sa C 2 (va_up (va_up (fun _ => none) 0 (some q76)) 1 (some q81))) :: (woX4_init C q76 u0 ++ woX4_init C q81 u1 ++ [(q86, ba C 2)] ++ woX1_init C q87 uc ++ [(q91, ia C 5)]))) = wd (YF D C (Q92 q q23 uh q75 q76 u0 q81 u1 q86 q87 uc q91) 92) (σ23 σ1) := by
  unfold woX2_init
  rw [q92_img (q := q) (q23 := q23) (uh := uh) (q75 := q75) (u0 := u0) (u1 := u1) (q86 := q86) (q87 := q87) (uc := uc) (q91 := q91), q92_past (q := q) (q23 := q23) (uh := uh) (q75 := q75) (q76 := q76) (u0 := u0) (q81 := q81) (u1 := u1) (q86 := q86) (q87 := q87) (uc := uc) (q91 := q91)]
  have e3 : ([.ref (q 2), .ref (q 3), .ref (q 9), .ref (q 15), .ref (q 18), .ref q23, .ref q75, .ref q86, .ref q87, .ref q91, .long 0] : List Value) = [.ref (q 2), .ref (q 3), .ref (q 9), .ref (q 15), .ref (q 18), .ref q23, .ref q75, .ref q86, .ref q87, .ref q91, .long σ1.2.1] := by rw [h2]
  rw [e3]
  have e : wd (YF D C (Q92 q q23 uh q75 q76 u0 q81 u1 q86 q87 uc q91) 92) (σ23 σ1) = (List.range (23 + 69)).map (fun i => (Q92 q q23 uh q75 q76 u0 q81 u1 q86 q87 uc q91 i, ce (YF D C (Q92 q q23 uh q75 q76 u0 q81 u1 q86 q87 uc q91) 92) (σ23 σ1) i)) := rfl
  rw [e, List.range_add, List.map_append, List.map_map]
  have e4 : (List.range 23).map (fun i => (Q92 q q23 uh q75 q76 u0 q81 u1 q86 q87 uc q91 i, ce (YF D C (Q92 q q23 uh q75 q76 u0 q81 u1 q86 q87 uc q91) 92) (σ23 σ1) i)) = wd (Yf D C q [.ref (q 2), .ref (q 3), .ref (q 9), .ref (q 15), .ref (q 18), .ref q23, .ref q75, .ref q86, .ref q87, .ref q91, .long σ1.2.1]) σ1 := by
    apply List.map_congr_left
    intro i hi
    have hi := List.mem_range.mp hi
    have hq : Q92 q q23 uh q75 q76 u0 q81 u1 q86 q87 uc q91 i = q i := if_pos hi
    rw [hq, ce_ext (Y := YF D C (Q92 q q23 uh q75 q76 u0 q81 u1 q86 q87 uc q91) 92) (Y' := Yf D C q [.ref (q 2), .ref (q 3), .ref (q 9), .ref (q 15), .ref (q 18), .ref q23, .ref q75, .ref q86, .ref q87, .ref q91, .long σ1.2.1]) (σ := σ23 σ1) (σ' := σ1) kb23 rfl (fun a ha => if_pos ha) (fun a ha => if_pos ha) rfl hi]
    rfl
  rw [e4]
  congr 1
end
def Q6 (D : va_G) (C : Nat → ClassId) (h0 : Nat) (wi : va_W) (sz : Nat) : Array Value → State → Outcome → State → Prop := va_Qv (fun u : (Nat → Nat) × St => u.1 0 = h0 ∧ ∃ σ1, BZ σ1 ∧ u.2 = σ23 σ1) (fun u t => va_P D vwCl (wd (YF D C u.1 92) u.2) t.heap ∧ va_D (va_A wi sz) (wd (YF D C u.1 92) u.2)) (va_A wi sz)
set_option maxHeartbeats 4000000 in
set_option maxRecDepth 100000 in
theorem ctX6_init (l : Launch) (D : va_G) (C : Nat → ClassId) (h0 sz : Nat) : Met l yX6_init (Cond.code yX6_init cX6_init 2 none :: TB) { frames := 3, cells := 91, slots := 4891, locals := 53 } (va_Pc [.ref h0] (PN D C E6 [(h0, .inr (6, [.null, .null, .null, .null, .null, .null, .null, .null, .null, .null, .long 0]))] sz)) (Q6 D C h0 [(h0, .inr (6, [.null, .null, .null, .null, .null, .null, .null, .null, .null, .null, .long 0]))] sz) 91 4891 (va_A [(h0, .inr (6, [.null, .null, .null, .null, .null, .null, .null, .null, .null, .null, .long 0]))] sz) := by
  refine Met.ofW (cc := cX6_init) (maxL := 2) (ret := none) (by decide +kernel) rfl ?_
  intro p e s m args below meth c s₁ B hml hv
  obtain ⟨rfl, hsz, hP, hK, hD0, hE⟩ := hv
  have hts := atoms_spec (ws := Cond.code yX6_init cX6_init 2 none :: TB) B.pre
  have hl := lv_entry [.ref h0] (n := 2) (Nat.le_of_ble_eq_true rfl)
  rw [lg_entry_eq]
  subst hsz
  have M : M0 p s m #[Value.ref h0] meth c cX6_init 2 RX6 D C true := ⟨B.exec, B.bytes, B.returns, hml, findClass_of_methodNamed B.named, B.notSynchronized, fun w h => hts w (List.mem_cons_of_mem _ h), hK, fun _ => (name_of_methodNamed B.named B.method).1⟩
  obtain ⟨hx, hb, hr, hml, hown, hlk, hT, hK, hin⟩ := id M
  have hA : ∀ q, s.heap.size ≤ q → va_A [(h0, .inr (6, [.null, .null, .null, .null, .null, .null, .null, .null, .null, .null, .long 0]))] s.heap.size q := fun q h => Or.inr h
  refine x6_A M hA hE hl ⟨hP, hD0.self (sz := s.heap.size), va_S.rf⟩ (fun q H locs hq hn => ?_)
  subst hq
  refine x6_B M hA hE hl hn (fun q23 uh q75 q76 u0 q81 u1 q86 q87 uc q91 H locs ls hn => ?_)
  rw [q92_wd (σ1 := σz) rfl] at hn
  exact W.vret hx hb hr (fun t ht hW => ⟨⟨(Q92 q q23 uh q75 q76 u0 q81 u1 q86 q87 uc q91, σ23 σz), rfl, ⟨rfl, σz, bz0, rfl⟩, by rw [ht]; exact hn.1, hn.2.1⟩, hn.2.2.F ht⟩) hn.2.2.2.2 dX6_init_129 hlk
theorem miX6_init : MI yX6_init cX6_init 0 2 := ⟨tw_61, tw_49, tw_62, rfl, by decide +kernel⟩
