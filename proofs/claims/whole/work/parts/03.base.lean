/-! the state of both objects, the layout of their cells, the world -/
abbrev St : Type := (Nat → Nat → Int32) × (Int64 × Int64)
def up (σ : St) (i k : Nat) (v : Int32) : St := (fun a => if a = i then upd (σ.1 i) k v else σ.1 a, σ.2)
def upT (σ : St) (v : Int64) : St := (σ.1, v, σ.2.2)
def upM (σ : St) (v : Int64) : St := (σ.1, σ.2.1, v)
abbrev LY : Type := va_G × ((Nat → ClassId) × ((Nat → Nat) × (Nat × (St → va_E))))
def yD (Y : LY) : va_G := Y.1
def yC (Y : LY) : Nat → ClassId := Y.2.1
def yA (Y : LY) : Nat → Nat := Y.2.2.1
def yN (Y : LY) : Nat := Y.2.2.2.1
def y0 (Y : LY) : St → va_E := Y.2.2.2.2
def KD : List (Nat × Nat) := [(0, 0), (3, 200), (4, 0), (5, 0), (1, 5), (1, 5), (1, 7), (1, 7), (2, 100), (5, 0), (1, 5), (1, 5), (1, 7), (1, 7), (2, 100), (6, 0), (1, 3904), (1, 60), (7, 0), (1, 5), (1, 5), (1, 7), (1, 7), (8, 0), (9, 10), (7, 0), (1, 5), (1, 5), (1, 7), (1, 7), (7, 0), (1, 5), (1, 5), (1, 7), (1, 7), (7, 0), (1, 5), (1, 5), (1, 7), (1, 7), (7, 0), (1, 5), (1, 5), (1, 7), (1, 7), (7, 0), (1, 5), (1, 5), (1, 7), (1, 7), (7, 0), (1, 5), (1, 5), (1, 7), (1, 7), (7, 0), (1, 5), (1, 5), (1, 7), (1, 7), (7, 0), (1, 5), (1, 5), (1, 7), (1, 7), (7, 0), (1, 5), (1, 5), (1, 7), (1, 7), (7, 0), (1, 5), (1, 5), (1, 7), (1, 7), (9, 2), (7, 0), (1, 5), (1, 5), (1, 7), (1, 7), (7, 0), (1, 5), (1, 5), (1, 7), (1, 7), (2, 2), (11, 0), (1, 6), (1, 6), (1, 6), (1, 5), (12, 0), (1, 200), (1, 8), (1, 5), (1, 10), (1, 7), (1, 14), (2, 200), (1, 27), (1, 54), (2, 2), (1, 270), (1, 6), (1, 6), (1, 6), (1, 3904)]
def kd (i : Nat) : Nat × Nat := KD.getD i (0, 0)
def cek (Y : LY) (σ : St) (i k n : Nat) : va_E := match k with
  | 1 => .inl (yC Y 0, n, .inl (σ.1 i))
  | 2 => .inl (yC Y 1, n, .inl (σ.1 i))
  | 3 => .inl (yC Y 2, n, .inl (σ.1 i))
  | 4 => .inr (5, [.ref (yA Y 1), .int (σ.1 i 1), .int (σ.1 i 2), .int (σ.1 i 3), .int (σ.1 i 4), .int (σ.1 i 5)])
  | 5 => .inr (3, [.ref (yA Y (i + 1)), .ref (yA Y (i + 2)), .ref (yA Y (i + 3)), .ref (yA Y (i + 4)), .ref (yA Y (i + 5)), .int (σ.1 i 5), .int (σ.1 i 6), .int (σ.1 i 7), .int (σ.1 i 8), .int (σ.1 i 9), .int (σ.1 i 10)])
  | 6 => .inr (0, [.ref (yA Y 16), .ref (yA Y 17), .int (σ.1 i 2), .int (σ.1 i 3)])
  | 7 => .inr (4, [.ref (yA Y (i + 1)), .ref (yA Y (i + 2)), .ref (yA Y (i + 3)), .ref (yA Y (i + 4)), .int (σ.1 i 4), .int (σ.1 i 5), .int (σ.1 i 6)])
  | 8 => .inr (2, [.ref (yA Y 24), .int (σ.1 i 1), .int (σ.1 i 2)])
  | 9 => .inl (yC Y 3, n, .inr (.inr (.inr (.inr (fun j => if j < n then some (yA Y (i + 1 + 5 * j)) else none)))))
  | 11 => .inr (1, [.ref (yA Y 88), .ref (yA Y 89), .ref (yA Y 90), .int (σ.1 i 3)])
  | 12 => .inr (7, [.int (σ.1 i 0), .long σ.2.2, .ref (yA Y 93), .int (σ.1 i 3), .int (σ.1 i 4), .int (σ.1 i 5), .int (σ.1 i 6), .int (σ.1 i 7), .int (σ.1 i 8), .ref (yA Y 94), .int (σ.1 i 10), .ref (yA Y 95), .ref (yA Y 96), .ref (yA Y 97), .ref (yA Y 98), .ref (yA Y 99), .ref (yA Y 100), .ref (yA Y 101), .ref (yA Y 102), .ref (yA Y 103), .int (σ.1 i 20), .ref (yA Y 104), .ref (yA Y 105), .ref (yA Y 106), .int (σ.1 i 24), .ref (yA Y 107)])
  | _ => .inr (0, [])
def ce (Y : LY) (σ : St) (i : Nat) : va_E := if i = 0 then y0 Y σ else cek Y σ i (kd i).1 (kd i).2
def wd (Y : LY) (σ : St) : va_W := (List.range (yN Y)).map (fun i => (yA Y i, ce Y σ i))
theorem wd_at {Y : LY} {σ : St} {i : Nat} (hi : i < yN Y) : (wd Y σ)[i]? = some (yA Y i, ce Y σ i) := by
  simp [wd, hi]
theorem wd_len {Y : LY} {σ : St} : (wd Y σ).length = yN Y := by simp [wd]
/-- cell 0 looks at its own numbers alone -/
def YB (Y : LY) : Prop := (∀ (σ : St) (i k : Nat) (v : Int32), i ≠ 0 → y0 Y (up σ i k v) = y0 Y σ) ∧ ∀ (σ : St) (v : Int64), y0 Y (upM σ v) = y0 Y σ
theorem up_ne {σ : St} {i j k : Nat} {v : Int32} (h : j ≠ i) : (up σ i k v).1 j = σ.1 j := by simp [up, h]
theorem up_eq {σ : St} {i k : Nat} {v : Int32} : (up σ i k v).1 i = upd (σ.1 i) k v := by simp [up]
theorem ce_up_ne {Y : LY} (hB : YB Y) {σ : St} {i j k : Nat} {v : Int32} (h : j ≠ i) : ce Y (up σ i k v) j = ce Y σ j := by
  unfold ce
  by_cases hj : j = 0
  · rw [if_pos hj, if_pos hj]
    exact hB.1 σ i k v (fun e => h (hj.trans e.symm))
  · rw [if_neg hj, if_neg hj]
    unfold cek
    rw [up_ne h]
    rfl
theorem ce_upM_ne {Y : LY} (hB : YB Y) {σ : St} {j : Nat} {v : Int64} (h : (kd j).1 ≠ 12) : ce Y (upM σ v) j = ce Y σ j := by
  unfold ce
  by_cases hj : j = 0
  · rw [if_pos hj, if_pos hj]
    exact hB.2 σ v
  · rw [if_neg hj, if_neg hj]
    unfold cek
    split <;> first | rfl | (exfalso; simp_all)
theorem ce_upT_ne {Y : LY} {σ : St} {j : Nat} {v : Int64} (h : j ≠ 0) : ce Y (upT σ v) j = ce Y σ j := by
  unfold ce
  rw [if_neg h, if_neg h]
  rfl
theorem wd_set {Y : LY} {σ σ' : St} {i : Nat} (hi : i < yN Y) (h : ∀ j, j < yN Y → j ≠ i → ce Y σ' j = ce Y σ j) : wd Y σ' = (wd Y σ).set i (yA Y i, ce Y σ' i) := by
  apply List.ext_getElem?
  intro j
  by_cases hj : j < yN Y
  · rw [wd_at hj]
    by_cases e : j = i
    · subst e
      rw [List.getElem?_set_self (by rw [wd_len]; exact hj)]
    · rw [List.getElem?_set_ne (Ne.symm e), wd_at hj, h j hj e]
  · rw [List.getElem?_eq_none (by rw [wd_len]; omega), List.getElem?_eq_none (by rw [List.length_set, wd_len]; omega)]
def AD (Y : LY) : Nat → Prop := fun q => ∃ i, i < yN Y ∧ yA Y i = q
theorem wd_ad {Y : LY} {σ : St} {k : Nat} {q : Nat × va_E} (h : (wd Y σ)[k]? = some q) : k < yN Y ∧ q.1 = yA Y k := by
  have hk : k < yN Y := by
    rcases Nat.lt_or_ge k (yN Y) with c | c
    · exact c
    · rw [List.getElem?_eq_none (by rw [wd_len]; exact c)] at h
      cases h
  rw [wd_at hk] at h
  cases h
  exact ⟨hk, rfl⟩
theorem wd_D {Y : LY} {σ σ' : St} {A : Nat → Prop} (h : va_D A (wd Y σ)) : va_D A (wd Y σ') := by
  constructor
  · intro i j p q hi hj e
    have a := wd_ad hi
    have b := wd_ad hj
    exact h.1 i j _ _ (wd_at a.1) (wd_at b.1) (by show yA Y i = yA Y j; rw [← a.2, ← b.2]; exact e)
  · intro k q hk
    have a := wd_ad hk
    have b := h.2 k _ (wd_at a.1)
    rw [a.2]
    exact b
theorem wd_DA {Y : LY} {σ : St} {A : Nat → Prop} (h : va_D A (wd Y σ)) : va_D (AD Y) (wd Y σ) := ⟨h.1, fun k q hk => ⟨k, (wd_ad hk).1, (wd_ad hk).2.symm⟩⟩
theorem wd_AA {Y : LY} {σ : St} {A : Nat → Prop} (h : va_D A (wd Y σ)) : ∀ q, AD Y q → A q := by
  rintro q ⟨i, hi, rfl⟩
  exact h.2 i _ (wd_at hi)
def WS (Y : LY) (A : Nat → Prop) (H0 : Heap) (σ : St) (H : Heap) (locs : List Loc) : Prop := va_P (yD Y) vwCl (wd Y σ) H ∧ va_D A (wd Y σ) ∧ va_S A H0 H locs
def tyL (Y : LY) : List (ClassId × FieldType) := [(yC Y 0, .int), (yC Y 1, .boolean), (yC Y 2, .char), (yC Y 3, .object "MoonRights$Standing")]
def MC (p : Program) (s : State) (m : MethodId) (args : Array Value) (meth : Method) (c : Code) (cc : ByteArray) (nL : Nat) (ret : Option FieldType) (own : String) (Y : LY) : Prop :=
  p.tables.exec = Jvm.exec ∧ c.code = cc ∧ meth.sig.returnType = ret ∧ c.maxLocals = nL ∧ s.vm.findClass own = some m.cls ∧ meth.locks = false ∧ (∀ w ∈ TB, w.before args s = true) ∧ va_K (yD Y) vwCl (tyL Y) s ∧ YB Y
/-- an array of ints (t = 0), booleans (1), chars (2), of n places, at i -/
def AR (Y : LY) (t i n : Nat) : Prop := i < yN Y ∧ ∀ σ : St, ce Y σ i = .inl (yC Y t, n, .inl (σ.1 i))
/-- an object of class ci at i with these fields -/
def OB (Y : LY) (i ci : Nat) (fs : St → List Value) : Prop := i < yN Y ∧ ∀ σ : St, ce Y σ i = .inr (ci, fs σ)
def BW (Y : LY) (σ : St) (t : State) : Prop := va_P (yD Y) vwCl (wd Y σ) t.heap ∧ va_K (yD Y) vwCl (tyL Y) t
def PW (Y : LY) (σ : St) (U : State) : Prop := (va_P (yD Y) vwCl (wd Y σ) U.heap ∧ va_D (AD Y) (wd Y σ)) ∧ va_K (yD Y) vwCl (tyL Y) U
abbrev QI (Y : LY) (Q : Int32 → St → Prop) : Array Value → State → Outcome → State → Prop := va_Qi Q (BW Y) (AD Y)
abbrev QL (Y : LY) (Q : Int64 → St → Prop) : Array Value → State → Outcome → State → Prop := va_Ql Q (BW Y) (AD Y)
abbrev QV (Y : LY) (Q : St → Prop) : Array Value → State → Outcome → State → Prop := va_Qv Q (BW Y) (AD Y)
def CT (l : Launch) (y : MethodName) (cw : Cond) (rm : Room) (Y : LY) (vs : List Value) (σ : St) (Qc : Array Value → State → Outcome → State → Prop) : Prop := Met l y (cw :: TB) rm (va_Pc vs (PW Y σ)) Qc 0 0 (AD Y)
/-- loops: n turns at most -/
def Lp {α : Type} (F : (α → Prop) → α → Prop) : Nat → α → Prop
  | 0, _ => False
  | n + 1, a => F (Lp F n) a
section RowsQ
variable {p : Program} {l : Launch} {e : Env} {R : Room} {s : State} {m : MethodId} {args : Array Value} {below : List Frame} {meth : Method} {c : Code} {H : Heap} {locs : List Loc} {cells slots : Nat} {Q : State → Prop}
variable {cc : ByteArray} {pc nL : Nat} {ls : Array Slot} {rest : List Value} {A : Nat → Prop} {H0 : Heap} {Y : LY} {σ : St} {own : String} {ret : Option FieldType}
theorem q_get (M : MC p s m args meth c cc nL ret own Y) (hw : WS Y A H0 σ H locs) {i ci : Nat} {fs : St → List Value} (ho : OB Y i ci fs) {C : String} {T : u_T} {N index : Nat} (hc : vwCl[ci]? = some (C, T, N)) (hin : ∀ w ∈ u_ws C T N, w ∈ TB) (k : Nat) (hk : k < N) (hl : Cond.fieldLink own index (T k).1 (T k).2.1 (T k).2.2.1 ∈ TB) {v : Value} (hv : (fs σ)[k]? = some v) (hdg : decode cc pc = .ok (.getfield index, 3))
    (kk : W p l e R s m args below meth c H locs cells slots Q (F0 m (pc + 3) ls (v :: rest))) : W p l e R s m args below meth c H locs cells slots Q (F0 m pc ls (.ref (yA Y i) :: rest)) := by
  obtain ⟨hx, hb, hr, hml, hown, hlk, hT, hK, hB⟩ := M
  exact va_get hx hb hT hin hown hK hw.1 i ((wd_at ho.1).trans (by rw [ho.2 σ])) hc k hk (hT _ hl) (fun _ h9 => h9) hv hdg kk
theorem q_put (M : MC p s m args meth c cc nL ret own Y) (hw : WS Y A H0 σ H locs) {i ci : Nat} {fs : St → List Value} (ho : OB Y i ci fs) {C : String} {T : u_T} {N index : Nat} (hc : vwCl[ci]? = some (C, T, N)) (hin : ∀ w ∈ u_ws C T N, w ∈ TB) (ty0 : Nat → FieldType) (hty : ∀ k, k < N → parseFieldDescriptor (T k).2.2.1 = some (ty0 k)) (hnm : ∀ a, a < N → ∀ b, b < N → a ≠ b → (T a).2.1 ≠ (T b).2.1) (k : Nat) (hk : k < N) (hl : Cond.fieldLink own index (T k).1 (T k).2.1 (T k).2.2.1 ∈ TB) (hfin : (T k).2.2.2 = false) {v : Int32} (hn : narrow (ty0 k) (.int v) = .int v) (hfit : fits (ty0 k) (.int v) = true) (hlen : k < (fs σ).length) (hset : (fs σ).set k (.int v) = fs (up σ i k v)) (hdg : decode cc pc = .ok (.putfield index, 3))
    (kk : ∀ (σ1 : St) (H1 : Heap) (locs1 : List Loc), σ1 = up σ i k v → WS Y A H0 σ1 H1 locs1 → W p l e R s m args below meth c H1 locs1 cells slots Q (F0 m (pc + 3) ls rest)) : W p l e R s m args below meth c H locs cells slots Q (F0 m pc ls (.int v :: .ref (yA Y i) :: rest)) := by
  obtain ⟨hx, hb, hr, hml, hown, hlk, hT, hK, hB⟩ := M
  refine va_put hx hb hT hin ty0 hty hnm hown hK hw.1 hw.2.1 hw.2.2 i ((wd_at ho.1).trans (by rw [ho.2 σ])) hc k hk (hT _ hl) (fun _ h9 => h9) hfin (hty k hk) hn hfit hlen hdg (fun H1 locs1 hP hD hS => ?_)
  have he : wd Y (up σ i k v) = (wd Y σ).set i (yA Y i, .inr (ci, (fs σ).set k (.int v))) := by
    rw [wd_set (σ := σ) ho.1 (fun j _ hj => ce_up_ne hB hj), ho.2, hset]
  rw [← he] at hP hD
  exact kk _ H1 locs1 rfl ⟨hP, hD, hS⟩
theorem q_putT (M : MC p s m args meth c cc nL ret own Y) (hw : WS Y A H0 σ H locs) {ci : Nat} {fs : St → List Value} (ho : OB Y 0 ci fs) {C : String} {T : u_T} {N index : Nat} (hc : vwCl[ci]? = some (C, T, N)) (hin : ∀ w ∈ u_ws C T N, w ∈ TB) (ty0 : Nat → FieldType) (hty : ∀ k, k < N → parseFieldDescriptor (T k).2.2.1 = some (ty0 k)) (hnm : ∀ a, a < N → ∀ b, b < N → a ≠ b → (T a).2.1 ≠ (T b).2.1) (k : Nat) (hk : k < N) (hl : Cond.fieldLink own index (T k).1 (T k).2.1 (T k).2.2.1 ∈ TB) (hfin : (T k).2.2.2 = false) {v : Int64} (hn : narrow (ty0 k) (.long v) = .long v) (hfit : fits (ty0 k) (.long v) = true) (hlen : k < (fs σ).length) (hset : (fs σ).set k (.long v) = fs (upT σ v)) (hdg : decode cc pc = .ok (.putfield index, 3))
    (kk : ∀ (σ1 : St) (H1 : Heap) (locs1 : List Loc), σ1 = upT σ v → WS Y A H0 σ1 H1 locs1 → W p l e R s m args below meth c H1 locs1 cells slots Q (F0 m (pc + 3) ls rest)) : W p l e R s m args below meth c H locs cells slots Q (F0 m pc ls (.long v :: .ref (yA Y 0) :: rest)) := by
  obtain ⟨hx, hb, hr, hml, hown, hlk, hT, hK, hB⟩ := M
  refine va_put hx hb hT hin ty0 hty hnm hown hK hw.1 hw.2.1 hw.2.2 0 ((wd_at ho.1).trans (by rw [ho.2 σ])) hc k hk (hT _ hl) (fun _ h9 => h9) hfin (hty k hk) hn hfit hlen hdg (fun H1 locs1 hP hD hS => ?_)
  have he : wd Y (upT σ v) = (wd Y σ).set 0 (yA Y 0, .inr (ci, (fs σ).set k (.long v))) := by
    rw [wd_set (σ := σ) ho.1 (fun j _ hj => ce_upT_ne hj), ho.2, hset]
  rw [← he] at hP hD
  exact kk _ H1 locs1 rfl ⟨hP, hD, hS⟩
theorem q_putM (M : MC p s m args meth c cc nL ret own Y) (hw : WS Y A H0 σ H locs) {i ci : Nat} {fs : St → List Value} (ho : OB Y i ci fs) (hone : ∀ j, j < yN Y → j ≠ i → (kd j).1 ≠ 12) {C : String} {T : u_T} {N index : Nat} (hc : vwCl[ci]? = some (C, T, N)) (hin : ∀ w ∈ u_ws C T N, w ∈ TB) (ty0 : Nat → FieldType) (hty : ∀ k, k < N → parseFieldDescriptor (T k).2.2.1 = some (ty0 k)) (hnm : ∀ a, a < N → ∀ b, b < N → a ≠ b → (T a).2.1 ≠ (T b).2.1) (k : Nat) (hk : k < N) (hl : Cond.fieldLink own index (T k).1 (T k).2.1 (T k).2.2.1 ∈ TB) (hfin : (T k).2.2.2 = false) {v : Int64} (hn : narrow (ty0 k) (.long v) = .long v) (hfit : fits (ty0 k) (.long v) = true) (hlen : k < (fs σ).length) (hset : (fs σ).set k (.long v) = fs (upM σ v)) (hdg : decode cc pc = .ok (.putfield index, 3))
    (kk : ∀ (σ1 : St) (H1 : Heap) (locs1 : List Loc), σ1 = upM σ v → WS Y A H0 σ1 H1 locs1 → W p l e R s m args below meth c H1 locs1 cells slots Q (F0 m (pc + 3) ls rest)) : W p l e R s m args below meth c H locs cells slots Q (F0 m pc ls (.long v :: .ref (yA Y i) :: rest)) := by
  obtain ⟨hx, hb, hr, hml, hown, hlk, hT, hK, hB⟩ := M
  refine va_put hx hb hT hin ty0 hty hnm hown hK hw.1 hw.2.1 hw.2.2 i ((wd_at ho.1).trans (by rw [ho.2 σ])) hc k hk (hT _ hl) (fun _ h9 => h9) hfin (hty k hk) hn hfit hlen hdg (fun H1 locs1 hP hD hS => ?_)
  have he : wd Y (upM σ v) = (wd Y σ).set i (yA Y i, .inr (ci, (fs σ).set k (.long v))) := by
    rw [wd_set (σ := σ) ho.1 (fun j hj hji => ce_upM_ne hB (hone j hj hji)), ho.2, hset]
  rw [← he] at hP hD
  exact kk _ H1 locs1 rfl ⟨hP, hD, hS⟩
theorem q_ild (M : MC p s m args meth c cc nL ret own Y) (hw : WS Y A H0 σ H locs) {i n : Nat} (ha : AR Y 0 i n) {x : Int32} (hin : vp_in x n) (hdg : decode cc pc = .ok (.iaload, 1))
    (kk : W p l e R s m args below meth c H locs cells slots Q (F0 m (pc + 1) ls (.int (σ.1 i x.toNatClampNeg) :: rest))) : W p l e R s m args below meth c H locs cells slots Q (F0 m pc ls (.int x :: .ref (yA Y i) :: rest)) :=
  va_iald M.1 M.2.1 M.2.2.2.2.2.2.2.1 hw.1 i 0 ((wd_at ha.1).trans (by rw [ha.2 σ])) rfl hin hdg kk
theorem q_zld (M : MC p s m args meth c cc nL ret own Y) (hw : WS Y A H0 σ H locs) {i n : Nat} (ha : AR Y 1 i n) {x : Int32} (hin : vp_in x n) (hdg : decode cc pc = .ok (.baload, 1))
    (kk : W p l e R s m args below meth c H locs cells slots Q (F0 m (pc + 1) ls (.int (σ.1 i x.toNatClampNeg) :: rest))) : W p l e R s m args below meth c H locs cells slots Q (F0 m pc ls (.int x :: .ref (yA Y i) :: rest)) :=
  va_zald M.1 M.2.1 M.2.2.2.2.2.2.2.1 hw.1 i 1 ((wd_at ha.1).trans (by rw [ha.2 σ])) rfl hin hdg kk
theorem q_cld (M : MC p s m args meth c cc nL ret own Y) (hw : WS Y A H0 σ H locs) {i n : Nat} (ha : AR Y 2 i n) {x : Int32} (hin : vp_in x n) (hdg : decode cc pc = .ok (.caload, 1))
    (kk : W p l e R s m args below meth c H locs cells slots Q (F0 m (pc + 1) ls (.int (σ.1 i x.toNatClampNeg) :: rest))) : W p l e R s m args below meth c H locs cells slots Q (F0 m pc ls (.int x :: .ref (yA Y i) :: rest)) :=
  va_cald M.1 M.2.1 M.2.2.2.2.2.2.2.1 hw.1 i 2 ((wd_at ha.1).trans (by rw [ha.2 σ])) rfl hin hdg kk
theorem wd_upA (hB : YB Y) {t i n k : Nat} (ha : AR Y t i n) (v : Int32) : wd Y (up σ i k v) = (wd Y σ).set i (yA Y i, .inl (yC Y t, n, .inl (upd (σ.1 i) k v))) := by
  rw [wd_set (σ := σ) ha.1 (fun j _ hj => ce_up_ne hB hj), ha.2, up_eq]
theorem q_ist (M : MC p s m args meth c cc nL ret own Y) (hw : WS Y A H0 σ H locs) {i n : Nat} (ha : AR Y 0 i n) {x v : Int32} (hin : vp_in x n) (hdg : decode cc pc = .ok (.iastore, 1))
    (kk : ∀ (σ1 : St) (H1 : Heap) (locs1 : List Loc), σ1 = up σ i x.toNatClampNeg v → WS Y A H0 σ1 H1 locs1 → W p l e R s m args below meth c H1 locs1 cells slots Q (F0 m (pc + 1) ls rest)) : W p l e R s m args below meth c H locs cells slots Q (F0 m pc ls (.int v :: .int x :: .ref (yA Y i) :: rest)) := by
  obtain ⟨hx, hb, hr, hml, hown, hlk, hT, hK, hB⟩ := M
  refine va_iast hx hb hK hw.1 hw.2.1 hw.2.2 i 0 ((wd_at ha.1).trans (by rw [ha.2 σ])) rfl hin hdg (fun H1 locs1 hP hD hS => ?_)
  rw [← wd_upA hB ha] at hP hD
  exact kk _ H1 locs1 rfl ⟨hP, hD, hS⟩
theorem q_zst (M : MC p s m args meth c cc nL ret own Y) (hw : WS Y A H0 σ H locs) {i n : Nat} (ha : AR Y 1 i n) {x v : Int32} (hin : vp_in x n) (hdg : decode cc pc = .ok (.bastore, 1))
    (kk : ∀ (σ1 : St) (H1 : Heap) (locs1 : List Loc), σ1 = up σ i x.toNatClampNeg (vp_nar .boolean v) → WS Y A H0 σ1 H1 locs1 → W p l e R s m args below meth c H1 locs1 cells slots Q (F0 m (pc + 1) ls rest)) : W p l e R s m args below meth c H locs cells slots Q (F0 m pc ls (.int v :: .int x :: .ref (yA Y i) :: rest)) := by
  obtain ⟨hx, hb, hr, hml, hown, hlk, hT, hK, hB⟩ := M
  refine va_zast hx hb hK hw.1 hw.2.1 hw.2.2 i 1 ((wd_at ha.1).trans (by rw [ha.2 σ])) rfl hin hdg (fun H1 locs1 hP hD hS => ?_)
  rw [← wd_upA hB ha] at hP hD
  exact kk _ H1 locs1 rfl ⟨hP, hD, hS⟩
theorem q_cst (M : MC p s m args meth c cc nL ret own Y) (hw : WS Y A H0 σ H locs) {i n : Nat} (ha : AR Y 2 i n) {x v : Int32} (hin : vp_in x n) (hdg : decode cc pc = .ok (.castore, 1))
    (kk : ∀ (σ1 : St) (H1 : Heap) (locs1 : List Loc), σ1 = up σ i x.toNatClampNeg (vp_nar .char v) → WS Y A H0 σ1 H1 locs1 → W p l e R s m args below meth c H1 locs1 cells slots Q (F0 m (pc + 1) ls rest)) : W p l e R s m args below meth c H locs cells slots Q (F0 m pc ls (.int v :: .int x :: .ref (yA Y i) :: rest)) := by
  obtain ⟨hx, hb, hr, hml, hown, hlk, hT, hK, hB⟩ := M
  refine va_cast hx hb hK hw.1 hw.2.1 hw.2.2 i 2 ((wd_at ha.1).trans (by rw [ha.2 σ])) rfl hin hdg (fun H1 locs1 hP hD hS => ?_)
  rw [← wd_upA hB ha] at hP hD
  exact kk _ H1 locs1 rfl ⟨hP, hD, hS⟩
theorem q_ild' (k : Nat) (M : MC p s m args meth c cc nL ret own Y) (hw : WS Y A H0 σ H locs) {i n : Nat} (ha : AR Y 0 i n) {x : Int32} (hin : vp_in x n) (hk : x.toNatClampNeg = k) (hdg : decode cc pc = .ok (.iaload, 1))
    (kk : W p l e R s m args below meth c H locs cells slots Q (F0 m (pc + 1) ls (.int (σ.1 i k) :: rest))) : W p l e R s m args below meth c H locs cells slots Q (F0 m pc ls (.int x :: .ref (yA Y i) :: rest)) := by
  subst hk; exact q_ild M hw ha hin hdg kk
theorem q_zld' (k : Nat) (M : MC p s m args meth c cc nL ret own Y) (hw : WS Y A H0 σ H locs) {i n : Nat} (ha : AR Y 1 i n) {x : Int32} (hin : vp_in x n) (hk : x.toNatClampNeg = k) (hdg : decode cc pc = .ok (.baload, 1))
    (kk : W p l e R s m args below meth c H locs cells slots Q (F0 m (pc + 1) ls (.int (σ.1 i k) :: rest))) : W p l e R s m args below meth c H locs cells slots Q (F0 m pc ls (.int x :: .ref (yA Y i) :: rest)) := by
  subst hk; exact q_zld M hw ha hin hdg kk
theorem q_ist' (k : Nat) (M : MC p s m args meth c cc nL ret own Y) (hw : WS Y A H0 σ H locs) {i n : Nat} (ha : AR Y 0 i n) {x v : Int32} (hin : vp_in x n) (hk : x.toNatClampNeg = k) (hdg : decode cc pc = .ok (.iastore, 1))
    (kk : ∀ (σ1 : St) (H1 : Heap) (locs1 : List Loc), σ1 = up σ i k v → WS Y A H0 σ1 H1 locs1 → W p l e R s m args below meth c H1 locs1 cells slots Q (F0 m (pc + 1) ls rest)) : W p l e R s m args below meth c H locs cells slots Q (F0 m pc ls (.int v :: .int x :: .ref (yA Y i) :: rest)) := by
  subst hk; exact q_ist M hw ha hin hdg kk
theorem q_zst' (k : Nat) (M : MC p s m args meth c cc nL ret own Y) (hw : WS Y A H0 σ H locs) {i n : Nat} (ha : AR Y 1 i n) {x v : Int32} (hin : vp_in x n) (hk : x.toNatClampNeg = k) (hdg : decode cc pc = .ok (.bastore, 1))
    (kk : ∀ (σ1 : St) (H1 : Heap) (locs1 : List Loc), σ1 = up σ i k (vp_nar .boolean v) → WS Y A H0 σ1 H1 locs1 → W p l e R s m args below meth c H1 locs1 cells slots Q (F0 m (pc + 1) ls rest)) : W p l e R s m args below meth c H locs cells slots Q (F0 m pc ls (.int v :: .int x :: .ref (yA Y i) :: rest)) := by
  subst hk; exact q_zst M hw ha hin hdg kk
/-- an element of a row of standings -/
theorem q_sld (M : MC p s m args meth c cc nL ret own Y) (hw : WS Y A H0 σ H locs) {i n : Nat} (hi : i < yN Y) (ha : ∀ σ : St, ce Y σ i = .inl (yC Y 3, n, .inr (.inr (.inr (.inr (fun j => if j < n then some (yA Y (i + 1 + 5 * j)) else none)))))) {x : Int32} (hin : vp_in x n) (hdg : decode cc pc = .ok (.aaload, 1))
    (kk : W p l e R s m args below meth c H locs cells slots Q (F0 m (pc + 1) ls (.ref (yA Y (i + 1 + 5 * x.toNatClampNeg)) :: rest))) : W p l e R s m args below meth c H locs cells slots Q (F0 m pc ls (.int x :: .ref (yA Y i) :: rest)) := by
  refine va_aldq M.1 M.2.1 M.2.2.2.2.2.2.2.1 hw.1 i 3 ((wd_at hi).trans (by rw [ha σ])) rfl hin hdg ?_
  have h1 : x.toNatClampNeg < n := Nat.lt_of_not_le (fun c => hin (Or.inr c))
  show W p l e R s m args below meth c H locs cells slots Q (F0 m (pc + 1) ls (va_rf (if x.toNatClampNeg < n then some (yA Y (i + 1 + 5 * x.toNatClampNeg)) else none) :: rest))
  rw [if_pos h1]
  exact kk
theorem q_iret {Qp : Int32 → St → Prop} (M : MC p s m args meth c cc nL (some .int) own Y) (hw : WS Y (AD Y) s.heap σ H locs) {v : Int32} (h : Qp v σ) (hdg : decode cc pc = .ok (.ireturn, 1)) : W p l e R s m args below meth c H locs cells slots (MQ below (QI Y Qp) args s cells slots (AD Y)) (F0 m pc ls [.int v]) := by
  obtain ⟨hx, hb, hr, hml, hown, hlk, hT, hK, hB⟩ := M
  exact W.iret hx hb hr (fun t ht hW => ⟨⟨v, σ, rfl, h, by rw [ht]; exact hw.1, va_K.moved hW.alike hK⟩, hw.2.2.F ht⟩) hw.2.2.2.2 hdg hlk
theorem q_zret {Qp : Int32 → St → Prop} (M : MC p s m args meth c cc nL (some .boolean) own Y) (hw : WS Y (AD Y) s.heap σ H locs) {v : Int32} (hn : narrow .boolean (.int v) = .int v) (h : Qp v σ) (hdg : decode cc pc = .ok (.ireturn, 1)) : W p l e R s m args below meth c H locs cells slots (MQ below (QI Y Qp) args s cells slots (AD Y)) (F0 m pc ls [.int v]) := by
  obtain ⟨hx, hb, hr, hml, hown, hlk, hT, hK, hB⟩ := M
  exact W.zret hx hb hr hn (fun t ht hW => ⟨⟨v, σ, rfl, h, by rw [ht]; exact hw.1, va_K.moved hW.alike hK⟩, hw.2.2.F ht⟩) hw.2.2.2.2 hdg hlk
theorem q_lret {Qp : Int64 → St → Prop} (M : MC p s m args meth c cc nL (some .long) own Y) (hw : WS Y (AD Y) s.heap σ H locs) {v : Int64} (h : Qp v σ) (hdg : decode cc pc = .ok (.lreturn, 1)) : W p l e R s m args below meth c H locs cells slots (MQ below (QL Y Qp) args s cells slots (AD Y)) (F0 m pc ls [.long v]) := by
  obtain ⟨hx, hb, hr, hml, hown, hlk, hT, hK, hB⟩ := M
  exact W.lret hx hb hr (fun t ht hW => ⟨⟨v, σ, rfl, h, by rw [ht]; exact hw.1, va_K.moved hW.alike hK⟩, hw.2.2.F ht⟩) hw.2.2.2.2 hdg hlk
theorem q_vret {Qp : St → Prop} (M : MC p s m args meth c cc nL none own Y) (hw : WS Y (AD Y) s.heap σ H locs) (h : Qp σ) (hdg : decode cc pc = .ok (.return_, 1)) : W p l e R s m args below meth c H locs cells slots (MQ below (QV Y Qp) args s cells slots (AD Y)) (F0 m pc ls []) := by
  obtain ⟨hx, hb, hr, hml, hown, hlk, hT, hK, hB⟩ := M
  exact W.vret hx hb hr (fun t ht hW => ⟨⟨σ, rfl, h, by rw [ht]; exact hw.1, va_K.moved hW.alike hK⟩, hw.2.2.F ht⟩) hw.2.2.2.2 hdg hlk
end RowsQ
theorem pw_blind {vs : List Value} {Y : LY} {σ : St} : FrameBlind (va_Pc vs (PW Y σ)) := fun a U g mk q => ⟨q.1, q.2.1, va_K.moved (u := U) (U := U.calling g mk a) (Vm.Alike.refl U.vm) q.2.2⟩
theorem gd {cw : Cond} {ws : List Cond} (h : ∀ w ∈ ws, w ∈ TB) : GoodIn (cw :: TB) ws := fun w hw => ⟨List.mem_cons_of_mem _ (h w hw), tb_good w (h w hw)⟩
theorem gdT {ws : List Cond} (h : ∀ w ∈ ws, w ∈ TB) : GoodIn TB ws := fun w hw => ⟨h w hw, tb_good w (h w hw)⟩
/-- what is known of a method that is called -/
def MB (C : String) (y : MethodName) (b : ByteArray) (n nL : Nat) (r : Option FieldType) : Prop := Cond.instanceMethod y ∈ TB ∧ Cond.selects C y y ∈ TB ∧ Cond.initialized C ∈ TB ∧ Cond.code y b nL r ∈ TB ∧ (y.cls = C ∧ y.cls ≠ "java/lang/invoke/MethodHandle" ∧ y.cls ≠ "java/lang/invoke/VarHandle" ∧ (parseMethodDescriptor y.desc).map (fun d => d.parameters.length) = some n)
def MBS (y : MethodName) (b : ByteArray) (n nL : Nat) (r : Option FieldType) : Prop := Cond.static y ∈ TB ∧ Cond.initialized y.cls ∈ TB ∧ Cond.code y b nL r ∈ TB ∧ (y.cls ≠ "java/lang/invoke/MethodHandle" ∧ y.cls ≠ "java/lang/invoke/VarHandle" ∧ (parseMethodDescriptor y.desc).map (fun d => d.parameters.length) = some n)
section CallsQ
variable {p : Program} {l : Launch} {e : Env} {R : Room} {s : State} {m : MethodId} {args : Array Value} {below : List Frame} {meth : Method} {c : Code} {H : Heap} {locs : List Loc} {cells slots : Nat} {Q : State → Prop}
variable {cc : ByteArray} {pc nL : Nat} {ls : Array Slot} {rest st : List Value} {A : Nat → Prop} {H0 : Heap} {Y : LY} {σ : St} {own : String} {ret : Option FieldType}
theorem q_runV (M : MC p s m args meth c cc nL ret own Y) (hw : WS Y A H0 σ H locs) {C : String} {y : MethodName} {b : ByteArray} {n nL' : Nat} {r' : Option FieldType} {fr lo : Nat} {Qc : Array Value → State → Outcome → State → Prop} {As : List Value} {i ci index : Nat} {fs : St → List Value} {T : u_T} {N : Nat} (hM : CT l y (Cond.code y b nL' r') { frames := fr, cells := 0, slots := 0, locals := lo } Y (.ref (yA Y i) :: As) σ Qc) (hmb : MB C y b n nL' r') (ho : OB Y i ci fs) (hc : vwCl[ci]? = some (C, T, N)) (hml : Cond.methodLink own index y ∈ TB) (hn : As.length = n) (hls : ls.size = nL) (hst : st = As.reverse ++ .ref (yA Y i) :: rest) (hrm : (rest.map fun v => v.category).sum ≤ 8) (hR : fr + 1 ≤ R.frames ∧ 8 + (nL' + 11) + lo ≤ R.locals) (hcs : cells ≤ R.cells ∧ slots ≤ R.slots) (hdg : decode cc pc = .ok (.invokevirtual index, 3)) :
    va_Run p l e R s m args below meth c H locs cells slots 0 0 (F0 m pc ls st) rest (Qc (Value.ref (yA Y i) :: As).toArray) (AD Y) := by
  obtain ⟨hx, hb, hr, hmx, hown, hlk, hT, hK, hB⟩ := M
  obtain ⟨b1, b2, b3, b4, b5⟩ := hmb
  refine va_runV (As := As) (Ts := TB) ⟨hx, hb, hmx, hown, hT⟩ hM (cwV n hT (gdT ?_) rfl rfl rfl b5 hR) ⟨pw_blind, va_recv hK hw.1 hc ((wd_at ho.1).trans (by rw [ho.2 σ])), fun U hU hW => ⟨rfl, ⟨by rw [hU]; exact hw.1, wd_DA hw.2.1⟩, va_K.moved hW.alike hK⟩⟩ rfl hn hls hst (lv_room hrm) hdg hcs
  intro w h
  simp only [wsV, List.cons_append, List.nil_append, List.mem_cons] at h
  rcases h with rfl | rfl | rfl | rfl | rfl | h
  · exact hml
  · exact b1
  · exact b2
  · exact b3
  · exact b4
  · exact h
theorem q_runS (M : MC p s m args meth c cc nL ret own Y) (hw : WS Y A H0 σ H locs) {y : MethodName} {b : ByteArray} {n nL' : Nat} {r' : Option FieldType} {fr lo : Nat} {Qc : Array Value → State → Outcome → State → Prop} {As : List Value} {index : Nat} (hM : CT l y (Cond.code y b nL' r') { frames := fr, cells := 0, slots := 0, locals := lo } Y As σ Qc) (hmb : MBS y b n nL' r') (hml : Cond.methodLink own index y ∈ TB) (hn : As.length = n) (hls : ls.size = nL) (hst : st = As.reverse ++ rest) (hrm : (rest.map fun v => v.category).sum ≤ 8) (hR : fr + 1 ≤ R.frames ∧ 8 + (nL' + 11) + lo ≤ R.locals) (hcs : cells ≤ R.cells ∧ slots ≤ R.slots) (hdg : decode cc pc = .ok (.invokestatic index, 3)) :
    va_Run p l e R s m args below meth c H locs cells slots 0 0 (F0 m pc ls st) rest (Qc As.toArray) (AD Y) := by
  obtain ⟨hx, hb, hr, hmx, hown, hlk, hT, hK, hB⟩ := M
  obtain ⟨b1, b2, b4, b5⟩ := hmb
  refine va_runS (As := As) (Ts := TB) ⟨hx, hb, hmx, hown, hT⟩ hM ⟨callB_of n hT (gdT (fun w h => ?_)) rfl rfl rfl (hT _ b2) (hT _ hml) b5 hR, hT _ b1⟩ ⟨pw_blind, fun U hU hW => ⟨rfl, ⟨by rw [hU]; exact hw.1, wd_DA hw.2.1⟩, va_K.moved hW.alike hK⟩⟩ rfl hn hls hst (lv_room hrm) hdg hcs
  rcases List.mem_cons.mp h with rfl | h
  · exact b4
  · exact h
theorem q_goI {a : Array Value} {st : List Value} {Qp : Int32 → St → Prop} (hw : WS Y A H0 σ H locs) (hr : va_Run p l e R s m args below meth c H locs cells slots 0 0 (F0 m pc ls st) rest (QI Y Qp a) (AD Y)) (kk : ∀ (r : Int32) (σ1 : St) (H1 : Heap) (locs1 : List Loc), Qp r σ1 → WS Y A H0 σ1 H1 locs1 → W p l e R s m args below meth c H1 locs1 cells slots Q (F0 m (pc + 3) ls (.int r :: rest))) : W p l e R s m args below meth c H locs cells slots Q (F0 m pc ls st) :=
  va_calli hr hw.2.2 (fun q _ h => wd_AA hw.2.1 q h) (wd_AA hw.2.1) (fun r σ1 t H1 locs1 ht _ hq hB _ _ hS => kk r σ1 H1 locs1 hq ⟨by rw [← ht]; exact hB.1, wd_D hw.2.1, hS⟩)
theorem q_goL {a : Array Value} {st : List Value} {Qp : Int64 → St → Prop} (hw : WS Y A H0 σ H locs) (hr : va_Run p l e R s m args below meth c H locs cells slots 0 0 (F0 m pc ls st) rest (QL Y Qp a) (AD Y)) (kk : ∀ (r : Int64) (σ1 : St) (H1 : Heap) (locs1 : List Loc), Qp r σ1 → WS Y A H0 σ1 H1 locs1 → W p l e R s m args below meth c H1 locs1 cells slots Q (F0 m (pc + 3) ls (.long r :: rest))) : W p l e R s m args below meth c H locs cells slots Q (F0 m pc ls st) :=
  va_calll hr hw.2.2 (fun q _ h => wd_AA hw.2.1 q h) (wd_AA hw.2.1) (fun r σ1 t H1 locs1 ht _ hq hB _ _ hS => kk r σ1 H1 locs1 hq ⟨by rw [← ht]; exact hB.1, wd_D hw.2.1, hS⟩)
theorem q_goV {a : Array Value} {st : List Value} {Qp : St → Prop} (hw : WS Y A H0 σ H locs) (hr : va_Run p l e R s m args below meth c H locs cells slots 0 0 (F0 m pc ls st) rest (QV Y Qp a) (AD Y)) (kk : ∀ (σ1 : St) (H1 : Heap) (locs1 : List Loc), Qp σ1 → WS Y A H0 σ1 H1 locs1 → W p l e R s m args below meth c H1 locs1 cells slots Q (F0 m (pc + 3) ls rest)) : W p l e R s m args below meth c H locs cells slots Q (F0 m pc ls st) :=
  va_callv hr hw.2.2 (fun q _ h => wd_AA hw.2.1 q h) (wd_AA hw.2.1) (fun σ1 t H1 locs1 ht _ hq hB _ _ hS => kk σ1 H1 locs1 hq ⟨by rw [← ht]; exact hB.1, wd_D hw.2.1, hS⟩)
theorem q_ent {y : MethodName} {vs : List Value} {fr lo : Nat} {Qc : Array Value → State → Outcome → State → Prop} (hB : YB Y) (hy : plainName y.cls = true) (hn : (lg_sl vs).length ≤ nL)
    (body : ∀ (p : Program) (e : Env) (s : State) (m : MethodId) (below : List Frame) (meth : Method) (c : Code) (ls : Array Slot), MC p s m vs.toArray meth c cc nL ret y.cls Y → WS Y (AD Y) s.heap σ s.heap [] → lv_has ls nL (lv_args 0 vs) → W p l e { frames := fr, cells := 0, slots := 0, locals := lo } s m vs.toArray below meth c s.heap [] 0 0 (MQ below Qc vs.toArray s 0 0 (AD Y)) (F0 m 0 ls [])) :
    CT l y (Cond.code y cc nL ret) { frames := fr, cells := 0, slots := 0, locals := lo } Y vs σ Qc := by
  refine Met.ofW (cc := cc) (maxL := nL) (ret := ret) hy rfl ?_
  intro p e s m args below meth c s₁ B hml hv
  obtain ⟨rfl, ⟨hP, hD⟩, hK⟩ := hv
  have hts := atoms_spec (ws := Cond.code y cc nL ret :: TB) B.pre
  have hl := lv_entry vs (n := nL) hn
  rw [lg_entry_eq]
  exact body p e s m below meth c _ ⟨B.exec, B.bytes, B.returns, hml, findClass_of_methodNamed B.named, B.notSynchronized, fun w h => hts w (List.mem_cons_of_mem _ h), hK, hB⟩ ⟨hP, hD, va_S.rf⟩ hl
end CallsQ

def f0 (Y : LY) (t u : Nat) (σ : St) : List Value := [.ref (yA Y 2), .ref (yA Y t), .ref (yA Y u), .ref (yA Y 15), .ref (yA Y 18), .ref (yA Y 23), .ref (yA Y 75), .ref (yA Y 86), .ref (yA Y 87), .ref (yA Y 91), .long σ.2.1]
def c0s (Y : LY) (t u : Nat) : Prop := ∀ σ : St, y0 Y σ = .inr (6, f0 Y t u σ)
theorem c0s_B {Y : LY} {t u : Nat} (h : c0s Y t u) : YB Y := ⟨fun σ i k v hi => by rw [h, h]; simp only [f0, up_ne (Ne.symm hi)]; rfl, fun σ v => by rw [h, h]; rfl⟩
def LYs (Y : LY) : Prop := yN Y = 108 ∧ c0s Y 3 9
theorem ob_0 {Y : LY} (hN : yN Y = 108) {t u : Nat} (h : c0s Y t u) : OB Y 0 6 (f0 Y t u) := ⟨by rw [hN]; decide, fun σ => by rw [ce, if_pos rfl]; exact h σ⟩
theorem ar_1 {Y : LY} (hN : yN Y = 108) : AR Y 2 1 200 := ⟨by rw [hN]; decide, fun _ => rfl⟩
theorem ob_2 {Y : LY} (hN : yN Y = 108) : OB Y 2 5 (fun σ => [.ref (yA Y 1), .int (σ.1 2 1), .int (σ.1 2 2), .int (σ.1 2 3), .int (σ.1 2 4), .int (σ.1 2 5)]) := ⟨by rw [hN]; decide, fun _ => rfl⟩
theorem ar_4 {Y : LY} (hN : yN Y = 108) : AR Y 0 4 5 := ⟨by rw [hN]; decide, fun _ => rfl⟩
theorem ar_5 {Y : LY} (hN : yN Y = 108) : AR Y 0 5 5 := ⟨by rw [hN]; decide, fun _ => rfl⟩
theorem ar_6 {Y : LY} (hN : yN Y = 108) : AR Y 0 6 7 := ⟨by rw [hN]; decide, fun _ => rfl⟩
theorem ar_7 {Y : LY} (hN : yN Y = 108) : AR Y 0 7 7 := ⟨by rw [hN]; decide, fun _ => rfl⟩
theorem ar_8 {Y : LY} (hN : yN Y = 108) : AR Y 1 8 100 := ⟨by rw [hN]; decide, fun _ => rfl⟩
theorem ar_10 {Y : LY} (hN : yN Y = 108) : AR Y 0 10 5 := ⟨by rw [hN]; decide, fun _ => rfl⟩
theorem ar_11 {Y : LY} (hN : yN Y = 108) : AR Y 0 11 5 := ⟨by rw [hN]; decide, fun _ => rfl⟩
theorem ar_12 {Y : LY} (hN : yN Y = 108) : AR Y 0 12 7 := ⟨by rw [hN]; decide, fun _ => rfl⟩
theorem ar_13 {Y : LY} (hN : yN Y = 108) : AR Y 0 13 7 := ⟨by rw [hN]; decide, fun _ => rfl⟩
theorem ar_14 {Y : LY} (hN : yN Y = 108) : AR Y 1 14 100 := ⟨by rw [hN]; decide, fun _ => rfl⟩
theorem ob_15 {Y : LY} (hN : yN Y = 108) : OB Y 15 0 (fun σ => [.ref (yA Y 16), .ref (yA Y 17), .int (σ.1 15 2), .int (σ.1 15 3)]) := ⟨by rw [hN]; decide, fun _ => rfl⟩
theorem ar_16 {Y : LY} (hN : yN Y = 108) : AR Y 0 16 3904 := ⟨by rw [hN]; decide, fun _ => rfl⟩
theorem ar_17 {Y : LY} (hN : yN Y = 108) : AR Y 0 17 60 := ⟨by rw [hN]; decide, fun _ => rfl⟩
theorem ar_19 {Y : LY} (hN : yN Y = 108) : AR Y 0 19 5 := ⟨by rw [hN]; decide, fun _ => rfl⟩
theorem ar_20 {Y : LY} (hN : yN Y = 108) : AR Y 0 20 5 := ⟨by rw [hN]; decide, fun _ => rfl⟩
theorem ar_21 {Y : LY} (hN : yN Y = 108) : AR Y 0 21 7 := ⟨by rw [hN]; decide, fun _ => rfl⟩
theorem ar_22 {Y : LY} (hN : yN Y = 108) : AR Y 0 22 7 := ⟨by rw [hN]; decide, fun _ => rfl⟩
theorem ob_23 {Y : LY} (hN : yN Y = 108) : OB Y 23 2 (fun σ => [.ref (yA Y 24), .int (σ.1 23 1), .int (σ.1 23 2)]) := ⟨by rw [hN]; decide, fun _ => rfl⟩
theorem ar_26 {Y : LY} (hN : yN Y = 108) : AR Y 0 26 5 := ⟨by rw [hN]; decide, fun _ => rfl⟩
theorem ar_27 {Y : LY} (hN : yN Y = 108) : AR Y 0 27 5 := ⟨by rw [hN]; decide, fun _ => rfl⟩
theorem ar_28 {Y : LY} (hN : yN Y = 108) : AR Y 0 28 7 := ⟨by rw [hN]; decide, fun _ => rfl⟩
theorem ar_29 {Y : LY} (hN : yN Y = 108) : AR Y 0 29 7 := ⟨by rw [hN]; decide, fun _ => rfl⟩
theorem ar_31 {Y : LY} (hN : yN Y = 108) : AR Y 0 31 5 := ⟨by rw [hN]; decide, fun _ => rfl⟩
theorem ar_32 {Y : LY} (hN : yN Y = 108) : AR Y 0 32 5 := ⟨by rw [hN]; decide, fun _ => rfl⟩
theorem ar_33 {Y : LY} (hN : yN Y = 108) : AR Y 0 33 7 := ⟨by rw [hN]; decide, fun _ => rfl⟩
theorem ar_34 {Y : LY} (hN : yN Y = 108) : AR Y 0 34 7 := ⟨by rw [hN]; decide, fun _ => rfl⟩
theorem ar_36 {Y : LY} (hN : yN Y = 108) : AR Y 0 36 5 := ⟨by rw [hN]; decide, fun _ => rfl⟩
theorem ar_37 {Y : LY} (hN : yN Y = 108) : AR Y 0 37 5 := ⟨by rw [hN]; decide, fun _ => rfl⟩
theorem ar_38 {Y : LY} (hN : yN Y = 108) : AR Y 0 38 7 := ⟨by rw [hN]; decide, fun _ => rfl⟩
theorem ar_39 {Y : LY} (hN : yN Y = 108) : AR Y 0 39 7 := ⟨by rw [hN]; decide, fun _ => rfl⟩
theorem ar_41 {Y : LY} (hN : yN Y = 108) : AR Y 0 41 5 := ⟨by rw [hN]; decide, fun _ => rfl⟩
theorem ar_42 {Y : LY} (hN : yN Y = 108) : AR Y 0 42 5 := ⟨by rw [hN]; decide, fun _ => rfl⟩
theorem ar_43 {Y : LY} (hN : yN Y = 108) : AR Y 0 43 7 := ⟨by rw [hN]; decide, fun _ => rfl⟩
theorem ar_44 {Y : LY} (hN : yN Y = 108) : AR Y 0 44 7 := ⟨by rw [hN]; decide, fun _ => rfl⟩
theorem ar_46 {Y : LY} (hN : yN Y = 108) : AR Y 0 46 5 := ⟨by rw [hN]; decide, fun _ => rfl⟩
theorem ar_47 {Y : LY} (hN : yN Y = 108) : AR Y 0 47 5 := ⟨by rw [hN]; decide, fun _ => rfl⟩
theorem ar_48 {Y : LY} (hN : yN Y = 108) : AR Y 0 48 7 := ⟨by rw [hN]; decide, fun _ => rfl⟩
theorem ar_49 {Y : LY} (hN : yN Y = 108) : AR Y 0 49 7 := ⟨by rw [hN]; decide, fun _ => rfl⟩
theorem ar_51 {Y : LY} (hN : yN Y = 108) : AR Y 0 51 5 := ⟨by rw [hN]; decide, fun _ => rfl⟩
theorem ar_52 {Y : LY} (hN : yN Y = 108) : AR Y 0 52 5 := ⟨by rw [hN]; decide, fun _ => rfl⟩
theorem ar_53 {Y : LY} (hN : yN Y = 108) : AR Y 0 53 7 := ⟨by rw [hN]; decide, fun _ => rfl⟩
theorem ar_54 {Y : LY} (hN : yN Y = 108) : AR Y 0 54 7 := ⟨by rw [hN]; decide, fun _ => rfl⟩
theorem ar_56 {Y : LY} (hN : yN Y = 108) : AR Y 0 56 5 := ⟨by rw [hN]; decide, fun _ => rfl⟩
theorem ar_57 {Y : LY} (hN : yN Y = 108) : AR Y 0 57 5 := ⟨by rw [hN]; decide, fun _ => rfl⟩
theorem ar_58 {Y : LY} (hN : yN Y = 108) : AR Y 0 58 7 := ⟨by rw [hN]; decide, fun _ => rfl⟩
theorem ar_59 {Y : LY} (hN : yN Y = 108) : AR Y 0 59 7 := ⟨by rw [hN]; decide, fun _ => rfl⟩
theorem ar_61 {Y : LY} (hN : yN Y = 108) : AR Y 0 61 5 := ⟨by rw [hN]; decide, fun _ => rfl⟩
theorem ar_62 {Y : LY} (hN : yN Y = 108) : AR Y 0 62 5 := ⟨by rw [hN]; decide, fun _ => rfl⟩
theorem ar_63 {Y : LY} (hN : yN Y = 108) : AR Y 0 63 7 := ⟨by rw [hN]; decide, fun _ => rfl⟩
theorem ar_64 {Y : LY} (hN : yN Y = 108) : AR Y 0 64 7 := ⟨by rw [hN]; decide, fun _ => rfl⟩
theorem ar_66 {Y : LY} (hN : yN Y = 108) : AR Y 0 66 5 := ⟨by rw [hN]; decide, fun _ => rfl⟩
theorem ar_67 {Y : LY} (hN : yN Y = 108) : AR Y 0 67 5 := ⟨by rw [hN]; decide, fun _ => rfl⟩
theorem ar_68 {Y : LY} (hN : yN Y = 108) : AR Y 0 68 7 := ⟨by rw [hN]; decide, fun _ => rfl⟩
theorem ar_69 {Y : LY} (hN : yN Y = 108) : AR Y 0 69 7 := ⟨by rw [hN]; decide, fun _ => rfl⟩
theorem ar_71 {Y : LY} (hN : yN Y = 108) : AR Y 0 71 5 := ⟨by rw [hN]; decide, fun _ => rfl⟩
theorem ar_72 {Y : LY} (hN : yN Y = 108) : AR Y 0 72 5 := ⟨by rw [hN]; decide, fun _ => rfl⟩
theorem ar_73 {Y : LY} (hN : yN Y = 108) : AR Y 0 73 7 := ⟨by rw [hN]; decide, fun _ => rfl⟩
theorem ar_74 {Y : LY} (hN : yN Y = 108) : AR Y 0 74 7 := ⟨by rw [hN]; decide, fun _ => rfl⟩
theorem ar_77 {Y : LY} (hN : yN Y = 108) : AR Y 0 77 5 := ⟨by rw [hN]; decide, fun _ => rfl⟩
theorem ar_78 {Y : LY} (hN : yN Y = 108) : AR Y 0 78 5 := ⟨by rw [hN]; decide, fun _ => rfl⟩
theorem ar_79 {Y : LY} (hN : yN Y = 108) : AR Y 0 79 7 := ⟨by rw [hN]; decide, fun _ => rfl⟩
theorem ar_80 {Y : LY} (hN : yN Y = 108) : AR Y 0 80 7 := ⟨by rw [hN]; decide, fun _ => rfl⟩
theorem ar_82 {Y : LY} (hN : yN Y = 108) : AR Y 0 82 5 := ⟨by rw [hN]; decide, fun _ => rfl⟩
theorem ar_83 {Y : LY} (hN : yN Y = 108) : AR Y 0 83 5 := ⟨by rw [hN]; decide, fun _ => rfl⟩
theorem ar_84 {Y : LY} (hN : yN Y = 108) : AR Y 0 84 7 := ⟨by rw [hN]; decide, fun _ => rfl⟩
theorem ar_85 {Y : LY} (hN : yN Y = 108) : AR Y 0 85 7 := ⟨by rw [hN]; decide, fun _ => rfl⟩
theorem ar_86 {Y : LY} (hN : yN Y = 108) : AR Y 1 86 2 := ⟨by rw [hN]; decide, fun _ => rfl⟩
theorem ob_87 {Y : LY} (hN : yN Y = 108) : OB Y 87 1 (fun σ => [.ref (yA Y 88), .ref (yA Y 89), .ref (yA Y 90), .int (σ.1 87 3)]) := ⟨by rw [hN]; decide, fun _ => rfl⟩
theorem ar_88 {Y : LY} (hN : yN Y = 108) : AR Y 0 88 6 := ⟨by rw [hN]; decide, fun _ => rfl⟩
theorem ar_89 {Y : LY} (hN : yN Y = 108) : AR Y 0 89 6 := ⟨by rw [hN]; decide, fun _ => rfl⟩
theorem ar_90 {Y : LY} (hN : yN Y = 108) : AR Y 0 90 6 := ⟨by rw [hN]; decide, fun _ => rfl⟩
theorem ar_91 {Y : LY} (hN : yN Y = 108) : AR Y 0 91 5 := ⟨by rw [hN]; decide, fun _ => rfl⟩
theorem ob_92 {Y : LY} (hN : yN Y = 108) : OB Y 92 7 (fun σ => [.int (σ.1 92 0), .long σ.2.2, .ref (yA Y 93), .int (σ.1 92 3), .int (σ.1 92 4), .int (σ.1 92 5), .int (σ.1 92 6), .int (σ.1 92 7), .int (σ.1 92 8), .ref (yA Y 94), .int (σ.1 92 10), .ref (yA Y 95), .ref (yA Y 96), .ref (yA Y 97), .ref (yA Y 98), .ref (yA Y 99), .ref (yA Y 100), .ref (yA Y 101), .ref (yA Y 102), .ref (yA Y 103), .int (σ.1 92 20), .ref (yA Y 104), .ref (yA Y 105), .ref (yA Y 106), .int (σ.1 92 24), .ref (yA Y 107)]) := ⟨by rw [hN]; decide, fun _ => rfl⟩
theorem ar_93 {Y : LY} (hN : yN Y = 108) : AR Y 0 93 200 := ⟨by rw [hN]; decide, fun _ => rfl⟩
theorem ar_94 {Y : LY} (hN : yN Y = 108) : AR Y 0 94 8 := ⟨by rw [hN]; decide, fun _ => rfl⟩
theorem ar_95 {Y : LY} (hN : yN Y = 108) : AR Y 0 95 5 := ⟨by rw [hN]; decide, fun _ => rfl⟩
theorem ar_96 {Y : LY} (hN : yN Y = 108) : AR Y 0 96 10 := ⟨by rw [hN]; decide, fun _ => rfl⟩
theorem ar_97 {Y : LY} (hN : yN Y = 108) : AR Y 0 97 7 := ⟨by rw [hN]; decide, fun _ => rfl⟩
theorem ar_98 {Y : LY} (hN : yN Y = 108) : AR Y 0 98 14 := ⟨by rw [hN]; decide, fun _ => rfl⟩
theorem ar_99 {Y : LY} (hN : yN Y = 108) : AR Y 1 99 200 := ⟨by rw [hN]; decide, fun _ => rfl⟩
theorem ar_100 {Y : LY} (hN : yN Y = 108) : AR Y 0 100 27 := ⟨by rw [hN]; decide, fun _ => rfl⟩
theorem ar_101 {Y : LY} (hN : yN Y = 108) : AR Y 0 101 54 := ⟨by rw [hN]; decide, fun _ => rfl⟩
theorem ar_102 {Y : LY} (hN : yN Y = 108) : AR Y 1 102 2 := ⟨by rw [hN]; decide, fun _ => rfl⟩
theorem ar_103 {Y : LY} (hN : yN Y = 108) : AR Y 0 103 270 := ⟨by rw [hN]; decide, fun _ => rfl⟩
theorem ar_104 {Y : LY} (hN : yN Y = 108) : AR Y 0 104 6 := ⟨by rw [hN]; decide, fun _ => rfl⟩
theorem ar_105 {Y : LY} (hN : yN Y = 108) : AR Y 0 105 6 := ⟨by rw [hN]; decide, fun _ => rfl⟩
theorem ar_106 {Y : LY} (hN : yN Y = 108) : AR Y 0 106 6 := ⟨by rw [hN]; decide, fun _ => rfl⟩
theorem ar_107 {Y : LY} (hN : yN Y = 108) : AR Y 0 107 3904 := ⟨by rw [hN]; decide, fun _ => rfl⟩
def STL : List Nat := [18, 25, 30, 35, 40, 45, 50, 55, 60, 65, 70, 76, 81]
theorem st_kd : ∀ h ∈ STL, kd h = (7, 0) ∧ kd (h + 1) = (1, 5) ∧ kd (h + 2) = (1, 5) ∧ kd (h + 3) = (1, 7) ∧ kd (h + 4) = (1, 7) ∧ h ≠ 0 ∧ h + 4 < 108 := by decide
def SH (Y : LY) (h : Nat) : Prop := h ∈ STL ∧ h + 4 < yN Y
theorem sh_ob {Y : LY} {h : Nat} (hh : SH Y h) : OB Y h 4 (fun σ => [.ref (yA Y (h + 1)), .ref (yA Y (h + 2)), .ref (yA Y (h + 3)), .ref (yA Y (h + 4)), .int (σ.1 h 4), .int (σ.1 h 5), .int (σ.1 h 6)]) := ⟨by have := hh.2; omega, fun σ => by
  obtain ⟨a, -, -, -, -, b, -⟩ := st_kd h hh.1
  rw [ce, if_neg b, a]; rfl⟩
theorem sh_a1 {Y : LY} {h : Nat} (hh : SH Y h) : AR Y 0 (h + 1) 5 := ⟨by have := hh.2; omega, fun σ => by
  obtain ⟨-, a, -, -, -, -, -⟩ := st_kd h hh.1
  rw [ce, if_neg (by omega), a]; rfl⟩
theorem sh_a2 {Y : LY} {h : Nat} (hh : SH Y h) : AR Y 0 (h + 2) 5 := ⟨by have := hh.2; omega, fun σ => by
  obtain ⟨-, -, a, -, -, -, -⟩ := st_kd h hh.1
  rw [ce, if_neg (by omega), a]; rfl⟩
theorem sh_a3 {Y : LY} {h : Nat} (hh : SH Y h) : AR Y 0 (h + 3) 7 := ⟨by have := hh.2; omega, fun σ => by
  obtain ⟨-, -, -, a, -, -, -⟩ := st_kd h hh.1
  rw [ce, if_neg (by omega), a]; rfl⟩
theorem sh_a4 {Y : LY} {h : Nat} (hh : SH Y h) : AR Y 0 (h + 4) 7 := ⟨by have := hh.2; omega, fun σ => by
  obtain ⟨-, -, -, -, a, -, -⟩ := st_kd h hh.1
  rw [ce, if_neg (by omega), a]; rfl⟩
theorem sh_18 {Y : LY} (hN : yN Y = 108) : SH Y 18 := ⟨by decide, by rw [hN]; decide⟩
theorem sh_past {Y : LY} (hN : yN Y = 108) {x : Int32} (h : vp_in x 10) : SH Y (24 + 1 + 5 * x.toNatClampNeg) := by
  have h1 : x.toNatClampNeg < 10 := Nat.lt_of_not_le (fun c => h (Or.inr c))
  generalize x.toNatClampNeg = j at h1
  have : (24 + 1 + 5 * j) ∈ STL := (by decide : ∀ j, j < 10 → (24 + 1 + 5 * j) ∈ STL) j h1
  exact ⟨this, by rw [hN]; omega⟩
theorem sh_imag {Y : LY} (hN : yN Y = 108) {x : Int32} (h : vp_in x 2) : SH Y (75 + 1 + 5 * x.toNatClampNeg) := by
  have h1 : x.toNatClampNeg < 2 := Nat.lt_of_not_le (fun c => h (Or.inr c))
  generalize x.toNatClampNeg = j at h1
  have : (75 + 1 + 5 * j) ∈ STL := (by decide : ∀ j, j < 2 → (75 + 1 + 5 * j) ∈ STL) j h1
  exact ⟨this, by rw [hN]; omega⟩
def PH (Y : LY) (h : Nat) : Prop := h ∈ [3, 9] ∧ h + 5 < yN Y
theorem pa_kd : ∀ h ∈ [3, 9], kd h = (5, 0) ∧ kd (h + 1) = (1, 5) ∧ kd (h + 2) = (1, 5) ∧ kd (h + 3) = (1, 7) ∧ kd (h + 4) = (1, 7) ∧ kd (h + 5) = (2, 100) ∧ h ≠ 0 := by decide
theorem ph_ob {Y : LY} {h : Nat} (hh : PH Y h) : OB Y h 3 (fun σ => [.ref (yA Y (h + 1)), .ref (yA Y (h + 2)), .ref (yA Y (h + 3)), .ref (yA Y (h + 4)), .ref (yA Y (h + 5)), .int (σ.1 h 5), .int (σ.1 h 6), .int (σ.1 h 7), .int (σ.1 h 8), .int (σ.1 h 9), .int (σ.1 h 10)]) := ⟨by have := hh.2; omega, fun σ => by
  obtain ⟨a, -, -, -, -, -, b⟩ := pa_kd h hh.1
  rw [ce, if_neg b, a]; rfl⟩
theorem ph_a1 {Y : LY} {h : Nat} (hh : PH Y h) : AR Y 0 (h + 1) 5 := ⟨by have := hh.2; omega, fun σ => by
  obtain ⟨-, a, -, -, -, -, -⟩ := pa_kd h hh.1
  rw [ce, if_neg (by omega), a]; rfl⟩
theorem ph_a2 {Y : LY} {h : Nat} (hh : PH Y h) : AR Y 0 (h + 2) 5 := ⟨by have := hh.2; omega, fun σ => by
  obtain ⟨-, -, a, -, -, -, -⟩ := pa_kd h hh.1
  rw [ce, if_neg (by omega), a]; rfl⟩
theorem ph_a3 {Y : LY} {h : Nat} (hh : PH Y h) : AR Y 0 (h + 3) 7 := ⟨by have := hh.2; omega, fun σ => by
  obtain ⟨-, -, -, a, -, -, -⟩ := pa_kd h hh.1
  rw [ce, if_neg (by omega), a]; rfl⟩
theorem ph_a4 {Y : LY} {h : Nat} (hh : PH Y h) : AR Y 0 (h + 4) 7 := ⟨by have := hh.2; omega, fun σ => by
  obtain ⟨-, -, -, -, a, -, -⟩ := pa_kd h hh.1
  rw [ce, if_neg (by omega), a]; rfl⟩
theorem ph_a5 {Y : LY} {h : Nat} (hh : PH Y h) : AR Y 1 (h + 5) 100 := ⟨by have := hh.2; omega, fun σ => by
  obtain ⟨-, -, -, -, -, a, -⟩ := pa_kd h hh.1
  rw [ce, if_neg (by omega), a]; rfl⟩
theorem ph_3 {Y : LY} (hN : yN Y = 108) : PH Y 3 := ⟨by decide, by rw [hN]; decide⟩
theorem ph_9 {Y : LY} (hN : yN Y = 108) : PH Y 9 := ⟨by decide, by rw [hN]; decide⟩
theorem one_12 {Y : LY} (hN : yN Y = 108) : ∀ j, j < yN Y → j ≠ 92 → (kd j).1 ≠ 12 := by rw [hN]; decide
theorem sw_out {x : Int32} (n : Nat) (hn : n < 100) (h : ∀ k : Nat, k ≤ n → ¬ x = Int32.ofNat k) : x.toInt < 0 ∨ (n : Int) < x.toInt := by
  rcases Int.lt_or_le x.toInt 0 with a | a
  · exact Or.inl a
  · rcases Int.lt_or_le (n : Int) x.toInt with b | b
    · exact Or.inr b
    · exfalso
      refine h x.toInt.toNat (by omega) (Int32.toInt_inj.mp ?_)
      rw [show Int32.ofNat x.toInt.toNat = nI x.toInt.toNat from rfl, nI_toInt (by omega)]
      omega
theorem nar01 {v : Int32} (h : v = 0 ∨ v = 1) : narrow .boolean (.int v) = .int v := by rcases h with rfl | rfl <;> decide
