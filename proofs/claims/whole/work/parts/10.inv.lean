/-! numbers -/
theorem iT {c A B : Prop} (h : c) (a : A) : (c → A) ∧ (¬ c → B) := ⟨fun _ => a, fun n => absurd h n⟩
theorem iF {c A B : Prop} (h : ¬ c) (b : B) : (c → A) ∧ (¬ c → B) := ⟨fun n => absurd n h, fun _ => b⟩
theorem lp_s {α : Type} {F : (α → Prop) → α → Prop} {a : α} (h : F (Lp F 0) a) : ∃ n, Lp F n a := ⟨1, h⟩
theorem vin {k n : Nat} (h : k < n) (hn : n < 2 ^ 31) : vp_in (nI k) n := nI_in h hn
theorem nI_mul (a b : Nat) : nI a * nI b = nI (a * b) := (Int32.ofNat_mul a b).symm
theorem nI_sub {a b : Nat} (h : b ≤ a) : nI a - nI b = nI (a - b) := by
  obtain ⟨c, rfl⟩ : ∃ c, a = c + b := ⟨a - b, by omega⟩
  rw [← nI_add, Nat.add_sub_cancel]
  exact Int32.add_sub_cancel (nI c) (nI b)
theorem nI_div {a b : Nat} (ha : a < 2 ^ 31) (hb : b < 2 ^ 31) : nI a / nI b = nI (a / b) := by
  apply Int32.toInt_inj.mp
  have h1 : a / b < 2 ^ 31 := Nat.lt_of_le_of_lt (Nat.div_le_self a b) ha
  rw [Int32.toInt_div, nI_toInt ha, nI_toInt hb, nI_toInt h1]
  have h2 : ((a : Int).tdiv (b : Int)) = ((a / b : Nat) : Int) := by
    rw [Int.tdiv_eq_ediv_of_nonneg (Int.natCast_nonneg a)]; rfl
  rw [h2]
  clear h2
  generalize a / b = d at h1
  apply Int.bmod_eq_of_le <;> omega
theorem nI_mod {a b : Nat} (ha : a < 2 ^ 31) (hb : b < 2 ^ 31) : nI a - nI a / nI b * nI b = nI (a % b) := by
  rw [nI_div ha hb, nI_mul, nI_sub (Nat.div_mul_le_self a b)]
  congr 1
  have := Nat.mod_add_div a b
  rw [Nat.mul_comm] at this
  omega
def isX (a : Int32) (n : Nat) : Prop := ∃ k, k < n ∧ a = nI k
theorem isX_or (a : Int32) (n : Nat) (hn : n < 2 ^ 31) : isX a n ∨ (¬ isX a n ∧ (a < 0 ∨ (¬ a < 0 ∧ nI n ≤ a))) := by
  by_cases h : isX a n
  · exact Or.inl h
  · refine Or.inr ⟨h, ?_⟩
    by_cases c : a < 0
    · exact Or.inl c
    · refine Or.inr ⟨c, ?_⟩
      obtain ⟨j, hj, rfl⟩ := nI_of c
      rcases Nat.lt_or_ge j n with q | q
      · exact absurd ⟨j, q, rfl⟩ h
      · exact nI_le q hj
theorem isX_in {a : Int32} {n : Nat} (hn : n < 2 ^ 31) (hn0 : 0 < n) {hi : Int32} (hhi : hi = nI (n - 1)) (h : ¬ isX a n) : a < 0 ∨ hi < a := by
  rcases isX_or a n hn with q | ⟨-, q | ⟨q, r⟩⟩
  · exact absurd q h
  · exact Or.inl q
  · refine Or.inr ?_
    obtain ⟨j, hj, rfl⟩ := nI_of q
    rw [hhi]
    refine nI_lt ?_ hj
    have := (nI_leI hn hj).mp r
    omega
def mt (m : Nat) : Int32 := if m = 0 then -9 else nI (m - 1)
/-! the abstract state, what both objects hold of it -/
abbrev AM : Type := Nat → Nat → Nat
def sA (A : AM) (i j n : Nat) : AM := fun a => if a = i then (fun b => if b = j then n else A i b) else A a
def rl (A : AM) (i j : Nat) : Prop := (i = 94 ∧ j < 4) ∨ (i = 96 ∧ j < A 94 0) ∨ (i = 98 ∧ j < A 94 1) ∨ (i = 99 ∧ j < 100) ∨ (i = 100 ∧ j < 27) ∨ (i = 101 ∧ j < 54) ∨ (i = 102 ∧ j < 2) ∨ (i = 103 ∧ j < 270) ∨ (i = 104 ∧ j < 6) ∨ (i = 105 ∧ j < 6) ∨ (i = 106 ∧ j < 6) ∨ (i = 92 ∧ (j = 3 ∨ j = 20 ∨ j = 24)) ∨ (i = 93 ∧ j < 200)
def RM (A : AM) (σ : St) : Prop := (∀ i j, rl A i j → σ.1 i j = nI (A i j))
def RSn (nf ns : Nat) (σ : St) (h : Nat) (f : Nat → Nat) : Prop :=
  σ.1 h 4 = nI (f 0) ∧ σ.1 h 5 = nI (f 20) ∧ σ.1 h 6 = nI (f 26) ∧ (∀ k, k < nf → σ.1 (h + 1) k = nI (f (1 + k)) ∧ σ.1 (h + 2) k = mt (f (21 + k))) ∧ (∀ k, k < ns → σ.1 (h + 3) k = nI (f (13 + k)) ∧ σ.1 (h + 4) k = nI (f (6 + k)))
def RP (A : AM) (σ : St) : Prop := σ.1 3 5 = nI (A 94 0) ∧ σ.1 3 6 = nI (A 94 1) ∧ σ.1 3 7 = nI (A 94 2) ∧ σ.1 3 8 = nI (A 94 3) ∧ (∀ k, k < A 94 0 → σ.1 5 k = nI (A 96 k)) ∧ (∀ k, k < A 94 1 → σ.1 7 k = nI (A 98 k)) ∧ (∀ n, n < 100 → σ.1 8 n = nI (A 99 n))
def RH (A : AM) (σ : St) : Prop := ∃ x, x < 10 ∧ σ.1 23 1 = nI x ∧ σ.1 23 2 = nI (A 92 20) ∧ ∀ j, j < A 92 20 → RSn (A 94 0) (A 94 1) σ (24 + 1 + 5 * ((x + 10 - A 92 20 + j) % 10)) (fun i => A 103 (27 * j + i))
def RI (A : AM) (σ : St) : Prop := ∀ i, i < 2 → σ.1 86 i = nI (A 102 i) ∧ (A 102 i = 1 → RSn (A 94 0) (A 94 1) σ (75 + 1 + 5 * i) (fun j => A 101 (27 * i + j)))
def RT (A : AM) (σ : St) : Prop := σ.1 2 1 = nI (A 92 3) ∧ ∀ i, i < 200 → σ.1 1 i = nI (A 93 i)
def RK (A : AM) (σ : St) : Prop := σ.1 87 3 = nI (A 92 24) ∧ ∀ i, i < 6 → σ.1 88 i = nI (A 104 i) ∧ σ.1 89 i = nI (A 105 i) ∧ σ.1 90 i = nI (A 106 i)
def RC (A : AM) (σ : St) : Prop := RP A σ ∧ RSn (A 94 0) (A 94 1) σ 18 (A 100) ∧ RH A σ ∧ RI A σ ∧ RT A σ ∧ RK A σ
def WSn (nf ns : Nat) (f : Nat → Nat) : Prop := f 0 ≤ 99 ∧ f 20 < 2 ^ nf ∧ f 26 < 2 ^ nf ∧ (∀ k, k < nf → f (21 + k) = 0 ∨ ∃ m, m < nf ∧ m ≠ k ∧ f (21 + k) = m + 1 ∧ f (21 + m) = k + 1) ∧ (∀ k, k < ns → f (13 + k) < nf ∧ f (6 + k) ≤ 60) ∧ (∀ j, j < 27 → f j ≤ 999)
def WF (A : AM) : Prop := A 94 0 ≤ 5 ∧ A 94 1 ≤ 7 ∧ A 94 2 ≤ 15 ∧ 1 ≤ A 94 3 ∧ A 94 3 ≤ 60 ∧ (∀ k, k < A 94 0 → 1 ≤ A 96 k ∧ A 96 k ≤ 4) ∧ (∀ k, k < A 94 1 → A 98 k ≤ 60) ∧ (∀ n, n < 100 → A 99 n ≤ 1) ∧ WSn (A 94 0) (A 94 1) (A 100) ∧
  A 92 20 ≤ 10 ∧ (∀ j, j < A 92 20 → WSn (A 94 0) (A 94 1) (fun i => A 103 (27 * j + i))) ∧ (∀ i, i < 2 → A 102 i ≤ 1 ∧ (A 102 i = 1 → WSn (A 94 0) (A 94 1) (fun j => A 101 (27 * i + j)))) ∧ A 92 24 ≤ 6 ∧ (∀ i, i < A 92 24 → A 104 i < A 94 0 ∧ A 105 i ≤ 99 ∧ A 106 i ≤ 16) ∧ A 92 3 ≤ 200 ∧ (∀ i, i < 200 → A 93 i ≤ 255)
/-- the moon of a night, the moon or 0 under a cloud -/
def moN (ph n : Nat) : Nat := if 8 < (n + ph) % 16 then (16 - (n + ph) % 16) / 2 else ((n + ph) % 16) / 2
def mo (ph : Nat) (cl : Nat → Nat) (n : Nat) : Nat := if cl n = 0 then moN ph n else 0
/-- fewest nights from the one that is d ahead of Easter on, by just q moons; 1000: not at all -/
def FW (ea : Nat) (m : Nat → Nat) : Nat → Nat → Nat
  | 0, q => if q = 0 then 0 else 1000
  | d + 1, q => if (if m (ea - (d + 1)) = 0 ∨ q < m (ea - (d + 1)) then 1000 else FW ea m d (q - m (ea - (d + 1))) + 1) < FW ea m d q then (if m (ea - (d + 1)) = 0 ∨ q < m (ea - (d + 1)) then 1000 else FW ea m d (q - m (ea - (d + 1))) + 1) else FW ea m d q
def TAB (ea : Nat) (m : Nat → Nat) (σ : St) : Prop := (∀ n, n < ea → σ.1 17 n = nI (m n)) ∧ ∀ n, n ≤ ea → ∀ q, q < 64 → σ.1 16 (64 * n + q) = nI (FW ea m (ea - n) q)
def AL (A : AM) (σ : St) : Prop := σ.1 15 3 = 0 ∨ (σ.1 15 3 = 1 ∧ σ.1 15 2 = nI (A 94 3) ∧ TAB (A 94 3) (mo (A 94 2) (A 99)) σ)
def INV (σ : St) : Prop := ∃ A : AM, WF A ∧ RM A σ ∧ RC A σ ∧ AL A σ ∧ σ.2.1 = σ.2.2
/-! what doesn't matter -/
theorem RM_irr {A : AM} {σ : St} {i j : Nat} {v : Int32} (h : RM A σ) (hr : ¬ rl A i j) : RM A (up σ i j v) := by
  intro a b hab
  by_cases e : a = i
  · subst e
    rw [up_eq]
    by_cases f : b = j
    · subst f; exact absurd hab hr
    · simp only [upd, if_neg f]; exact h a b hab
  · rw [up_ne e]; exact h a b hab
theorem RM_sA {A : AM} {σ : St} {i j n : Nat} {v : Int32} (h : RM A σ) (hi : i ≠ 94) (hv : v = nI n) : RM (sA A i j n) (up σ i j v) := by
  intro a b hab
  have hab2 : rl A a b := by
    unfold rl sA at hab
    rw [if_neg (fun e => hi e.symm)] at hab
    exact hab
  by_cases e : a = i
  · subst e
    rw [up_eq]
    by_cases f : b = j
    · subst f; simp [upd, sA, hv]
    · simp only [upd, if_neg f, sA, if_true]; exact h a b hab2
  · rw [up_ne e]; simp only [sA, if_neg e]; exact h a b hab2
/-- the model's cells are as they were -/
def SM (σ σ' : St) : Prop := (∀ i, 92 ≤ i → σ'.1 i = σ.1 i) ∧ σ'.2.2 = σ.2.2
/-- the class's cells are as they were -/
def SC (σ σ' : St) : Prop := (∀ i, i < 92 → σ'.1 i = σ.1 i) ∧ σ'.2.1 = σ.2.1
theorem SM.rf {σ : St} : SM σ σ := ⟨fun _ _ => rfl, rfl⟩
theorem SC.rf {σ : St} : SC σ σ := ⟨fun _ _ => rfl, rfl⟩
theorem SM.tr {a b c : St} (h : SM a b) (g : SM b c) : SM a c := ⟨fun i hi => (g.1 i hi).trans (h.1 i hi), g.2.trans h.2⟩
theorem SC.tr {a b c : St} (h : SC a b) (g : SC b c) : SC a c := ⟨fun i hi => (g.1 i hi).trans (h.1 i hi), g.2.trans h.2⟩
theorem SM.up {σ : St} {i k : Nat} {v : Int32} (h : i < 92) : SM σ (up σ i k v) := ⟨fun j hj => up_ne (by omega), rfl⟩
theorem SC.up {σ : St} {i k : Nat} {v : Int32} (h : 92 ≤ i) : SC σ (up σ i k v) := ⟨fun j hj => up_ne (by omega), rfl⟩
theorem RM_SM {A : AM} {σ σ' : St} (h : RM A σ) (hs : SM σ σ') : RM A σ' := by
  intro a b hab
  rw [hs.1 a (by unfold rl at hab; omega)]
  exact h a b hab
theorem RSn_eq {nf ns : Nat} {σ σ' : St} {h : Nat} {f : Nat → Nat} (hr : RSn nf ns σ h f) (he : ∀ i, h ≤ i → i ≤ h + 4 → σ'.1 i = σ.1 i) : RSn nf ns σ' h f := by
  unfold RSn at hr ⊢
  rw [he h (by omega) (by omega), he (h + 1) (by omega) (by omega), he (h + 2) (by omega) (by omega), he (h + 3) (by omega) (by omega), he (h + 4) (by omega) (by omega)]
  exact hr
theorem RP_eq {A : AM} {σ σ' : St} (hP : RP A σ) (he : ∀ i, 3 ≤ i → i ≤ 8 → σ'.1 i = σ.1 i) : RP A σ' := by
  unfold RP at hP ⊢
  rw [he 3 (by omega) (by omega), he 5 (by omega) (by omega), he 7 (by omega) (by omega), he 8 (by omega) (by omega)]
  exact hP
theorem RH_eq {A : AM} {σ σ' : St} (hH : RH A σ) (he : ∀ i, 23 ≤ i → i ≤ 74 → σ'.1 i = σ.1 i) : RH A σ' := by
  obtain ⟨x, h1, h2, h3, h4⟩ := hH
  refine ⟨x, h1, ?_, ?_, fun j hj => RSn_eq (h4 j hj) (fun i h5 h6 => he i ?_ ?_)⟩
  · rw [he 23 (by omega) (by omega)]; exact h2
  · rw [he 23 (by omega) (by omega)]; exact h3
  all_goals omega
theorem RI_eq {A : AM} {σ σ' : St} (hI : RI A σ) (he : ∀ i, 75 ≤ i → i ≤ 86 → σ'.1 i = σ.1 i) : RI A σ' := by
  intro i hi
  obtain ⟨h1, h2⟩ := hI i hi
  exact ⟨by rw [he 86 (by omega) (by omega)]; exact h1, fun c => RSn_eq (h2 c) (fun i h5 h6 => he i (by omega) (by omega))⟩
theorem RT_eq {A : AM} {σ σ' : St} (hT : RT A σ) (he : ∀ i, (1 ≤ i ∧ i ≤ 2) → σ'.1 i = σ.1 i) : RT A σ' := by
  unfold RT at hT ⊢
  rw [he 2 (by omega), he 1 (by omega)]
  exact hT
theorem RK_eq {A : AM} {σ σ' : St} (hK : RK A σ) (he : ∀ i, 87 ≤ i → i ≤ 90 → σ'.1 i = σ.1 i) : RK A σ' := by
  unfold RK at hK ⊢
  rw [he 87 (by omega) (by omega), he 88 (by omega) (by omega), he 89 (by omega) (by omega), he 90 (by omega) (by omega)]
  exact hK
theorem RC_eq {A : AM} {σ σ' : St} (h : RC A σ) (he : ∀ i, i < 92 → i ≠ 0 → ¬ (9 ≤ i ∧ i ≤ 17) → i ≠ 91 → σ'.1 i = σ.1 i) : RC A σ' := by
  obtain ⟨hP, hS, hH, hI, hT, hK⟩ := h
  exact ⟨RP_eq hP (fun i h1 h2 => he i (by omega) (by omega) (by omega) (by omega)), RSn_eq hS (fun i h1 h2 => he i (by omega) (by omega) (by omega) (by omega)), RH_eq hH (fun i h1 h2 => he i (by omega) (by omega) (by omega) (by omega)), RI_eq hI (fun i h1 h2 => he i (by omega) (by omega) (by omega) (by omega)), RT_eq hT (fun i h1 => he i (by omega) (by omega) (by omega) (by omega)), RK_eq hK (fun i h1 h2 => he i (by omega) (by omega) (by omega) (by omega))⟩
theorem AL_eq {A : AM} {σ σ' : St} (h : AL A σ) (he : ∀ i, 15 ≤ i → i ≤ 17 → σ'.1 i = σ.1 i) : AL A σ' := by
  unfold AL TAB at h ⊢
  rw [he 15 (by omega) (by omega), he 16 (by omega) (by omega), he 17 (by omega) (by omega)]
  exact h
theorem RC_SC {A : AM} {σ σ' : St} (h : RC A σ) (hs : SC σ σ') : RC A σ' := RC_eq h (fun i hi _ _ _ => hs.1 i hi)
theorem AL_SC {A : AM} {σ σ' : St} (h : AL A σ) (hs : SC σ σ') : AL A σ' := AL_eq h (fun i _ hi => hs.1 i (by omega))
/-- the model's first act -/
theorem th0 {A : AM} {σ : St} (h : RM A σ) : RM A (up σ 92 0 0) := RM_irr h (by unfold rl; omega)
/-! guards -/
section Guards
variable {A : AM} {σ : St} {Q : Int32 → St → Prop} {a : Int32} {k : Nat}
theorem f6_y (h : RC A σ) (hw : WF A) (hk : k < A 94 0) (q : Q 1 σ) : wX6_isFarmer (nI k) σ Q := by
  unfold wX6_isFarmer
  have := hw.1
  refine iF (nI_pos (by omega)) ?_
  rw [h.1.1]
  exact iF (nI_ge hk (by omega)) q
theorem f6_n (h : RC A σ) (hw : WF A) (hk : ¬ isX a (A 94 0)) (q : Q 0 σ) : wX6_isFarmer a σ Q := by
  unfold wX6_isFarmer
  have := hw.1
  rcases isX_or a (A 94 0) (by omega) with c | ⟨-, c | ⟨c, d⟩⟩
  · exact absurd c hk
  · exact iT c q
  · refine iF c ?_
    rw [h.1.1]
    exact iT d q
theorem s6_y (h : RC A σ) (hw : WF A) (hk : k < A 94 1) (q : Q 1 σ) : wX6_isStrip (nI k) σ Q := by
  unfold wX6_isStrip
  have := hw.2.1
  refine iF (nI_pos (by omega)) ?_
  rw [h.1.2.1]
  exact iF (nI_ge hk (by omega)) q
theorem s6_n (h : RC A σ) (hw : WF A) (hk : ¬ isX a (A 94 1)) (q : Q 0 σ) : wX6_isStrip a σ Q := by
  unfold wX6_isStrip
  have := hw.2.1
  rcases isX_or a (A 94 1) (by omega) with c | ⟨-, c | ⟨c, d⟩⟩
  · exact absurd c hk
  · exact iT c q
  · refine iF c ?_
    rw [h.1.2.1]
    exact iT d q
theorem in_y {lo hi : Int32} (h1 : ¬ a < lo) (h2 : ¬ hi < a) (q : Q 1 σ) : wX7_in a lo hi σ Q := iF h1 (iF h2 q)
theorem in_n {lo hi : Int32} (h : a < lo ∨ hi < a) (q : Q 0 σ) : wX7_in a lo hi σ Q := by
  unfold wX7_in
  by_cases c : a < lo
  · exact iT c q
  · exact iF c (iT (h.resolve_left c) q)
theorem in_X {n : Nat} {hi : Int32} (hn : n < 2 ^ 31) (hhi : hi = nI (n - 1)) (hk : k < n) (q : Q 1 σ) : wX7_in (nI k) 0 hi σ Q :=
  in_y (nI_pos (by omega)) (by rw [hhi]; exact nI_nlt (by omega) (by omega)) q
theorem in_N {n : Nat} {hi : Int32} (hn : n < 2 ^ 31) (h0 : 0 < n) (hhi : hi = nI (n - 1)) (hk : ¬ isX a n) (q : Q 0 σ) : wX7_in a 0 hi σ Q := in_n (isX_in hn h0 hhi hk) q
theorem zero_in {hi : Int32} (hhi : hi = nI 0 - 1) (q : Q 0 σ) : wX7_in a 0 hi σ Q := by
  subst hhi
  unfold wX7_in
  by_cases c : a < 0
  · exact iT c q
  · refine iF c (iT ?_ q)
    obtain ⟨j, hj, rfl⟩ := nI_of c
    rw [Int32.lt_iff_toInt_lt, nI_toInt hj]
    have : (nI 0 - 1).toInt = -1 := by decide
    omega
theorem sub1 {n : Nat} (h : 0 < n) : nI n - 1 = nI (n - 1) := nI_sub (b := 1) h
theorem f7_y (h : RM A σ) (hw : WF A) (hk : k < A 94 0) (q : Q 1 σ) : wX7_isFarmer (nI k) σ Q := by
  have := hw.1
  have e : σ.1 94 0 = nI (A 94 0) := h 94 0 (by unfold rl; omega)
  unfold wX7_isFarmer
  exact in_X (n := A 94 0) (by omega) (by rw [e]; exact sub1 (by omega)) hk ⟨Or.inr rfl, q⟩
theorem f7_n (h : RM A σ) (hw : WF A) (hk : ¬ isX a (A 94 0)) (q : Q 0 σ) : wX7_isFarmer a σ Q := by
  have := hw.1
  have e : σ.1 94 0 = nI (A 94 0) := h 94 0 (by unfold rl; omega)
  unfold wX7_isFarmer
  rcases Nat.eq_zero_or_pos (A 94 0) with c | c
  · exact zero_in (by rw [e, c]) ⟨Or.inl rfl, q⟩
  · exact in_N (n := A 94 0) (by omega) c (by rw [e]; exact sub1 c) hk ⟨Or.inl rfl, q⟩
theorem s7_y (h : RM A σ) (hw : WF A) (hk : k < A 94 1) (q : Q 1 σ) : wX7_isStrip (nI k) σ Q := by
  have := hw.2.1
  have e : σ.1 94 1 = nI (A 94 1) := h 94 1 (by unfold rl; omega)
  unfold wX7_isStrip
  exact in_X (n := A 94 1) (by omega) (by rw [e]; exact sub1 (by omega)) hk ⟨Or.inr rfl, q⟩
theorem s7_n (h : RM A σ) (hw : WF A) (hk : ¬ isX a (A 94 1)) (q : Q 0 σ) : wX7_isStrip a σ Q := by
  have := hw.2.1
  have e : σ.1 94 1 = nI (A 94 1) := h 94 1 (by unfold rl; omega)
  unfold wX7_isStrip
  rcases Nat.eq_zero_or_pos (A 94 1) with c | c
  · exact zero_in (by rw [e, c]) ⟨Or.inl rfl, q⟩
  · exact in_N (n := A 94 1) (by omega) c (by rw [e]; exact sub1 c) hk ⟨Or.inl rfl, q⟩
end Guards
