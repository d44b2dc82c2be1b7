/-! the fewest nights: both tables -/
def wF (ea : Nat) (m : Nat → Nat) (d n q : Nat) : Nat := if m n = 0 ∨ q < m n then 1000 else FW ea m d (q - m n) + 1
theorem FW_s {ea : Nat} {m : Nat → Nat} {d n q : Nat} (h : n + (d + 1) = ea) : FW ea m (d + 1) q = if wF ea m d n q < FW ea m d q then wF ea m d n q else FW ea m d q := by
  have : ea - (d + 1) = n := by omega
  conv => lhs; unfold FW
  rw [this]; rfl
theorem FW_le {ea : Nat} {m : Nat → Nat} : ∀ (d q : Nat), FW ea m d q ≤ 1000
  | 0, q => by unfold FW; split <;> omega
  | d + 1, q => by
    have h := FW_le (ea := ea) (m := m) d q
    unfold FW
    generalize (if m (ea - (d + 1)) = 0 ∨ q < m (ea - (d + 1)) then 1000 else FW ea m d (q - m (ea - (d + 1))) + 1) = w
    split <;> omega
theorem FW_c {ea : Nat} {m : Nat → Nat} : ∀ (d q : Nat), d ≤ ea → FW ea m d q ≤ d ∨ FW ea m d q = 1000
  | 0, q, _ => by unfold FW; split <;> omega
  | d + 1, q, hd => by
    have h1 := FW_le (ea := ea) (m := m) d q
    have h2 := FW_c (ea := ea) (m := m) d q (by omega)
    rw [FW_s (n := ea - (d + 1)) (by omega)]
    by_cases c : wF ea m d (ea - (d + 1)) q < FW ea m d q
    · rw [if_pos c]
      unfold wF at c ⊢
      by_cases e : m (ea - (d + 1)) = 0 ∨ q < m (ea - (d + 1))
      · rw [if_pos e] at c ⊢; omega
      · rw [if_neg e] at c ⊢
        have h3 := FW_c (ea := ea) (m := m) d (q - m (ea - (d + 1))) (by omega)
        omega
    · rw [if_neg c]; omega
theorem FW_0 {ea : Nat} {m : Nat → Nat} : ∀ (d : Nat), d ≤ ea → FW ea m d 0 = 0
  | 0, _ => rfl
  | d + 1, hd => by
    rw [FW_s (n := ea - (d + 1)) (by omega), FW_0 d (by omega), if_neg (by omega)]
section Draw
variable {A : AM} {σ : St} {Q : St → Prop}
theorem nW6 {τ : St} {P : Int32 → St → Prop} {ea : Nat} {m : Nat → Nat} {n q d : Nat} (hn : n < 60) (hq : q < 64) (hm : m n ≤ 4) (h17 : τ.1 17 n = nI (m n)) (h16 : ∀ q, q < 64 → τ.1 16 (64 * (n + 1) + q) = nI (FW ea m d q)) (K : P (nI (wF ea m d n q)) τ) : wX0_nightsWith (nI n) (nI q) τ P := by
  unfold wX0_nightsWith
  unfold wF at K
  rw [nIc (n := n) (by omega), h17]
  refine ⟨vin (by omega) (by omega), ?_⟩
  by_cases c : m n = 0
  · rw [if_pos (Or.inl c)] at K
    exact iT (by rw [c]; rfl) K
  · refine iF (fun e => c ((nI_eq (b := 0) (by omega) (by omega)).mp e)) ⟨vin (by omega) (by omega), ?_⟩
    by_cases c2 : q < m n
    · rw [if_pos (Or.inr c2)] at K
      exact iF (nI_ge c2 (by omega)) K
    · rw [if_neg (by omega)] at K
      rw [nI_1, show (64 : Int32) = nI 64 from rfl, nI_mul, nI_add, nI_sub (by omega)]
      refine iT (nI_le (by omega) (by omega)) ⟨vin (by omega) (by omega), vin (by omega) (by omega), ?_⟩
      rw [nIc (by omega), show (n + 1) * 64 + q - m n = 64 * (n + 1) + (q - m n) by omega, h16 _ (by omega), nI_1]
      exact K
/-- rows from j on are drawn -/
def DR (ea : Nat) (m : Nat → Nat) (σ τ : St) (j : Nat) : Prop := (∀ i, i ≠ 16 → i ≠ 17 → τ.1 i = σ.1 i) ∧ τ.2 = σ.2 ∧ (∀ n, j ≤ n → n < ea → τ.1 17 n = nI (m n)) ∧ ∀ n, j ≤ n → n ≤ ea → ∀ q, q < 64 → τ.1 16 (64 * n + q) = nI (FW ea m (ea - n) q)
theorem dr95 {ea : Nat} {m : Nat → Nat} {n : Nat} {R : Int32 × St → Prop} {P : St → Prop} (hea : ea ≤ 60) (hn : n < ea) (hm : m n ≤ 4) (K : ∀ τ, DR ea m σ τ n → R (nI n - 1, τ)) : ∀ (d q : Nat) (τ : St), q + d = 64 → DR ea m σ τ (n + 1) → τ.1 17 n = nI (m n) → (∀ q', q' < q → τ.1 16 (64 * n + q') = nI (FW ea m (ea - n) q')) → ∃ k, Lp (lX0_draw_98 R P) k (nI n, nI (64 * n), nI q, τ)
  | 0, q, τ, e, h1, h2, h3 => ⟨1, by
      show bX0_draw_98 R _ (nI n) (nI (64 * n)) (nI q) τ P
      obtain rfl : q = 64 := by omega
      refine iT (by decide) ?_
      rintro x2 rfl
      rw [← Int32.sub_eq_add_neg]
      have hR := K τ ⟨h1.1, h1.2.1, fun i hi1 hi2 => by
        by_cases e : i = n
        · subst e; exact h2
        · exact h1.2.2.1 i (by omega) hi2, fun i hi1 hi2 q hq => by
        by_cases e : i = n
        · subst e; exact h3 q hq
        · exact h1.2.2.2 i (by omega) hi2 q hq⟩
      exact hR⟩
  | d + 1, q, τ, e, h1, h2, h3 => by
      have h16 : ∀ q', q' < 64 → τ.1 16 (64 * (n + 1) + q') = nI (FW ea m (ea - (n + 1)) q') := fun q' hq' => h1.2.2.2 (n + 1) (by omega) (by omega) q' hq'
      have hw1 := FW_le (ea := ea) (m := m) (ea - (n + 1)) q
      have hwf : wF ea m (ea - (n + 1)) n q ≤ 1001 := by
        unfold wF
        have := FW_le (ea := ea) (m := m) (ea - (n + 1)) (q - m n)
        split <;> omega
      have hval : (if nI (wF ea m (ea - (n + 1)) n q) < nI (FW ea m (ea - (n + 1)) q) then nI (wF ea m (ea - (n + 1)) n q) else nI (FW ea m (ea - (n + 1)) q)) = nI (FW ea m (ea - n) q) := by
        have := FW_s (ea := ea) (m := m) (d := ea - (n + 1)) (n := n) (q := q) (by omega)
        rw [show ea - (n + 1) + 1 = ea - n by omega] at this
        rw [this]
        by_cases c : wF ea m (ea - (n + 1)) n q < FW ea m (ea - (n + 1)) q
        · rw [if_pos (nI_lt c (by omega)), if_pos c]
        · rw [if_neg (fun e => c ((nI_ltI (by omega) (by omega)).mp e)), if_neg c]
      have st : ∀ (b : Nat), (b < 64 * n + q ∨ 64 * n + q < b) → (up τ 16 (64 * n + q) (nI (FW ea m (ea - n) q))).1 16 b = τ.1 16 b := fun b hb => by rw [upg, if_neg (by omega)]
      obtain ⟨k, hk⟩ := dr95 hea hn hm K d (q + 1) (up τ 16 (64 * n + q) (nI (FW ea m (ea - n) q))) (by omega) ⟨fun i hi1 hi2 => by rw [up_ne hi1]; exact h1.1 i hi1 hi2, h1.2.1, fun i hi1 hi2 => by rw [up_ne (by omega)]; exact h1.2.2.1 i hi1 hi2, fun i hi1 hi2 q' hq' => by rw [st _ (by omega)]; exact h1.2.2.2 i hi1 hi2 q' hq'⟩ (by rw [up_ne (by omega)]; exact h2) (fun q' hq' => by
        by_cases eq : q' = q
        · subst eq; rw [up_get]
        · rw [st _ (by omega)]; exact h3 q' (by omega))
      refine ⟨k + 1, ?_⟩
      show bX0_draw_98 R _ (nI n) (nI (64 * n)) (nI q) τ P
      refine iF (nI_ge (b := 64) (by omega) (by omega)) ?_
      rw [show (64 : Int32) = nI 64 from rfl, nI_add, nI_add, nI_add]
      refine ⟨vin (by omega) (by omega), ?_⟩
      rw [nIc (by omega), show 64 * n + 64 + q = 64 * (n + 1) + q by omega, h16 q (by omega)]
      rintro x4 rfl
      refine nW6 (by omega) (by omega) hm h2 h16 ?_
      rw [hval]
      rintro x7 rfl
      refine ⟨vin (by omega) (by omega), ?_⟩
      rw [nIc (by omega), nI_1]
      rintro σ9 rfl x10 rfl
      exact hk
theorem dr53 (hC : RC A σ) (hw : WF A) (K : ∀ τ, DR (A 94 3) (mo (A 94 2) (A 99)) σ τ 0 → Q τ) : ∀ (j : Nat) (τ : St), j ≤ A 94 3 → DR (A 94 3) (mo (A 94 2) (A 99)) σ τ j → Lp (lX0_draw_61 Q) (j + 1) (nI j - 1, τ)
  | 0, τ, hj, h => by
      show bX0_draw_61 _ (nI 0 - 1) τ Q
      exact iT (by decide) (K τ h)
  | j + 1, τ, hj, h => by
      have w5 := hw.2.2.2.2.1
      have w8 := hw.2.2.2.2.2.2.2.1 j (by omega)
      have hmo := mo_le (A 94 2) (A 99) j
      have hCt : RC A τ := RC_eq hC (fun i _ _ _ _ => h.1 i (by omega) (by omega))
      have b86 : ∀ z : Nat, z = mo (A 94 2) (A 99) j → bX0_draw_88 (Lp (lX0_draw_61 Q) (j + 1)) (nI j) (nI z) (nI j) τ Q := by
        rintro z rfl
        refine ⟨vin (by omega) (by omega), ?_⟩
        rw [nIc (by omega)]
        rintro σ2 rfl x3 rfl
        rw [show (64 : Int32) = nI 64 from rfl, nI_mul, show j * 64 = 64 * j by omega]
        refine dr95 (σ := σ) (ea := A 94 3) (m := mo (A 94 2) (A 99)) w5 (by omega) hmo (fun ρ hρ => dr53 hC hw K j ρ (by omega) hρ) 64 0 _ (by omega) ⟨fun i h1 h2 => by rw [up_ne h2]; exact h.1 i h1 h2, h.2.1, fun i h1 h2 => by rw [upg, if_neg (by omega)]; exact h.2.2.1 i h1 h2, fun i h1 h2 q hq => by rw [up_ne (by omega)]; exact h.2.2.2 i h1 h2 q hq⟩ up_get (fun q' hq' => absurd hq' (by omega))
      rw [nI_pred]
      show bX0_draw_61 _ (nI j) τ Q
      refine iF (nI_pos (by omega)) ⟨vin (by omega) (by omega), ?_⟩
      rw [nIc (by omega), hCt.1.2.2.2.2.2.2 j (by omega)]
      by_cases c : A 99 j = 0
      · exact iT (by rw [c]; rfl) (m6 hCt hw (by omega) (b86 _ (by rw [mo_pos c])))
      · exact iF (fun e => c ((nI_eq (b := 0) (by omega) (by omega)).mp e)) (b86 0 (by rw [mo_neg c]))
theorem dr15 {ea : Nat} {m : Nat → Nat} (hea : ea ≤ 60) (h15 : σ.1 15 2 = nI ea) (K : ∀ τ, DR ea m σ τ ea → ∃ k, Lp (lX0_draw_61 Q) k (nI ea - 1, τ)) : ∀ (d q : Nat) (τ : St), q + d = 64 → (∀ i, i ≠ 16 → τ.1 i = σ.1 i) → τ.2 = σ.2 → (∀ q', q' < q → τ.1 16 (64 * ea + q') = nI (FW ea m 0 q')) → ∃ k, Lp (lX0_draw_23 Q) k (nI (64 * ea), nI q, τ)
  | 0, q, τ, e, h1, h2, h3 => ⟨1, by
      show bX0_draw_23 _ (nI (64 * ea)) (nI q) τ Q
      obtain rfl : q = 64 := by omega
      refine iT (by decide) ?_
      rintro x2 rfl
      rw [h1 15 (by omega), h15]
      refine K τ ⟨fun i hi _ => h1 i hi, h2, fun n n1 n2 => by omega, fun n n1 n2 q hq => ?_⟩
      obtain rfl : n = ea := by omega
      rw [Nat.sub_self]; exact h3 q hq⟩
  | d + 1, q, τ, e, h1, h2, h3 => by
      obtain ⟨k, hk⟩ := dr15 hea h15 K d (q + 1) (up τ 16 (64 * ea + q) (nI (FW ea m 0 q))) (by omega) (fun i hi => by rw [up_ne hi]; exact h1 i hi) h2 (fun q' hq' => by
        rw [upg]
        by_cases eq : q' = q
        · subst eq; rw [if_pos ⟨rfl, rfl⟩]
        · rw [if_neg (by omega)]; exact h3 q' (by omega))
      refine ⟨k + 1, ?_⟩
      show bX0_draw_23 _ (nI (64 * ea)) (nI q) τ Q
      refine iF (nI_ge (b := 64) (by omega) (by omega)) ?_
      rw [nI_add]
      have b39 : ∀ z : Nat, z = FW ea m 0 q → bX0_draw_47 (Lp (lX0_draw_23 Q) k) (nI (64 * ea)) (nI q) (nI z) (nI (64 * ea + q)) τ Q := by
        rintro z rfl
        refine ⟨vin (by omega) (by omega), ?_⟩
        rw [nIc (by omega)]
        rintro σ2 rfl x3 rfl
        rw [nI_1]; exact hk
      by_cases c : q = 0
      · exact iT (by rw [c]; rfl) (b39 0 (by unfold FW; rw [if_pos c]))
      · exact iF (fun e => c ((nI_eq (b := 0) (by omega) (by omega)).mp e)) (b39 1000 (by unfold FW; rw [if_neg c]))
theorem draw6 (hC : RC A σ) (hw : WF A) (K : ∀ τ, (∀ i, ¬ (15 ≤ i ∧ i ≤ 17) → τ.1 i = σ.1 i) → τ.2 = σ.2 → τ.1 15 3 = 1 → τ.1 15 2 = nI (A 94 3) → TAB (A 94 3) (mo (A 94 2) (A 99)) τ → Q τ) : wX0_draw σ Q := by
  have w5 := hw.2.2.2.2.1
  have e8 : (up σ 15 3 1).1 3 8 = nI (A 94 3) := by rw [up_ne (by omega)]; exact hC.1.2.2.2.1
  have hC1 : RC A (up (up σ 15 3 1) 15 2 (nI (A 94 3))) := RC_eq hC (fun i _ _ _ _ => by rw [up_ne (by omega), up_ne (by omega)])
  have e3 : (up (up σ 15 3 1) 15 2 (nI (A 94 3))).1 15 2 = nI (A 94 3) := up_get
  have e4 : (up (up σ 15 3 1) 15 2 (nI (A 94 3))).1 15 3 = 1 := by rw [up_get_ne (by omega)]; exact up_get
  rintro σ1 rfl
  rw [e8]
  rintro σ2 rfl x3 rfl
  rw [e3, show (64 : Int32) = nI 64 from rfl, nI_mul, show A 94 3 * 64 = 64 * A 94 3 by omega]
  refine dr15 (σ := up (up σ 15 3 1) 15 2 (nI (A 94 3))) (m := mo (A 94 2) (A 99)) w5 e3 (fun τ hτ => ⟨_, dr53 hC1 hw (fun ρ hρ => ?_) (A 94 3) τ (Nat.le_refl _) hτ⟩) 64 0 _ (by omega) (fun _ _ => rfl) rfl (fun q' hq' => absurd hq' (by omega))
  have q15 := hρ.1 15 (by omega) (by omega)
  exact K ρ (fun i hi => by rw [hρ.1 i (by omega) (by omega), up_ne (by omega), up_ne (by omega)]) hρ.2.1 (by rw [q15]; exact e4) (by rw [q15]; exact e3) ⟨fun n hn => hρ.2.2.1 n (by omega) hn, fun n hn q hq => hρ.2.2.2 n (by omega) hn q hq⟩
end Draw
/-- fewest quarters from q on, d tries -/
def lqF (R : Nat → Nat) (ox fu : Nat) : Nat → Nat → Option Nat
  | 0, _ => none
  | d + 1, q => if fu ≤ q * ox ∧ R q < 1000 then some q else lqF R ox fu d (q + 1)
def oI (o : Option Nat) (z : Int32) : Int32 := match o with
  | none => z
  | some j => nI j
theorem lqF_some {R : Nat → Nat} {ox fu : Nat} : ∀ {d q l : Nat}, lqF R ox fu d q = some l → q ≤ l ∧ l < q + d ∧ fu ≤ l * ox ∧ R l < 1000
  | 0, q, l, h => by cases h
  | d + 1, q, l, h => by
    unfold lqF at h
    by_cases c : fu ≤ q * ox ∧ R q < 1000
    · rw [if_pos c] at h
      cases h
      exact ⟨Nat.le_refl _, by omega, c.1, c.2⟩
    · rw [if_neg c] at h
      have := lqF_some h
      exact ⟨by omega, by omega, this.2.2.1, this.2.2.2⟩
theorem lqF_skip {R : Nat → Nat} {ox fu : Nat} : ∀ (d c q : Nat), (∀ j, q ≤ j → j < q + c → ¬ fu ≤ j * ox) → lqF R ox fu (c + d) q = lqF R ox fu d (q + c)
  | d, 0, q, _ => by simp
  | d, c + 1, q, h => by
    rw [Nat.add_right_comm]
    conv => lhs; unfold lqF
    rw [if_neg (fun e => h q (by omega) (by omega) e.1), lqF_skip d c (q + 1) (fun j h1 h2 => h j (by omega) (by omega))]
    rw [show q + 1 + c = q + (c + 1) by omega]
/-- the row of tonight -/
def RT0 (A : AM) : Nat → Nat := FW (A 94 3) (mo (A 94 2) (A 99)) (A 94 3 - A 100 0)
def lqA (A : AM) (k s : Nat) : Option Nat := lqF (RT0 A) (A 96 k) (A 100 (6 + s)) 64 0
section Quarters
variable {A : AM} {σ : St} {Q : Int32 → St → Prop}
theorem RT0_le (A : AM) (q : Nat) : RT0 A q ≤ 1000 := FW_le _ _
theorem nf6 (hw : WF A) (h15 : σ.1 15 2 = nI (A 94 3)) (hT : TAB (A 94 3) (mo (A 94 2) (A 99)) σ) {q : Nat} (hq : q < 64) (K : Q (nI (RT0 A q)) σ) : wX0_nightsFor (nI (A 100 0)) (nI q) σ Q := by
  have w5 := hw.2.2.2.2.1
  have wn := (WSn_of hw).1
  unfold wX0_nightsFor
  rw [h15]
  have ex : (if nI (A 94 3) < nI (A 100 0) then nI (A 94 3) else nI (A 100 0)) = nI (if A 94 3 < A 100 0 then A 94 3 else A 100 0) := by
    by_cases c : A 94 3 < A 100 0
    · rw [if_pos (nI_lt c (by omega)), if_pos c]
    · rw [if_neg (fun e => c ((nI_ltI (by omega) (by omega)).mp e)), if_neg c]
  rw [ex]
  rintro x1 rfl
  have hle : (if A 94 3 < A 100 0 then A 94 3 else A 100 0) ≤ A 94 3 := by split <;> omega
  have hd : A 94 3 - (if A 94 3 < A 100 0 then A 94 3 else A 100 0) = A 94 3 - A 100 0 := by split <;> omega
  rw [show (64 : Int32) = nI 64 from rfl, nI_mul, nI_add]
  refine ⟨vin (by omega) (by omega), ?_⟩
  have e := hT.2 _ hle q hq
  rw [hd] at e
  rw [nIc (by omega), show (if A 94 3 < A 100 0 then A 94 3 else A 100 0) * 64 + q = 64 * (if A 94 3 < A 100 0 then A 94 3 else A 100 0) + q by omega, e]
  exact K
theorem q14 (hw : WF A) (h15 : σ.1 15 2 = nI (A 94 3)) (hT : TAB (A 94 3) (mo (A 94 2) (A 99)) σ) {ox fu : Nat} (hox : ox ≤ 4) (hfu : fu ≤ 60) : ∀ (d q : Nat), q + d = 64 → Q (oI (lqF (RT0 A) ox fu d q) (-9)) σ → ∃ n, Lp (lX0_quartersFor_15 Q) n (nI (A 100 0), nI ox, nI fu, nI q, σ)
  | 0, q, e, K => ⟨1, by
      show bX0_quartersFor_15 _ (nI (A 100 0)) (nI ox) (nI fu) (nI q) σ Q
      obtain rfl : q = 64 := by omega
      exact iT (by decide) K⟩
  | d + 1, q, e, K => by
      have hR := RT0_le A q
      have hqo : q * ox ≤ 64 * 4 := Nat.mul_le_mul (by omega) hox
      unfold lqF at K
      by_cases c : fu ≤ q * ox ∧ RT0 A q < 1000
      · rw [if_pos c] at K
        refine ⟨1, ?_⟩
        show bX0_quartersFor_15 _ (nI (A 100 0)) (nI ox) (nI fu) (nI q) σ Q
        refine iF (nI_ge (b := 64) (by omega) (by omega)) ?_
        rw [nI_mul]
        exact iF (nI_nlt c.1 (by omega)) (nf6 hw h15 hT (by omega) (iF (nI_ge (b := 1000) c.2 (by omega)) K))
      · rw [if_neg c] at K
        obtain ⟨n, hn⟩ := q14 hw h15 hT hox hfu d (q + 1) (by omega) K
        have b45 : bX0_quartersFor_47 (Lp (lX0_quartersFor_15 Q) n) (nI (A 100 0)) (nI ox) (nI fu) (nI q) σ Q := by
          rintro x1 rfl
          rw [nI_1]; exact hn
        refine ⟨n + 1, ?_⟩
        show bX0_quartersFor_15 _ (nI (A 100 0)) (nI ox) (nI fu) (nI q) σ Q
        refine iF (nI_ge (b := 64) (by omega) (by omega)) ?_
        rw [nI_mul]
        by_cases c1 : fu ≤ q * ox
        · exact iF (nI_nlt c1 (by omega)) (nf6 hw h15 hT (by omega) (iT (nI_le (a := 1000) (by omega) (by omega)) b45))
        · exact iT (nI_lt (by omega) (by omega)) b45
/-- what a look into the almanac leaves -/
def AK (A : AM) (σ τ : St) : Prop := (∀ i, ¬ (15 ≤ i ∧ i ≤ 17) → τ.1 i = σ.1 i) ∧ τ.2 = σ.2 ∧ τ.1 15 3 = 1 ∧ τ.1 15 2 = nI (A 94 3) ∧ TAB (A 94 3) (mo (A 94 2) (A 99)) τ
theorem AK.al {τ : St} (h : AK A σ τ) : AL A τ := Or.inr h.2.2
theorem AK.rc {τ : St} (h : AK A σ τ) (hC : RC A σ) : RC A τ := RC_eq hC (fun i _ _ h2 _ => h.1 i (by omega))
theorem AK.sm {τ : St} (h : AK A σ τ) : SM σ τ := SM_of (fun i hi => h.1 i (by omega)) h.2.1
theorem lq6 (hC : RC A σ) (hw : WF A) (hL : AL A σ) {k s : Nat} (hk : k < A 94 0) (hs : s < A 94 1) (K : ∀ τ, AK A σ τ → Q (oI (lqA A k s) (-9)) τ) : wX6_leastQuarters (nI k) (nI s) σ Q := by
  have w1 := hw.1
  have w2 := hw.2.1
  have wo := hw.2.2.2.2.2.1 k hk
  have wl := ((WSn_of hw).2.2.2.2.1 s hs).2
  unfold wX6_leastQuarters
  refine ⟨vin (by omega) (by omega), vin (by omega) (by omega), ?_⟩
  rw [nIc (by omega), nIc (by omega), hC.2.1.1, hC.1.2.2.2.2.1 k hk, (hC.2.1.2.2.2.2 s hs).2]
  unfold wX0_quartersFor
  rcases hL with c | ⟨c, h15, hT⟩
  · refine iT c (draw6 hC hw (fun τ h1 h2 h3 h4 h6 => ?_))
    exact q14 hw h4 h6 wo.2 wl 64 0 (by omega) (K τ ⟨h1, h2, h3, h4, h6⟩)
  · refine iF (by rw [c]; decide) ?_
    exact q14 hw h15 hT wo.2 wl 64 0 (by omega) (K σ ⟨fun _ _ => rfl, rfl, c, h15, hT⟩)
end Quarters
