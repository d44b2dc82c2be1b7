/-! need, lacks, match -/
def ndF (A : AM) (k : Nat) : Nat → Nat → Nat → Option Nat
  | 0, _, a => some a
  | d + 1, s, a => if A 100 (13 + s) = k then (match lqA A k s with | none => none | some q => ndF A k d (s + 1) (a + q)) else ndF A k d (s + 1) a
def ndA (A : AM) (k : Nat) : Option Nat := ndF A k (A 94 1) 0 0
theorem ndF_le {A : AM} {k : Nat} (hw : WF A) : ∀ (d s a n : Nat), ndF A k d s a = some n → n ≤ a + 63 * d
  | 0, s, a, n, h => by cases h; omega
  | d + 1, s, a, n, h => by
    unfold ndF at h
    by_cases c : A 100 (13 + s) = k
    · rw [if_pos c] at h
      cases hl : lqA A k s with
      | none => rw [hl] at h; cases h
      | some q =>
        rw [hl] at h
        have h := ndF_le hw d (s + 1) (a + q) n h
        have := (least_ok hw hl).1
        omega
    · rw [if_neg c] at h
      have := ndF_le hw d (s + 1) a n h
      omega
theorem ndA_le {A : AM} {k n : Nat} (hw : WF A) (h : ndA A k = some n) : n ≤ 441 := by
  have := ndF_le hw _ _ _ _ h
  have := hw.2.1
  omega
/-- the class's other cells are as they were, the almanac holds -/
def CK (A : AM) (σ τ : St) : Prop := (∀ i, ¬ (15 ≤ i ∧ i ≤ 17) → τ.1 i = σ.1 i) ∧ τ.2 = σ.2 ∧ AL A τ
theorem CK.rc {A : AM} {σ τ : St} (h : CK A σ τ) (hC : RC A σ) : RC A τ := RC_eq hC (fun i _ _ h2 _ => h.1 i (by omega))
theorem CK.sm {A : AM} {σ τ : St} (h : CK A σ τ) : SM σ τ := SM_of (fun i hi => h.1 i (by omega)) h.2.1
theorem CK.ak {A : AM} {σ τ ρ : St} (h : CK A σ τ) (g : AK A τ ρ) : CK A σ ρ := ⟨fun i h1 => (g.1 i h1).trans (h.1 i h1), g.2.1.trans h.2.1, g.al⟩
def MK (σ τ : St) : Prop := (∀ i, i ≠ 107 → τ.1 i = σ.1 i) ∧ τ.2 = σ.2
theorem MK.rm {A : AM} {σ τ : St} (h : MK σ τ) (hM : RM A σ) : RM A τ := by
  intro a b hab
  rw [h.1 a (by unfold rl at hab; omega)]
  exact hM a b hab
theorem MK.mr {A : AM} {σ τ ρ : St} {j : Nat} (h : MK σ τ) (g : MR A τ ρ j) : MK σ ρ := ⟨fun i hi => (g.1 i hi).trans (h.1 i hi), g.2.1.trans h.2⟩
section Need
variable {A : AM} {σ : St} {Q : Int32 → St → Prop}
theorem need6 (hC : RC A σ) (hw : WF A) {k : Nat} (hk : k < A 94 0) : ∀ (d s a : Nat) (τ : St), s + d = A 94 1 → a ≤ 63 * s → CK A σ τ → (∀ ρ, CK A σ ρ → Q (oI (ndF A k d s a) (-9)) ρ) → Lp (lX6_needOf_4 Q) (d + 1) (nI k, nI a, nI s, τ)
  | 0, s, a, τ, e, ha, h, K => by
      have w2 := hw.2.1
      show bX6_needOf_4 _ (nI k) (nI a) (nI s) τ Q
      unfold bX6_needOf_4
      rw [(h.rc hC).1.2.1]
      exact iT (nI_le (by omega) (by omega)) (K τ h)
  | d + 1, s, a, τ, e, ha, h, K => by
      have w1 := hw.1
      have w2 := hw.2.1
      have hCt := h.rc hC
      have wo := ((WSn_of hw).2.2.2.2.1 s (by omega)).1
      unfold ndF at K
      show bX6_needOf_4 (Lp (lX6_needOf_4 Q) (d + 1)) (nI k) (nI a) (nI s) τ Q
      unfold bX6_needOf_4
      rw [hCt.1.2.1, nIc (by omega), (show τ.1 21 s = nI (A 100 (13 + s)) from (hCt.2.1.2.2.2.2 s (by omega)).1)]
      refine iF (nI_ge (by omega) (by omega)) ⟨vin (by omega) (by omega), ?_⟩
      by_cases c : A 100 (13 + s) = k
      · rw [if_pos c] at K
        refine iT (by rw [c]) (lq6 hCt hw h.2.2 hk (by omega) (fun ρ g => ?_))
        cases hl : lqA A k s with
        | none =>
          rw [hl] at K
          exact iT rfl (K ρ (h.ak g))
        | some q =>
          rw [hl] at K
          have hq := (least_ok hw hl).1
          refine iF (fun d => nI_pos (n := q) (by omega) (by rw [show nI q = oI (some q) (-9) from rfl, d]; decide)) ?_
          rintro x7 rfl x1 rfl
          rw [show nI a + oI (some q) (-9) = nI (a + q) from nI_add a q, nI_1]
          exact need6 hC hw hk d (s + 1) (a + q) ρ (by omega) (by omega) (h.ak g) K
      · rw [if_neg c] at K
        refine iF (fun e => c ((nI_eq (by omega) (by omega)).mp e)) ?_
        rintro x1 rfl
        rw [nI_1]
        exact need6 hC hw hk d (s + 1) a τ (by omega) (by omega) h K
theorem n6 (hC : RC A σ) (hw : WF A) {k : Nat} (hk : k < A 94 0) {τ : St} (h : CK A σ τ) (K : ∀ ρ, CK A σ ρ → Q (oI (ndA A k) (-9)) ρ) : wX6_needOf (nI k) τ Q :=
  ⟨_, need6 hC hw hk (A 94 1) 0 0 τ (by omega) (by omega) h K⟩
def ndO (A : AM) (k d s : Nat) (o : Option Nat) : Option Nat := match o with
  | none => none
  | some a => ndF A k d s a
theorem need7 (hM : RM A σ) (hw : WF A) {k : Nat} (hk : k < A 94 0) : ∀ (d s : Nat) (o : Option Nat) (τ : St), s + d = A 94 1 → (∀ a, o = some a → a ≤ 63 * s) → MK σ τ → (∀ ρ, MK σ ρ → Q (oI (ndO A k d s o) 1000000) ρ) → Lp (lX7_needOf_4 Q) (d + 1) (nI k, oI o 1000000, nI s, τ)
  | 0, s, o, τ, e, ha, h, K => by
      have w2 := hw.2.1
      show bX7_needOf_4 _ (nI k) (oI o 1000000) (nI s) τ Q
      unfold bX7_needOf_4
      rw [(h.rm hM) 94 1 (by unfold rl; omega)]
      refine iT (nI_le (by omega) (by omega)) ?_
      have := K τ h
      cases o with
      | none => exact this
      | some a => exact this
  | d + 1, s, o, τ, e, ha, h, K => by
      have w1 := hw.1
      have w2 := hw.2.1
      have hMt := h.rm hM
      have wo := ((WSn_of hw).2.2.2.2.1 s (by omega)).1
      have nx : ∀ (o' : Option Nat) (ρ : St), MK σ ρ → (∀ a, o' = some a → a ≤ 63 * (s + 1)) → (∀ ρ, MK σ ρ → Q (oI (ndO A k d (s + 1) o') 1000000) ρ) → bX7_needOf_58 (Lp (lX7_needOf_4 Q) (d + 1)) (nI k) (oI o' 1000000) (nI s) ρ Q := by
        intro o' ρ g ha' K'
        rintro x1 rfl
        rw [nI_1]
        exact need7 hM hw hk d (s + 1) o' ρ (by omega) ha' g K'
      show bX7_needOf_4 (Lp (lX7_needOf_4 Q) (d + 1)) (nI k) (oI o 1000000) (nI s) τ Q
      unfold bX7_needOf_4
      rw [hMt 94 1 (by unfold rl; omega), a13, nIc (by omega), hMt 100 (13 + s) (by unfold rl; omega)]
      refine iF (nI_ge (by omega) (by omega)) ⟨vin (by omega) (by omega), ?_⟩
      by_cases c : A 100 (13 + s) = k
      · refine iT (by rw [c]) (me7 hMt hw hk (by omega) (fun ρ g => ?_))
        have g2 := h.mr g
        cases hl : lqA A k s with
        | none =>
          refine iT rfl (nx none ρ g2 (fun a ha => by cases ha) (fun ρ' h' => ?_))
          have := K ρ' h'
          cases o with
          | none => exact this
          | some a =>
            unfold ndO ndF at this
            simp only [if_pos c, hl] at this
            exact this
        | some q =>
          have hq := (least_ok hw hl).1
          refine iF (fun d => by have := (nI_eq (b := 1000000) (by omega) (by omega)).mp (show nI q = nI 1000000 from d); omega) ?_
          cases o with
          | none => exact iT rfl (nx none ρ g2 (fun a ha => by cases ha) K)
          | some a =>
            have ha1 := ha a rfl
            refine iF (fun d => by have := (nI_eq (b := 1000000) (by omega) (by omega)).mp (show nI a = nI 1000000 from d); omega) ?_
            show bX7_needOf_58 _ (nI k) (nI a + nI q) (nI s) ρ Q
            rw [nI_add]
            refine nx (some (a + q)) ρ g2 (fun b hb => by cases hb; omega) (fun ρ' h' => ?_)
            have := K ρ' h'
            unfold ndO ndF at this
            simp only [if_pos c, hl] at this
            exact this
      · refine iF (fun e => c ((nI_eq (by omega) (by omega)).mp e)) (nx o τ h (fun a hoa => by have := ha a hoa; omega) (fun ρ' h' => ?_))
        have := K ρ' h'
        cases o with
        | none => exact this
        | some a =>
          unfold ndO ndF at this
          simp only [if_neg c] at this
          exact this
theorem n7 (hM : RM A σ) (hw : WF A) {k : Nat} (hk : k < A 94 0) {τ : St} (h : MK σ τ) (K : ∀ ρ, MK σ ρ → Q (oI (ndA A k) 1000000) ρ) : wX7_needOf (nI k) τ Q :=
  ⟨_, need7 hM hw hk (A 94 1) 0 (some 0) τ (by omega) (fun a ha => by cases ha; omega) h K⟩
/-- what he lacks -/
def lkA (A : AM) (k : Nat) : Option Nat := match ndA A k with
  | none => none
  | some n => some (n - A 100 (1 + k))
theorem l7 (hM : RM A σ) (hw : WF A) {k : Nat} (hk : k < A 94 0) {τ : St} (h : MK σ τ) (K : ∀ ρ, MK σ ρ → Q (oI (lkA A k) 1000000) ρ) : wX7_lackOf (nI k) τ Q := by
  have w1 := hw.1
  have wq := (WSn_of hw).2.2.2.2.2 (1 + k) (by omega)
  refine n7 hM hw hk h (fun ρ g => ?_)
  have K := K ρ g
  unfold lkA at K
  cases hn : ndA A k with
  | none => rw [hn] at K; exact iT rfl K
  | some n =>
    rw [hn] at K
    have hn4 := ndA_le hw hn
    refine iF (fun d => by have := (nI_eq (b := 1000000) (by omega) (by omega)).mp (show nI n = nI 1000000 from d); omega) ?_
    rw [a1, nIc (by omega), (g.rm hM) 100 (1 + k) (by unfold rl; omega)]
    refine ⟨vin (by omega) (by omega), ?_⟩
    by_cases c : n ≤ A 100 (1 + k)
    · refine iT (nI_le c (by omega)) ?_
      have K2 : Q (nI (n - A 100 (1 + k))) ρ := K
      rw [show n - A 100 (1 + k) = 0 by omega] at K2; exact K2
    · refine iF (fun e => c ((nI_leI (by omega) (by omega)).mp e)) ⟨vin (by omega) (by omega), ?_⟩
      rw [show oI (some n) 1000000 - nI (A 100 (1 + k)) = nI (n - A 100 (1 + k)) from nI_sub (by omega)]
      exact K
end Need
theorem MK_inv {A : AM} {τ ρ : St} (hw : WF A) (hM : RM A τ) (hC : RC A τ) (hL : AL A τ) (hT : τ.2.1 = τ.2.2) (h : MK (up τ 92 0 0) ρ) : INV ρ := by
  have sc : SC τ ρ := SC_of (fun i hi => by rw [h.1 i (by omega), up_ne (by omega)]) h.2
  refine ⟨A, hw, h.rm (rm92 hM), RC_SC hC sc, AL_SC hL sc, ?_⟩
  rw [h.2]; exact hT
theorem CK_rf {A : AM} {σ : St} (hL : AL A σ) : CK A σ σ := ⟨fun _ _ => rfl, rfl, hL⟩
theorem t_need {σ : St} (h : INV σ) (a : Int32) : wX6_need a σ (fun r σ1 => wX7_need a σ1 (fun r' σ2 => r = r' ∧ INV σ2)) := by
  obtain ⟨A, hw, hM, hC, hL, hT⟩ := h
  have hI := inv92 hw hM hC hL hT
  have hM1 := rm92 hM
  rcases (Classical.em (isX a (A 94 0))).symm with hx | ⟨k, hk, rfl⟩
  · refine f6_n hC hw hx (iT rfl ?_)
    rintro σ1 rfl
    exact f7_n hM1 hw hx (iT rfl ⟨rfl, hI⟩)
  refine f6_y hC hw hk (iF (by decide) (n6 hC hw hk (CK_rf hL) (fun τ ck => ?_)))
  have hCt := ck.rc hC
  have hMt := RM_SM hM ck.sm
  have hTt : τ.2.1 = τ.2.2 := by rw [ck.2.1]; exact hT
  have hMu := rm92 hMt
  rintro σ1 rfl
  refine f7_y hMu hw hk (iF (by decide) (n7 hMu hw hk ⟨fun _ _ => rfl, rfl⟩ (fun ρ mk => ?_)))
  have inv := MK_inv hw hMt hCt ck.2.2 hTt mk
  cases hn : ndA A k with
  | none => exact iT rfl ⟨rfl, inv⟩
  | some n =>
    have hn4 := ndA_le hw hn
    exact iF (fun d => by have := (nI_eq (b := 1000000) (by omega) (by omega)).mp (show nI n = nI 1000000 from d); omega) ⟨rfl, inv⟩
theorem t_lacks {σ : St} (h : INV σ) (a : Int32) : wX6_lacks a σ (fun r σ1 => wX7_lacks a σ1 (fun r' σ2 => r = r' ∧ INV σ2)) := by
  obtain ⟨A, hw, hM, hC, hL, hT⟩ := h
  have hI := inv92 hw hM hC hL hT
  have hM1 := rm92 hM
  have w1 := hw.1
  rcases (Classical.em (isX a (A 94 0))).symm with hx | ⟨k, hk, rfl⟩
  · refine f6_n hC hw hx (iT rfl ?_)
    rintro σ1 rfl
    exact f7_n hM1 hw hx (iT rfl ⟨rfl, hI⟩)
  have wq := (WSn_of hw).2.2.2.2.2 (1 + k) (by omega)
  refine f6_y hC hw hk (iF (by decide) (n6 hC hw hk (CK_rf hL) (fun τ ck => ?_)))
  have hCt := ck.rc hC
  have hMt := RM_SM hM ck.sm
  have hTt : τ.2.1 = τ.2.2 := by rw [ck.2.1]; exact hT
  have hMu := rm92 hMt
  have mod : ∀ r : Int32, (lkA A k = none → r = -9) → (∀ n, lkA A k = some n → r = nI n) → wX7_lacks (nI k) τ (fun r' σ2 => r = r' ∧ INV σ2) := by
    intro r q0 q1
    rintro σ1 rfl
    refine f7_y hMu hw hk (iF (by decide) (l7 hMu hw hk ⟨fun _ _ => rfl, rfl⟩ (fun ρ mk => ?_)))
    have inv := MK_inv hw hMt hCt ck.2.2 hTt mk
    cases hl : lkA A k with
    | none => exact iT rfl ⟨q0 hl, inv⟩
    | some n =>
      have : n ≤ 441 := by
        unfold lkA at hl
        cases hn : ndA A k with
        | none => rw [hn] at hl; cases hl
        | some n2 => rw [hn] at hl; cases hl; have := ndA_le hw hn; omega
      exact iF (fun d => by have := (nI_eq (b := 1000000) (by omega) (by omega)).mp (show nI n = nI 1000000 from d); omega) ⟨q1 n hl, inv⟩
  cases hn : ndA A k with
  | none =>
    exact iT rfl (mod _ (fun _ => rfl) (fun n hl => by unfold lkA at hl; rw [hn] at hl; cases hl))
  | some n =>
    have hn4 := ndA_le hw hn
    refine iF (fun d => nI_pos (n := n) (by omega) (by rw [show nI n = oI (some n) (-9) from rfl, d]; decide)) ⟨vin (by omega) (by omega), ?_⟩
    rw [nIc (by omega), (show τ.1 19 k = nI (A 100 (1 + k)) from (hCt.2.1.2.2.2.1 k hk).1)]
    rintro x8 rfl
    refine mod _ (fun hl => by unfold lkA at hl; rw [hn] at hl; cases hl) (fun m hl => ?_)
    unfold lkA at hl
    rw [hn] at hl
    cases hl
    show (if 0 < nI n - nI (A 100 (1 + k)) then nI n - nI (A 100 (1 + k)) else 0) = _
    by_cases c : A 100 (1 + k) < n
    · rw [if_pos ((sub_gt (by omega) (by omega)).mpr c), nI_sub (by omega)]
    · rw [if_neg (fun e => c ((sub_gt (by omega) (by omega)).mp e)), show n - A 100 (1 + k) = 0 by omega]; rfl
