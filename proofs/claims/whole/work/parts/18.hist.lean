/-! copies: a standing into another one; a row's stretch into another -/
def CI (σ τ : St) (h o p q : Nat) : Prop := (∀ i, (i < h ∨ h + 4 < i) → τ.1 i = σ.1 i) ∧ τ.2 = σ.2 ∧ τ.1 h 4 = σ.1 o 4 ∧ τ.1 h 5 = σ.1 o 5 ∧ τ.1 h 6 = σ.1 o 6 ∧ (∀ k, k < p → τ.1 (h + 1) k = σ.1 (o + 1) k ∧ τ.1 (h + 2) k = σ.1 (o + 2) k) ∧ (∀ k, k < q → τ.1 (h + 3) k = σ.1 (o + 3) k ∧ τ.1 (h + 4) k = σ.1 (o + 4) k)
section Copy
variable {σ : St} {Q : St → Prop} {h o : Nat}
theorem upg {τ : St} {i k a b : Nat} {v : Int32} : (up τ i k v).1 a b = if a = i ∧ b = k then v else τ.1 a b := by
  by_cases e : a = i
  · subst e
    rw [up_eq]
    by_cases f : b = k
    · simp [upd, f]
    · simp [upd, f]
  · rw [up_ne e, if_neg (fun q => e q.1)]
theorem copyB (hne : h + 4 < o ∨ o + 4 < h) (K : ∀ τ, CI σ τ h o 5 7 → Q τ) : ∀ (d k : Nat) (τ : St), k + d = 7 → CI σ τ h o 5 k → ∃ n, Lp (lX4_copy_63 h o Q) n (nI k, τ)
  | 0, k, τ, e, c => ⟨1, by
      show bX4_copy_63 _ h o (nI k) τ Q
      obtain rfl : k = 7 := by omega
      exact iT (by decide) (K τ c)⟩
  | d + 1, k, τ, e, c => by
      obtain ⟨c1, c2, c3, c4, c5, c6, c7⟩ := c
      have st : CI σ (up (up τ (h + 3) k (τ.1 (o + 3) k)) (h + 4) k ((up τ (h + 3) k (τ.1 (o + 3) k)).1 (o + 4) k)) h o 5 (k + 1) := by
        refine ⟨fun i hi => ?_, c2, ?_, ?_, ?_, fun j hj => ?_, fun j hj => ?_⟩
        · rw [up_ne (by omega), up_ne (by omega)]; exact c1 i hi
        · rw [up_ne (by omega), up_ne (by omega)]; exact c3
        · rw [up_ne (by omega), up_ne (by omega)]; exact c4
        · rw [up_ne (by omega), up_ne (by omega)]; exact c5
        · rw [up_ne (by omega), up_ne (by omega), up_ne (by omega), up_ne (by omega)]; exact c6 j hj
        · have e3 : τ.1 (o + 3) = σ.1 (o + 3) := c1 _ (by omega)
          have e4 : τ.1 (o + 4) = σ.1 (o + 4) := c1 _ (by omega)
          rw [up_ne (i := h + 3) (j := o + 4) (by omega), e3, e4, up_ne (i := h + 4) (j := h + 3) (by omega), up_eq, up_eq, up_ne (i := h + 3) (j := h + 4) (by omega)]
          unfold upd
          by_cases ej : j = k
          · subst ej; simp
          · rw [if_neg ej, if_neg ej]; exact c7 j (by omega)
      obtain ⟨n, hn⟩ := copyB hne K d (k + 1) _ (by omega) st
      refine ⟨n + 1, ?_⟩
      show bX4_copy_63 _ h o (nI k) τ Q
      refine iF (nI_ge (b := 7) (by omega) (by omega)) ⟨vin (by omega) (by omega), vin (by omega) (by omega), ?_⟩
      rw [nIc (by omega)]
      rintro σ4 rfl
      refine ⟨vin (by omega) (by omega), vin (by omega) (by omega), ?_⟩
      rintro σ7 rfl x8 rfl
      rw [nI_1]; exact hn
theorem copyA (hne : h + 4 < o ∨ o + 4 < h) (K : ∀ τ, CI σ τ h o 5 7 → Q τ) : ∀ (d k : Nat) (τ : St), k + d = 5 → CI σ τ h o k 0 → ∃ n, Lp (lX4_copy_26 h o Q) n (nI k, τ)
  | 0, k, τ, e, c => ⟨1, by
      show bX4_copy_26 _ h o (nI k) τ Q
      obtain rfl : k = 5 := by omega
      exact iT (by decide) (copyB hne K 7 0 τ (by omega) c)⟩
  | d + 1, k, τ, e, c => by
      obtain ⟨c1, c2, c3, c4, c5, c6, c7⟩ := c
      have st : CI σ (up (up τ (h + 1) k (τ.1 (o + 1) k)) (h + 2) k ((up τ (h + 1) k (τ.1 (o + 1) k)).1 (o + 2) k)) h o (k + 1) 0 := by
        refine ⟨fun i hi => ?_, c2, ?_, ?_, ?_, fun j hj => ?_, fun j hj => absurd hj (by omega)⟩
        · rw [up_ne (by omega), up_ne (by omega)]; exact c1 i hi
        · rw [up_ne (by omega), up_ne (by omega)]; exact c3
        · rw [up_ne (by omega), up_ne (by omega)]; exact c4
        · rw [up_ne (by omega), up_ne (by omega)]; exact c5
        · have e3 : τ.1 (o + 1) = σ.1 (o + 1) := c1 _ (by omega)
          have e4 : τ.1 (o + 2) = σ.1 (o + 2) := c1 _ (by omega)
          rw [up_ne (i := h + 1) (j := o + 2) (by omega), e3, e4, up_ne (i := h + 2) (j := h + 1) (by omega), up_eq, up_eq, up_ne (i := h + 1) (j := h + 2) (by omega)]
          unfold upd
          by_cases ej : j = k
          · subst ej; simp
          · rw [if_neg ej, if_neg ej]; exact c6 j (by omega)
      obtain ⟨n, hn⟩ := copyA hne K d (k + 1) _ (by omega) st
      refine ⟨n + 1, ?_⟩
      show bX4_copy_26 _ h o (nI k) τ Q
      refine iF (nI_ge (b := 5) (by omega) (by omega)) ⟨vin (by omega) (by omega), vin (by omega) (by omega), ?_⟩
      rw [nIc (by omega)]
      rintro σ4 rfl
      refine ⟨vin (by omega) (by omega), vin (by omega) (by omega), ?_⟩
      rintro σ7 rfl x8 rfl
      rw [nI_1]; exact hn
theorem copy5 (hne : h + 4 < o ∨ o + 4 < h) (K : ∀ τ, CI σ τ h o 5 7 → Q τ) : wX4_copy h o σ Q := by
  rintro σ1 rfl σ2 rfl σ3 rfl
  refine copyA hne K 5 0 _ (by omega) ⟨fun i hi => ?_, rfl, ?_, ?_, ?_, fun k hk => absurd hk (by omega), fun k hk => absurd hk (by omega)⟩
  · rw [up_ne (by omega), up_ne (by omega), up_ne (by omega)]
  · rw [up_get_ne (by omega), up_get_ne (by omega), up_get]
  · rw [up_get_ne (by omega), up_get, up_ne (by omega)]
  · rw [up_get, up_ne (by omega), up_ne (by omega)]
theorem RSn_copy {nf ns p q : Nat} {τ : St} {f : Nat → Nat} (hp : nf ≤ p) (hq : ns ≤ q) (c : CI σ τ h o p q) (hr : RSn nf ns σ o f) : RSn nf ns τ h f := by
  obtain ⟨c1, c2, c3, c4, c5, c6, c7⟩ := c
  obtain ⟨r1, r2, r3, r4, r5⟩ := hr
  refine ⟨c3.trans r1, c4.trans r2, c5.trans r3, fun k hk => ?_, fun k hk => ?_⟩
  · rw [(c6 k (by omega)).1, (c6 k (by omega)).2]; exact r4 k hk
  · rw [(c7 k (by omega)).1, (c7 k (by omega)).2]; exact r5 k hk
end Copy
theorem RSn_congr {nf ns : Nat} {σ : St} {h : Nat} {f g : Nat → Nat} (hf : nf ≤ 5) (hs : ns ≤ 7) (e : ∀ i, i < 27 → g i = f i) (hr : RSn nf ns σ h f) : RSn nf ns σ h g := by
  obtain ⟨r1, r2, r3, r4, r5⟩ := hr
  refine ⟨by rw [e 0 (by omega)]; exact r1, by rw [e 20 (by omega)]; exact r2, by rw [e 26 (by omega)]; exact r3, fun k hk => ?_, fun k hk => ?_⟩
  · rw [e (1 + k) (by omega), e (21 + k) (by omega)]; exact r4 k hk
  · rw [e (13 + k) (by omega), e (6 + k) (by omega)]; exact r5 k hk
theorem WSn_congr {nf ns : Nat} {f g : Nat → Nat} (hf : nf ≤ 5) (hs : ns ≤ 7) (e : ∀ i, i < 27 → g i = f i) (hr : WSn nf ns f) : WSn nf ns g := by
  obtain ⟨r1, r2, r3, r4, r5, r6⟩ := hr
  refine ⟨by rw [e 0 (by omega)]; exact r1, by rw [e 20 (by omega)]; exact r2, by rw [e 26 (by omega)]; exact r3, fun k hk => ?_, fun k hk => ?_, fun j hj => by rw [e j hj]; exact r6 j hj⟩
  · rcases r4 k hk with c | ⟨m, h1, h2, h3, h4⟩
    · exact Or.inl (by rw [e (21 + k) (by omega)]; exact c)
    · exact Or.inr ⟨m, h1, h2, by rw [e (21 + k) (by omega)]; exact h3, by rw [e (21 + m) (by omega)]; exact h4⟩
  · rw [e (13 + k) (by omega), e (6 + k) (by omega)]; exact r5 k hk
/-! what is noted -/
def pushA (A : AM) : AM := fun a => if a = 103 then (fun b => if A 92 20 = 10 then (if b < 243 then A 103 (b + 27) else A 100 (b - 243)) else (if 27 * A 92 20 ≤ b ∧ b < 27 * A 92 20 + 27 then A 100 (b - 27 * A 92 20) else A 103 b)) else if a = 92 then (fun b => if b = 20 then (if A 92 20 = 10 then 10 else A 92 20 + 1) else A 92 b) else A a
theorem pushA_slot {A : AM} (hw : WF A) : ∀ j, j < (if A 92 20 = 10 then 10 else A 92 20 + 1) → (j + 1 = (if A 92 20 = 10 then 10 else A 92 20 + 1) ∧ ∀ i, i < 27 → pushA A 103 (27 * j + i) = A 100 i) ∨ (j + 1 < (if A 92 20 = 10 then 10 else A 92 20 + 1) ∧ ∀ i, i < 27 → pushA A 103 (27 * j + i) = A 103 (27 * (if A 92 20 = 10 then j + 1 else j) + i)) := by
  intro j hj
  have w10 := hw.2.2.2.2.2.2.2.2.2.1
  have e : ∀ b, pushA A 103 b = if A 92 20 = 10 then (if b < 243 then A 103 (b + 27) else A 100 (b - 243)) else (if 27 * A 92 20 ≤ b ∧ b < 27 * A 92 20 + 27 then A 100 (b - 27 * A 92 20) else A 103 b) := fun _ => rfl
  by_cases hu : A 92 20 = 10
  · rw [if_pos hu] at hj ⊢
    by_cases h9 : j + 1 = 10
    · refine Or.inl ⟨h9, fun i hi => ?_⟩
      rw [e, if_pos hu, if_neg (by omega)]; exact congrArg (A 100) (by omega)
    · refine Or.inr ⟨by omega, fun i hi => ?_⟩
      rw [e, if_pos hu, if_pos (by omega), if_pos hu]; exact congrArg (A 103) (by omega)
  · rw [if_neg hu] at hj ⊢
    by_cases h9 : j = A 92 20
    · refine Or.inl ⟨by omega, fun i hi => ?_⟩
      rw [e, if_neg hu, if_pos (by omega)]; exact congrArg (A 100) (by omega)
    · refine Or.inr ⟨by omega, fun i hi => ?_⟩
      rw [e, if_neg hu, if_neg (by omega), if_neg hu]
theorem WF_push {A : AM} (hw : WF A) : WF (pushA A) := by
  have sl := pushA_slot hw
  obtain ⟨w1, w2, w3, w4, w5, w6, w7, w8, w9, w10, w11, w12, w13, w14, w15, w16⟩ := hw
  refine ⟨w1, w2, w3, w4, w5, w6, w7, w8, w9, ?_, fun j hj => ?_, w12, w13, w14, w15, w16⟩
  · show (if A 92 20 = 10 then 10 else A 92 20 + 1) ≤ 10
    split <;> omega
  · have hj : j < (if A 92 20 = 10 then 10 else A 92 20 + 1) := hj
    rcases sl j hj with ⟨-, h⟩ | ⟨h1, h⟩
    · exact WSn_congr w1 w2 h w9
    · refine WSn_congr w1 w2 h (w11 _ ?_)
      by_cases hu : A 92 20 = 10
      · rw [if_pos hu] at h1 ⊢; omega
      · rw [if_neg hu] at h1 ⊢; omega
theorem push6 {A : AM} {σ : St} {Q : St → Prop} (hC : RC A σ) (hw : WF A) (K : ∀ τ, RC (pushA A) τ → (∀ i, (i < 23 ∨ 74 < i) → τ.1 i = σ.1 i) → τ.2 = σ.2 → Q τ) : wX2_push σ Q := by
  have w10 := hw.2.2.2.2.2.2.2.2.2.1
  have w1 := hw.1
  have w2 := hw.2.1
  have sl := pushA_slot hw
  obtain ⟨hP, hS, ⟨x, h1, h2, h3, h4⟩, hI, hT, hK⟩ := hC
  unfold wX2_push
  rw [h2, nIc (by omega)]
  refine ⟨vin h1 (by omega), copy5 (by omega) (fun τ c => ?_)⟩
  obtain ⟨c1, c2, -⟩ := id c
  have hc := RSn_copy w1 w2 c hS
  rintro σ3 rfl x4 rfl σ5 rfl
  have e1 : τ.1 23 1 = nI x := by rw [c1 23 (by omega)]; exact h2
  have e2 : τ.1 23 2 = nI (A 92 20) := by rw [c1 23 (by omega)]; exact h3
  rw [e1, nI_1, show (10 : Int32) = nI 10 from rfl, nI_mod (by omega) (by omega), up_get_ne (by omega), e2, nI_1]
  have e3 : (if nI (A 92 20 + 1) < nI 10 then nI (A 92 20 + 1) else nI 10) = nI (if A 92 20 = 10 then 10 else A 92 20 + 1) := by
    by_cases hu : A 92 20 = 10
    · rw [if_pos hu, hu]; rfl
    · rw [if_neg hu]
      by_cases hv : A 92 20 = 9
      · rw [hv]; rfl
      · rw [if_pos (nI_lt (by omega) (by omega))]
  rw [e3]
  have q : ∀ i, i ≠ 23 → (up (up τ 23 1 (nI ((x + 1) % 10))) 23 2 (nI (if A 92 20 = 10 then 10 else A 92 20 + 1))).1 i = τ.1 i := fun i hi => by rw [up_ne hi, up_ne hi]
  have q2 : ∀ i, (i < 23 ∨ 74 < i) → (up (up τ 23 1 (nI ((x + 1) % 10))) 23 2 (nI (if A 92 20 = 10 then 10 else A 92 20 + 1))).1 i = σ.1 i := fun i hi => by rw [q i (by omega)]; exact c1 i (by omega)
  refine K _ ⟨RP_eq hP (fun i _ _ => q2 i (by omega)), RSn_eq hS (fun i _ _ => q2 i (by omega)), ⟨(x + 1) % 10, by omega, by rw [up_get_ne (by omega), up_get], up_get, fun j hj => ?_⟩, RI_eq hI (fun i _ _ => q2 i (by omega)), RT_eq hT (fun i _ => q2 i (by omega)), RK_eq hK (fun i _ _ => q2 i (by omega))⟩ q2 c2
  have hj : j < (if A 92 20 = 10 then 10 else A 92 20 + 1) := hj
  show RSn (A 94 0) (A 94 1) _ (24 + 1 + 5 * (((x + 1) % 10 + 10 - (if A 92 20 = 10 then 10 else A 92 20 + 1) + j) % 10)) _
  rcases sl j hj with ⟨g1, g2⟩ | ⟨g1, g2⟩
  · have hle : (if A 92 20 = 10 then 10 else A 92 20 + 1) ≤ 10 := by split <;> omega
    rw [show ((x + 1) % 10 + 10 - (if A 92 20 = 10 then 10 else A 92 20 + 1) + j) % 10 = x by omega]
    exact RSn_congr w1 w2 g2 (RSn_eq hc (fun i _ _ => q i (by omega)))
  · have hold := h4 (if A 92 20 = 10 then j + 1 else j) (by by_cases hu : A 92 20 = 10; rw [if_pos hu] at g1 ⊢; omega; rw [if_neg hu] at g1 ⊢; omega)
    have hidx : ((x + 1) % 10 + 10 - (if A 92 20 = 10 then 10 else A 92 20 + 1) + j) % 10 = (x + 10 - A 92 20 + (if A 92 20 = 10 then j + 1 else j)) % 10 := by
      by_cases hu : A 92 20 = 10
      · rw [if_pos hu, if_pos hu]; omega
      · rw [if_neg hu, if_neg hu]; omega
    have hnx : (x + 10 - A 92 20 + (if A 92 20 = 10 then j + 1 else j)) % 10 ≠ x := by
      by_cases hu : A 92 20 = 10
      · rw [if_pos hu] at g1 ⊢; omega
      · rw [if_neg hu] at g1 ⊢; omega
    rw [hidx]
    refine RSn_congr w1 w2 g2 (RSn_eq hold (fun i i1 i2 => ?_))
    generalize (x + 10 - A 92 20 + (if A 92 20 = 10 then j + 1 else j)) % 10 = y at hnx i1 i2
    rw [q i (by omega)]
    exact c1 i (by omega)
/-- a stretch of k places from lo on -/
def CL (σ τ : St) (dst lo k : Nat) (v : Nat → Int32) : Prop := (∀ i, i ≠ dst → τ.1 i = σ.1 i) ∧ τ.2 = σ.2 ∧ ∀ b, τ.1 dst b = if lo ≤ b ∧ b < lo + k then v (b - lo) else σ.1 dst b
theorem CL.z {σ : St} {dst lo : Nat} {v : Nat → Int32} : CL σ σ dst lo 0 v := ⟨fun _ _ => rfl, rfl, fun b => by rw [if_neg (by omega)]⟩
theorem CL.st {σ τ : St} {dst lo k : Nat} {v : Nat → Int32} (c : CL σ τ dst lo k v) : CL σ (up τ dst (lo + k) (v k)) dst lo (k + 1) v := by
  obtain ⟨c1, c2, c3⟩ := c
  refine ⟨fun i hi => by rw [up_ne hi]; exact c1 i hi, c2, fun b => ?_⟩
  rw [up_eq]
  unfold upd
  by_cases e : b = lo + k
  · rw [if_pos e, if_pos (by omega)]; exact congrArg v (by omega)
  · rw [if_neg e, c3 b]
    by_cases f : lo ≤ b ∧ b < lo + k
    · rw [if_pos f, if_pos (by omega)]
    · rw [if_neg f, if_neg (by omega)]
section Notes
variable {A : AM} {σ : St} {Q : St → Prop}
theorem n47 {u : Nat} (hu : u < 10) (K : ∀ τ, CL σ τ 103 (27 * u) 27 (σ.1 100) → τ.1 92 20 = nI u → Q (up τ 92 20 (nI (u + 1)))) (hs : σ.1 92 20 = nI u) : ∀ (d k : Nat) (τ : St), k + d = 27 → CL σ τ 103 (27 * u) k (σ.1 100) → ∃ n, Lp (lX7_notes_47 Q) n (nI k, τ)
  | 0, k, τ, e, c => ⟨1, by
      show bX7_notes_47 _ (nI k) τ Q
      obtain rfl : k = 27 := by omega
      refine iT (by decide) ?_
      rintro σ2 rfl
      have := c.1 92 (by omega)
      rw [this, hs, nI_1]
      exact K τ c (by rw [this]; exact hs)⟩
  | d + 1, k, τ, e, c => by
      obtain ⟨n, hn⟩ := n47 hu K hs d (k + 1) _ (by omega) c.st
      refine ⟨n + 1, ?_⟩
      show bX7_notes_47 _ (nI k) τ Q
      refine iF (nI_ge (b := 27) (by omega) (by omega)) ⟨vin (by omega) (by omega), ?_⟩
      rw [nIc (by omega), c.1 92 (by omega), hs, show (27 : Int32) = nI 27 from rfl, nI_mul, nI_add, c.1 100 (by omega)]
      refine ⟨vin (by omega) (by omega), ?_⟩
      rw [nIc (by omega)]
      rintro σ5 rfl x6 rfl
      rw [nI_1]; exact hn
theorem n11 (K : ∀ τ, CL σ τ 103 0 243 (fun j => σ.1 103 (j + 27)) → bX7_notes_45 (up τ 92 20 9) Q) : ∀ (d k : Nat) (τ : St), k + d = 243 → CL σ τ 103 0 k (fun j => σ.1 103 (j + 27)) → ∃ n, Lp (lX7_notes_11 Q) n (nI k, τ)
  | 0, k, τ, e, c => ⟨1, by
      show bX7_notes_11 _ (nI k) τ Q
      obtain rfl : k = 243 := by omega
      refine iT (by decide) ?_
      rintro σ2 rfl
      exact K τ c⟩
  | d + 1, k, τ, e, c => by
      obtain ⟨n, hn⟩ := n11 K d (k + 1) _ (by omega) c.st
      refine ⟨n + 1, ?_⟩
      show bX7_notes_11 _ (nI k) τ Q
      refine iF (nI_ge (b := 243) (by omega) (by omega)) ?_
      rw [show (27 : Int32) = nI 27 from rfl, nI_add]
      refine ⟨vin (by omega) (by omega), vin (by omega) (by omega), ?_⟩
      rw [nIc (by omega), nIc (by omega)]
      rintro σ5 rfl x6 rfl
      have hk := c.2.2 (k + 27)
      rw [if_neg (by omega)] at hk
      rw [nI_1, hk]
      have := hn
      rw [Nat.zero_add] at this
      exact this
theorem notes7 (hM : RM A σ) (hw : WF A) (K : ∀ τ, RM (pushA A) τ → (∀ i, i ≠ 92 → i ≠ 103 → τ.1 i = σ.1 i) → τ.2 = σ.2 → Q τ) : wX7_notes σ Q := by
  have w10 := hw.2.2.2.2.2.2.2.2.2.1
  have e20 := hM 92 20 (by unfold rl; omega)
  have fin : ∀ (u : Nat) (ρ : St), u = (if A 92 20 = 10 then 9 else A 92 20) → (∀ i, i ≠ 92 → i ≠ 103 → ρ.1 i = σ.1 i) → ρ.2 = σ.2 → (∀ b, b ≠ 20 → ρ.1 92 b = σ.1 92 b) → ρ.1 92 20 = nI u → (∀ b, b < 270 → ¬ (27 * u ≤ b ∧ b < 27 * u + 27) → ρ.1 103 b = nI (pushA A 103 b)) → bX7_notes_45 ρ Q := by
    intro u ρ hu r1 r2 r3 r4 r5
    have hu9 : u < 10 := by rw [hu]; split <;> omega
    refine n47 hu9 (fun τ c _ => ?_) r4 27 0 ρ (by omega) CL.z
    obtain ⟨c1, c2, c3⟩ := c
    refine K _ (fun a b hab => ?_) (fun i h1 h2 => by rw [up_ne h1, c1 i h2]; exact r1 i h1 h2) (c2.trans r2)
    have hab : rl A a b := hab
    by_cases ea : a = 92
    · subst ea
      by_cases eb : b = 20
      · subst eb
        rw [up_get]
        show nI (u + 1) = nI (if A 92 20 = 10 then 10 else A 92 20 + 1)
        rw [hu]; split <;> rfl
      · rw [up_get_ne eb, c1 92 (by omega), r3 b eb, hM 92 b hab]
        show nI (A 92 b) = nI (if b = 20 then _ else A 92 b)
        rw [if_neg eb]
    · rw [up_ne ea]
      by_cases e3 : a = 103
      · subst e3
        have hb : b < 270 := by unfold rl at hab; omega
        rw [c3 b]
        by_cases hin : 27 * u ≤ b ∧ b < 27 * u + 27
        · rw [if_pos hin, r1 100 (by omega) (by omega), hM 100 (b - 27 * u) (by unfold rl; omega)]
          show _ = nI (if A 92 20 = 10 then (if b < 243 then A 103 (b + 27) else A 100 (b - 243)) else (if 27 * A 92 20 ≤ b ∧ b < 27 * A 92 20 + 27 then A 100 (b - 27 * A 92 20) else A 103 b))
          by_cases h10 : A 92 20 = 10
          · rw [if_pos h10] at hu ⊢
            rw [if_neg (by omega), hu]
          · rw [if_neg h10] at hu ⊢
            rw [if_pos (by omega), hu]
        · rw [if_neg hin]
          exact r5 b hb hin
      · rw [c1 a e3, r1 a ea e3, hM a b hab]
        show nI (A a b) = nI ((if a = 103 then _ else if a = 92 then _ else A a) b)
        rw [if_neg e3, if_neg ea]
  unfold wX7_notes
  rw [e20]
  by_cases h10 : A 92 20 = 10
  · refine iT (by rw [h10]; rfl) (n11 (fun τ c => ?_) 243 0 σ (by omega) CL.z)
    obtain ⟨c1, c2, c3⟩ := c
    refine fin 9 _ (by rw [if_pos h10]) (fun i h1 h2 => by rw [up_ne h1]; exact c1 i h2) c2 (fun b hb => by rw [up_get_ne hb, c1 92 (by omega)]) up_get (fun b hb hin => ?_)
    rw [up_ne (by omega), c3 b, if_pos (by omega)]
    show σ.1 103 (b - 0 + 27) = nI (if A 92 20 = 10 then (if b < 243 then A 103 (b + 27) else A 100 (b - 243)) else _)
    rw [if_pos h10, if_pos (by omega), Nat.sub_zero]
    exact hM 103 _ (by unfold rl; omega)
  · refine iF (fun e => h10 ((nI_eq (b := 10) (by omega) (by omega)).mp e)) (fin (A 92 20) σ (by rw [if_neg h10]) (fun _ _ _ => rfl) rfl (fun _ _ => rfl) e20 (fun b hb hin => ?_))
    show _ = nI (if A 92 20 = 10 then _ else (if 27 * A 92 20 ≤ b ∧ b < 27 * A 92 20 + 27 then A 100 (b - 27 * A 92 20) else A 103 b))
    rw [if_neg h10, if_neg hin]
    exact hM 103 _ (by unfold rl; omega)
end Notes
theorem SM_of {σ τ : St} (h : ∀ i, 92 ≤ i → τ.1 i = σ.1 i) (h2 : τ.2 = σ.2) : SM σ τ := ⟨h, by rw [h2]⟩
theorem SC_of {σ τ : St} (h : ∀ i, i < 92 → τ.1 i = σ.1 i) (h2 : τ.2 = σ.2) : SC σ τ := ⟨h, by rw [h2]⟩
