/-! acts on the current standing -/
def sR (A : AM) (i : Nat) (f : Nat → Nat) : AM := fun a => if a = i then f else A a
theorem RC_row {B : AM} {τ τ' : St} {f : Nat → Nat} (h : RC B τ) (he : ∀ i, (i < 18 ∨ 22 < i) → τ'.1 i = τ.1 i) (hs : RSn (B 94 0) (B 94 1) τ' 18 f) : RC (sR B 100 f) τ' := by
  obtain ⟨hP, hS, hH, hI, hT, hK⟩ := h
  exact ⟨RP_eq hP (fun i _ _ => he i (by omega)), hs, RH_eq hH (fun i _ _ => he i (by omega)), RI_eq hI (fun i _ _ => he i (by omega)), RT_eq hT (fun i _ => he i (by omega)), RK_eq hK (fun i _ _ => he i (by omega))⟩
theorem RM_row {B : AM} {τ τ' : St} {f : Nat → Nat} (h : RM B τ) (he : ∀ i, i ≠ 100 → τ'.1 i = τ.1 i) (hs : ∀ j, j < 27 → τ'.1 100 j = nI (f j)) : RM (sR B 100 f) τ' := by
  intro a b hab
  have hab : rl B a b := hab
  by_cases e : a = 100
  · subst e
    exact hs b (by unfold rl at hab; omega)
  · rw [he a e]
    show τ.1 a b = nI ((if a = 100 then f else B a) b)
    rw [if_neg e]
    exact h a b hab
theorem WF_row {B : AM} {f : Nat → Nat} (hw : WF B) (hf : WSn (B 94 0) (B 94 1) f) : WF (sR B 100 f) := by
  obtain ⟨w1, w2, w3, w4, w5, w6, w7, w8, w9, w10, w11, w12, w13, w14, w15, w16⟩ := hw
  exact ⟨w1, w2, w3, w4, w5, w6, w7, w8, hf, w10, w11, w12, w13, w14, w15, w16⟩
/-- the end of an act that was noted -/
theorem glue {A : AM} {σ τ ρ : St} {f : Nat → Nat} (hw : WF A) (hT : σ.2.1 = σ.2.2) (hL : AL A σ) (rc : RC (sR (pushA A) 100 f) τ) (c1 : ∀ i, 15 ≤ i → i ≤ 17 → τ.1 i = σ.1 i) (c2 : τ.2 = σ.2) (rm : RM (sR (pushA A) 100 f) ρ) (m1 : ∀ i, i < 92 → ρ.1 i = τ.1 i) (m2 : ρ.2 = τ.2) (hf : WSn (A 94 0) (A 94 1) f) : INV ρ := by
  have sc := SC_of m1 m2
  refine ⟨_, WF_row (WF_push hw) hf, rm, RC_SC rc sc, AL_SC (AL_eq hL c1) sc, ?_⟩
  rw [m2, c2]; exact hT
theorem WSn_of {A : AM} (hw : WF A) : WSn (A 94 0) (A 94 1) (A 100) := hw.2.2.2.2.2.2.2.2.1
theorem t_passes {σ : St} (h : INV σ) : wX6_passes σ (fun r σ1 => wX7_passes σ1 (fun r' σ2 => r = r' ∧ INV σ2)) := by
  obtain ⟨A, hw, hM, hC, hL, hT⟩ := h
  have wn := (WSn_of hw).1
  unfold wX6_passes
  rw [hC.2.1.1]
  by_cases c : A 100 0 < 99
  · refine iT (nI_lt (b := 99) c (by omega)) (push6 hC hw (fun τ rc e1 e2 => ?_))
    have r18 : τ.1 18 4 = nI (A 100 0) := rc.2.1.1
    rintro σ3 rfl σ4 rfl
    rw [r18, nI_1]
    let f : Nat → Nat := fun b => if b = 0 then A 100 0 + 1 else if b = 26 then 0 else A 100 b
    have rc2 : RC (sR (pushA A) 100 f) (up (up τ 18 4 (nI (A 100 0 + 1))) 18 6 0) := by
      refine RC_row rc (fun i hi => by rw [up_ne (by omega), up_ne (by omega)]) ?_
      obtain ⟨r1, r2, r3, r4, r5⟩ := rc.2.1
      refine ⟨by rw [up_get_ne (by omega), up_get]; rfl, by rw [up_get_ne (by omega), up_get_ne (by omega)]; exact r2, by rw [up_get]; rfl, fun k hk => ?_, fun k hk => ?_⟩
      · rw [up_ne (by omega), up_ne (by omega), up_ne (by omega), up_ne (by omega)]
        have := hw.1
        have hk : k < A 94 0 := hk
        show _ = nI (if 1 + k = 0 then _ else if 1 + k = 26 then 0 else A 100 (1 + k)) ∧ _ = mt (if 21 + k = 0 then _ else if 21 + k = 26 then 0 else A 100 (21 + k))
        rw [if_neg (by omega), if_neg (by omega), if_neg (by omega), if_neg (by omega)]
        exact r4 k hk
      · rw [up_ne (by omega), up_ne (by omega), up_ne (by omega), up_ne (by omega)]
        have := hw.2.1
        have hk : k < A 94 1 := hk
        show _ = nI (if 13 + k = 0 then _ else if 13 + k = 26 then 0 else A 100 (13 + k)) ∧ _ = nI (if 6 + k = 0 then _ else if 6 + k = 26 then 0 else A 100 (6 + k))
        rw [if_neg (by omega), if_neg (by omega), if_neg (by omega), if_neg (by omega)]
        exact r5 k hk
    have hf : WSn (A 94 0) (A 94 1) f := by
      obtain ⟨r1, r2, r3, r4, r5, r6⟩ := WSn_of hw
      have w1 := hw.1
      have w2 := hw.2.1
      have ff : ∀ b, b ≠ 0 → b ≠ 26 → f b = A 100 b := fun b h1 h2 => by show (if b = 0 then _ else if b = 26 then 0 else A 100 b) = _; rw [if_neg h1, if_neg h2]
      refine ⟨by show A 100 0 + 1 ≤ 99; omega, by rw [ff 20 (by omega) (by omega)]; exact r2, Nat.pow_pos (by omega), fun k hk => ?_, fun k hk => ?_, fun j hj => ?_⟩
      · rcases r4 k hk with q | ⟨m, q1, q2, q3, q4⟩
        · exact Or.inl (by rw [ff _ (by omega) (by omega)]; exact q)
        · exact Or.inr ⟨m, q1, q2, by rw [ff _ (by omega) (by omega)]; exact q3, by rw [ff _ (by omega) (by omega)]; exact q4⟩
      · rw [ff _ (by omega) (by omega), ff _ (by omega) (by omega)]; exact r5 k hk
      · show (if j = 0 then _ else if j = 26 then 0 else A 100 j) ≤ 999
        have := r6 j hj
        split
        · omega
        · split <;> omega
    have cc1 : ∀ i, 15 ≤ i → i ≤ 17 → (up (up τ 18 4 (nI (A 100 0 + 1))) 18 6 0).1 i = σ.1 i := fun i h1 h2 => by rw [up_ne (by omega), up_ne (by omega)]; exact e1 i (by omega)
    have cc2 : (up (up τ 18 4 (nI (A 100 0 + 1))) 18 6 0).2 = σ.2 := e2
    have sm : SM σ (up (up τ 18 4 (nI (A 100 0 + 1))) 18 6 0) := SM_of (fun i hi => by rw [up_ne (by omega), up_ne (by omega)]; exact e1 i (by omega)) e2
    have hr : (up (up τ 18 4 (nI (A 100 0 + 1))) 18 6 0).1 18 4 = nI (A 100 0 + 1) := by rw [up_get_ne (by omega), up_get]
    rw [hr]
    generalize (up (up τ 18 4 (nI (A 100 0 + 1))) 18 6 0) = τ2 at rc2 cc1 cc2 sm
    have hM2 := rm92 (RM_SM hM sm)
    rintro σ1 rfl
    rw [hM2 100 0 (by unfold rl; omega)]
    refine iF (fun e => by have := (nI_eq (b := 99) (by omega) (by omega)).mp e; omega) (notes7 hM2 hw (fun ρ rm m1 m2 => ?_))
    rintro σ5 rfl σ7 rfl
    have r0 := rm 100 0 (by unfold rl; omega)
    have r0 : ρ.1 100 0 = nI (A 100 0) := r0
    rw [r0, nI_1]
    refine ⟨by rw [up_get_ne (by omega), up_get], glue hw hT hL rc2 cc1 cc2 (RM_row rm (fun i hi => by rw [up_ne hi, up_ne hi]) (fun j hj => ?_)) (fun i hi => by rw [up_ne (by omega), up_ne (by omega), m1 i (by omega) (by omega), up_ne (by omega)]) m2 hf⟩
    rw [upg, upg, rm 100 j (by unfold rl; omega)]
    show (if 100 = 100 ∧ j = 26 then 0 else if 100 = 100 ∧ j = 0 then nI (A 100 0 + 1) else nI (A 100 j)) = nI (if j = 0 then A 100 0 + 1 else if j = 26 then 0 else A 100 j)
    by_cases j0 : j = 0
    · subst j0; simp
    · by_cases j6 : j = 26
      · subst j6; simp; rfl
      · simp [j0, j6]
  · refine iF (fun e => c ((nI_ltI (b := 99) (by omega) (by omega)).mp e)) ?_
    rintro σ1 rfl
    rw [(rm92 hM) 100 0 (by unfold rl; omega)]
    exact iT (by rw [show A 100 0 = 99 by omega]; rfl) ⟨rfl, inv92 hw hM hC hL hT⟩
/-! undo, keep, back -/
theorem undo7 {σ : St} {Q : Int32 → St → Prop} {u : Nat} (hu : u < 10) (hs : σ.1 92 20 = nI u) (K : ∀ τ, CL σ τ 100 0 27 (fun j => σ.1 103 (27 * u + j)) → Q (nI u) τ) : ∀ (d k : Nat) (τ : St), k + d = 27 → CL σ τ 100 0 k (fun j => σ.1 103 (27 * u + j)) → ∃ n, Lp (lX7_undo_27 Q) n (nI k, τ)
  | 0, k, τ, e, c => ⟨1, by
      show bX7_undo_27 _ (nI k) τ Q
      obtain rfl : k = 27 := by omega
      refine iT (by decide) ?_
      rw [c.1 92 (by omega), hs]
      exact K τ c⟩
  | d + 1, k, τ, e, c => by
      obtain ⟨n, hn⟩ := undo7 hu hs K d (k + 1) _ (by omega) c.st
      refine ⟨n + 1, ?_⟩
      show bX7_undo_27 _ (nI k) τ Q
      refine iF (nI_ge (b := 27) (by omega) (by omega)) ?_
      rw [nIc (by omega), c.1 92 (by omega), hs, show (27 : Int32) = nI 27 from rfl, nI_mul, nI_add, c.1 103 (by omega)]
      refine ⟨vin (by omega) (by omega), vin (by omega) (by omega), ?_⟩
      rw [nIc (by omega)]
      rintro σ5 rfl x6 rfl
      rw [nI_1]
      rw [Nat.zero_add] at hn
      exact hn
theorem t_undo {σ : St} (h : INV σ) : wX6_undo σ (fun r σ1 => wX7_undo σ1 (fun r' σ2 => r = r' ∧ INV σ2)) := by
  obtain ⟨A, hw, hM, hC, hL, hT⟩ := h
  have w1 := hw.1
  have w2 := hw.2.1
  have w10 := hw.2.2.2.2.2.2.2.2.2.1
  obtain ⟨hP, hS, ⟨x, h1, h2, h3, h4⟩, hIm, hTx, hK⟩ := id hC
  unfold wX6_undo wX2_pop
  rw [h3]
  by_cases c : A 92 20 = 0
  · refine iT (by rw [c]; rfl) (iT rfl ?_)
    rintro σ1 rfl
    rw [(rm92 hM) 92 20 (by unfold rl; omega)]
    exact iT (by rw [c]; rfl) ⟨rfl, inv92 hw hM hC hL hT⟩
  · refine iF (fun e => c ((nI_eq (b := 0) (by omega) (by omega)).mp e)) ?_
    rintro σ2 rfl σ3 rfl
    rw [h2, show (10 : Int32) = nI 10 from rfl, nI_add, sub1 (by omega), nI_mod (by omega) (by omega)]
    have e0 : (up σ 23 1 (nI ((x + 10 - 1) % 10))).1 23 2 = nI (A 92 20) := by rw [up_get_ne (by omega)]; exact h3
    rw [e0, sub1 (by omega)]
    have e1 : (up (up σ 23 1 (nI ((x + 10 - 1) % 10))) 23 2 (nI (A 92 20 - 1))).1 23 1 = nI ((x + 10 - 1) % 10) := by rw [up_get_ne (by omega), up_get]
    rw [e1, nIc (by omega)]
    refine ⟨vin (by omega) (by omega), copy5 (by omega) (fun τ cc => ?_)⟩
    obtain ⟨c1, c2, -⟩ := id cc
    refine iF (by decide) ?_
    have q : ∀ i, (i < 18 ∨ 23 < i) → τ.1 i = σ.1 i := fun i hi => by rw [c1 i (by omega), up_ne (by omega), up_ne (by omega)]
    have ek : τ.1 23 2 = nI (A 92 20 - 1) := by rw [c1 23 (by omega), up_get]
    have en : τ.1 23 1 = nI ((x + 10 - 1) % 10) := by rw [c1 23 (by omega)]; exact e1
    have old := h4 (A 92 20 - 1) (by omega)
    rw [show (x + 10 - A 92 20 + (A 92 20 - 1)) % 10 = (x + 10 - 1) % 10 by omega] at old
    have oldS : RSn (A 94 0) (A 94 1) (up (up σ 23 1 (nI ((x + 10 - 1) % 10))) 23 2 (nI (A 92 20 - 1))) (24 + 1 + 5 * ((x + 10 - 1) % 10)) (fun i => A 103 (27 * (A 92 20 - 1) + i)) := RSn_eq old (fun i _ _ => by rw [up_ne (by omega), up_ne (by omega)])
    have newS := RSn_copy w1 w2 cc oldS
    have rc2 : RC (sR (sA A 92 20 (A 92 20 - 1)) 100 (fun i => A 103 (27 * (A 92 20 - 1) + i))) τ := by
      refine ⟨RP_eq hP (fun i _ _ => q i (by omega)), newS, ⟨(x + 10 - 1) % 10, by omega, en, ek, fun j hj => ?_⟩, RI_eq hIm (fun i _ _ => q i (by omega)), RT_eq hTx (fun i _ => q i (by omega)), RK_eq hK (fun i _ _ => q i (by omega))⟩
      have hj : j < A 92 20 - 1 := hj
      show RSn (A 94 0) (A 94 1) τ (24 + 1 + 5 * (((x + 10 - 1) % 10 + 10 - (A 92 20 - 1) + j) % 10)) (fun i => A 103 (27 * j + i))
      rw [show ((x + 10 - 1) % 10 + 10 - (A 92 20 - 1) + j) % 10 = (x + 10 - A 92 20 + j) % 10 by omega]
      exact RSn_eq (h4 j (by omega)) (fun i _ _ => q i (by omega))
    have sm : SM σ τ := SM_of (fun i hi => q i (by omega)) c2
    have al : AL A τ := AL_eq hL (fun i _ _ => q i (by omega))
    have hM2 := rm92 (RM_SM hM sm)
    have w11 := hw.2.2.2.2.2.2.2.2.2.2.1 (A 92 20 - 1) (by omega)
    rw [ek]
    rintro σ1 rfl
    have e20 := hM2 92 20 (by unfold rl; omega)
    rw [e20]
    refine iF (fun e => c ((nI_eq (b := 0) (by omega) (by omega)).mp e)) ?_
    rw [sub1 (by omega)]
    rintro σ3 rfl
    have rm3 : RM (sA A 92 20 (A 92 20 - 1)) (up (up τ 92 0 0) 92 20 (nI (A 92 20 - 1))) := RM_sA hM2 (by omega) rfl
    refine undo7 (u := A 92 20 - 1) (by omega) up_get (fun ρ cl => ⟨rfl, ?_⟩) 27 0 _ (by omega) CL.z
    obtain ⟨l1, l2, l3⟩ := cl
    have sc : SC τ ρ := SC_of (fun i hi => by rw [l1 i (by omega), up_ne (by omega), up_ne (by omega)]) l2
    refine ⟨_, WF_row (B := sA A 92 20 (A 92 20 - 1)) ?_ w11, RM_row rm3 l1 (fun j hj => ?_), RC_SC rc2 sc, AL_SC al sc, ?_⟩
    · obtain ⟨w1, w2, w3, w4, w5, w6, w7, w8, w9, w10, w11, w12, w13, w14, w15, w16⟩ := hw
      exact ⟨w1, w2, w3, w4, w5, w6, w7, w8, w9, by show A 92 20 - 1 ≤ 10; omega, fun j hj => w11 j (by have hj : j < A 92 20 - 1 := hj; omega), w12, w13, w14, w15, w16⟩
    · rw [l3 j, if_pos (by omega), Nat.sub_zero]
      exact rm3 103 (27 * (A 92 20 - 1) + j) (by unfold rl; omega)
    · rw [l2]
      show τ.2.1 = τ.2.2
      rw [c2]; exact hT
theorem keep7 {σ : St} {Q : Int32 → St → Prop} {u : Nat} (hu : u < 2) (K : ∀ τ, CL σ τ 101 (27 * u) 27 (σ.1 100) → Q ((up τ 102 u (vp_nar .boolean 1)).1 100 0) (up τ 102 u (vp_nar .boolean 1))) : ∀ (d k : Nat) (τ : St), k + d = 27 → CL σ τ 101 (27 * u) k (σ.1 100) → ∃ n, Lp (lX7_keep_18 Q) n (nI u, nI k, τ)
  | 0, k, τ, e, c => ⟨1, by
      show bX7_keep_18 _ (nI u) (nI k) τ Q
      obtain rfl : k = 27 := by omega
      refine iT (by decide) ⟨vin hu (by omega), ?_⟩
      rw [nIc (by omega)]
      rintro σ3 rfl
      exact K τ c⟩
  | d + 1, k, τ, e, c => by
      obtain ⟨n, hn⟩ := keep7 hu K d (k + 1) _ (by omega) c.st
      refine ⟨n + 1, ?_⟩
      show bX7_keep_18 _ (nI u) (nI k) τ Q
      refine iF (nI_ge (b := 27) (by omega) (by omega)) ⟨vin (by omega) (by omega), ?_⟩
      rw [nIc (by omega), show (27 : Int32) = nI 27 from rfl, nI_mul, nI_add, c.1 100 (by omega)]
      refine ⟨vin (by omega) (by omega), ?_⟩
      rw [nIc (by omega)]
      rintro σ5 rfl x6 rfl
      rw [nI_1]; exact hn
theorem back7 {σ : St} {Q : Int32 → St → Prop} {u : Nat} (hu : u < 2) (K : ∀ τ, CL σ τ 100 0 27 (fun j => σ.1 101 (27 * u + j)) → Q ((up τ 92 20 0).1 100 0) (up τ 92 20 0)) : ∀ (d k : Nat) (τ : St), k + d = 27 → CL σ τ 100 0 k (fun j => σ.1 101 (27 * u + j)) → ∃ n, Lp (lX7_back_30 Q) n (nI u, nI k, τ)
  | 0, k, τ, e, c => ⟨1, by
      show bX7_back_30 _ (nI u) (nI k) τ Q
      obtain rfl : k = 27 := by omega
      refine iT (by decide) ?_
      rintro σ3 rfl
      exact K τ c⟩
  | d + 1, k, τ, e, c => by
      obtain ⟨n, hn⟩ := back7 hu K d (k + 1) _ (by omega) c.st
      refine ⟨n + 1, ?_⟩
      show bX7_back_30 _ (nI u) (nI k) τ Q
      refine iF (nI_ge (b := 27) (by omega) (by omega)) ?_
      rw [nIc (by omega), show (27 : Int32) = nI 27 from rfl, nI_mul, nI_add, c.1 101 (by omega)]
      refine ⟨vin (by omega) (by omega), vin (by omega) (by omega), ?_⟩
      rw [nIc (by omega)]
      rintro σ5 rfl x6 rfl
      rw [nI_1]
      rw [Nat.zero_add] at hn
      exact hn
theorem nar1 : vp_nar .boolean 1 = 1 := by decide
theorem nar0 : vp_nar .boolean 0 = 0 := by decide
theorem img6 {σ : St} {Q : Int32 → St → Prop} {a : Int32} (q1 : ∀ u, u < 2 → a = nI u → Q 1 σ) (q0 : ¬ isX a 2 → Q 0 σ) : wX6_isImage a σ Q := by
  unfold wX6_isImage
  rcases isX_or a 2 (by omega) with ⟨u, hu, rfl⟩ | ⟨hx, c | ⟨c, d⟩⟩
  · exact iF (nI_pos (by omega)) (iF (nI_ge (b := 2) hu (by omega)) (q1 u hu rfl))
  · exact iT c (q0 hx)
  · exact iF c (iT d (q0 hx))
theorem t_keep {σ : St} (h : INV σ) (a : Int32) : wX6_keep a σ (fun r σ1 => wX7_keep a σ1 (fun r' σ2 => r = r' ∧ INV σ2)) := by
  obtain ⟨A, hw, hM, hC, hL, hT⟩ := h
  have w1 := hw.1
  have w2 := hw.2.1
  refine img6 (fun u hu e => iF (by decide) ?_) (fun hx => iT rfl ?_)
  · subst e
    refine ⟨vin hu (by omega), ?_⟩
    rw [nIc (by omega)]
    refine copy5 (by omega) (fun τ cc => ⟨vin hu (by omega), ?_⟩)
    obtain ⟨c1, c2, -⟩ := id cc
    obtain ⟨hP, hS, hH, hIm, hTx, hK⟩ := id hC
    rw [nar1]
    rintro σ7 rfl
    have newS := RSn_copy w1 w2 cc hS
    have q : ∀ i, (i < 75 + 1 + 5 * u ∨ 75 + 1 + 5 * u + 4 < i) → i ≠ 86 → (up τ 86 u 1).1 i = σ.1 i := fun i hi h6 => by rw [up_ne h6, c1 i hi]
    have rc2 : RC (sA (sR A 101 (fun b => if 27 * u ≤ b ∧ b < 27 * u + 27 then A 100 (b - 27 * u) else A 101 b)) 102 u 1) (up τ 86 u 1) := by
      refine ⟨RP_eq hP (fun i _ _ => q i (by omega) (by omega)), RSn_eq hS (fun i _ _ => q i (by omega) (by omega)), RH_eq hH (fun i _ _ => q i (by omega) (by omega)), fun i hi => ?_, RT_eq hTx (fun i _ => q i (by omega) (by omega)), RK_eq hK (fun i _ _ => q i (by omega) (by omega))⟩
      have hi0 := hIm i hi
      show (up τ 86 u 1).1 86 i = nI (if i = u then 1 else A 102 i) ∧ ((if i = u then 1 else A 102 i) = 1 → RSn (A 94 0) (A 94 1) (up τ 86 u 1) (75 + 1 + 5 * i) (fun j => if 27 * u ≤ 27 * i + j ∧ 27 * i + j < 27 * u + 27 then A 100 (27 * i + j - 27 * u) else A 101 (27 * i + j)))
      by_cases e : i = u
      · subst e
        rw [if_pos rfl]
        refine ⟨up_get, fun _ => RSn_congr w1 w2 (fun j hj => ?_) (RSn_eq newS (fun i _ _ => up_ne (by omega)))⟩
        rw [if_pos (by omega)]
        exact congrArg (A 100) (by omega)
      · rw [if_neg e]
        refine ⟨by rw [up_get_ne e, c1 86 (by omega)]; exact hi0.1, fun hc => RSn_congr w1 w2 (fun j hj => ?_) (RSn_eq (hi0.2 hc) (fun i _ _ => q i (by omega) (by omega)))⟩
        rw [if_neg (by omega)]
    have sm : SM σ (up τ 86 u 1) := SM_of (fun i hi => q i (by omega) (by omega)) c2
    have al : AL A (up τ 86 u 1) := AL_eq hL (fun i _ _ => q i (by omega) (by omega))
    have er : (up τ 86 u 1).1 18 4 = nI (A 100 0) := by rw [q 18 (by omega) (by omega)]; exact hS.1
    have ct : (up τ 86 u 1).2 = σ.2 := c2
    rw [er]
    generalize up τ 86 u 1 = τ2 at rc2 sm al ct
    have hM2 := rm92 (RM_SM hM sm)
    rintro σ1 rfl
    refine in_X (n := 2) (by omega) rfl hu (iF (by decide) (keep7 hu (fun ρ cl => ?_) 27 0 _ (by omega) CL.z))
    obtain ⟨l1, l2, l3⟩ := cl
    rw [nar1]
    have sc : SC τ2 (up ρ 102 u 1) := SC_of (fun i hi => by rw [up_ne (by omega), l1 i (by omega), up_ne (by omega)]) l2
    refine ⟨?_, _, ?_, ?_, RC_SC rc2 sc, AL_SC al sc, ?_⟩
    · rw [up_ne (by omega), l1 100 (by omega), hM2 100 0 (by unfold rl; omega)]
    · obtain ⟨w1, w2, w3, w4, w5, w6, w7, w8, w9, w10, w11, w12, w13, w14, w15, w16⟩ := hw
      refine ⟨w1, w2, w3, w4, w5, w6, w7, w8, w9, w10, w11, fun i hi => ?_, w13, w14, w15, w16⟩
      show (if i = u then 1 else A 102 i) ≤ 1 ∧ ((if i = u then 1 else A 102 i) = 1 → WSn (A 94 0) (A 94 1) (fun j => if 27 * u ≤ 27 * i + j ∧ 27 * i + j < 27 * u + 27 then A 100 (27 * i + j - 27 * u) else A 101 (27 * i + j)))
      by_cases e : i = u
      · subst e
        rw [if_pos rfl]
        refine ⟨by omega, fun _ => WSn_congr w1 w2 (fun j hj => ?_) w9⟩
        rw [if_pos (by omega)]
        exact congrArg (A 100) (by omega)
      · rw [if_neg e]
        refine ⟨(w12 i hi).1, fun hc => WSn_congr w1 w2 (fun j hj => ?_) ((w12 i hi).2 hc)⟩
        rw [if_neg (by omega)]
    · refine RM_sA (fun a b hab => ?_) (by omega) rfl
      have hab : rl A a b := hab
      by_cases e : a = 101
      · subst e
        rw [l3 b]
        show _ = nI (if 27 * u ≤ b ∧ b < 27 * u + 27 then A 100 (b - 27 * u) else A 101 b)
        by_cases hin : 27 * u ≤ b ∧ b < 27 * u + 27
        · rw [if_pos hin, if_pos hin]; exact hM2 100 _ (by unfold rl; omega)
        · rw [if_neg hin, if_neg hin]; exact hM2 101 b hab
      · rw [l1 a e]
        show _ = nI ((if a = 101 then _ else A a) b)
        rw [if_neg e]; exact hM2 a b hab
    · show ρ.2.1 = ρ.2.2
      rw [l2]
      show τ2.2.1 = τ2.2.2
      rw [ct]; exact hT
  · rintro σ1 rfl
    exact in_N (n := 2) (by omega) (by omega) rfl hx (iT rfl ⟨rfl, inv92 hw hM hC hL hT⟩)
theorem t_back {σ : St} (h : INV σ) (a : Int32) : wX6_back a σ (fun r σ1 => wX7_back a σ1 (fun r' σ2 => r = r' ∧ INV σ2)) := by
  obtain ⟨A, hw, hM, hC, hL, hT⟩ := h
  have w1 := hw.1
  have w2 := hw.2.1
  refine img6 (fun u hu e => iF (by decide) ?_) (fun hx => iT rfl ?_)
  · subst e
    have w12 := hw.2.2.2.2.2.2.2.2.2.2.2.1 u hu
    refine ⟨vin hu (by omega), ?_⟩
    obtain ⟨hP, hS, ⟨x, h1, h2, h3, h4⟩, hIm, hTx, hK⟩ := id hC
    obtain ⟨i1, i2⟩ := hIm u hu
    rw [nIc (by omega), i1]
    by_cases c : A 102 u = 0
    · refine iT (by rw [c]; rfl) ?_
      rintro σ1 rfl
      refine in_X (n := 2) (by omega) rfl hu (iF (by decide) ⟨vin hu (by omega), ?_⟩)
      rw [nIc (by omega), (rm92 hM) 102 u (by unfold rl; omega)]
      exact iT (by rw [c]; rfl) ⟨rfl, inv92 hw hM hC hL hT⟩
    · refine iF (fun e => c ((nI_eq (b := 0) (by omega) (by omega)).mp e)) ⟨vin hu (by omega), copy5 (by omega) (fun τ cc => ?_)⟩
      obtain ⟨c1, c2, -⟩ := id cc
      have newS := RSn_copy w1 w2 cc (i2 (by omega))
      rintro σ8 rfl
      have q : ∀ i, (i < 18 ∨ 23 < i) → (up τ 23 2 0).1 i = σ.1 i := fun i hi => by rw [up_ne (by omega), c1 i (by omega)]
      have rc2 : RC (sR (sA A 92 20 0) 100 (fun j => A 101 (27 * u + j))) (up τ 23 2 0) := by
        refine ⟨RP_eq hP (fun i _ _ => q i (by omega)), RSn_eq newS (fun i _ _ => up_ne (by omega)), ⟨x, h1, by rw [up_get_ne (by omega), c1 23 (by omega)]; exact h2, up_get, fun j hj => ?_⟩, RI_eq hIm (fun i _ _ => q i (by omega)), RT_eq hTx (fun i _ => q i (by omega)), RK_eq hK (fun i _ _ => q i (by omega))⟩
        have hj : j < 0 := hj
        omega
      have sm : SM σ (up τ 23 2 0) := SM_of (fun i hi => q i (by omega)) c2
      have al : AL A (up τ 23 2 0) := AL_eq hL (fun i _ _ => q i (by omega))
      have er : (up τ 23 2 0).1 18 4 = nI (A 101 (27 * u)) := by rw [up_ne (by omega)]; exact newS.1
      have ct : (up τ 23 2 0).2 = σ.2 := c2
      rw [er]
      generalize up τ 23 2 0 = τ2 at rc2 sm al ct
      have hM2 := rm92 (RM_SM hM sm)
      rintro σ1 rfl
      refine in_X (n := 2) (by omega) rfl hu (iF (by decide) ⟨vin hu (by omega), ?_⟩)
      rw [nIc (by omega), hM2 102 u (by unfold rl; omega)]
      refine iF (fun e => c ((nI_eq (b := 0) (by omega) (by omega)).mp e)) (back7 hu (fun ρ cl => ?_) 27 0 _ (by omega) CL.z)
      obtain ⟨l1, l2, l3⟩ := cl
      have sc : SC τ2 (up ρ 92 20 0) := SC_of (fun i hi => by rw [up_ne (by omega), l1 i (by omega), up_ne (by omega)]) l2
      refine ⟨?_, _, WF_row (B := sA A 92 20 0) (f := fun j => A 101 (27 * u + j)) ?_ (w12.2 (by omega)), ?_, RC_SC rc2 sc, AL_SC al sc, ?_⟩
      · rw [up_ne (by omega), l3 0, if_pos (by omega)]
        show _ = (up τ2 92 0 0).1 101 (27 * u + (0 - 0))
        rw [hM2 101 _ (by unfold rl; omega)]
        rfl
      · obtain ⟨w1, w2, w3, w4, w5, w6, w7, w8, w9, w10, w11, w12, w13, w14, w15, w16⟩ := hw
        exact ⟨w1, w2, w3, w4, w5, w6, w7, w8, w9, Nat.zero_le _, fun j hj => by have hj : j < 0 := hj; omega, w12, w13, w14, w15, w16⟩
      · refine RM_row (B := sA A 92 20 0) (τ := up (up τ2 92 0 0) 92 20 0) (RM_sA hM2 (by omega) rfl) (fun i hi => ?_) (fun j hj => ?_)
        · by_cases e : i = 92
          · subst e; funext b; rw [upg, upg, l1 92 (by omega)]
          · rw [up_ne e, up_ne e, l1 i hi]
        · rw [up_ne (by omega), l3 j, if_pos (by omega), Nat.sub_zero]
          exact hM2 101 _ (by unfold rl; omega)
      · show ρ.2.1 = ρ.2.2
        rw [l2]
        show τ2.2.1 = τ2.2.2
        rw [ct]; exact hT
  · rintro σ1 rfl
    exact in_N (n := 2) (by omega) (by omega) rfl hx (iT rfl ⟨rfl, inv92 hw hM hC hL hT⟩)
