/-! lends, marries, ploughs -/
theorem two6 {A : AM} {σ : St} {Q : Int32 → St → Prop} (hC : RC A σ) (hw : WF A) {a b : Int32} (q1 : ∀ k1 k2, k1 < A 94 0 → k2 < A 94 0 → k1 ≠ k2 → a = nI k1 → b = nI k2 → Q 1 σ) (q0 : ¬ (isX a (A 94 0) ∧ isX b (A 94 0) ∧ ¬ a = b) → Q 0 σ) : wX6_areTwo a b σ Q := by
  have w1 := hw.1
  by_cases hx : isX a (A 94 0)
  · obtain ⟨k1, h1, rfl⟩ := hx
    refine f6_y hC hw h1 (iF (by decide) ?_)
    by_cases hy : isX b (A 94 0)
    · obtain ⟨k2, h2, rfl⟩ := hy
      refine f6_y hC hw h2 (iF (by decide) ?_)
      by_cases e : nI k1 = nI k2
      · exact iT e (q0 (fun c => c.2.2 e))
      · exact iF e (q1 k1 k2 h1 h2 (fun c => e (by rw [c])) rfl rfl)
    · exact f6_n hC hw hy (iT rfl (q0 (fun c => hy c.2.1)))
  · exact f6_n hC hw hx (iT rfl (q0 (fun c => hx c.1)))
/-- the model's three tests of two farmers, refused -/
theorem two7n {A : AM} {σ : St} {Q : Int32 → St → Prop} {a b : Int32} {T : St → Prop} (hM : RM A σ) (hw : WF A) (hn : ¬ (isX a (A 94 0) ∧ isX b (A 94 0) ∧ ¬ a = b)) (q : Q (-1) σ) : wX7_isFarmer a σ (fun r3 σ2 => ((r3 = 0 → Q (-1) σ2) ∧ (¬ r3 = 0 → wX7_isFarmer b σ2 (fun r6 σ5 => ((r6 = 0 → Q (-1) σ5) ∧ (¬ r6 = 0 → ((a = b → Q (-1) σ5) ∧ (¬ a = b → T σ5)))))))) := by
  by_cases hx : isX a (A 94 0)
  · obtain ⟨k1, h1, rfl⟩ := id hx
    refine f7_y hM hw h1 (iF (by decide) ?_)
    by_cases hy : isX b (A 94 0)
    · obtain ⟨k2, h2, rfl⟩ := id hy
      refine f7_y hM hw h2 (iF (by decide) (iT ?_ q))
      by_cases e : nI k1 = nI k2
      · exact e
      · exact absurd ⟨hx, hy, e⟩ hn
    · exact f7_n hM hw hy (iT rfl q)
  · exact f7_n hM hw hx (iT rfl q)
theorem two7y {A : AM} {σ : St} {Q : Int32 → St → Prop} {T : St → Prop} {k1 k2 : Nat} (hM : RM A σ) (hw : WF A) (h1 : k1 < A 94 0) (h2 : k2 < A 94 0) (hne : k1 ≠ k2) (q : T σ) : wX7_isFarmer (nI k1) σ (fun r3 σ2 => ((r3 = 0 → Q (-1) σ2) ∧ (¬ r3 = 0 → wX7_isFarmer (nI k2) σ2 (fun r6 σ5 => ((r6 = 0 → Q (-1) σ5) ∧ (¬ r6 = 0 → ((nI k1 = nI k2 → Q (-1) σ5) ∧ (¬ nI k1 = nI k2 → T σ5)))))))) := by
  have w1 := hw.1
  exact f7_y hM hw h1 (iF (by decide) (f7_y hM hw h2 (iF (by decide) (iF (fun e => hne ((nI_eq (by omega) (by omega)).mp e)) q))))
theorem t_lends {σ : St} (h : INV σ) (a b c : Int32) : wX6_lends a b c σ (fun r σ1 => wX7_lends a b c σ1 (fun r' σ2 => r = r' ∧ INV σ2)) := by
  obtain ⟨A, hw, hM, hC, hL, hT⟩ := h
  have hI := inv92 hw hM hC hL hT
  have hM1 := rm92 hM
  have w1 := hw.1
  have w2 := hw.2.1
  have wl := wf_live hw
  have wS := WSn_of hw
  refine two6 hC hw (fun k1 k2 h1 h2 hne e1 e2 => iF (by decide) ?_) (fun hn => iT rfl ?_)
  · subst e1 e2
    have q1 := wS.2.2.2.2.2 (1 + k1) (by omega)
    have q2 := wS.2.2.2.2.2 (1 + k2) (by omega)
    -- the model, refused
    have bad : (c < 1 ∨ 99 < c) → wX7_lends (nI k1) (nI k2) c σ (fun r' σ2 => -1 = r' ∧ INV σ2) := by
      intro hc
      rintro σ1 rfl
      exact two7y (Q := fun r' σ2 => -1 = r' ∧ INV σ2) hM1 hw h1 h2 hne (in_n hc (iT rfl ⟨rfl, hI⟩))
    by_cases c1 : c < 1
    · exact iT c1 (bad (Or.inl c1))
    refine iF c1 ?_
    rcases (Classical.em (c ≤ 99)).symm with c2 | c2
    · refine iF c2 (bad (Or.inr ?_))
      rw [Int32.lt_iff_toInt_lt]; rw [Int32.le_iff_toInt_le] at c2; omega
    refine iT c2 ?_
    obtain ⟨n, hn1, hn9, rfl⟩ : ∃ n, 1 ≤ n ∧ n ≤ 99 ∧ c = nI n := by
      have c0 : ¬ c < 0 := fun e => c1 (by rw [Int32.lt_iff_toInt_lt] at e ⊢; have z0 : (0 : Int32).toInt = 0 := (by decide); have z1 : (1 : Int32).toInt = 1 := (by decide); omega)
      obtain ⟨j, hj, rfl⟩ := nI_of c0
      refine ⟨j, ?_, (nI_leI (b := 99) hj (by omega)).mp c2, rfl⟩
      rcases Nat.eq_zero_or_pos j with q | q
      · subst q; exact absurd (by decide) c1
      · exact q
    have inN : ∀ {P : Int32 → St → Prop} {τ : St}, P 1 τ → wX7_in (nI n) 1 99 τ P := fun q => in_y c1 (nI_nlt (a := 99) (by omega) (by omega)) q
    -- the model up to its tests
    have mod : ∀ {P : Int32 → St → Prop} {τ : St}, RM A τ → (bit (A 100 20) k1 = 1 → bit (A 100 20) k2 = 1 → n ≤ A 100 (1 + k1) → A 100 (1 + k2) + n ≤ 999 → wX7_notes τ (fun σ22 => (vp_in (1 + nI k1) 27 ∧ (vp_in (1 + nI k1) 27 ∧ ∀ σ25 : St, σ25 = up σ22 100 (1 + nI k1).toNatClampNeg ((σ22.1 100 (1 + nI k1).toNatClampNeg) - nI n) → (vp_in (1 + nI k2) 27 ∧ (vp_in (1 + nI k2) 27 ∧ ∀ σ28 : St, σ28 = up σ25 100 (1 + nI k2).toNatClampNeg ((σ25.1 100 (1 + nI k2).toNatClampNeg) + nI n) → (vp_in (1 + nI k2) 27 ∧ P (σ28.1 100 (1 + nI k2).toNatClampNeg) σ28))))))) → (¬ (bit (A 100 20) k1 = 1 ∧ bit (A 100 20) k2 = 1 ∧ n ≤ A 100 (1 + k1) ∧ A 100 (1 + k2) + n ≤ 999) → P (-2) τ) → ∀ τ0, up τ0 92 0 0 = τ → wX7_lends (nI k1) (nI k2) (nI n) τ0 P := by
      intro P τ hMt qy qn τ0 e0
      rintro σ1 rfl
      rw [e0]
      refine two7y (Q := P) hMt hw h1 h2 hne (inN (iF (by decide) ?_))
      refine li7 hMt wl (by omega) (fun b1 => iF (by decide) ?_) (fun b1 => iT rfl (qn (by omega)))
      refine li7 hMt wl (by omega) (fun b2 => iF (by decide) ?_) (fun b2 => iT rfl (qn (by omega)))
      have hqy := qy b1 b2
      rw [a1, a1] at hqy ⊢
      refine ⟨vin (by omega) (by omega), ?_⟩
      rw [nIc (by omega)] at hqy ⊢
      rw [hMt 100 (1 + k1) (by unfold rl; omega)]
      by_cases d1 : n ≤ A 100 (1 + k1)
      · refine iF (nI_nlt d1 (by omega)) ⟨vin (by omega) (by omega), ?_⟩
        rw [nIc (by omega)] at hqy ⊢
        rw [hMt 100 (1 + k2) (by unfold rl; omega), nI_add]
        by_cases d2 : A 100 (1 + k2) + n ≤ 999
        · exact iT (nI_le (b := 999) d2 (by omega)) (hqy d1 d2)
        · exact iF (fun e => d2 ((nI_leI (b := 999) (by omega) (by omega)).mp e)) (qn (by omega))
      · exact iT (nI_lt (by omega) (by omega)) (qn (by omega))
    have state : ¬ (bit (A 100 20) k1 = 1 ∧ bit (A 100 20) k2 = 1 ∧ n ≤ A 100 (1 + k1) ∧ A 100 (1 + k2) + n ≤ 999) → wX7_lends (nI k1) (nI k2) (nI n) σ (fun r' σ2 => -2 = r' ∧ INV σ2) := fun hn => mod hM1 (fun b1 b2 b3 b4 => absurd ⟨b1, b2, b3, b4⟩ hn) (fun _ => ⟨rfl, hI⟩) σ rfl
    refine al5 hC.2.1 wl (by omega) (fun b1 => iF (by decide) ?_) (fun b1 => iT rfl (state (by omega)))
    refine al5 hC.2.1 wl (by omega) (fun b2 => iF (by decide) ?_) (fun b2 => iT rfl (state (by omega)))
    refine ⟨vin (by omega) (by omega), ?_⟩
    rw [nIc (by omega), nIc (by omega), (hC.2.1.2.2.2.1 k1 h1).1, (hC.2.1.2.2.2.1 k2 h2).1, nI_add]
    rcases (Classical.em (n ≤ A 100 (1 + k1))).symm with d1 | d1
    · exact iT (nI_lt (by omega) (by omega)) (state (by omega))
    refine iF (nI_nlt d1 (by omega)) ⟨vin (by omega) (by omega), ?_⟩
    rcases (Classical.em (A 100 (1 + k2) + n ≤ 999)).symm with d2 | d2
    · exact iF (fun e => d2 ((nI_leI (b := 999) (by omega) (by omega)).mp e)) (state (by omega))
    refine iT (nI_le (b := 999) d2 (by omega)) (push6 hC hw (fun τ rc p1 p2 => ⟨vin (by omega) (by omega), vin (by omega) (by omega), ?_⟩))
    obtain ⟨r1, r2, r3, r4, r5⟩ := rc.2.1
    have g1 : τ.1 19 k1 = nI (A 100 (1 + k1)) := (r4 k1 h1).1
    have g2 : τ.1 19 k2 = nI (A 100 (1 + k2)) := (r4 k2 h2).1
    rw [g1, nI_sub d1]
    rintro σ19 rfl
    refine ⟨vin (by omega) (by omega), vin (by omega) (by omega), ?_⟩
    rw [up_get_ne (by omega), g2, nI_add]
    rintro σ22 rfl
    refine ⟨vin (by omega) (by omega), ?_⟩
    let f : Nat → Nat := fun b => if b = 1 + k2 then A 100 (1 + k2) + n else if b = 1 + k1 then A 100 (1 + k1) - n else A 100 b
    have ff : ∀ b, b ≠ 1 + k1 → b ≠ 1 + k2 → f b = A 100 b := fun b q1 q2 => by show (if b = 1 + k2 then _ else if b = 1 + k1 then _ else A 100 b) = _; rw [if_neg q2, if_neg q1]
    have fv : ∀ b, f b = if b = 1 + k2 then A 100 (1 + k2) + n else if b = 1 + k1 then A 100 (1 + k1) - n else A 100 b := fun _ => rfl
    have rc2 : RC (sR (pushA A) 100 f) (up (up τ 19 k1 (nI (A 100 (1 + k1) - n))) 19 k2 (nI (A 100 (1 + k2) + n))) := by
      refine RC_row rc (fun i hi => by rw [up_ne (by omega), up_ne (by omega)]) ⟨?_, ?_, ?_, fun k hk => ?_, fun k hk => ?_⟩
      · rw [up_ne (by omega), up_ne (by omega), ff 0 (by omega) (by omega)]; exact r1
      · rw [up_ne (by omega), up_ne (by omega), ff 20 (by omega) (by omega)]; exact r2
      · rw [up_ne (by omega), up_ne (by omega), ff 26 (by omega) (by omega)]; exact r3
      · have hk : k < A 94 0 := hk
        have r4k := r4 k hk
        refine ⟨?_, by rw [up_ne (by omega), up_ne (by omega), ff (21 + k) (by omega) (by omega)]; exact r4k.2⟩
        show (up (up τ 19 k1 _) 19 k2 _).1 19 k = _
        rw [upg, upg, fv]
        by_cases e2 : k = k2
        · rw [if_pos ⟨rfl, e2⟩, if_pos (by omega)]
        · rw [if_neg (by omega), if_neg (show ¬ 1 + k = 1 + k2 by omega)]
          by_cases e1 : k = k1
          · rw [if_pos ⟨rfl, e1⟩, if_pos (by omega)]
          · rw [if_neg (by omega), if_neg (show ¬ 1 + k = 1 + k1 by omega)]; exact r4k.1
      · have hk : k < A 94 1 := hk
        rw [up_ne (by omega), up_ne (by omega), up_ne (by omega), up_ne (by omega), ff (13 + k) (by omega) (by omega), ff (6 + k) (by omega) (by omega)]
        exact r5 k hk
    have hf : WSn (A 94 0) (A 94 1) f := by
      obtain ⟨s1, s2, s3, s4, s5, s6⟩ := wS
      refine ⟨by rw [ff 0 (by omega) (by omega)]; exact s1, by rw [ff 20 (by omega) (by omega)]; exact s2, by rw [ff 26 (by omega) (by omega)]; exact s3, fun k hk => ?_, fun k hk => ?_, fun j hj => ?_⟩
      · rcases s4 k hk with q | ⟨m, q1, q2, q3, q4⟩
        · exact Or.inl (by rw [ff _ (by omega) (by omega)]; exact q)
        · exact Or.inr ⟨m, q1, q2, by rw [ff _ (by omega) (by omega)]; exact q3, by rw [ff _ (by omega) (by omega)]; exact q4⟩
      · rw [ff _ (by omega) (by omega), ff _ (by omega) (by omega)]; exact s5 k hk
      · rw [fv]
        have := s6 j hj
        split
        · omega
        · split <;> omega
    have hr : (up (up τ 19 k1 (nI (A 100 (1 + k1) - n))) 19 k2 (nI (A 100 (1 + k2) + n))).1 19 k2 = nI (A 100 (1 + k2) + n) := up_get
    have cc1 : ∀ i, 15 ≤ i → i ≤ 17 → (up (up τ 19 k1 (nI (A 100 (1 + k1) - n))) 19 k2 (nI (A 100 (1 + k2) + n))).1 i = σ.1 i := fun i _ _ => by rw [up_ne (by omega), up_ne (by omega)]; exact p1 i (by omega)
    have cc2 : (up (up τ 19 k1 (nI (A 100 (1 + k1) - n))) 19 k2 (nI (A 100 (1 + k2) + n))).2 = σ.2 := p2
    have sm : SM σ (up (up τ 19 k1 (nI (A 100 (1 + k1) - n))) 19 k2 (nI (A 100 (1 + k2) + n))) := SM_of (fun i _ => by rw [up_ne (by omega), up_ne (by omega)]; exact p1 i (by omega)) p2
    rw [hr]
    generalize (up (up τ 19 k1 (nI (A 100 (1 + k1) - n))) 19 k2 (nI (A 100 (1 + k2) + n))) = τ2 at rc2 cc1 cc2 sm
    have hM2 := rm92 (RM_SM hM sm)
    refine mod hM2 (fun _ _ _ _ => notes7 hM2 hw (fun ρ rm m1 m2 => ?_)) (fun hn => absurd ⟨b1, b2, d1, d2⟩ hn) τ2 rfl
    rw [a1, a1, nIc (by omega), nIc (by omega)]
    have m1' : ∀ j, j < 27 → ρ.1 100 j = nI (A 100 j) := fun j hj => rm 100 j (by unfold rl; omega)
    refine ⟨vin (by omega) (by omega), vin (by omega) (by omega), ?_⟩
    rw [m1' _ (by omega), nI_sub d1]
    rintro σ25 rfl
    refine ⟨vin (by omega) (by omega), vin (by omega) (by omega), ?_⟩
    rw [up_get_ne (by omega), m1' _ (by omega), nI_add]
    rintro σ28 rfl
    refine ⟨vin (by omega) (by omega), by rw [up_get], glue hw hT hL rc2 cc1 cc2 (RM_row rm (fun i hi => by rw [up_ne hi, up_ne hi]) (fun j hj => ?_)) (fun i hi => by rw [up_ne (by omega), up_ne (by omega), m1 i (by omega) (by omega), up_ne (by omega)]) m2 hf⟩
    rw [upg, upg, m1' j hj, fv]
    by_cases e2 : j = 1 + k2
    · rw [if_pos ⟨rfl, e2⟩, if_pos e2]
    · rw [if_neg (by omega), if_neg e2]
      by_cases e1 : j = 1 + k1
      · rw [if_pos ⟨rfl, e1⟩, if_pos e1]
      · rw [if_neg (by omega), if_neg e1]
  · rintro σ1 rfl
    exact two7n (Q := fun r' σ2 => -1 = r' ∧ INV σ2) hM1 hw hn ⟨rfl, hI⟩
theorem fr5 {A : AM} {σ : St} {Q : Int32 → St → Prop} (hC : RC A σ) (hw : WF A) {k : Nat} (hk : k < A 94 0) (q1 : bit (A 100 20) k = 1 → A 100 (21 + k) = 0 → Q 1 σ) (q0 : ¬ (bit (A 100 20) k = 1 ∧ A 100 (21 + k) = 0) → Q 0 σ) : wX4_free 18 (nI k) σ Q := by
  have w1 := hw.1
  have wq := (WSn_of hw).2.2.2.2.2 (21 + k) (by omega)
  refine al5 hC.2.1 (wf_live hw) (by omega) (fun b => iF (by decide) ⟨vin (by omega) (by omega), ?_⟩) (fun b => iT rfl (q0 (by omega)))
  rw [nIc (by omega), (hC.2.1.2.2.2.1 k hk).2]
  by_cases e : A 100 (21 + k) = 0
  · exact iT (by rw [e]; rfl) (q1 b e)
  · refine iF (fun d => ?_) (q0 (fun c => e c.2))
    unfold mt at d
    rw [if_neg e] at d
    exact nI_pos (n := A 100 (21 + k) - 1) (by omega) (by rw [d]; decide)
theorem mt_nI {m : Nat} : mt (m + 1) = nI m := by unfold mt; rw [if_neg (by omega)]; rfl
theorem t_marries {σ : St} (h : INV σ) (a b : Int32) : wX6_marries a b σ (fun r σ1 => wX7_marries a b σ1 (fun r' σ2 => r = r' ∧ INV σ2)) := by
  obtain ⟨A, hw, hM, hC, hL, hT⟩ := h
  have hI := inv92 hw hM hC hL hT
  have hM1 := rm92 hM
  have w1 := hw.1
  have w2 := hw.2.1
  have wl := wf_live hw
  have wS := WSn_of hw
  refine two6 hC hw (fun k1 k2 h1 h2 hne e1 e2 => iF (by decide) ?_) (fun hn => iT rfl ?_)
  · subst e1 e2
    have q1 := wS.2.2.2.2.2 (21 + k1) (by omega)
    have q2 := wS.2.2.2.2.2 (21 + k2) (by omega)
    have mod : ∀ {P : Int32 → St → Prop} {τ : St}, RM A τ → (bit (A 100 20) k1 = 1 → bit (A 100 20) k2 = 1 → A 100 (21 + k1) = 0 → A 100 (21 + k2) = 0 → wX7_notes τ (fun σ19 => (vp_in (21 + nI k1) 27 ∧ ∀ σ21 : St, σ21 = up σ19 100 (21 + nI k1).toNatClampNeg (nI k2 + 1) → (vp_in (21 + nI k2) 27 ∧ ∀ σ23 : St, σ23 = up σ21 100 (21 + nI k2).toNatClampNeg (nI k1 + 1) → (vp_in (1 + nI k1) 27 ∧ (vp_in (1 + nI k2) 27 ∧ P ((σ23.1 100 (1 + nI k1).toNatClampNeg) + (σ23.1 100 (1 + nI k2).toNatClampNeg)) σ23)))))) → (¬ (bit (A 100 20) k1 = 1 ∧ bit (A 100 20) k2 = 1 ∧ A 100 (21 + k1) = 0 ∧ A 100 (21 + k2) = 0) → P (-2) τ) → ∀ τ0, up τ0 92 0 0 = τ → wX7_marries (nI k1) (nI k2) τ0 P := by
      intro P τ hMt qy qn τ0 e0
      rintro σ1 rfl
      rw [e0]
      refine two7y (Q := P) hMt hw h1 h2 hne ?_
      refine li7 hMt wl (by omega) (fun b1 => iF (by decide) ?_) (fun b1 => iT rfl (qn (by omega)))
      refine li7 hMt wl (by omega) (fun b2 => iF (by decide) ?_) (fun b2 => iT rfl (qn (by omega)))
      have hqy := qy b1 b2
      rw [a21, a21] at hqy ⊢
      refine ⟨vin (by omega) (by omega), ?_⟩
      rw [nIc (by omega), nIc (by omega)] at hqy ⊢
      rw [hMt 100 (21 + k1) (by unfold rl; omega), hMt 100 (21 + k2) (by unfold rl; omega)]
      by_cases d1 : A 100 (21 + k1) = 0
      · refine iF (by rw [d1]; decide) ⟨vin (by omega) (by omega), ?_⟩
        by_cases d2 : A 100 (21 + k2) = 0
        · exact iT (by rw [d2]; decide) (hqy d1 d2)
        · exact iF (nI_nle (by omega) (by omega)) (qn (by omega))
      · exact iT (nI_lt (a := 0) (by omega) (by omega)) (qn (by omega))
    have state : ¬ (bit (A 100 20) k1 = 1 ∧ bit (A 100 20) k2 = 1 ∧ A 100 (21 + k1) = 0 ∧ A 100 (21 + k2) = 0) → wX7_marries (nI k1) (nI k2) σ (fun r' σ2 => -2 = r' ∧ INV σ2) := fun hn => mod hM1 (fun b1 b2 b3 b4 => absurd ⟨b1, b2, b3, b4⟩ hn) (fun _ => ⟨rfl, hI⟩) σ rfl
    refine fr5 hC hw h1 (fun b1 d1 => iF (by decide) ?_) (fun hn => iT rfl (state (by omega)))
    refine fr5 hC hw h2 (fun b2 d2 => iF (by decide) ?_) (fun hn => iT rfl (state (by omega)))
    refine push6 hC hw (fun τ rc p1 p2 => ⟨vin (by omega) (by omega), ?_⟩)
    obtain ⟨r1, r2, r3, r4, r5⟩ := rc.2.1
    rw [nIc (by omega), nIc (by omega)]
    rintro σ12 rfl
    refine ⟨vin (by omega) (by omega), ?_⟩
    rintro σ14 rfl
    refine ⟨vin (by omega) (by omega), vin (by omega) (by omega), ?_⟩
    let f : Nat → Nat := fun b => if b = 21 + k2 then k1 + 1 else if b = 21 + k1 then k2 + 1 else A 100 b
    have ff : ∀ b, b ≠ 21 + k1 → b ≠ 21 + k2 → f b = A 100 b := fun b q1 q2 => by show (if b = 21 + k2 then _ else if b = 21 + k1 then _ else A 100 b) = _; rw [if_neg q2, if_neg q1]
    have fv : ∀ b, f b = if b = 21 + k2 then k1 + 1 else if b = 21 + k1 then k2 + 1 else A 100 b := fun _ => rfl
    have rc2 : RC (sR (pushA A) 100 f) (up (up τ 20 k1 (nI k2)) 20 k2 (nI k1)) := by
      refine RC_row rc (fun i hi => by rw [up_ne (by omega), up_ne (by omega)]) ⟨?_, ?_, ?_, fun k hk => ?_, fun k hk => ?_⟩
      · rw [up_ne (by omega), up_ne (by omega), ff 0 (by omega) (by omega)]; exact r1
      · rw [up_ne (by omega), up_ne (by omega), ff 20 (by omega) (by omega)]; exact r2
      · rw [up_ne (by omega), up_ne (by omega), ff 26 (by omega) (by omega)]; exact r3
      · have hk : k < A 94 0 := hk
        have r4k := r4 k hk
        refine ⟨by rw [up_ne (by omega), up_ne (by omega), ff (1 + k) (by omega) (by omega)]; exact r4k.1, ?_⟩
        show (up (up τ 20 k1 _) 20 k2 _).1 20 k = _
        rw [upg, upg, fv]
        by_cases e2 : k = k2
        · rw [if_pos ⟨rfl, e2⟩, if_pos (by omega), mt_nI]
        · rw [if_neg (by omega), if_neg (show ¬ 21 + k = 21 + k2 by omega)]
          by_cases e1 : k = k1
          · rw [if_pos ⟨rfl, e1⟩, if_pos (by omega), mt_nI]
          · rw [if_neg (by omega), if_neg (show ¬ 21 + k = 21 + k1 by omega)]; exact r4k.2
      · have hk : k < A 94 1 := hk
        rw [up_ne (by omega), up_ne (by omega), up_ne (by omega), up_ne (by omega), ff (13 + k) (by omega) (by omega), ff (6 + k) (by omega) (by omega)]
        exact r5 k hk
    have hf : WSn (A 94 0) (A 94 1) f := by
      obtain ⟨s1, s2, s3, s4, s5, s6⟩ := wS
      refine ⟨by rw [ff 0 (by omega) (by omega)]; exact s1, by rw [ff 20 (by omega) (by omega)]; exact s2, by rw [ff 26 (by omega) (by omega)]; exact s3, fun k hk => ?_, fun k hk => ?_, fun j hj => ?_⟩
      · by_cases e1 : k = k1
        · subst e1
          exact Or.inr ⟨k2, h2, by omega, by rw [fv, if_neg (by omega), if_pos rfl], by rw [fv, if_pos rfl]⟩
        · by_cases e2 : k = k2
          · subst e2
            exact Or.inr ⟨k1, h1, by omega, by rw [fv, if_pos rfl], by rw [fv, if_neg (by omega), if_pos rfl]⟩
          · rw [ff (21 + k) (by omega) (by omega)]
            rcases s4 k hk with q | ⟨m, q1, q2, q3, q4⟩
            · exact Or.inl q
            · refine Or.inr ⟨m, q1, q2, q3, ?_⟩
              have m1 : m ≠ k1 := by rintro rfl; omega
              have m2 : m ≠ k2 := by rintro rfl; omega
              rw [ff (21 + m) (by omega) (by omega)]; exact q4
      · rw [ff _ (by omega) (by omega), ff _ (by omega) (by omega)]; exact s5 k hk
      · rw [fv]
        have := s6 j hj
        split
        · omega
        · split <;> omega
    have hr : (up (up τ 20 k1 (nI k2)) 20 k2 (nI k1)).1 19 k1 + (up (up τ 20 k1 (nI k2)) 20 k2 (nI k1)).1 19 k2 = nI (A 100 (1 + k1)) + nI (A 100 (1 + k2)) := by
      rw [up_ne (by omega), up_ne (by omega)]
      exact congr (congrArg _ (r4 k1 h1).1) (r4 k2 h2).1
    have cc1 : ∀ i, 15 ≤ i → i ≤ 17 → (up (up τ 20 k1 (nI k2)) 20 k2 (nI k1)).1 i = σ.1 i := fun i _ _ => by rw [up_ne (by omega), up_ne (by omega)]; exact p1 i (by omega)
    have cc2 : (up (up τ 20 k1 (nI k2)) 20 k2 (nI k1)).2 = σ.2 := p2
    have sm : SM σ (up (up τ 20 k1 (nI k2)) 20 k2 (nI k1)) := SM_of (fun i _ => by rw [up_ne (by omega), up_ne (by omega)]; exact p1 i (by omega)) p2
    rw [hr]
    generalize (up (up τ 20 k1 (nI k2)) 20 k2 (nI k1)) = τ2 at rc2 cc1 cc2 sm
    have hM2 := rm92 (RM_SM hM sm)
    refine mod hM2 (fun _ _ _ _ => notes7 hM2 hw (fun ρ rm m1 m2 => ?_)) (fun hn => absurd ⟨b1, b2, d1, d2⟩ hn) τ2 rfl
    rw [a21, a21, a1, a1, nIc (by omega), nIc (by omega), nIc (by omega), nIc (by omega), nI_1, nI_1]
    have m1' : ∀ j, j < 27 → ρ.1 100 j = nI (A 100 j) := fun j hj => rm 100 j (by unfold rl; omega)
    refine ⟨vin (by omega) (by omega), ?_⟩
    rintro σ21 rfl
    refine ⟨vin (by omega) (by omega), ?_⟩
    rintro σ23 rfl
    refine ⟨vin (by omega) (by omega), vin (by omega) (by omega), ?_, glue hw hT hL rc2 cc1 cc2 (RM_row rm (fun i hi => by rw [up_ne hi, up_ne hi]) (fun j hj => ?_)) (fun i hi => by rw [up_ne (by omega), up_ne (by omega), m1 i (by omega) (by omega), up_ne (by omega)]) m2 hf⟩
    · rw [up_get_ne (by omega), up_get_ne (by omega), up_get_ne (by omega), up_get_ne (by omega), m1' _ (by omega), m1' _ (by omega)]
    · rw [upg, upg, m1' j hj, fv]
      by_cases e2 : j = 21 + k2
      · rw [if_pos ⟨rfl, e2⟩, if_pos e2]
      · rw [if_neg (by omega), if_neg e2]
        by_cases e1 : j = 21 + k1
        · rw [if_pos ⟨rfl, e1⟩, if_pos e1]
        · rw [if_neg (by omega), if_neg e1]
  · rintro σ1 rfl
    exact two7n (Q := fun r' σ2 => -1 = r' ∧ INV σ2) hM1 hw hn ⟨rfl, hI⟩
