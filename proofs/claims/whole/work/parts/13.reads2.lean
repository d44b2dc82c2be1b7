/-! bits -/
def bit (a k : Nat) : Nat := a / 2 ^ k % 2
theorem bit_eq {a k : Nat} (ha : a < 32) (hk : k < 5) : ((nI a >>> (nI k &&& 31)) &&& 1) = nI (bit a k) := by
  have := (by decide +kernel : ∀ (a : Fin 32) (k : Fin 5), ((nI a.val >>> (nI k.val &&& 31)) &&& 1) = nI (bit a.val k.val)) ⟨a, ha⟩ ⟨k, hk⟩
  exact this
theorem bit_le (a k : Nat) : bit a k ≤ 1 := by unfold bit; omega
theorem pow_le {n : Nat} (h : n ≤ 5) : 2 ^ n ≤ 32 := by
  rcases (by omega : n = 0 ∨ n = 1 ∨ n = 2 ∨ n = 3 ∨ n = 4 ∨ n = 5) with rfl | rfl | rfl | rfl | rfl | rfl <;> decide
theorem nI01 {b : Nat} (h : b ≤ 1) : (nI b = 1 ↔ b = 1) ∧ (nI b = 0 ↔ b = 0) := ⟨nI_eq (b := 1) (by omega) (by omega), nI_eq (b := 0) (by omega) (by omega)⟩
theorem al5 {nf ns : Nat} {σ : St} {h : Nat} {f : Nat → Nat} {Q : Int32 → St → Prop} (hR : RSn nf ns σ h f) (hf : f 20 < 32) {k : Nat} (hk : k < 5) (q1 : bit (f 20) k = 1 → Q 1 σ) (q0 : bit (f 20) k = 0 → Q 0 σ) : wX4_alive h (nI k) σ Q := by
  unfold wX4_alive
  rw [hR.2.1, bit_eq hf hk]
  have := bit_le (f 20) k
  exact ⟨fun c => q1 ((nI01 this).1.mp c), fun c => q0 (by have : ¬ bit (f 20) k = 1 := fun d => c ((nI01 this).1.mpr d); omega)⟩
theorem pl5 {nf ns : Nat} {σ : St} {h : Nat} {f : Nat → Nat} {Q : Int32 → St → Prop} (hR : RSn nf ns σ h f) (hf : f 26 < 32) {k : Nat} (hk : k < 5) (q1 : bit (f 26) k = 1 → Q 1 σ) (q0 : bit (f 26) k = 0 → Q 0 σ) : wX4_hasPloughed h (nI k) σ Q := by
  unfold wX4_hasPloughed
  rw [hR.2.2.1, bit_eq hf hk]
  have := bit_le (f 26) k
  exact ⟨fun c => q1 ((nI01 this).1.mp c), fun c => q0 (by have : ¬ bit (f 26) k = 1 := fun d => c ((nI01 this).1.mpr d); omega)⟩
theorem li7 {A : AM} {σ : St} {Q : Int32 → St → Prop} (hM : RM A σ) (hf : A 100 20 < 32) {k : Nat} (hk : k < 5) (q1 : bit (A 100 20) k = 1 → Q 1 σ) (q0 : bit (A 100 20) k = 0 → Q 0 σ) : wX7_lives (nI k) σ Q := by
  unfold wX7_lives
  rw [hM 100 20 (by unfold rl; omega), bit_eq hf hk]
  have := bit_le (A 100 20) k
  exact ⟨fun c => q1 ((nI01 this).1.mp c), fun c => q0 (by have : ¬ bit (A 100 20) k = 1 := fun d => c ((nI01 this).1.mpr d); omega)⟩
theorem wf_live {A : AM} (hw : WF A) : A 100 20 < 32 := Nat.lt_of_lt_of_le hw.2.2.2.2.2.2.2.2.1.2.1 (pow_le hw.1)
theorem wf_plo {A : AM} (hw : WF A) : A 100 26 < 32 := Nat.lt_of_lt_of_le hw.2.2.2.2.2.2.2.2.1.2.2.1 (pow_le hw.1)
theorem b01 {b : Nat} (h : b ≤ 1) : b = 0 ∨ b = 1 := by omega
theorem t_farmer {σ : St} (h : INV σ) (a b : Int32) : wX6_farmer a b σ (fun r σ1 => wX7_farmer a b σ1 (fun r' σ2 => r = r' ∧ INV σ2)) := by
  obtain ⟨A, hw, hM, hC, hL, hT⟩ := h
  have hI := inv92 hw hM hC hL hT
  have hM1 := rm92 hM
  have w1 := hw.1
  have wl := wf_live hw
  have wp := wf_plo hw
  by_cases hx : isX a (A 94 0)
  · obtain ⟨k, hk, rfl⟩ := hx
    have hS := hC.2.1.2.2.2.1 k hk
    have wm := hw.2.2.2.2.2.2.2.2.1.2.2.2.1 k hk
    have wq := hw.2.2.2.2.2.2.2.2.1.2.2.2.2.2 (21 + k) (by omega)
    have key : ∀ r : Int32, (b = 0 → r = nI (A 100 (1 + k))) → (b = 1 → r = nI (A 96 k)) → (b = 2 → r = nI (bit (A 100 20) k)) → (b = 3 → r = mt (A 100 (21 + k))) → (b = 4 → r = nI (bit (A 100 26) k)) → (¬ isX b 5 → r = -1) → wX7_farmer (nI k) b σ (fun r' σ2 => r = r' ∧ INV σ2) := by
      intro r q0 q1 q2 q3 q4 q5
      rintro σ1 rfl
      refine f7_y hM1 hw hk (iF (by decide) ?_)
      by_cases hb : isX b 5
      · obtain ⟨j, hj, rfl⟩ := hb
        refine in_X (n := 5) (by omega) rfl hj (iF (by decide) ⟨fun d3 => ⟨fun c => ?_, fun c4 => ?_⟩, fun d3 => ⟨fun c => ?_, fun c0 => ⟨fun c => ?_, fun c1 => ?_⟩⟩⟩)
        · rw [hM1 100 26 (by unfold rl; omega), bit_eq wp (by omega)]; exact ⟨q4 c, hI⟩
        · have d3 := (nI_leI (a := 3) (by omega) (by omega)).mp d3
          have q3 := q3 (by rcases (by omega : j = 3 ∨ j = 4) with rfl | rfl; rfl; exact absurd rfl c4)
          rw [a21]
          refine ⟨vin (by omega) (by omega), ?_⟩
          rw [nIc (by omega), hM1 100 (21 + k) (by unfold rl; omega)]
          unfold mt at q3
          by_cases e : A 100 (21 + k) = 0
          · rw [if_pos e] at q3
            exact iT (by rw [e]; rfl) ⟨q3, hI⟩
          · rw [if_neg e] at q3
            exact iF (fun d => e ((nI_eq (b := 0) (by omega) (by omega)).mp d)) ⟨vin (by omega) (by omega), by rw [q3, sub1 (by omega)], hI⟩
        · rw [a1]
          exact ⟨vin (by omega) (by omega), by rw [nIc (by omega), hM1 100 (1 + k) (by unfold rl; omega)]; exact q0 c, hI⟩
        · exact ⟨vin (by omega) (by omega), by rw [nIc (by omega), hM1 96 k (by unfold rl; omega)]; exact q1 c, hI⟩
        · rw [hM1 100 20 (by unfold rl; omega), bit_eq wl (by omega)]
          refine ⟨q2 ?_, hI⟩
          have d3 : ¬ 3 ≤ j := fun e => d3 (nI_le e (by omega))
          rcases (by omega : j = 0 ∨ j = 1 ∨ j = 2) with rfl | rfl | rfl
          · exact absurd rfl c0
          · exact absurd rfl c1
          · rfl
      · exact in_N (n := 5) (by omega) (by omega) rfl hb (iT rfl ⟨q5 hb, hI⟩)
    have ne : ∀ i j : Nat, i < 5 → j < 5 → i ≠ j → b = nI i → ¬ b = nI j := by
      intro i j hi hj hij e1 e2
      exact hij ((nI_eq (by omega) (by omega)).mp (e1.symm.trans e2))
    refine f6_y hC hw hk (iF (by decide) ?_)
    refine ⟨fun c => ⟨vin (by omega) (by omega), ?_⟩, fun c0 => ⟨fun c => ⟨vin (by omega) (by omega), ?_⟩, fun c1 => ⟨fun c => ?_, fun c2 => ⟨fun c => ⟨vin (by omega) (by omega), ?_⟩, fun c3 => ⟨fun c => ?_, fun c4 => ?_⟩⟩⟩⟩⟩
    · rw [nIc (by omega)]
      exact key _ (fun _ => hS.1) (fun d => absurd d (ne 0 1 (by omega) (by omega) (by omega) c)) (fun d => absurd d (ne 0 2 (by omega) (by omega) (by omega) c)) (fun d => absurd d (ne 0 3 (by omega) (by omega) (by omega) c)) (fun d => absurd d (ne 0 4 (by omega) (by omega) (by omega) c)) (fun d => absurd ⟨0, by omega, c⟩ d)
    · rw [nIc (by omega)]
      exact key _ (fun d => absurd d c0) (fun _ => hC.1.2.2.2.2.1 k hk) (fun d => absurd d (ne 1 2 (by omega) (by omega) (by omega) c)) (fun d => absurd d (ne 1 3 (by omega) (by omega) (by omega) c)) (fun d => absurd d (ne 1 4 (by omega) (by omega) (by omega) c)) (fun d => absurd ⟨1, by omega, c⟩ d)
    · have fin : ∀ r : Int32, r = nI (bit (A 100 20) k) → wX7_farmer (nI k) b σ (fun r' σ2 => r = r' ∧ INV σ2) := fun r hr =>
        key _ (fun d => absurd d c0) (fun d => absurd d c1) (fun _ => hr) (fun d => absurd d (ne 2 3 (by omega) (by omega) (by omega) c)) (fun d => absurd d (ne 2 4 (by omega) (by omega) (by omega) c)) (fun d => absurd ⟨2, by omega, c⟩ d)
      exact al5 hC.2.1 wl (by omega) (fun e => iF (by decide) (fin _ (by rw [e]; rfl))) (fun e => iT rfl (fin _ (by rw [e]; rfl)))
    · rw [nIc (by omega)]
      exact key _ (fun d => absurd d c0) (fun d => absurd d c1) (fun d => absurd d c2) (fun _ => hS.2) (fun d => absurd d (ne 3 4 (by omega) (by omega) (by omega) c)) (fun d => absurd ⟨3, by omega, c⟩ d)
    · have fin : ∀ r : Int32, r = nI (bit (A 100 26) k) → wX7_farmer (nI k) b σ (fun r' σ2 => r = r' ∧ INV σ2) := fun r hr =>
        key _ (fun d => absurd d c0) (fun d => absurd d c1) (fun d => absurd d c2) (fun d => absurd d c3) (fun _ => hr) (fun d => absurd ⟨4, by omega, c⟩ d)
      exact pl5 hC.2.1 wp (by omega) (fun e => iF (by decide) (fin _ (by rw [e]; rfl))) (fun e => iT rfl (fin _ (by rw [e]; rfl)))
    · exact key _ (fun d => absurd d c0) (fun d => absurd d c1) (fun d => absurd d c2) (fun d => absurd d c3) (fun d => absurd d c4) (fun _ => rfl)
  · refine f6_n hC hw hx (iT rfl ?_)
    rintro σ1 rfl
    exact f7_n hM1 hw hx (iT rfl ⟨rfl, hI⟩)
theorem t_cuts {σ : St} (h : INV σ) (a b c : Int32) : wX6_cuts a b c σ (fun r σ1 => wX7_cuts a b c σ1 (fun r' σ2 => r = r' ∧ INV σ2)) := by
  obtain ⟨A, hw, hM, hC, hL, hT⟩ := h
  have hI := inv92 hw hM hC hL hT
  have hM1 := rm92 hM
  have w1 := hw.1
  have w13 := hw.2.2.2.2.2.2.2.2.2.2.2.2.1
  unfold wX6_cuts
  by_cases hx : isX a (A 94 0)
  · obtain ⟨k, hk, rfl⟩ := hx
    refine f6_y hC hw hk (iF (by decide) ?_)
    unfold wX6_isNight
    rcases isX_or b 100 (by omega) with ⟨n, hn, rfl⟩ | ⟨hxb, hq⟩
    · refine iF (nI_pos (by omega)) (iF (nI_nlt (a := 99) (by omega) (by omega)) (iF (by decide) ?_))
      rcases isX_or c 17 (by omega) with ⟨v, hv, rfl⟩ | ⟨hxc, hq⟩
      · refine iF (nI_pos (by omega)) (iT (show nI v ≤ nI 16 from nI_le (by omega) (by omega)) ?_)
        unfold wX1_add
        have e0 := hC.2.2.2.2.2.1
        rw [e0]
        by_cases hf : A 92 24 < 6
        · refine iT (nI_lt (b := 6) hf (by omega)) ⟨vin hf (by omega), ?_⟩
          rw [nIc (by omega)]
          rintro σ3 rfl
          rw [up_ne (by omega), e0]
          refine ⟨vin hf (by omega), ?_⟩
          rw [nIc (by omega)]
          rintro σ5 rfl
          rw [up_ne (by omega), up_ne (by omega), e0]
          refine ⟨vin hf (by omega), ?_⟩
          rw [nIc (by omega)]
          rintro σ7 rfl
          rw [up_ne (by omega), up_ne (by omega), up_ne (by omega), e0, nI_1]
          rintro σ8 rfl
          refine iF (by decide) ?_
          rw [up_get]
          have sm : SM σ (up (up (up (up σ 88 (A 92 24) (nI k)) 89 (A 92 24) (nI n)) 90 (A 92 24) (nI v)) 87 3 (nI (A 92 24 + 1))) := ((SM.up (by omega)).tr ((SM.up (by omega)).tr ((SM.up (by omega)).tr (SM.up (by omega)))))
          have al : AL A (up (up (up (up σ 88 (A 92 24) (nI k)) 89 (A 92 24) (nI n)) 90 (A 92 24) (nI v)) 87 3 (nI (A 92 24 + 1))) := AL_eq hL (fun i h1 h2 => by rw [up_ne (by omega), up_ne (by omega), up_ne (by omega), up_ne (by omega)])
          have rc : RC (sA (sA (sA (sA A 104 (A 92 24) k) 105 (A 92 24) n) 106 (A 92 24) v) 92 24 (A 92 24 + 1)) (up (up (up (up σ 88 (A 92 24) (nI k)) 89 (A 92 24) (nI n)) 90 (A 92 24) (nI v)) 87 3 (nI (A 92 24 + 1))) := by
            obtain ⟨hP, hS, hH, hI, hT, hK⟩ := hC
            have q : ∀ i, i < 87 → (up (up (up (up σ 88 (A 92 24) (nI k)) 89 (A 92 24) (nI n)) 90 (A 92 24) (nI v)) 87 3 (nI (A 92 24 + 1))).1 i = σ.1 i := fun i h0 => by rw [up_ne (by omega), up_ne (by omega), up_ne (by omega), up_ne (by omega)]
            refine ⟨RP_eq hP (fun i _ _ => q i (by omega)), RSn_eq hS (fun i _ _ => q i (by omega)), RH_eq hH (fun i _ _ => q i (by omega)), RI_eq hI (fun i _ _ => q i (by omega)), RT_eq hT (fun i _ => q i (by omega)), up_get, fun i hi => ?_⟩
            rw [up_ne (by omega), up_ne (by omega), up_ne (by omega), up_eq, up_ne (by omega), up_ne (by omega), up_eq, up_ne (by omega), up_ne (by omega), up_eq, up_ne (by omega), up_ne (by omega)]
            have := hK.2 i hi
            refine ⟨?_, ?_, ?_⟩
            · show (if i = A 92 24 then nI k else σ.1 88 i) = nI (if i = A 92 24 then k else A 104 i)
              split
              · rfl
              · exact this.1
            · show (if i = A 92 24 then nI n else σ.1 89 i) = nI (if i = A 92 24 then n else A 105 i)
              split
              · rfl
              · exact this.2.1
            · show (if i = A 92 24 then nI v else σ.1 90 i) = nI (if i = A 92 24 then v else A 106 i)
              split
              · rfl
              · exact this.2.2
          have ht : (up (up (up (up σ 88 (A 92 24) (nI k)) 89 (A 92 24) (nI n)) 90 (A 92 24) (nI v)) 87 3 (nI (A 92 24 + 1))).2 = σ.2 := rfl
          generalize (up (up (up (up σ 88 (A 92 24) (nI k)) 89 (A 92 24) (nI n)) 90 (A 92 24) (nI v)) 87 3 (nI (A 92 24 + 1))) = τ at sm al rc ht
          have hMt := rm92 (RM_SM hM sm)
          rintro σ1 rfl
          refine f7_y hMt hw hk (iF (by decide) (in_X (n := 100) (by omega) rfl hn (iF (by decide) (in_X (n := 17) (by omega) rfl hv (iF (by decide) ?_)))))
          have e1 := hMt 92 24 (by unfold rl; omega)
          rw [e1]
          refine iF (fun d => by have := (nI_eq (b := 6) (by omega) (by omega)).mp d; omega) ⟨vin hf (by omega), ?_⟩
          rw [nIc (by omega)]
          rintro σ13 rfl
          rw [up_ne (by omega), e1]
          refine ⟨vin hf (by omega), ?_⟩
          rw [nIc (by omega)]
          rintro σ15 rfl
          rw [up_ne (by omega), up_ne (by omega), e1]
          refine ⟨vin hf (by omega), ?_⟩
          rw [nIc (by omega)]
          rintro σ17 rfl
          rw [up_ne (by omega), up_ne (by omega), up_ne (by omega), e1, nI_1]
          rintro σ18 rfl
          rw [up_get]
          have sc : SC τ (up (up (up (up (up τ 92 0 0) 104 (A 92 24) (nI k)) 105 (A 92 24) (nI n)) 106 (A 92 24) (nI v)) 92 24 (nI (A 92 24 + 1))) := (SC.up (by omega)).tr ((SC.up (by omega)).tr ((SC.up (by omega)).tr ((SC.up (by omega)).tr (SC.up (by omega)))))
          refine ⟨rfl, _, ?_, RM_sA (RM_sA (RM_sA (RM_sA hMt (by omega) rfl) (by omega) rfl) (by omega) rfl) (by omega) rfl, RC_SC rc sc, AL_SC al sc, ?_⟩
          · obtain ⟨w1, w2, w3, w4, w5, w6, w7, w8, w9, w10, w11, w12, w13, w14, w15, w16⟩ := hw
            refine ⟨w1, w2, w3, w4, w5, w6, w7, w8, w9, w10, w11, w12, hf, fun i hi => ?_, w15, w16⟩
            have hi : i < A 92 24 + 1 := hi
            show (if i = A 92 24 then k else A 104 i) < A 94 0 ∧ (if i = A 92 24 then n else A 105 i) ≤ 99 ∧ (if i = A 92 24 then v else A 106 i) ≤ 16
            by_cases e : i = A 92 24
            · rw [if_pos e, if_pos e, if_pos e]; omega
            · rw [if_neg e, if_neg e, if_neg e]; exact w14 i (by omega)
          · show τ.2.1 = τ.2.2
            rw [ht]; exact hT
        · refine iF (fun d => hf ((nI_ltI (b := 6) (by omega) (by omega)).mp d)) (iT rfl ?_)
          rintro σ1 rfl
          refine f7_y hM1 hw hk (iF (by decide) (in_X (n := 100) (by omega) rfl hn (iF (by decide) (in_X (n := 17) (by omega) rfl hv (iF (by decide) ?_)))))
          rw [hM1 92 24 (by unfold rl; omega)]
          exact iT (by rw [show A 92 24 = 6 by omega]; rfl) ⟨rfl, hI⟩
      · have hm : wX7_cuts (nI k) (nI n) c σ (fun r' σ2 => -1 = r' ∧ INV σ2) := by
          rintro σ1 rfl
          exact f7_y hM1 hw hk (iF (by decide) (in_X (n := 100) (by omega) rfl hn (iF (by decide) (in_N (n := 17) (by omega) (by omega) rfl hxc (iT rfl ⟨rfl, hI⟩)))))
        rcases hq with c1 | ⟨c1, d⟩
        · exact iT c1 hm
        · refine iF c1 (iF (fun e => ?_) hm)
          obtain ⟨j, hj, rfl⟩ := nI_of c1
          have := (nI_leI (by omega) hj).mp d
          have := (nI_leI (b := 16) hj (by omega)).mp e
          omega
    · have hm : wX7_cuts (nI k) b c σ (fun r' σ2 => -1 = r' ∧ INV σ2) := by
        rintro σ1 rfl
        exact f7_y hM1 hw hk (iF (by decide) (in_N (n := 100) (by omega) (by omega) rfl hxb (iT rfl ⟨rfl, hI⟩)))
      rcases hq with c1 | ⟨c1, d⟩
      · exact iT c1 (iT rfl hm)
      · refine iF c1 (iT ?_ (iT rfl hm))
        obtain ⟨j, hj, rfl⟩ := nI_of c1
        have := (nI_leI (by omega) hj).mp d
        exact nI_lt (a := 99) (by omega) hj
  · refine f6_n hC hw hx (iT rfl ?_)
    rintro σ1 rfl
    exact f7_n hM1 hw hx (iT rfl ⟨rfl, hI⟩)
