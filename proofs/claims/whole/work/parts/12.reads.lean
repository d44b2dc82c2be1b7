/-! reads -/
theorem a1 (k : Nat) : (1 : Int32) + nI k = nI (1 + k) := nI_add 1 k
theorem a6 (k : Nat) : (6 : Int32) + nI k = nI (6 + k) := nI_add 6 k
theorem a13 (k : Nat) : (13 : Int32) + nI k = nI (13 + k) := nI_add 13 k
theorem a21 (k : Nat) : (21 : Int32) + nI k = nI (21 + k) := nI_add 21 k
theorem rm92 {A : AM} {σ : St} (hM : RM A σ) : RM A (up σ 92 0 0) := RM_irr hM (by unfold rl; omega)
theorem inv92 {A : AM} {σ : St} (hw : WF A) (hM : RM A σ) (hC : RC A σ) (hL : AL A σ) (hT : σ.2.1 = σ.2.2) : INV (up σ 92 0 0) := inv_up (by omega) (by unfold rl; omega) hw hM hC hL hT
theorem nIc {n : Nat} (h : n < 2 ^ 31) : (nI n).toNatClampNeg = n := nI_clamp h
theorem t_count {σ : St} (h : INV σ) (a : Int32) : wX6_count a σ (fun r σ1 => wX7_count a σ1 (fun r' σ2 => r = r' ∧ INV σ2)) := by
  obtain ⟨A, hw, hM, hC, hL, hT⟩ := h
  have hI := inv92 hw hM hC hL hT
  have hM1 := rm92 hM
  have key : ∀ r : Int32, (isX a 4 → ∀ k, k < 4 → a = nI k → r = (up σ 92 0 0).1 94 k) → (¬ isX a 4 → (a = 4 → r = (up σ 92 0 0).1 92 24) ∧ (a = 5 → r = (up σ 92 0 0).1 92 3) ∧ (¬ a = 4 → ¬ a = 5 → r = -1)) → wX7_count a σ (fun r' σ2 => r = r' ∧ INV σ2) := by
    intro r h1 h2
    rintro σ1 rfl
    by_cases hx : isX a 4
    · obtain ⟨k, hk, rfl⟩ := hx
      refine in_X (n := 4) (by omega) rfl hk (iF (by decide) ⟨vin (by omega) (by omega), ?_, hI⟩)
      rw [nIc (by omega)]
      exact h1 ⟨k, hk, rfl⟩ k hk rfl
    · refine in_N (n := 4) (by omega) (by omega) rfl hx (iT rfl ?_)
      obtain ⟨q1, q2, q3⟩ := h2 hx
      exact ⟨fun c => ⟨q1 c, hI⟩, fun c => ⟨fun d => ⟨q2 d, hI⟩, fun d => ⟨q3 c d, hI⟩⟩⟩
  have m : ∀ j, j < 4 → (up σ 92 0 0).1 94 j = nI (A 94 j) := fun j hj => hM1 94 j (by unfold rl; omega)
  have inj : ∀ i k : Nat, i < 4 → k < 4 → nI i = nI k → i = k := fun i k hi hk h => (nI_eq (by omega) (by omega)).mp h
  have nx : ∀ n : Nat, 4 ≤ n → n < 10 → a = nI n → ¬ isX a 4 := by
    rintro n h1 h2 rfl ⟨k, hk, e⟩
    have := (nI_eq (by omega) (by omega)).mp e
    omega
  obtain ⟨p1, p2, p3, p4, -⟩ := hC.1
  refine ⟨fun c => ?_, fun c0 => ⟨fun c => ?_, fun c1 => ⟨fun c => ?_, fun c2 => ⟨fun c => ?_, fun c3 => ⟨fun c => ?_, fun c4 => ⟨fun c => ?_, fun c5 => ?_⟩⟩⟩⟩⟩⟩
  · refine key _ (fun _ k hk e => ?_) (fun n => absurd ⟨0, by omega, c⟩ n)
    obtain rfl := inj 0 k (by omega) hk (c.symm.trans e)
    rw [m 0 hk]; exact p1
  · refine key _ (fun _ k hk e => ?_) (fun n => absurd ⟨1, by omega, c⟩ n)
    obtain rfl := inj 1 k (by omega) hk (c.symm.trans e)
    rw [m 1 hk]; exact p2
  · refine key _ (fun _ k hk e => ?_) (fun n => absurd ⟨2, by omega, c⟩ n)
    obtain rfl := inj 2 k (by omega) hk (c.symm.trans e)
    rw [m 2 hk]; exact p3
  · refine key _ (fun _ k hk e => ?_) (fun n => absurd ⟨3, by omega, c⟩ n)
    obtain rfl := inj 3 k (by omega) hk (c.symm.trans e)
    rw [m 3 hk]; exact p4
  · refine key _ (fun n => absurd n (nx 4 (by omega) (by omega) c)) (fun _ => ⟨fun _ => ?_, fun d => ?_, fun d => absurd c d⟩)
    · rw [hM1 92 24 (by unfold rl; omega)]; exact hC.2.2.2.2.2.1
    · rw [c] at d; exact absurd d (by decide)
  · refine key _ (fun n => absurd n (nx 5 (by omega) (by omega) c)) (fun _ => ⟨fun d => ?_, fun _ => ?_, fun _ d => absurd c d⟩)
    · rw [c] at d; exact absurd d (by decide)
    · rw [hM1 92 3 (by unfold rl; omega)]; exact hC.2.2.2.2.1.1
  · refine key _ (fun _ k hk e => ?_) (fun _ => ⟨fun d => absurd d c4, fun d => absurd d c5, fun _ _ => rfl⟩)
    exfalso
    rcases (by omega : k = 0 ∨ k = 1 ∨ k = 2 ∨ k = 3) with rfl | rfl | rfl | rfl
    · exact c0 e
    · exact c1 e
    · exact c2 e
    · exact c3 e
theorem t_strip {σ : St} (h : INV σ) (a b : Int32) : wX6_strip a b σ (fun r σ1 => wX7_strip a b σ1 (fun r' σ2 => r = r' ∧ INV σ2)) := by
  obtain ⟨A, hw, hM, hC, hL, hT⟩ := h
  have hI := inv92 hw hM hC hL hT
  have hM1 := rm92 hM
  have w2 := hw.2.1
  by_cases hx : isX a (A 94 1)
  · obtain ⟨k, hk, rfl⟩ := hx
    have hS := hC.2.1.2.2.2.2 k hk
    have key : ∀ r : Int32, (b = 0 → r = nI (A 100 (13 + k))) → (b = 1 → r = nI (A 100 (6 + k))) → (b = 2 → r = nI (A 98 k)) → (¬ isX b 3 → r = -1) → wX7_strip (nI k) b σ (fun r' σ2 => r = r' ∧ INV σ2) := by
      intro r q0 q1 q2 q3
      rintro σ1 rfl
      refine s7_y hM1 hw hk (iF (by decide) ?_)
      by_cases hb : isX b 3
      · obtain ⟨j, hj, rfl⟩ := hb
        refine in_X (n := 3) (by omega) rfl hj (iF (by decide) ⟨fun c => ?_, fun c0 => ⟨fun c => ?_, fun c1 => ?_⟩⟩)
        · rw [a13]
          refine ⟨vin (by omega) (by omega), ?_, hI⟩
          rw [nIc (by omega), hM1 100 (13 + k) (by unfold rl; omega)]; exact q0 c
        · rw [a6]
          refine ⟨vin (by omega) (by omega), ?_, hI⟩
          rw [nIc (by omega), hM1 100 (6 + k) (by unfold rl; omega)]; exact q1 c
        · refine ⟨vin (by omega) (by omega), ?_, hI⟩
          rw [nIc (by omega), hM1 98 k (by unfold rl; omega)]
          refine q2 ?_
          rcases (by omega : j = 0 ∨ j = 1 ∨ j = 2) with rfl | rfl | rfl
          · exact absurd rfl c0
          · exact absurd rfl c1
          · rfl
      · exact in_N (n := 3) (by omega) (by omega) rfl hb (iT rfl ⟨q3 hb, hI⟩)
    refine s6_y hC hw hk (iF (by decide) ?_)
    refine ⟨fun c => ⟨vin (by omega) (by omega), ?_⟩, fun c0 => ⟨fun c => ⟨vin (by omega) (by omega), ?_⟩, fun c1 => ⟨fun c => ⟨vin (by omega) (by omega), ?_⟩, fun c2 => ?_⟩⟩⟩
    · rw [nIc (by omega)]
      refine key _ (fun _ => hS.1) (fun d => ?_) (fun d => ?_) (fun d => absurd ⟨0, by omega, c⟩ d)
      · rw [c] at d; exact absurd d (by decide)
      · rw [c] at d; exact absurd d (by decide)
    · rw [nIc (by omega)]
      refine key _ (fun d => absurd d c0) (fun _ => hS.2) (fun d => ?_) (fun d => absurd ⟨1, by omega, c⟩ d)
      rw [c] at d; exact absurd d (by decide)
    · rw [nIc (by omega)]
      exact key _ (fun d => absurd d c0) (fun d => absurd d c1) (fun _ => hC.1.2.2.2.2.2.1 k hk) (fun d => absurd ⟨2, by omega, c⟩ d)
    · exact key _ (fun d => absurd d c0) (fun d => absurd d c1) (fun d => absurd d c2) (fun _ => rfl)
  · refine s6_n hC hw hx (iT rfl ?_)
    rintro σ1 rfl
    exact s7_n hM1 hw hx (iT rfl ⟨rfl, hI⟩)
/-! the moon -/
theorem moN_le (ph n : Nat) : moN ph n ≤ 4 := by
  unfold moN
  have := Nat.mod_lt (n + ph) (by omega : 16 > 0)
  split <;> omega
theorem mo_le (ph : Nat) (cl : Nat → Nat) (n : Nat) : mo ph cl n ≤ 4 := by
  unfold mo
  split
  · exact moN_le ph n
  · omega
theorem moon_eq {ph n : Nat} (h1 : ph ≤ 15) (h2 : n ≤ 99) (Q : Int32 → Prop) (q : Q (nI (moN ph n))) : ∀ x1 : Int32, x1 = ((nI n + nI ph) - (nI n + nI ph) / 16 * 16) → ((8 < x1 → Q ((16 - x1) / 2)) ∧ (¬ 8 < x1 → Q (x1 / 2))) := by
  rintro x1 rfl
  rw [nI_add, show (16 : Int32) = nI 16 from rfl, nI_mod (by omega) (by omega)]
  have := Nat.mod_lt (n + ph) (by omega : 16 > 0)
  unfold moN at q
  by_cases c : 8 < (n + ph) % 16
  · refine iT (nI_lt (a := 8) c (by omega)) ?_
    rw [if_pos c] at q
    rw [nI_sub (by omega), show (2 : Int32) = nI 2 from rfl, nI_div (by omega) (by omega)]
    exact q
  · refine iF (fun d => c ((nI_ltI (a := 8) (by omega) (by omega)).mp d)) ?_
    rw [if_neg c] at q
    rw [show (2 : Int32) = nI 2 from rfl, nI_div (by omega) (by omega)]
    exact q
theorem m6 {A : AM} {σ : St} {Q : Int32 → St → Prop} (hC : RC A σ) (hw : WF A) {n : Nat} (hn : n ≤ 99) (q : Q (nI (moN (A 94 2) n)) σ) : wX3_moon 3 (nI n) σ Q := by
  unfold wX3_moon
  rw [hC.1.2.2.1]
  exact moon_eq hw.2.2.1 hn (fun r => Q r σ) q
theorem m7 {A : AM} {σ : St} {Q : Int32 → St → Prop} (hM : RM A σ) (hw : WF A) {n : Nat} (hn : n ≤ 99) (q : Q (nI (moN (A 94 2) n)) σ) : wX7_moon (nI n) σ Q := by
  unfold wX7_moon
  rw [hM 94 2 (by unfold rl; omega)]
  exact moon_eq hw.2.2.1 hn (fun r => Q r σ) q
theorem mo7 {A : AM} {σ : St} {Q : Int32 → St → Prop} (hM : RM A σ) (hw : WF A) {n : Nat} (hn : n ≤ 99) (q : Q (nI (mo (A 94 2) (A 99) n)) σ) : wX7_moonOf (nI n) σ Q := by
  unfold wX7_moonOf
  refine ⟨vin (by omega) (by omega), ?_⟩
  rw [nIc (by omega), hM 99 n (by unfold rl; omega)]
  have w8 := hw.2.2.2.2.2.2.2.1 n (by omega)
  unfold mo at q
  by_cases c : A 99 n = 0
  · rw [if_pos c] at q
    refine iT (by rw [c]; rfl) (m7 hM hw hn q)
  · rw [if_neg c] at q
    exact iF (fun d => c ((nI_eq (b := 0) (by omega) (by omega)).mp d)) q
theorem t_night {σ : St} (h : INV σ) (a b : Int32) : wX6_night a b σ (fun r σ1 => wX7_night a b σ1 (fun r' σ2 => r = r' ∧ INV σ2)) := by
  obtain ⟨A, hw, hM, hC, hL, hT⟩ := h
  have hI := inv92 hw hM hC hL hT
  have hM1 := rm92 hM
  unfold wX6_night wX6_isNight
  rcases isX_or a 100 (by omega) with ⟨n, hn, rfl⟩ | ⟨hx, hq⟩
  · refine iF (nI_pos (by omega)) (iF (nI_nlt (a := 99) (by omega) (by omega)) (iF (by decide) ?_))
    have w8 := hw.2.2.2.2.2.2.2.1 n (by omega)
    have key : ∀ r : Int32, (b = 0 → r = nI (moN (A 94 2) n)) → (b = 1 → r = nI (A 99 n)) → (¬ isX b 2 → r = -1) → wX7_night (nI n) b σ (fun r' σ2 => r = r' ∧ INV σ2) := by
      intro r q0 q1 q2
      rintro σ1 rfl
      refine in_X (n := 100) (by omega) rfl hn (iF (by decide) ?_)
      by_cases hb : isX b 2
      · obtain ⟨j, hj, rfl⟩ := hb
        refine in_X (n := 2) (by omega) rfl hj (iF (by decide) ⟨fun c => ?_, fun c => ?_⟩)
        · exact m7 hM1 hw (by omega) ⟨q0 c, hI⟩
        · refine ⟨vin (by omega) (by omega), ?_⟩
          rw [nIc (by omega), hM1 99 n (by unfold rl; omega)]
          have q1 := q1 (by rcases (by omega : j = 0 ∨ j = 1) with rfl | rfl; exact absurd rfl c; rfl)
          rcases (by omega : A 99 n = 0 ∨ A 99 n = 1) with e | e
          · rw [e] at q1 ⊢; exact iT rfl ⟨q1, hI⟩
          · rw [e] at q1 ⊢; exact iF (by decide) ⟨q1, hI⟩
      · exact in_N (n := 2) (by omega) (by omega) rfl hb (iT rfl ⟨q2 hb, hI⟩)
    refine ⟨fun c => m6 hC hw (by omega) ?_, fun c0 => ⟨fun c => ⟨vin (by omega) (by omega), ?_⟩, fun c1 => ?_⟩⟩
    · refine key _ (fun _ => rfl) (fun d => ?_) (fun d => absurd ⟨0, by omega, c⟩ d)
      rw [c] at d; exact absurd d (by decide)
    · rw [nIc (by omega), hC.1.2.2.2.2.2.2 n hn]
      rcases (by omega : A 99 n = 0 ∨ A 99 n = 1) with e | e
      · exact iT (by rw [e]; rfl) (key _ (fun d => absurd d c0) (fun _ => by rw [e]; rfl) (fun d => absurd ⟨1, by omega, c⟩ d))
      · exact iF (by rw [e]; decide) (key _ (fun d => absurd d c0) (fun _ => by rw [e]; rfl) (fun d => absurd ⟨1, by omega, c⟩ d))
    · exact key _ (fun d => absurd d c0) (fun d => absurd d c1) (fun _ => rfl)
  · have hm : wX7_night a b σ (fun r' σ2 => -1 = r' ∧ INV σ2) := by
      rintro σ1 rfl
      exact in_N (n := 100) (by omega) (by omega) rfl hx (iT rfl ⟨rfl, hI⟩)
    rcases hq with c | ⟨c, d⟩
    · exact iT c (iT rfl hm)
    · refine iF c (iT ?_ (iT rfl hm))
      obtain ⟨j, hj, rfl⟩ := nI_of c
      have := (nI_leI (by omega) hj).mp d
      exact nI_lt (a := 99) (by omega) hj
