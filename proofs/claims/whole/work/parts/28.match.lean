/-! match -/
def fre (A : AM) (k : Nat) : Prop := bit (A 100 20) k = 1 ∧ A 100 (21 + k) = 0
/-- below 0: what he lacks, above 0: what he has beyond his need -/
noncomputable def blZ (A : AM) (k : Nat) : Int := by
  classical
  exact if fre A k then (match ndA A k with | none => 0 | some n => (A 100 (1 + k) : Int) - n) else 0
noncomputable def cvr (A : AM) (a b : Nat) : Nat := (min (-blZ A a) (blZ A b)).toNat
noncomputable def mIn (A : AM) (a : Nat) : Nat → Nat → Int32 × Nat → Int32 × Nat
  | 0, _, p => p
  | d + 1, b, p => mIn A a d (b + 1) (if p.2 < cvr A a b then (10 * nI a + nI b, cvr A a b) else p)
noncomputable def mOut (A : AM) : Nat → Nat → Int32 × Nat → Int32 × Nat
  | 0, _, p => p
  | d + 1, a, p => mOut A d (a + 1) (mIn A a (A 94 0) 0 p)
theorem blZ_le {A : AM} (hw : WF A) {k : Nat} (hk : k < 5) : -441 ≤ blZ A k ∧ blZ A k ≤ 999 := by
  have wq := (WSn_of hw).2.2.2.2.2 (1 + k) (by omega)
  unfold blZ
  split
  · cases hn : ndA A k with
    | none => simp
    | some n =>
      have := ndA_le hw hn
      simp only
      omega
  · omega
theorem cvr_le {A : AM} (hw : WF A) {a b : Nat} (ha : a < 5) (hb : b < 5) : cvr A a b ≤ 999 := by
  have h1 := blZ_le hw ha
  have h2 := blZ_le hw hb
  unfold cvr
  omega
/-- the class's other cells are as they were, but for the balance -/
def CW (A : AM) (σ τ : St) : Prop := (∀ i, ¬ (15 ≤ i ∧ i ≤ 17) → i ≠ 91 → τ.1 i = σ.1 i) ∧ τ.2 = σ.2 ∧ AL A τ
theorem CW.rc {A : AM} {σ τ : St} (h : CW A σ τ) (hC : RC A σ) : RC A τ := RC_eq hC (fun i _ _ h2 h3 => h.1 i (by omega) h3)
theorem CW.sm {A : AM} {σ τ : St} (h : CW A σ τ) : SM σ τ := SM_of (fun i hi => h.1 i (by omega) (by omega)) h.2.1
section Match
variable {A : AM} {σ : St} {Q : Int32 → St → Prop}
theorem we6 {P : St → Prop} (hC : RC A σ) (hw : WF A) : ∀ (d k : Nat) (τ : St), k + d = A 94 0 → CW A σ τ → (∀ j, j < k → (τ.1 91 j).toInt = blZ A j) → (∀ ρ, CW A σ ρ → (∀ j, j < A 94 0 → (ρ.1 91 j).toInt = blZ A j) → P ρ) → Lp (lX6_weighFreeFarmers_2 P) (d + 1) (nI k, τ)
  | 0, k, τ, e, h, hb, K => by
      have w1 := hw.1
      show bX6_weighFreeFarmers_2 _ (nI k) τ P
      unfold bX6_weighFreeFarmers_2
      rw [(h.rc hC).1.1]
      exact iT (nI_le (by omega) (by omega)) (K τ h (fun j hj => hb j (by omega)))
  | d + 1, k, τ, e, h, hb, K => by
      have w1 := hw.1
      have wq := (WSn_of hw).2.2.2.2.2 (1 + k) (by omega)
      have hCt := h.rc hC
      -- the store
      have b61 : ∀ (ρ : St) (z : Int32), CW A σ ρ → (∀ j, j < k → (ρ.1 91 j).toInt = blZ A j) → z.toInt = blZ A k → bX6_weighFreeFarmers_61 (Lp (lX6_weighFreeFarmers_2 P) (d + 1)) (nI k) z (nI k) ρ P := by
        intro ρ z g gb hz
        refine ⟨vin (by omega) (by omega), ?_⟩
        rw [nIc (by omega)]
        rintro σ2 rfl x3 rfl
        rw [nI_1]
        refine we6 hC hw d (k + 1) _ (by omega) ⟨fun i h1 h2 => by rw [up_ne h2]; exact g.1 i h1 h2, g.2.1, AL_eq g.2.2 (fun i _ _ => up_ne (by omega))⟩ (fun j hj => ?_) K
        rw [upg]
        by_cases ej : j = k
        · rw [if_pos ⟨rfl, ej⟩, ej]; exact hz
        · rw [if_neg (by omega)]; exact gb j (by omega)
      have b34 : ∀ (ρ : St) (z : Int32), CW A σ ρ → (∀ j, j < k → (ρ.1 91 j).toInt = blZ A j) → (z = -9 ∧ blZ A k = 0) ∨ (∃ n, z = nI n ∧ n ≤ 441 ∧ blZ A k = (A 100 (1 + k) : Int) - n) → bX6_weighFreeFarmers_34 (Lp (lX6_weighFreeFarmers_2 P) (d + 1)) (nI k) z ρ P := by
        intro ρ z g gb hz
        unfold bX6_weighFreeFarmers_34
        rcases hz with ⟨rfl, hz⟩ | ⟨n, rfl, hn, hz⟩
        · exact iT rfl (b61 ρ 0 g gb (by rw [hz]; decide))
        · refine iF (fun d => nI_pos (n := n) (by omega) (by rw [d]; decide)) ⟨vin (by omega) (by omega), ?_⟩
          rw [nIc (by omega), (show ρ.1 19 k = nI (A 100 (1 + k)) from ((g.rc hC).2.1.2.2.2.1 k (by omega)).1)]
          refine b61 ρ _ g gb ?_
          rw [Int32.toInt_sub, nI_toInt (by omega), nI_toInt (by omega), Int.bmod_eq_of_le (by omega) (by omega), hz]
      show bX6_weighFreeFarmers_2 (Lp (lX6_weighFreeFarmers_2 P) (d + 1)) (nI k) τ P
      unfold bX6_weighFreeFarmers_2
      rw [hCt.1.1]
      refine iF (nI_ge (by omega) (by omega)) (fr5 hCt hw (by omega) (fun b1 d1 => iF (by decide) ?_) (fun hn => iT rfl (b34 τ (-9) h hb (Or.inl ⟨rfl, ?_⟩))))
      · refine n6 hCt hw (by omega) (CK_rf h.2.2) (fun ρ g => ?_)
        refine b34 ρ _ ⟨fun i h1 h2 => (g.1 i h1).trans (h.1 i h1 h2), g.2.1.trans h.2.1, g.2.2⟩ (fun j hj => by rw [g.1 91 (by omega)]; exact hb j hj) ?_
        have hz : blZ A k = (match ndA A k with | none => 0 | some n => (A 100 (1 + k) : Int) - n) := by unfold blZ; rw [if_pos ⟨b1, d1⟩]
        cases hn : ndA A k with
        | none => rw [hn] at hz; exact Or.inl ⟨rfl, hz⟩
        | some n => rw [hn] at hz; exact Or.inr ⟨n, rfl, ndA_le hw hn, hz⟩
      · unfold blZ; rw [if_neg (fun c => hn ⟨c.1, c.2⟩)]
theorem nI_of_toInt {x : Int32} {n : Nat} (hn : n < 2 ^ 31) (h : x.toInt = n) : x = nI n := Int32.toInt_inj.mp (by rw [nI_toInt hn]; exact h)
theorem cv6 {x y : Int32} {a b : Nat} (hw : WF A) (ha : a < 5) (hb : b < 5) (hx : x.toInt = blZ A a) (hy : y.toInt = blZ A b) {mst : Nat} (hm : mst ≤ 999) : ((if y < -x then y else -x) ≤ nI mst ↔ cvr A a b ≤ mst) ∧ (mst < cvr A a b → (if y < -x then y else -x) = nI (cvr A a b)) := by
  have h1 := blZ_le hw ha
  have h2 := blZ_le hw hb
  have hneg : (-x).toInt = -blZ A a := by
    rw [Int32.toInt_neg, hx, Int.bmod_eq_of_le (by omega) (by omega)]
  have hv : (if y < -x then y else -x).toInt = min (-blZ A a) (blZ A b) := by
    by_cases c : y < -x
    · rw [if_pos c]
      rw [Int32.lt_iff_toInt_lt, hy, hneg] at c
      rw [hy]; omega
    · rw [if_neg c]
      rw [Int32.lt_iff_toInt_lt, hy, hneg] at c
      rw [hneg]; omega
  generalize (if y < -x then y else -x) = z at hv
  unfold cvr
  refine ⟨?_, fun h => ?_⟩
  · rw [Int32.le_iff_toInt_le, hv, nI_toInt (by omega)]; omega
  · exact nI_of_toInt (by omega) (by rw [hv]; omega)
theorem in6 (hC : RC A σ) (hw : WF A) (h91 : ∀ j, j < A 94 0 → (σ.1 91 j).toInt = blZ A j) {w : Int32} {a : Nat} (ha : a < A 94 0) {R : Int32 × Int32 × Int32 × Int32 × St → Prop} : ∀ (d b : Nat) (p : Int32 × Nat), b + d = A 94 0 → p.2 ≤ 999 → ((mIn A a d b p).2 ≤ 999 → R (w, (mIn A a d b p).1, nI (mIn A a d b p).2, nI (a + 1), σ)) → ∃ n, Lp (lX6_match_38 R Q) n (w, p.1, nI p.2, nI a, nI b, σ)
  | 0, b, p, e, hp, K => ⟨1, by
      have w1 := hw.1
      show bX6_match_38 R _ w p.1 (nI p.2) (nI a) (nI b) σ Q
      unfold bX6_match_38
      rw [hC.1.1]
      refine iT (nI_le (by omega) (by omega)) ?_
      rintro x2 rfl
      rw [nI_1]; exact K hp⟩
  | d + 1, b, p, e, hp, K => by
      have w1 := hw.1
      have hc9 := cvr_le hw (a := a) (b := b) (by omega) (by omega)
      have c6 := cv6 hw (a := a) (b := b) (by omega) (by omega) (h91 a ha) (h91 b (by omega)) hp
      unfold mIn at K
      by_cases c : p.2 < cvr A a b
      · rw [if_pos c] at K
        obtain ⟨n, hn⟩ := in6 hC hw h91 ha d (b + 1) (10 * nI a + nI b, cvr A a b) (by omega) hc9 K
        refine ⟨n + 1, ?_⟩
        show bX6_match_38 R _ w p.1 (nI p.2) (nI a) (nI b) σ Q
        unfold bX6_match_38
        rw [hC.1.1, nIc (by omega), nIc (by omega)]
        refine iF (nI_ge (by omega) (by omega)) ⟨vin (by omega) (by omega), vin (by omega) (by omega), ?_⟩
        rintro x5 rfl
        refine iF (fun e => by have := c6.1.mp e; omega) ?_
        rw [c6.2 c]
        rintro x7 rfl x1 rfl
        rw [nI_1]; exact hn
      · rw [if_neg c] at K
        obtain ⟨n, hn⟩ := in6 hC hw h91 ha d (b + 1) p (by omega) hp K
        refine ⟨n + 1, ?_⟩
        show bX6_match_38 R _ w p.1 (nI p.2) (nI a) (nI b) σ Q
        unfold bX6_match_38
        rw [hC.1.1, nIc (by omega), nIc (by omega)]
        refine iF (nI_ge (by omega) (by omega)) ⟨vin (by omega) (by omega), vin (by omega) (by omega), ?_⟩
        rintro x5 rfl
        refine iT (c6.1.mpr (by omega)) ?_
        rintro x1 rfl
        rw [nI_1]; exact hn
/-- what is answered at the end -/
def mE (w : Int32) (p : Int32 × Nat) (P : Int32 → Prop) : Prop := ((w = 0 → P p.1) ∧ (¬ w = 0 → ((p.1 = (-9) → P p.1) ∧ (¬ p.1 = (-9) → P (nI p.2)))))
theorem out6 (hC : RC A σ) (hw : WF A) (h91 : ∀ j, j < A 94 0 → (σ.1 91 j).toInt = blZ A j) {w : Int32} : ∀ (d a : Nat) (p : Int32 × Nat), a + d = A 94 0 → p.2 ≤ 999 → mE w (mOut A d a p) (fun r => Q r σ) → Lp (lX6_match_23 Q) (d + 1) (w, p.1, nI p.2, nI a, σ)
  | 0, a, p, e, hp, K => by
      have w1 := hw.1
      show bX6_match_23 _ w p.1 (nI p.2) (nI a) σ Q
      unfold bX6_match_23
      rw [hC.1.1]
      exact iT (nI_le (by omega) (by omega)) K
  | d + 1, a, p, e, hp, K => by
      have w1 := hw.1
      show bX6_match_23 (Lp (lX6_match_23 Q) (d + 1)) w p.1 (nI p.2) (nI a) σ Q
      unfold bX6_match_23
      rw [hC.1.1]
      refine iF (nI_ge (by omega) (by omega)) (in6 hC hw h91 (by omega) (A 94 0) 0 p (by omega) hp (fun h9 => ?_))
      exact out6 hC hw h91 d (a + 1) (mIn A a (A 94 0) 0 p) (by omega) h9 K
/-! the model -/
theorem min_of {a b : Nat} : (min ((a : Int)) ((b : Int))).toNat = min a b := by omega
theorem in7 (hM : RM A σ) (hw : WF A) {w : Int32} {a : Nat} (ha : a < A 94 0) {R : Int32 × Int32 × Int32 × Int32 × St → Prop} : ∀ (d b : Nat) (p : Int32 × Nat) (τ : St), b + d = A 94 0 → p.2 ≤ 999 → MK σ τ → (∀ ρ, MK σ ρ → (mIn A a d b p).2 ≤ 999 → R (w, (mIn A a d b p).1, nI (mIn A a d b p).2, nI (a + 1), ρ)) → Lp (lX7_match_38 R Q) (d + 1) (w, p.1, nI p.2, nI a, nI b, τ)
  | 0, b, p, τ, e, hp, h, K => by
      have w1 := hw.1
      show bX7_match_38 R _ w p.1 (nI p.2) (nI a) (nI b) τ Q
      unfold bX7_match_38
      rw [(h.rm hM) 94 0 (by unfold rl; omega)]
      refine iT (nI_le (by omega) (by omega)) ?_
      rintro x2 rfl
      rw [nI_1]; exact K τ h hp
  | d + 1, b, p, τ, e, hp, h, K => by
      have w1 := hw.1
      have wl := wf_live hw
      have hMt := h.rm hM
      have wqb := (WSn_of hw).2.2.2.2.2 (1 + b) (by omega)
      have wqa := (WSn_of hw).2.2.2.2.2 (1 + a) (by omega)
      have wma := (WSn_of hw).2.2.2.2.2 (21 + a) (by omega)
      have wmb := (WSn_of hw).2.2.2.2.2 (21 + b) (by omega)
      have hc9 := cvr_le hw (a := a) (b := b) (by omega) (by omega)
      unfold mIn at K
      have skip : ∀ ρ, MK σ ρ → ¬ p.2 < cvr A a b → bX7_match_183 R (Lp (lX7_match_38 R Q) (d + 1)) w p.1 (nI p.2) (nI a) (nI b) ρ Q := by
        intro ρ g hc
        rw [if_neg hc] at K
        rintro x1 rfl
        rw [nI_1]
        exact in7 hM hw ha d (b + 1) p ρ (by omega) hp g K
      have take : ∀ ρ, MK σ ρ → p.2 < cvr A a b → bX7_match_183 R (Lp (lX7_match_38 R Q) (d + 1)) w (10 * nI a + nI b) (nI (cvr A a b)) (nI a) (nI b) ρ Q := by
        intro ρ g hc
        rw [if_pos hc] at K
        rintro x1 rfl
        rw [nI_1]
        exact in7 hM hw ha d (b + 1) (10 * nI a + nI b, cvr A a b) ρ (by omega) hc9 g K
      have b105 : ∀ (z : Int32), (z = 1 ∧ a ≠ b ∧ fre A a ∧ fre A b) ∨ (z = 0 ∧ cvr A a b = 0) → bX7_match_105 R (Lp (lX7_match_38 R Q) (d + 1)) w p.1 (nI p.2) (nI a) (nI b) z τ Q := by
        intro z hz
        refine l7 hM hw ha h (fun ρ g => ?_)
        rw [a1, nIc (by omega), (g.rm hM) 100 (1 + b) (by unfold rl; omega)]
        refine ⟨vin (by omega) (by omega), n7 hM hw (by omega) g (fun ρ2 g2 => ?_)⟩
        rintro x6 rfl
        -- by the flag
        have b158 : ∀ y : Int32, (z = 1 → (y ≤ nI p.2 ↔ cvr A a b ≤ p.2) ∧ (p.2 < cvr A a b → y = nI (cvr A a b))) → bX7_match_158 R (Lp (lX7_match_38 R Q) (d + 1)) w p.1 (nI p.2) (nI a) (nI b) z y ρ2 Q := by
          intro y hy
          rcases hz with ⟨rfl, -⟩ | ⟨rfl, h0⟩
          · have hy := hy rfl
            refine iF (by decide) ?_
            by_cases c : p.2 < cvr A a b
            · refine iF (fun e => by have := hy.1.mp e; omega) ?_
              rw [hy.2 c]
              rintro x3 rfl
              exact take ρ2 g2 c
            · exact iT (hy.1.mpr (by omega)) (skip ρ2 g2 c)
          · exact iT rfl (skip ρ2 g2 (by omega))
        have bza : z = 1 → blZ A a = (match ndA A a with | none => 0 | some n => (A 100 (1 + a) : Int) - n) := by
          intro h1
          rcases hz with ⟨-, -, f1, f2⟩ | ⟨h0, -⟩
          · unfold blZ; rw [if_pos f1]
          · rw [h0] at h1; exact absurd h1 (by decide)
        have bzb : z = 1 → blZ A b = (match ndA A b with | none => 0 | some n => (A 100 (1 + b) : Int) - n) := by
          intro h1
          rcases hz with ⟨-, -, f1, f2⟩ | ⟨h0, -⟩
          · unfold blZ; rw [if_pos f2]
          · rw [h0] at h1; exact absurd h1 (by decide)
        have z0 : (0 : Int32).toInt = 0 := by decide
        unfold lkA
        cases hna : ndA A a with
        | none =>
          rw [hna] at bza
          refine iT rfl (b158 0 (fun h1 => ?_))
          have q := bza h1
          have : cvr A a b = 0 := by unfold cvr; rw [q]; simp only; omega
          rw [this]
          exact ⟨⟨fun _ => by omega, fun _ => nI_pos' (by omega)⟩, fun c => by omega⟩
        | some na =>
          rw [hna] at bza
          have na4 := ndA_le hw hna
          refine iF (fun d => by have := (nI_eq (b := 1000000) (by omega) (by omega)).mp (show nI (na - A 100 (1 + a)) = nI 1000000 from d); omega) ?_
          show (nI (na - A 100 (1 + a)) ≤ _ → bX7_match_158 R (Lp (lX7_match_38 R Q) (d + 1)) w p.1 (nI p.2) (nI a) (nI b) z (nI (na - A 100 (1 + a))) ρ2 Q) ∧ (¬ nI (na - A 100 (1 + a)) ≤ _ → _)
          cases hnb : ndA A b with
          | none =>
            rw [hnb] at bzb
            have hx : (nI (A 100 (1 + b)) - oI none 1000000).toInt = (A 100 (1 + b) : Int) - 1000000 := by
              rw [Int32.toInt_sub, nI_toInt (by omega), show (oI none 1000000).toInt = 1000000 from (by decide), Int.bmod_eq_of_le (by omega) (by omega)]
            generalize (nI (A 100 (1 + b)) - oI none 1000000) = y at hx
            refine iF (fun e => by rw [Int32.le_iff_toInt_le, hx, nI_toInt (by omega)] at e; omega) (b158 y (fun h1 => ?_))
            have q := bzb h1
            have : cvr A a b = 0 := by unfold cvr; rw [q]; simp only; omega
            rw [this, Int32.le_iff_toInt_le, hx, nI_toInt (by omega)]
            exact ⟨⟨fun _ => by omega, fun _ => by omega⟩, fun c => by omega⟩
          | some nb =>
            rw [hnb] at bzb
            have nb4 := ndA_le hw hnb
            have hx : (nI (A 100 (1 + b)) - oI (some nb) 1000000).toInt = (A 100 (1 + b) : Int) - nb := by
              rw [show oI (some nb) 1000000 = nI nb from rfl, Int32.toInt_sub, nI_toInt (by omega), nI_toInt (by omega), Int.bmod_eq_of_le (by omega) (by omega)]
            generalize (nI (A 100 (1 + b)) - oI (some nb) 1000000) = y at hx
            have le : nI (na - A 100 (1 + a)) ≤ y ↔ ((na - A 100 (1 + a) : Nat) : Int) ≤ (A 100 (1 + b) : Int) - nb := by rw [Int32.le_iff_toInt_le, hx, nI_toInt (by omega)]
            refine ⟨fun e => b158 _ (fun h1 => ?_), fun e => b158 y (fun h1 => ?_)⟩
            · have e := le.mp e
              have q1 := bza h1
              have q2 := bzb h1
              have : cvr A a b = na - A 100 (1 + a) := by unfold cvr; rw [q1, q2]; simp only; omega
              rw [this]
              exact ⟨nI_leI (by omega) (by omega), fun _ => rfl⟩
            · have e : ¬ ((na - A 100 (1 + a) : Nat) : Int) ≤ (A 100 (1 + b) : Int) - nb := fun q => e (le.mpr q)
              have q1 := bza h1
              have q2 := bzb h1
              have : (cvr A a b : Int) = max 0 ((A 100 (1 + b) : Int) - nb) := by unfold cvr; rw [q1, q2]; simp only; omega
              rw [Int32.le_iff_toInt_le, hx, nI_toInt (by omega)]
              exact ⟨by omega, fun c => nI_of_toInt (by omega) (by rw [hx]; omega)⟩
      have no : ¬ (a ≠ b ∧ fre A a ∧ fre A b) → cvr A a b = 0 := by
        intro hn
        unfold cvr
        by_cases e1 : a = b
        · subst e1; omega
        · by_cases e2 : fre A a
          · have e3 : ¬ fre A b := fun q => hn ⟨e1, e2, q⟩
            have : blZ A b = 0 := by unfold blZ; rw [if_neg e3]
            rw [this]; omega
          · have : blZ A a = 0 := by unfold blZ; rw [if_neg e2]
            rw [this]; omega
      have b104 : ¬ (a ≠ b ∧ fre A a ∧ fre A b) → bX7_match_104 R (Lp (lX7_match_38 R Q) (d + 1)) w p.1 (nI p.2) (nI a) (nI b) τ Q := fun hn => b105 0 (Or.inr ⟨rfl, no hn⟩)
      show bX7_match_38 R (Lp (lX7_match_38 R Q) (d + 1)) w p.1 (nI p.2) (nI a) (nI b) τ Q
      unfold bX7_match_38
      rw [hMt 94 0 (by unfold rl; omega)]
      refine iF (nI_ge (by omega) (by omega)) ?_
      by_cases e1 : a = b
      · exact iT (by rw [e1]) (b104 (fun c => c.1 e1))
      refine iF (fun g => e1 ((nI_eq (by omega) (by omega)).mp g)) ?_
      refine li7 hMt wl (by omega) (fun b1 => iF (by decide) ?_) (fun b1 => iT rfl (b104 (fun c => by have := c.2.1.1; omega)))
      refine li7 hMt wl (by omega) (fun b2 => iF (by decide) ?_) (fun b2 => iT rfl (b104 (fun c => by have := c.2.2.1; omega)))
      rw [a21, a21, nIc (by omega), nIc (by omega), hMt 100 (21 + a) (by unfold rl; omega), hMt 100 (21 + b) (by unfold rl; omega)]
      refine ⟨vin (by omega) (by omega), ?_⟩
      by_cases m1 : A 100 (21 + a) = 0
      · refine iT (by rw [m1]; rfl) ⟨vin (by omega) (by omega), ?_⟩
        by_cases m2 : A 100 (21 + b) = 0
        · exact iT (by rw [m2]; rfl) (b105 1 (Or.inl ⟨rfl, e1, ⟨b1, m1⟩, ⟨b2, m2⟩⟩))
        · exact iF (fun g => m2 ((nI_eq (b := 0) (by omega) (by omega)).mp g)) (b104 (fun c => m2 c.2.2.2))
      · exact iF (fun g => m1 ((nI_eq (b := 0) (by omega) (by omega)).mp g)) (b104 (fun c => m1 c.2.1.2))
theorem out7 (hM : RM A σ) (hw : WF A) {w : Int32} : ∀ (d a : Nat) (p : Int32 × Nat) (τ : St), a + d = A 94 0 → p.2 ≤ 999 → MK σ τ → (∀ ρ, MK σ ρ → mE w (mOut A d a p) (fun r => Q r ρ)) → Lp (lX7_match_24 Q) (d + 1) (w, p.1, nI p.2, nI a, τ)
  | 0, a, p, τ, e, hp, h, K => by
      have w1 := hw.1
      show bX7_match_24 _ w p.1 (nI p.2) (nI a) τ Q
      unfold bX7_match_24
      rw [(h.rm hM) 94 0 (by unfold rl; omega)]
      exact iT (nI_le (by omega) (by omega)) (K τ h)
  | d + 1, a, p, τ, e, hp, h, K => by
      have w1 := hw.1
      show bX7_match_24 (Lp (lX7_match_24 Q) (d + 1)) w p.1 (nI p.2) (nI a) τ Q
      unfold bX7_match_24
      rw [(h.rm hM) 94 0 (by unfold rl; omega)]
      refine iF (nI_ge (by omega) (by omega)) ⟨_, in7 hM hw (by omega) (A 94 0) 0 p τ (by omega) hp h (fun ρ g h9 => ?_)⟩
      exact out7 hM hw d (a + 1) (mIn A a (A 94 0) 0 p) ρ (by omega) h9 g K
end Match
theorem t_match {σ : St} (h : INV σ) (a : Int32) : wX6_match a σ (fun r σ1 => wX7_match a σ1 (fun r' σ2 => r = r' ∧ INV σ2)) := by
  obtain ⟨A, hw, hM, hC, hL, hT⟩ := h
  have hI := inv92 hw hM hC hL hT
  have hM1 := rm92 hM
  have go : isX a 2 → bX6_match_11 a σ (fun r σ1 => wX7_match a σ1 (fun r' σ2 => r = r' ∧ INV σ2)) := by
    intro hx
    refine ⟨_, we6 hC hw (A 94 0) 0 σ (by omega) ⟨fun _ _ _ => rfl, rfl, hL⟩ (fun j hj => absurd hj (by omega)) (fun τ cw h91 => ?_)⟩
    have hCt := cw.rc hC
    have hMt := RM_SM hM cw.sm
    have hTt : τ.2.1 = τ.2.2 := by rw [cw.2.1]; exact hT
    have hMu := rm92 hMt
    have mod : ∀ r : Int32, mE a (mOut A (A 94 0) 0 (-9, 0)) (fun r' => r = r') → wX7_match a τ (fun r' σ2 => r = r' ∧ INV σ2) := by
      intro r hr
      obtain ⟨j, hj, rfl⟩ := hx
      rintro σ1 rfl
      refine in_X (n := 2) (by omega) rfl hj (iF (by decide) ⟨_, out7 hMu hw (A 94 0) 0 (-9, 0) _ (by omega) (by decide) ⟨fun _ _ => rfl, rfl⟩ (fun ρ mk => ?_)⟩)
      have inv := MK_inv hw hMt hCt cw.2.2 hTt mk
      exact ⟨fun c => ⟨hr.1 c, inv⟩, fun c => ⟨fun d => ⟨(hr.2 c).1 d, inv⟩, fun d => ⟨(hr.2 c).2 d, inv⟩⟩⟩
    refine ⟨_, out6 hCt hw h91 (A 94 0) 0 (-9, 0) (by omega) (by decide) ?_⟩
    refine ⟨fun c => mod _ ⟨fun _ => rfl, fun n => absurd c n⟩, fun c => ⟨fun d => mod _ ⟨fun n => absurd n c, fun _ => ⟨fun _ => rfl, fun n => absurd d n⟩⟩, fun d => mod _ ⟨fun n => absurd n c, fun _ => ⟨fun n => absurd n d, fun _ => rfl⟩⟩⟩⟩
  refine ⟨fun c => go ⟨0, by omega, c⟩, fun c0 => ⟨fun c => go ⟨1, by omega, c⟩, fun c1 => ?_⟩⟩
  rintro σ1 rfl
  refine in_N (n := 2) (by omega) (by omega) rfl ?_ (iT rfl ⟨rfl, hI⟩)
  rintro ⟨j, hj, rfl⟩
  rcases (by omega : j = 0 ∨ j = 1) with rfl | rfl
  · exact c0 rfl
  · exact c1 rfl
