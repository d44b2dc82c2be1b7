/-! least -/
/-- the night that is the k-th of those taken -/
def nAt (ea : Nat) (m : Nat → Nat) (k : Int32) : Nat → Nat → Int32 → Int32
  | 0, _, _ => -5
  | d + 1, sum, t => if m (ea - (d + 1)) ≠ 0 ∧ m (ea - (d + 1)) ≤ sum ∧ FW ea m d (sum - m (ea - (d + 1))) + 1 = FW ea m (d + 1) sum then (if t = k then nI (ea - (d + 1)) else nAt ea m k d (sum - m (ea - (d + 1))) (t + 1)) else nAt ea m k d sum t
theorem nAt_0 {ea : Nat} {m : Nat → Nat} {k : Int32} : ∀ (d : Nat) (t : Int32), nAt ea m k d 0 t = -5
  | 0, _ => rfl
  | d + 1, t => by
    unfold nAt
    rw [if_neg (by omega)]
    exact nAt_0 d t
/-- not taken: the fewest stay -/
theorem FW_n {ea : Nat} {m : Nat → Nat} {d sum : Nat} (hd : d + 1 ≤ ea) (hr : FW ea m (d + 1) sum < 1000) (h : ¬ (m (ea - (d + 1)) ≠ 0 ∧ m (ea - (d + 1)) ≤ sum ∧ FW ea m d (sum - m (ea - (d + 1))) + 1 = FW ea m (d + 1) sum)) : FW ea m d sum = FW ea m (d + 1) sum := by
  have hs := FW_s (ea := ea) (m := m) (d := d) (n := ea - (d + 1)) (q := sum) (by omega)
  have hl := FW_le (ea := ea) (m := m) d sum
  unfold wF at hs
  by_cases c : m (ea - (d + 1)) = 0 ∨ sum < m (ea - (d + 1))
  · rw [if_pos c, if_neg (by omega)] at hs; exact hs.symm
  · rw [if_neg c] at hs
    by_cases e : FW ea m d (sum - m (ea - (d + 1))) + 1 < FW ea m d sum
    · rw [if_pos e] at hs
      exact absurd ⟨by omega, by omega, hs.symm⟩ h
    · rw [if_neg e] at hs; exact hs.symm
section Least
variable {A : AM} {σ : St} {Q : Int32 → St → Prop}
theorem at6 (hw : WF A) (h15 : σ.1 15 2 = nI (A 94 3)) (hT : TAB (A 94 3) (mo (A 94 2) (A 99)) σ) {k : Int32} : ∀ (d n sum : Nat) (t : Int32), n ≤ 99 → A 94 3 - n = d → sum < 64 → FW (A 94 3) (mo (A 94 2) (A 99)) d sum < 1000 → Q (nAt (A 94 3) (mo (A 94 2) (A 99)) k d sum t) σ → ∃ x, Lp (lX0_nightAt_9 Q) x (k, nI sum, t, nI n, σ)
  | 0, n, sum, t, h0, h, hs, hr, K => ⟨1, by
      have w5 := hw.2.2.2.2.1
      show bX0_nightAt_9 _ k (nI sum) t (nI n) σ Q
      unfold bX0_nightAt_9
      rw [h15]
      exact iT (nI_le (by omega) (by omega)) K⟩
  | d + 1, n, sum, t, h0, h, hs, hr, K => by
      have w5 := hw.2.2.2.2.1
      have hmo := mo_le (A 94 2) (A 99) n
      have en : A 94 3 - (d + 1) = n := by omega
      have e16 : σ.1 16 (64 * n + sum) = nI (FW (A 94 3) (mo (A 94 2) (A 99)) (d + 1) sum) := by
        have := hT.2 n (by omega) sum hs
        rw [h] at this; exact this
      have h16 : ∀ q, q < 64 → σ.1 16 (64 * (n + 1) + q) = nI (FW (A 94 3) (mo (A 94 2) (A 99)) d q) := fun q hq => by
        have := hT.2 (n + 1) (by omega) q hq
        rw [show A 94 3 - (n + 1) = d by omega] at this; exact this
      have fn := FW_n (ea := A 94 3) (m := mo (A 94 2) (A 99)) (d := d) (sum := sum) (by omega) hr
      unfold nAt at K
      rw [en] at K fn
      have hwl : wF (A 94 3) (mo (A 94 2) (A 99)) d n sum ≤ 1001 := by
        unfold wF
        have := FW_le (ea := A 94 3) (m := mo (A 94 2) (A 99)) d (sum - mo (A 94 2) (A 99) n)
        split <;> omega
      by_cases c : mo (A 94 2) (A 99) n ≠ 0 ∧ mo (A 94 2) (A 99) n ≤ sum ∧ FW (A 94 3) (mo (A 94 2) (A 99)) d (sum - mo (A 94 2) (A 99) n) + 1 = FW (A 94 3) (mo (A 94 2) (A 99)) (d + 1) sum
      · rw [if_pos c] at K
        have hwe : wF (A 94 3) (mo (A 94 2) (A 99)) d n sum = FW (A 94 3) (mo (A 94 2) (A 99)) (d + 1) sum := by
          unfold wF; rw [if_neg (by omega)]; exact c.2.2
        have pre : ∀ x, ((t = k → Q (nI n) σ) ∧ (¬ t = k → bX0_nightAt_66 (Lp (lX0_nightAt_9 Q) x) k (nI (sum - mo (A 94 2) (A 99) n)) (t + 1) (nI n) σ Q)) → Lp (lX0_nightAt_9 Q) (x + 1) (k, nI sum, t, nI n, σ) := by
          intro x hx
          show bX0_nightAt_9 _ k (nI sum) t (nI n) σ Q
          unfold bX0_nightAt_9
          rw [h15]
          refine iF (nI_ge (by omega) (by omega)) (nW6 (by omega) hs hmo (hT.1 n (by omega)) h16 ?_)
          rw [show (64 : Int32) = nI 64 from rfl, nI_mul, nI_add]
          refine ⟨vin (by omega) (by omega), ?_⟩
          rw [nIc (by omega), show n * 64 + sum = 64 * n + sum by omega, e16, hwe]
          refine iT rfl ⟨hx.1, fun e => ?_⟩
          rintro x7 rfl
          refine ⟨vin (by omega) (by omega), ?_⟩
          rw [nIc (by omega), hT.1 n (by omega), nI_sub c.2.1]
          rintro x9 rfl
          exact hx.2 e
        by_cases ct : t = k
        · rw [if_pos ct] at K
          exact ⟨1, pre 0 (iT ct K)⟩
        · rw [if_neg ct] at K
          obtain ⟨x, hx⟩ := at6 hw h15 hT d (n + 1) (sum - mo (A 94 2) (A 99) n) (t + 1) (by omega) (by omega) (by omega) (by omega) K
          refine ⟨x + 1, pre x (iF ct ?_)⟩
          rintro x1 rfl
          rw [nI_1]; exact hx
      · rw [if_neg c] at K
        obtain ⟨x, hx⟩ := at6 hw h15 hT d (n + 1) sum t (by omega) (by omega) hs (by rw [fn c]; exact hr) K
        refine ⟨x + 1, ?_⟩
        show bX0_nightAt_9 _ k (nI sum) t (nI n) σ Q
        unfold bX0_nightAt_9
        rw [h15]
        refine iF (nI_ge (by omega) (by omega)) (nW6 (by omega) hs hmo (hT.1 n (by omega)) h16 ?_)
        rw [show (64 : Int32) = nI 64 from rfl, nI_mul, nI_add]
        refine ⟨vin (by omega) (by omega), ?_⟩
        rw [nIc (by omega), show n * 64 + sum = 64 * n + sum by omega, e16]
        refine iF (fun e => c ?_) ?_
        · have e := (nI_eq (by omega) (by omega)).mp e
          unfold wF at e
          by_cases c2 : mo (A 94 2) (A 99) n = 0 ∨ sum < mo (A 94 2) (A 99) n
          · rw [if_pos c2] at e; omega
          · rw [if_neg c2] at e; exact ⟨by omega, by omega, e⟩
        · rintro x1 rfl
          rw [nI_1]; exact hx
theorem at7 (hM : RM A σ) (hw : WF A) {k : Int32} (hT : ∀ n, A 100 0 ≤ n → n ≤ A 94 3 → ∀ q, q < 64 → σ.1 107 (64 * n + q) = nI (cv (FW (A 94 3) (mo (A 94 2) (A 99)) (A 94 3 - n) q))) : ∀ (d n sum : Nat) (t : Int32), A 100 0 ≤ n → n ≤ A 94 3 → A 94 3 - n = d → sum < 64 → FW (A 94 3) (mo (A 94 2) (A 99)) d sum < 1000 → Q (nAt (A 94 3) (mo (A 94 2) (A 99)) k d sum t) σ → ∃ x, Lp (lX7_least_112 Q) x (k, nI sum, t, nI n, σ)
  | 0, n, sum, t, hn0, h0, h, hs, hr, K => ⟨1, by
      show bX7_least_112 _ k (nI sum) t (nI n) σ Q
      have : sum = 0 := by
        unfold FW at hr
        by_cases c : sum = 0
        · exact c
        · rw [if_neg c] at hr; omega
      subst this
      exact iT (by decide) K⟩
  | d + 1, n, sum, t, hn0, h0, h, hs, hr, K => by
      have w5 := hw.2.2.2.2.1
      rcases Nat.eq_zero_or_pos sum with s0 | s0
      · subst s0
        rw [nAt_0] at K
        exact ⟨1, (show bX7_least_112 _ k (nI 0) t (nI n) σ Q from iT (by decide) K)⟩
      have hmo := mo_le (A 94 2) (A 99) n
      have en : A 94 3 - (d + 1) = n := by omega
      have cr := cv_le (ea := A 94 3) (m := mo (A 94 2) (A 99)) (d := d + 1) (q := sum) (by omega) w5
      have e16 : σ.1 107 (64 * n + sum) = nI (FW (A 94 3) (mo (A 94 2) (A 99)) (d + 1) sum) := by
        have := hT n hn0 (by omega) sum hs
        rw [h] at this; rw [this]
        congr 1; omega
      have h16 : ∀ q, q < 64 → σ.1 107 (64 * (n + 1) + q) = nI (cv (FW (A 94 3) (mo (A 94 2) (A 99)) d q)) := fun q hq => by
        have := hT (n + 1) (by omega) (by omega) q hq
        rw [show A 94 3 - (n + 1) = d by omega] at this; exact this
      have fn := FW_n (ea := A 94 3) (m := mo (A 94 2) (A 99)) (d := d) (sum := sum) (by omega) hr
      unfold nAt at K
      rw [en] at K fn
      by_cases c : mo (A 94 2) (A 99) n ≠ 0 ∧ mo (A 94 2) (A 99) n ≤ sum ∧ FW (A 94 3) (mo (A 94 2) (A 99)) d (sum - mo (A 94 2) (A 99) n) + 1 = FW (A 94 3) (mo (A 94 2) (A 99)) (d + 1) sum
      · rw [if_pos c] at K
        have cm := cv_le (ea := A 94 3) (m := mo (A 94 2) (A 99)) (d := d) (q := sum - mo (A 94 2) (A 99) n) (by omega) w5
        have pre : ∀ x, bX7_least_161 (Lp (lX7_least_112 Q) x) k (nI sum) t (nI n) 1 σ Q → Lp (lX7_least_112 Q) (x + 1) (k, nI sum, t, nI n, σ) := by
          intro x hx
          show bX7_least_112 _ k (nI sum) t (nI n) σ Q
          refine iF (nI_nle s0 (by omega)) (mo7 hM hw (by omega) (iF (nI_nle (by omega) (by omega)) (mo7 hM hw (by omega) ?_)))
          rw [nI_1, nI_sub c.2.1]
          refine fr7 (by omega) (by omega) (fr7 (by omega) (by omega) ?_)
          rw [e16, h16 _ (by omega), a1]
          exact iT (by congr 1; omega) hx
        by_cases ct : t = k
        · rw [if_pos ct] at K
          exact ⟨1, pre 0 (iF (by decide) (iT ct K))⟩
        · rw [if_neg ct] at K
          obtain ⟨x, hx⟩ := at7 hM hw hT d (n + 1) (sum - mo (A 94 2) (A 99) n) (t + 1) (by omega) (by omega) (by omega) (by omega) (by omega) K
          refine ⟨x + 1, pre x (iF (by decide) (iF ct (iF (by decide) ?_)))⟩
          rintro x1 rfl
          refine iF (by decide) (mo7 hM hw (by omega) ?_)
          rintro x1 rfl x2 rfl
          rw [nI_sub c.2.1, nI_1]; exact hx
      · rw [if_neg c] at K
        obtain ⟨x, hx⟩ := at7 hM hw hT d (n + 1) sum t (by omega) (by omega) (by omega) hs (by rw [fn c]; exact hr) K
        have b160 : bX7_least_160 (Lp (lX7_least_112 Q) x) k (nI sum) t (nI n) σ Q := by
          refine iT rfl (iT rfl ?_)
          rintro x1 rfl
          refine iT rfl ?_
          rintro x1 rfl x2 rfl
          rw [Int32.add_zero, Int32.sub_zero, nI_1]; exact hx
        refine ⟨x + 1, ?_⟩
        show bX7_least_112 _ k (nI sum) t (nI n) σ Q
        refine iF (nI_nle s0 (by omega)) (mo7 hM hw (by omega) ?_)
        by_cases c0 : mo (A 94 2) (A 99) n = 0
        · exact iT (by rw [c0]; decide) b160
        · refine iF (nI_nle (by omega) (by omega)) (mo7 hM hw (by omega) ?_)
          rw [nI_1]
          by_cases c1 : mo (A 94 2) (A 99) n ≤ sum
          · have cm := cv_le (ea := A 94 3) (m := mo (A 94 2) (A 99)) (d := d) (q := sum - mo (A 94 2) (A 99) n) (by omega) w5
            rw [nI_sub c1]
            refine fr7 (by omega) (by omega) (fr7 (by omega) (by omega) ?_)
            rw [e16, h16 _ (by omega), a1]
            refine iF (fun e => c ⟨c0, c1, ?_⟩) b160
            have e := (nI_eq (by omega) (by omega)).mp e
            omega
          · refine fr7n (sub_neg (by omega) (by omega)) (fr7 (by omega) (by omega) ?_)
            rw [e16]
            refine iF (fun e => ?_) b160
            have e := (nI_eq (a := 1000001) (by omega) (by omega)).mp e
            omega
end Least
theorem least_ok {A : AM} (hw : WF A) {k s l : Nat} (h : lqA A k s = some l) : l < 64 ∧ RT0 A l < 1000 := by
  have := lqF_some h
  exact ⟨by omega, this.2.2.2⟩
theorem MR_inv {A : AM} {σ τ ρ : St} {j : Nat} (hw : WF A) (hM : RM A τ) (hC : RC A τ) (hL : AL A τ) (hT : τ.2.1 = τ.2.2) (h : MR A (up τ 92 0 0) ρ j) : INV ρ := by
  have sc : SC τ ρ := SC_of (fun i hi => by rw [h.1 i (by omega), up_ne (by omega)]) h.2.1
  refine ⟨A, hw, h.rm (rm92 hM), RC_SC hC sc, AL_SC hL sc, ?_⟩
  rw [h.2.1]; exact hT
theorem t_least {σ : St} (h : INV σ) (a b c : Int32) : wX6_least a b c σ (fun r σ1 => wX7_least a b c σ1 (fun r' σ2 => r = r' ∧ INV σ2)) := by
  obtain ⟨A, hw, hM, hC, hL, hT⟩ := h
  have hI := inv92 hw hM hC hL hT
  have hM1 := rm92 hM
  have w1 := hw.1
  have w5 := hw.2.2.2.2.1
  have wn := (WSn_of hw).1
  rcases (Classical.em (isX a (A 94 0))).symm with hx | ⟨k, hk, rfl⟩
  · refine f6_n hC hw hx (iT rfl ?_)
    rintro σ1 rfl
    exact f7_n hM1 hw hx (iT rfl ⟨rfl, hI⟩)
  refine f6_y hC hw hk (iF (by decide) ?_)
  rcases (Classical.em (isX b (A 94 1))).symm with hy | ⟨s, hs, rfl⟩
  · refine s6_n hC hw hy (iT rfl ?_)
    rintro σ1 rfl
    exact f7_y hM1 hw hk (iF (by decide) (s7_n hM1 hw hy (iT rfl ⟨rfl, hI⟩)))
  refine s6_y hC hw hs (iF (by decide) ?_)
  rcases (Classical.em (-2 ≤ c)).symm with hc | hc
  · refine iF hc ?_
    rintro σ1 rfl
    exact f7_y hM1 hw hk (iF (by decide) (s7_y hM1 hw hs (iF (by decide) (iF hc ⟨rfl, hI⟩))))
  refine iT hc (lq6 hC hw hL hk hs (fun τ ak => ?_))
  have hCt := ak.rc hC
  have hMt := RM_SM hM ak.sm
  have hLt := ak.al
  have hTt : τ.2.1 = τ.2.2 := by rw [ak.2.1]; exact hT
  -- the model, behind its tests
  have mod : ∀ {P : Int32 → St → Prop}, (∀ ρ, MR A (up τ 92 0 0) ρ (A 100 0) → ((oI (lqA A k s) 1000000 = 1000000 → bX7_least_49 (oI (lqA A k s) 1000000) ρ P) ∧ (¬ oI (lqA A k s) 1000000 = 1000000 → ((c = (-1) → bX7_least_49 (oI (lqA A k s) 1000000) ρ P) ∧ (¬ c = (-1) → ((oI (lqA A k s) 1000000 = 0 → ((c = (-2) → P 0 ρ) ∧ (¬ c = (-2) → P (-5) ρ))) ∧ (¬ oI (lqA A k s) 1000000 = 0 → ((c = (-2) → wX7_from (ρ.1 100 0) (oI (lqA A k s) 1000000) ρ (fun r17 σ16 => P r17 σ16)) ∧ (¬ c = (-2) → (∀ x15 : Int32, x15 = (ρ.1 100 0) → ∃ n : Nat, Lp (lX7_least_112 P) n (c, oI (lqA A k s) 1000000, 0, x15, ρ))))))))))) → wX7_least (nI k) (nI s) c τ P := by
    intro P hP
    rintro σ1 rfl
    have hMu := rm92 hMt
    exact f7_y hMu hw hk (iF (by decide) (s7_y hMu hw hs (iF (by decide) (iT hc (me7 hMu hw hk hs (fun ρ hρ => hP ρ hρ))))))
  have hr18 : τ.1 18 4 = nI (A 100 0) := hCt.2.1.1
  cases hl : lqA A k s with
  | none =>
    refine iT rfl (mod (fun ρ hρ => ?_))
    rw [hl]
    exact iT rfl (iT rfl ⟨rfl, MR_inv (σ := σ) hw hMt hCt hLt hTt hρ⟩)
  | some l =>
    obtain ⟨l1, l2⟩ := least_ok hw hl
    have ne9 : ¬ oI (some l) (-9) = -9 := fun d => nI_pos (n := l) (by omega) (by rw [show nI l = oI (some l) (-9) from rfl, d]; decide)
    have neF : ¬ nI l = 1000000 := fun d => by have := (nI_eq (b := 1000000) (by omega) (by omega)).mp d; omega
    have c60 : RT0 A l ≤ 60 := by
      rcases cv_le (ea := A 94 3) (m := mo (A 94 2) (A 99)) (d := A 94 3 - A 100 0) (q := l) (by omega) w5 with ⟨q, -⟩ | ⟨q, -⟩
      · exact q
      · have q : RT0 A l = 1000 := q
        omega
    refine iF ne9 ?_
    by_cases c1 : c = -1
    · refine iT c1 (mod (fun ρ hρ => ?_))
      rw [hl]
      exact iF neF (iT c1 (iF neF ⟨rfl, MR_inv (σ := σ) hw hMt hCt hLt hTt hρ⟩))
    refine iF c1 ?_
    rw [hr18]
    by_cases c2 : c = -2
    · refine iT c2 (nf6 hw ak.2.2.2.1 ak.2.2.2.2 l1 (mod (fun ρ hρ => ?_)))
      rw [hl]
      have inv := MR_inv (σ := σ) hw hMt hCt hLt hTt hρ
      refine iF neF (iF c1 ?_)
      by_cases l0 : l = 0
      · refine iT (by rw [l0]; rfl) (iT c2 ⟨?_, inv⟩)
        rw [l0]; unfold RT0; rw [FW_0 _ (by omega)]; rfl
      · refine iF (fun d => l0 ((nI_eq (b := 0) (by omega) (by omega)).mp d)) (iT c2 ?_)
        have hMr := hρ.rm (rm92 hMt)
        rw [hMr 100 0 (by unfold rl; omega)]
        have hne : A 100 0 ≤ A 94 3 := by
          rcases Nat.lt_or_ge (A 94 3) (A 100 0) with q | q
          · exfalso
            unfold RT0 at l2
            rw [show A 94 3 - A 100 0 = 0 by omega] at l2
            unfold FW at l2
            rw [if_neg l0] at l2; omega
          · exact q
        refine fr7 (by omega) l1 ⟨?_, inv⟩
        rw [hρ.2.2 (A 100 0) (Nat.le_refl _) hne l l1]
        show nI (RT0 A l) = nI (cv (RT0 A l))
        unfold cv; rw [if_neg (by omega)]
    · refine iF c2 (at6 hw ak.2.2.2.1 ak.2.2.2.2 _ (A 100 0) l 0 wn rfl l1 l2 (mod (fun ρ hρ => ?_)))
      rw [hl]
      have inv := MR_inv (σ := σ) hw hMt hCt hLt hTt hρ
      refine iF neF (iF c1 ?_)
      by_cases l0 : l = 0
      · refine iT (by rw [l0]; rfl) (iF c2 ⟨?_, inv⟩)
        rw [l0, nAt_0]
      · refine iF (fun d => l0 ((nI_eq (b := 0) (by omega) (by omega)).mp d)) (iF c2 ?_)
        have hMr := hρ.rm (rm92 hMt)
        rw [hMr 100 0 (by unfold rl; omega)]
        rintro x15 rfl
        have hne : A 100 0 ≤ A 94 3 := by
          rcases Nat.lt_or_ge (A 94 3) (A 100 0) with q | q
          · exfalso
            unfold RT0 at l2
            rw [show A 94 3 - A 100 0 = 0 by omega] at l2
            unfold FW at l2
            rw [if_neg l0] at l2; omega
          · exact q
        exact at7 hMr hw hρ.2.2 _ (A 100 0) l 0 (Nat.le_refl _) hne rfl l1 l2 ⟨rfl, inv⟩
