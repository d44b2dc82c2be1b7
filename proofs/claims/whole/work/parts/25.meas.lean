/-! the model's table -/
def cv (x : Nat) : Nat := if x = 1000 then 1000000 else x
section Meas
variable {A : AM} {σ : St}
theorem fr7 {τ : St} {P : Int32 → St → Prop} {n q : Nat} (hn : n ≤ 60) (hq : q < 64) (K : P (τ.1 107 (64 * n + q)) τ) : wX7_from (nI n) (nI q) τ P := by
  unfold wX7_from
  rw [show (64 : Int32) = nI 64 from rfl, nI_mul, nI_add]
  refine iT (nI_pos' (by omega)) ⟨vin (by omega) (by omega), ?_⟩
  rw [nIc (by omega)]
  exact K
theorem fr7n {τ : St} {P : Int32 → St → Prop} {x a : Int32} (hx : ¬ 0 ≤ x) (K : P 1000000 τ) : wX7_from a x τ P := iF hx K
theorem sub_neg {a b : Nat} (h : a < b) (hb : b < 2 ^ 30) : ¬ 0 ≤ nI a - nI b := by
  rw [Int32.le_iff_toInt_le, Int32.toInt_sub, nI_toInt (by omega), nI_toInt (by omega), Int.bmod_eq_of_le (by omega) (by omega)]
  have : (0 : Int32).toInt = 0 := by decide
  omega
/-- rows from j on -/
def MR (A : AM) (σ τ : St) (j : Nat) : Prop := (∀ i, i ≠ 107 → τ.1 i = σ.1 i) ∧ τ.2 = σ.2 ∧ ∀ n, j ≤ n → n ≤ A 94 3 → ∀ q, q < 64 → τ.1 107 (64 * n + q) = nI (cv (FW (A 94 3) (mo (A 94 2) (A 99)) (A 94 3 - n) q))
theorem MR.rm {τ : St} {j : Nat} (h : MR A σ τ j) (hM : RM A σ) : RM A τ := by
  intro a b hab
  rw [h.1 a (by unfold rl at hab; omega)]
  exact hM a b hab
theorem cv_le {ea : Nat} {m : Nat → Nat} {d q : Nat} (hd : d ≤ ea) (he : ea ≤ 60) : (FW ea m d q ≤ 60 ∧ cv (FW ea m d q) = FW ea m d q) ∨ (FW ea m d q = 1000 ∧ cv (FW ea m d q) = 1000000) := by
  rcases FW_c (ea := ea) (m := m) d q hd with h | h
  · left; refine ⟨by omega, ?_⟩; unfold cv; rw [if_neg (by omega)]
  · right; refine ⟨h, ?_⟩; unfold cv; rw [if_pos h]
theorem me65 (hM : RM A σ) (hw : WF A) {n : Nat} {y1 y2 y3 : Int32} {R : Int32 × Int32 × Int32 × Int32 × St → Prop} {P : Int32 → St → Prop} (hn : n < A 94 3) (K : ∀ τ, MR A σ τ n → R (y1, y2, y3, nI n - 1, τ)) : ∀ (d q : Nat) (τ : St), q + d = 64 → MR A σ τ (n + 1) → (∀ q', q' < q → τ.1 107 (64 * n + q') = nI (cv (FW (A 94 3) (mo (A 94 2) (A 99)) (A 94 3 - n) q'))) → ∃ k, Lp (lX7_measures_65 R P) k (y1, y2, y3, nI n, nI q, τ)
  | 0, q, τ, e, h1, h3 => ⟨1, by
      show bX7_measures_65 R _ y1 y2 y3 (nI n) (nI q) τ P
      obtain rfl : q = 64 := by omega
      refine iT (by decide) ?_
      rintro x2 rfl
      rw [← Int32.sub_eq_add_neg]
      refine K τ ⟨h1.1, h1.2.1, fun i hi1 hi2 q hq => ?_⟩
      by_cases e : i = n
      · subst e; exact h3 q hq
      · exact h1.2.2 i (by omega) hi2 q hq⟩
  | d + 1, q, τ, e, h1, h3 => by
      have w5 := hw.2.2.2.2.1
      have hmo := mo_le (A 94 2) (A 99) n
      have hMt := h1.rm hM
      have h16 : ∀ q', q' < 64 → τ.1 107 (64 * (n + 1) + q') = nI (cv (FW (A 94 3) (mo (A 94 2) (A 99)) (A 94 3 - (n + 1)) q')) := fun q' hq' => h1.2.2 (n + 1) (by omega) (by omega) q' hq'
      have hs := FW_s (ea := A 94 3) (m := mo (A 94 2) (A 99)) (d := A 94 3 - (n + 1)) (n := n) (q := q) (by omega)
      rw [show A 94 3 - (n + 1) + 1 = A 94 3 - n by omega] at hs
      have cq := cv_le (ea := A 94 3) (m := mo (A 94 2) (A 99)) (d := A 94 3 - (n + 1)) (q := q) (by omega) w5
      have st : ∀ (b : Nat), (b < 64 * n + q ∨ 64 * n + q < b) → (up τ 107 (64 * n + q) (nI (cv (FW (A 94 3) (mo (A 94 2) (A 99)) (A 94 3 - n) q)))).1 107 b = τ.1 107 b := fun b hb => by rw [upg, if_neg (by omega)]
      obtain ⟨k, hk⟩ := me65 hM hw hn K d (q + 1) (up τ 107 (64 * n + q) (nI (cv (FW (A 94 3) (mo (A 94 2) (A 99)) (A 94 3 - n) q)))) (by omega) ⟨fun i hi => by rw [up_ne hi]; exact h1.1 i hi, h1.2.1, fun i hi1 hi2 q' hq' => by rw [st _ (by omega)]; exact h1.2.2 i hi1 hi2 q' hq'⟩ (fun q' hq' => by
        by_cases eq : q' = q
        · subst eq; rw [up_get]
        · rw [st _ (by omega)]; exact h3 q' (by omega))
      have b149 : ∀ z : Nat, z = cv (FW (A 94 3) (mo (A 94 2) (A 99)) (A 94 3 - n) q) → bX7_measures_149 R (Lp (lX7_measures_65 R P) k) y1 y2 y3 (nI n) (nI q) (nI z) (64 * nI n + nI q) τ P := by
        rintro z rfl
        unfold bX7_measures_149
        rw [show (64 : Int32) = nI 64 from rfl, nI_mul, nI_add]
        refine ⟨vin (by omega) (by omega), ?_⟩
        rw [nIc (by omega)]
        rintro σ2 rfl x3 rfl
        rw [nI_1]; exact hk
      -- by the value with this night
      have b105 : ∀ z : Nat, z < 2 ^ 30 → (z < cv (FW (A 94 3) (mo (A 94 2) (A 99)) (A 94 3 - (n + 1)) q) → z = cv (FW (A 94 3) (mo (A 94 2) (A 99)) (A 94 3 - n) q)) → (cv (FW (A 94 3) (mo (A 94 2) (A 99)) (A 94 3 - (n + 1)) q) ≤ z → cv (FW (A 94 3) (mo (A 94 2) (A 99)) (A 94 3 - (n + 1)) q) = cv (FW (A 94 3) (mo (A 94 2) (A 99)) (A 94 3 - n) q)) → bX7_measures_105 R (Lp (lX7_measures_65 R P) k) y1 y2 y3 (nI n) (nI q) (nI z) τ P := by
        intro z hz z1 z2
        unfold bX7_measures_105
        rw [nI_1]
        refine fr7 (by omega) (by omega) ?_
        rw [h16 q (by omega)]
        by_cases c : cv (FW (A 94 3) (mo (A 94 2) (A 99)) (A 94 3 - (n + 1)) q) ≤ z
        · refine iT (nI_le c (by omega)) (fr7 (by omega) (by omega) ?_)
          rw [h16 q (by omega)]
          exact b149 _ (z2 c)
        · exact iF (fun e => c ((nI_leI (by omega) (by omega)).mp e)) (b149 z (z1 (by omega)))
      refine ⟨k + 1, ?_⟩
      show bX7_measures_65 R _ y1 y2 y3 (nI n) (nI q) τ P
      refine iF (nI_ge (b := 64) (by omega) (by omega)) (mo7 hMt hw (by omega) ?_)
      unfold wF at hs
      by_cases c0 : mo (A 94 2) (A 99) n = 0
      · rw [if_pos (Or.inl c0), if_neg (by have := FW_le (ea := A 94 3) (m := mo (A 94 2) (A 99)) (A 94 3 - (n + 1)) q; omega)] at hs
        exact iT (by rw [c0]; rfl) (b105 1000000 (by omega) (fun h => by rw [hs]; omega) (fun _ => by rw [hs]))
      · refine iF (fun e => c0 ((nI_eq (b := 0) (by omega) (by omega)).mp e)) (mo7 hMt hw (by omega) ?_)
        rw [nI_1]
        by_cases c1 : q < mo (A 94 2) (A 99) n
        · rw [if_pos (Or.inr c1), if_neg (by have := FW_le (ea := A 94 3) (m := mo (A 94 2) (A 99)) (A 94 3 - (n + 1)) q; omega)] at hs
          refine fr7n (sub_neg c1 (by omega)) ?_
          exact b105 1000001 (by omega) (fun h => by rw [hs]; omega) (fun _ => by rw [hs])
        · rw [if_neg (show ¬ (mo (A 94 2) (A 99) n = 0 ∨ q < mo (A 94 2) (A 99) n) by omega)] at hs
          rw [nI_sub (by omega)]
          refine fr7 (by omega) (by omega) ?_
          rw [h16 _ (by omega), a1]
          have cm := cv_le (ea := A 94 3) (m := mo (A 94 2) (A 99)) (d := A 94 3 - (n + 1)) (q := q - mo (A 94 2) (A 99) n) (by omega) w5
          have cn := cv_le (ea := A 94 3) (m := mo (A 94 2) (A 99)) (d := A 94 3 - n) (q := q) (by omega) w5
          generalize FW (A 94 3) (mo (A 94 2) (A 99)) (A 94 3 - (n + 1)) (q - mo (A 94 2) (A 99) n) = X at hs cm
          generalize hY : FW (A 94 3) (mo (A 94 2) (A 99)) (A 94 3 - (n + 1)) q = Y at hs cq b105
          refine b105 (1 + cv X) (by omega) (fun h => ?_) (fun h => ?_)
          · by_cases cc : X + 1 < Y
            · rw [if_pos cc] at hs; omega
            · rw [if_neg cc] at hs; omega
          · by_cases cc : X + 1 < Y
            · rw [if_pos cc] at hs; omega
            · rw [if_neg cc] at hs; omega
theorem me218 {P : Int32 → St → Prop} {τ : St} (hw : WF A) (hM : RM A τ) (hn : A 100 0 ≤ A 94 3) (hT : ∀ q, q < 64 → τ.1 107 (64 * A 100 0 + q) = nI (cv (RT0 A q))) {ox fu c : Nat} (hc : ∀ q, c ≤ q → fu ≤ q * ox) : ∀ (d q : Nat), q + d = 64 → c ≤ q → P (oI (lqF (RT0 A) ox fu d q) 1000000) τ → ∃ k, Lp (lX7_measures_218 P) k (nI q, τ)
  | 0, q, e, hq, K => ⟨1, by
      show bX7_measures_218 _ (nI q) τ P
      obtain rfl : q = 64 := by omega
      exact iT (by decide) K⟩
  | d + 1, q, e, hq, K => by
      have w5 := hw.2.2.2.2.1
      have cq := cv_le (ea := A 94 3) (m := mo (A 94 2) (A 99)) (d := A 94 3 - A 100 0) (q := q) (by omega) w5
      have e0 : τ.1 100 0 = nI (A 100 0) := hM 100 0 (by unfold rl; omega)
      have cq : (RT0 A q ≤ 60 ∧ cv (RT0 A q) = RT0 A q) ∨ (RT0 A q = 1000 ∧ cv (RT0 A q) = 1000000) := cq
      unfold lqF at K
      by_cases c1 : RT0 A q < 1000
      · rw [if_pos ⟨hc q hq, c1⟩] at K
        refine ⟨1, ?_⟩
        show bX7_measures_218 _ (nI q) τ P
        unfold bX7_measures_218
        rw [e0]
        refine iF (nI_ge (b := 64) (by omega) (by omega)) (fr7 (by omega) (by omega) ?_)
        rw [hT q (by omega)]
        exact iF (nI_ge (b := 1000000) (by omega) (by omega)) K
      · rw [if_neg (fun z => c1 z.2)] at K
        obtain ⟨k, hk⟩ := me218 hw hM hn hT hc d (q + 1) (by omega) (by omega) K
        refine ⟨k + 1, ?_⟩
        show bX7_measures_218 _ (nI q) τ P
        unfold bX7_measures_218
        rw [e0]
        refine iF (nI_ge (b := 64) (by omega) (by omega)) (fr7 (by omega) (by omega) ?_)
        rw [hT q (by omega)]
        refine iT (nI_le (a := 1000000) (by omega) (by omega)) ?_
        rintro x5 rfl
        rw [nI_1]; exact hk
theorem ceil_lo {fu ox q : Nat} (hox : 1 ≤ ox) (h : q < (fu + ox - 1) / ox) : ¬ fu ≤ q * ox := by
  have h1 : (q + 1) * ox ≤ fu + ox - 1 := (Nat.le_div_iff_mul_le (by omega)).mp h
  rw [Nat.succ_mul] at h1
  omega
theorem ceil_hi {fu ox q : Nat} (hox : 1 ≤ ox) (h : (fu + ox - 1) / ox ≤ q) : fu ≤ q * ox := by
  rcases Nat.lt_or_ge (q * ox) fu with c | c
  · exfalso
    have h2 : (q + 1) * ox ≤ fu + ox - 1 := by rw [Nat.succ_mul]; omega
    have := (Nat.le_div_iff_mul_le (by omega)).mpr h2
    omega
  · exact c
theorem lqF_no {R : Nat → Nat} {ox fu : Nat} : ∀ (d q : Nat), (∀ j, q ≤ j → j < q + d → ¬ (fu ≤ j * ox ∧ R j < 1000)) → lqF R ox fu d q = none
  | 0, _, _ => rfl
  | d + 1, q, h => by
    unfold lqF
    rw [if_neg (h q (by omega) (by omega))]
    exact lqF_no d (q + 1) (fun j h1 h2 => h j (by omega) (by omega))
theorem me51 {P : Int32 → St → Prop} (hM : RM A σ) (hw : WF A) {k s : Nat} (hk : k < A 94 0) (hs : s < A 94 1) (K : ∀ τ, MR A σ τ (A 100 0) → P (oI (lqA A k s) 1000000) τ) : ∀ (j : Nat) (τ : St), j ≤ A 94 3 → MR A σ τ j → Lp (lX7_measures_51 P) (j + 1) (nI k, nI s, nI (A 94 3), nI j - 1, τ) := by
  have w1 := hw.1
  have w2 := hw.2.1
  have w4 := hw.2.2.2.1
  have w5 := hw.2.2.2.2.1
  have wo := hw.2.2.2.2.2.1 k hk
  have wl := ((WSn_of hw).2.2.2.2.1 s hs).2
  have wn := (WSn_of hw).1
  have out : ∀ (j : Nat) (τ : St) (R : Int32 × Int32 × Int32 × Int32 × St → Prop) (y : Int32), y < nI (A 100 0) → j ≤ A 94 3 → j ≤ A 100 0 ∨ A 94 3 < A 100 0 → MR A σ τ j → bX7_measures_51 R (nI k) (nI s) (nI (A 94 3)) y τ P := by
    intro j τ R y hy hj hjn h
    have hMt := h.rm hM
    have e0 : τ.1 100 0 = nI (A 100 0) := hMt 100 0 (by unfold rl; omega)
    have e6 : τ.1 100 (6 + s) = nI (A 100 (6 + s)) := hMt 100 _ (by unfold rl; omega)
    have e96 : τ.1 96 k = nI (A 96 k) := hMt 96 k (by unfold rl; omega)
    have hMR : MR A σ τ (A 100 0) := ⟨h.1, h.2.1, fun n n1 n2 q hq => h.2.2 n (by omega) n2 q hq⟩
    have K := K τ hMR
    unfold bX7_measures_51
    rw [e0, a6, nIc (by omega), nIc (by omega), e6, e96]
    refine iT hy ?_
    by_cases c : A 100 0 ≤ A 94 3
    · refine iT (nI_le c (by omega)) ⟨vin (by omega) (by omega), vin (by omega) (by omega), vin (by omega) (by omega), nI_ne0 (by omega) (by omega), ?_⟩
      rw [nI_add, sub1 (by omega), nI_div (by omega) (by omega)]
      rintro x7 rfl
      have hT : ∀ q, q < 64 → τ.1 107 (64 * A 100 0 + q) = nI (cv (RT0 A q)) := fun q hq => hMR.2.2 (A 100 0) (Nat.le_refl _) c q hq
      have hc60 : (A 100 (6 + s) + A 96 k - 1) / A 96 k ≤ 63 := by
        rcases Nat.lt_or_ge 63 ((A 100 (6 + s) + A 96 k - 1) / A 96 k) with q | q
        · exfalso
          have := ceil_lo (fu := A 100 (6 + s)) (ox := A 96 k) (q := 63) wo.1 q
          have : 63 * 1 ≤ 63 * A 96 k := Nat.mul_le_mul (Nat.le_refl _) wo.1
          omega
        · exact q
      refine me218 (fu := A 100 (6 + s)) (ox := A 96 k) hw hMt c hT (fun q hq => ceil_hi wo.1 hq) (64 - (A 100 (6 + s) + A 96 k - 1) / A 96 k) _ (by omega) (Nat.le_refl _) ?_
      have sk := lqF_skip (R := RT0 A) (ox := A 96 k) (fu := A 100 (6 + s)) (64 - (A 100 (6 + s) + A 96 k - 1) / A 96 k) ((A 100 (6 + s) + A 96 k - 1) / A 96 k) 0 (fun j h1 h2 => ceil_lo wo.1 (by omega))
      rw [show (A 100 (6 + s) + A 96 k - 1) / A 96 k + (64 - (A 100 (6 + s) + A 96 k - 1) / A 96 k) = 64 by omega, Nat.zero_add] at sk
      rw [← sk]
      exact K
    · refine iF (fun e => c ((nI_leI (by omega) (by omega)).mp e)) ⟨vin (by omega) (by omega), ?_⟩
      have hR : ∀ q, RT0 A q = if q = 0 then 0 else 1000 := fun q => by
        unfold RT0
        rw [show A 94 3 - A 100 0 = 0 by omega]
        rfl
      by_cases z : A 100 (6 + s) = 0
      · refine iT (by rw [z]; rfl) ?_
        have : lqA A k s = some 0 := by
          unfold lqA lqF
          rw [if_pos ⟨by omega, by rw [hR]; decide⟩]
        rw [this] at K; exact K
      · refine iF (fun e => z ((nI_eq (b := 0) (by omega) (by omega)).mp e)) ?_
        have : lqA A k s = none := by
          unfold lqA
          refine lqF_no 64 0 (fun j _ _ h => ?_)
          rw [hR] at h
          by_cases j0 : j = 0
          · subst j0; omega
          · rw [if_neg j0] at h; omega
        rw [this] at K; exact K
  intro j
  induction j with
  | zero =>
    intro τ hj h
    exact out 0 τ _ (nI 0 - 1) (by rw [Int32.lt_iff_toInt_lt, nI_toInt (by omega)]; have : (nI 0 - 1).toInt = -1 := (by decide); omega) hj (Or.inl (by omega)) h
  | succ j ih =>
    intro τ hj h
    rw [nI_pred]
    by_cases c : j < A 100 0
    · exact out (j + 1) τ _ _ (nI_lt c (by omega)) hj (Or.inl (by omega)) h
    · have hMt := h.rm hM
      show bX7_measures_51 (Lp (lX7_measures_51 P) (j + 1)) (nI k) (nI s) (nI (A 94 3)) (nI j) τ P
      unfold bX7_measures_51
      rw [hMt 100 0 (by unfold rl; omega)]
      exact iF (nI_nlt (by omega) (by omega)) (me65 hM hw (by omega) (fun ρ hρ => ih ρ (by omega) hρ) 64 0 τ (by omega) h (fun q' hq' => absurd hq' (by omega)))
theorem me7 {P : Int32 → St → Prop} (hM : RM A σ) (hw : WF A) {k s : Nat} (hk : k < A 94 0) (hs : s < A 94 1) (K : ∀ τ, MR A σ τ (A 100 0) → P (oI (lqA A k s) 1000000) τ) : wX7_measures (nI k) (nI s) σ P := by
  have w5 := hw.2.2.2.2.1
  rintro x1 rfl
  rw [hM 94 3 (by unfold rl; omega)]
  have m10 : ∀ (d q : Nat) (τ : St), q + d = 64 → (∀ i, i ≠ 107 → τ.1 i = σ.1 i) → τ.2 = σ.2 → (∀ q', q' < q → τ.1 107 (64 * A 94 3 + q') = nI (cv (FW (A 94 3) (mo (A 94 2) (A 99)) 0 q'))) → ∃ n, Lp (lX7_measures_10 P) n (nI k, nI s, nI (A 94 3), nI q, τ) := by
    intro d
    induction d with
    | zero =>
      intro q τ e h1 h2 h3
      refine ⟨1, ?_⟩
      show bX7_measures_10 _ (nI k) (nI s) (nI (A 94 3)) (nI q) τ P
      obtain rfl : q = 64 := by omega
      refine iT (by decide) ?_
      rintro x2 rfl
      refine ⟨_, me51 hM hw hk hs K (A 94 3) τ (Nat.le_refl _) ⟨h1, h2, fun n n1 n2 q hq => ?_⟩⟩
      obtain rfl : n = A 94 3 := by omega
      rw [Nat.sub_self]; exact h3 q hq
    | succ d ih =>
      intro q τ e h1 h2 h3
      obtain ⟨n, hn⟩ := ih (q + 1) (up τ 107 (64 * A 94 3 + q) (nI (cv (FW (A 94 3) (mo (A 94 2) (A 99)) 0 q)))) (by omega) (fun i hi => by rw [up_ne hi]; exact h1 i hi) h2 (fun q' hq' => by
        rw [upg]
        by_cases eq : q' = q
        · subst eq; rw [if_pos ⟨rfl, rfl⟩]
        · rw [if_neg (by omega)]; exact h3 q' (by omega))
      refine ⟨n + 1, ?_⟩
      show bX7_measures_10 _ (nI k) (nI s) (nI (A 94 3)) (nI q) τ P
      unfold bX7_measures_10
      rw [show (64 : Int32) * nI (A 94 3) = nI (64 * A 94 3) from nI_mul 64 _, nI_add]
      refine iF (nI_ge (b := 64) (by omega) (by omega)) ?_
      have b39 : ∀ z : Nat, z = cv (FW (A 94 3) (mo (A 94 2) (A 99)) 0 q) → bX7_measures_39 (Lp (lX7_measures_10 P) n) (nI k) (nI s) (nI (A 94 3)) (nI q) (nI z) (nI (64 * A 94 3 + q)) τ P := by
        rintro z rfl
        refine ⟨vin (by omega) (by omega), ?_⟩
        rw [nIc (by omega)]
        rintro σ2 rfl x3 rfl
        rw [nI_1]; exact hn
      by_cases c : q = 0
      · exact iT (by rw [c]; rfl) (b39 0 (by subst c; rfl))
      · exact iF (fun e => c ((nI_eq (b := 0) (by omega) (by omega)).mp e)) (b39 1000000 (by unfold FW; rw [if_neg c]; rfl))
  exact m10 64 0 σ (by omega) (fun _ _ => rfl) rfl (fun q' hq' => absurd hq' (by omega))
end Meas
