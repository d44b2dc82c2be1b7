/-! dies -/
theorem bit_lt {a n k : Nat} (ha : a < 2 ^ n) (hk : n ≤ k) : bit a k = 0 := by
  unfold bit
  have : a < 2 ^ k := Nat.lt_of_lt_of_le ha (Nat.pow_le_pow_right (by omega) hk)
  rw [Nat.div_eq_of_lt this]
/-- the lowest other one who lives, from j on -/
def lowF (a k : Nat) : Nat → Nat → Option Nat
  | 0, _ => none
  | d + 1, j => if j ≠ k ∧ bit a j = 1 then some j else lowF a k d (j + 1)
def loI (o : Option Nat) : Int32 := match o with
  | none => -9
  | some j => nI j
theorem lowF_some {a k : Nat} : ∀ {d j l : Nat}, lowF a k d j = some l → j ≤ l ∧ l < j + d ∧ l ≠ k ∧ bit a l = 1
  | 0, j, l, h => by cases h
  | d + 1, j, l, h => by
    unfold lowF at h
    by_cases c : j ≠ k ∧ bit a j = 1
    · rw [if_pos c] at h
      cases h
      exact ⟨Nat.le_refl _, by omega, c.1, c.2⟩
    · rw [if_neg c] at h
      have := lowF_some h
      exact ⟨by omega, by omega, this.2.2.1, this.2.2.2⟩
theorem low5 {nf ns : Nat} {σ : St} {f : Nat → Nat} {Q : Int32 → St → Prop} (hR : RSn nf ns σ 18 f) (hf : f 20 < 32) {k : Nat} (hk : k < 5) : ∀ (d j : Nat), j + d = 5 → Q (loI (lowF (f 20) k d j)) σ → ∃ n, Lp (lX4_lowestOther_2 18 Q) n (nI k, nI j, σ)
  | 0, j, e, q => ⟨1, by
      show bX4_lowestOther_2 _ 18 (nI k) (nI j) σ Q
      obtain rfl : j = 5 := by omega
      exact iT (by decide) q⟩
  | d + 1, j, e, q => by
      unfold lowF at q
      by_cases c : j ≠ k ∧ bit (f 20) j = 1
      · rw [if_pos c] at q
        refine ⟨1, ?_⟩
        show bX4_lowestOther_2 _ 18 (nI k) (nI j) σ Q
        refine iF (nI_ge (b := 5) (by omega) (by omega)) (iF (fun e => c.1 ((nI_eq (by omega) (by omega)).mp e)) ?_)
        exact al5 hR hf (by omega) (fun _ => iF (by decide) q) (fun b0 => by omega)
      · rw [if_neg c] at q
        obtain ⟨n, hn⟩ := low5 hR hf hk d (j + 1) (by omega) q
        have nx : bX4_lowestOther_22 (Lp (lX4_lowestOther_2 18 Q) n) 18 (nI k) (nI j) σ Q := by
          rintro x1 rfl
          rw [nI_1]; exact hn
        refine ⟨n + 1, ?_⟩
        show bX4_lowestOther_2 _ 18 (nI k) (nI j) σ Q
        refine iF (nI_ge (b := 5) (by omega) (by omega)) ?_
        by_cases e : j = k
        · exact iT (by rw [e]) nx
        · exact iF (fun g => e ((nI_eq (by omega) (by omega)).mp g)) (al5 hR hf (by omega) (fun b1 => absurd ⟨e, b1⟩ c) (fun _ => iT rfl nx))
theorem lowF_app {a k : Nat} : ∀ (d1 d2 j : Nat), lowF a k (d1 + d2) j = (match lowF a k d1 j with | some l => some l | none => lowF a k d2 (j + d1))
  | 0, d2, j => by simp [lowF]
  | d1 + 1, d2, j => by
    rw [Nat.add_right_comm]
    simp only [lowF]
    by_cases c : j ≠ k ∧ bit a j = 1
    · simp [c]
    · rw [if_neg c, if_neg c, lowF_app d1 d2 (j + 1)]
      rw [show j + 1 + d1 = j + (d1 + 1) by omega]
theorem lowF_none {a k : Nat} : ∀ (d j : Nat), (∀ i, j ≤ i → i < j + d → bit a i = 0) → lowF a k d j = none
  | 0, _, _ => rfl
  | d + 1, j, h => by
    unfold lowF
    rw [if_neg (fun c => by have := h j (by omega) (by omega); omega)]
    exact lowF_none d (j + 1) (fun i h1 h2 => h i (by omega) (by omega))
theorem low7 {A : AM} {σ : St} {Q : Int32 → St → Prop} (hM : RM A σ) (hl : A 100 20 < 32) {k : Nat} (hk : k < 5) : ∀ (j : Nat) (lo : Int32), j ≤ 5 → (∀ lo', lo' = (match lowF (A 100 20) k j 0 with | some l => nI l | none => lo) → wX7_lives (nI k) σ (fun r3 σ2 => ((r3 = 0 → Q (-2) σ2) ∧ (¬ r3 = 0 → ((lo' = (-9) → Q (-2) σ2) ∧ (¬ lo' = (-9) → wX7_notes σ2 (fun σ6 => (vp_in (21 + nI k) 27 ∧ (((σ6.1 100 (21 + nI k).toNatClampNeg) ≤ 0 → bX7_dies_104 (nI k) lo' lo' σ6 Q) ∧ (¬ (σ6.1 100 (21 + nI k).toNatClampNeg) ≤ 0 → (vp_in (21 + nI k) 27 ∧ bX7_dies_104 (nI k) lo' ((σ6.1 100 (21 + nI k).toNatClampNeg) - 1) σ6 Q)))))))))))  → ∃ n, Lp (lX7_dies_27 Q) n (nI k, lo, nI j - 1, σ)
  | 0, lo, hj, q => ⟨1, by
      show bX7_dies_27 _ (nI k) lo (nI 0 - 1) σ Q
      exact iT (by decide) (q lo rfl)⟩
  | j + 1, lo, hj, q => by
      have hs : nI (j + 1) - 1 = nI j := nI_pred j
      have key : ∀ lo2 : Int32, lo2 = (if j ≠ k ∧ bit (A 100 20) j = 1 then nI j else lo) → ∃ n, Lp (lX7_dies_27 Q) n (nI k, lo2, nI j - 1, σ) := by
        intro lo2 h2
        refine low7 hM hl hk j lo2 (by omega) (fun lo' h' => q lo' ?_)
        rw [h', lowF_app j 1 0]
        cases hc : lowF (A 100 20) k j 0 with
        | some l => rfl
        | none =>
          simp only [lowF, Nat.zero_add]
          rw [h2]
          by_cases c : j ≠ k ∧ bit (A 100 20) j = 1
          · rw [if_pos c, if_pos c]
          · rw [if_neg c, if_neg c]
      have n49 : ∀ (n : Nat) (z : Int32), Lp (lX7_dies_27 Q) n (nI k, z, nI j - 1, σ) → bX7_dies_49 (Lp (lX7_dies_27 Q) n) (nI k) (nI j) z σ Q := by
        rintro n z hz x1 rfl
        rw [← Int32.sub_eq_add_neg]; exact hz
      by_cases c : j ≠ k ∧ bit (A 100 20) j = 1
      · obtain ⟨n, hn⟩ := key (nI j) (by rw [if_pos c])
        refine ⟨n + 1, ?_⟩
        rw [hs]
        show bX7_dies_27 _ (nI k) lo (nI j) σ Q
        refine iF (nI_pos (by omega)) (iF (fun e => c.1 ((nI_eq (by omega) (by omega)).mp e)) ?_)
        exact li7 hM hl (by omega) (fun _ => iF (by decide) (n49 n _ hn)) (fun b0 => by omega)
      · obtain ⟨n, hn⟩ := key lo (by rw [if_neg c])
        refine ⟨n + 1, ?_⟩
        rw [hs]
        show bX7_dies_27 _ (nI k) lo (nI j) σ Q
        refine iF (nI_pos (by omega)) ?_
        by_cases e : j = k
        · exact iT (by rw [e]) (n49 n _ hn)
        · exact iF (fun g => e ((nI_eq (by omega) (by omega)).mp g)) (li7 hM hl (by omega) (fun b1 => absurd ⟨e, b1⟩ c) (fun _ => iT rfl (n49 n _ hn)))
/-! the new standing -/
def dF1 (f : Nat → Nat) (lo n : Nat) : Nat → Nat := fun b => if b = 1 + lo then (if f (1 + lo) + n ≤ 999 then f (1 + lo) + n else 999) else f b
def dF2 (f : Nat → Nat) (k : Nat) : Nat → Nat := fun b => if b = 20 then clr (f 20) k else if b = 1 + k then 0 else f b
def dF3 (f : Nat → Nat) (k d : Nat) : Nat → Nat := fun b => if 21 ≤ b ∧ b < 21 + d ∧ (b = 21 + k ∨ f b = k + 1) then 0 else f b
def dF4 (f : Nat → Nat) (k he d : Nat) : Nat → Nat := fun b => if 13 ≤ b ∧ b < 13 + d ∧ f b = k then he else f b
def dF (f : Nat → Nat) (k lo he ns : Nat) : Nat → Nat := dF4 (dF3 (dF2 (dF1 (dF1 f lo (f (1 + k) / 2)) he (f (1 + k) - f (1 + k) / 2)) k) k 5) k he ns
/-- the model's row is f -/
def R7 (σ : St) (f : Nat → Nat) : Prop := ∀ j, j < 27 → σ.1 100 j = nI (f j)
/-- only row 100 has changed -/
def O7 (σ τ : St) : Prop := (∀ i, i ≠ 100 → τ.1 i = σ.1 i) ∧ τ.2 = σ.2
theorem O7.rf {σ : St} : O7 σ σ := ⟨fun _ _ => rfl, rfl⟩
theorem O7.up {σ τ : St} {k : Nat} {v : Int32} (h : O7 σ τ) : O7 σ (up τ 100 k v) := ⟨fun i hi => by rw [up_ne hi]; exact h.1 i hi, h.2⟩
theorem inh7 {σ τ : St} {f : Nat → Nat} {Q : St → Prop} {lo n : Nat} (hlo : lo < 5) (hn : n ≤ 999) (hr : R7 τ f) (ho : O7 σ τ) (hf : f (1 + lo) ≤ 999) (K : ∀ τ', R7 τ' (dF1 f lo n) → O7 σ τ' → Q τ') : wX7_inherits (nI lo) (nI n) τ Q := by
  unfold wX7_inherits
  rw [a1]
  refine ⟨vin (by omega) (by omega), ?_⟩
  rw [nIc (by omega), hr (1 + lo) (by omega), nI_add]
  rintro x2 rfl
  have fin : ∀ z : Nat, z = (if f (1 + lo) + n ≤ 999 then f (1 + lo) + n else 999) → bX7_inherits_32 (nI z) (nI (1 + lo)) τ Q := by
    rintro z hz
    refine ⟨vin (by omega) (by omega), ?_⟩
    rw [nIc (by omega)]
    rintro σ2 rfl
    refine K _ (fun j hj => ?_) ho.up
    rw [upg]
    show _ = nI (if j = 1 + lo then _ else f j)
    by_cases e : j = 1 + lo
    · rw [if_pos ⟨rfl, e⟩, if_pos e, hz]
    · rw [if_neg (by omega), if_neg e]; exact hr j hj
  by_cases c : f (1 + lo) + n ≤ 999
  · exact iT (nI_le (b := 999) c (by omega)) (fin _ (by rw [if_pos c]))
  · exact iF (fun e => c ((nI_leI (b := 999) (by omega) (by omega)).mp e)) (fin 999 (by rw [if_neg c]))
theorem d167 {σ : St} {f : Nat → Nat} {Q : Int32 → St → Prop} {k : Nat} {he : Int32} (hk : k < 5) (hf : ∀ j, j < 27 → f j ≤ 999) (K : ∀ τ, R7 τ (dF3 f k 5) → O7 σ τ → ∃ n, Lp (lX7_dies_228 Q) n (nI k, he, 0, τ)) : ∀ (d j : Nat) (τ : St), j + d = 5 → R7 τ (dF3 f k j) → O7 σ τ → ∃ n, Lp (lX7_dies_167 Q) n (nI k, he, nI j, τ)
  | 0, j, τ, e, r, o => ⟨1, by
      show bX7_dies_167 _ (nI k) he (nI j) τ Q
      obtain rfl : j = 5 := by omega
      exact iT (by decide) (K τ r o)⟩
  | d + 1, j, τ, e, r, o => by
      have rj : τ.1 100 (21 + j) = nI (f (21 + j)) := by
        rw [r (21 + j) (by omega)]
        show nI (if _ then 0 else f (21 + j)) = _
        rw [if_neg (by omega)]
      have hfj := hf (21 + j) (by omega)
      have st : ∀ z : Nat, z = (if j = k ∨ f (21 + j) = k + 1 then 0 else f (21 + j)) → R7 (up τ 100 (21 + j) (nI z)) (dF3 f k (j + 1)) := by
        intro z hz i hi
        rw [upg]
        show _ = nI (if 21 ≤ i ∧ i < 21 + (j + 1) ∧ (i = 21 + k ∨ f i = k + 1) then 0 else f i)
        by_cases ei : i = 21 + j
        · subst ei
          rw [if_pos ⟨rfl, rfl⟩, hz]
          by_cases c : j = k ∨ f (21 + j) = k + 1
          · rw [if_pos c, if_pos (by omega)]
          · rw [if_neg c, if_neg (by omega)]
        · rw [if_neg (by omega), r i hi]
          show nI (if 21 ≤ i ∧ i < 21 + j ∧ (i = 21 + k ∨ f i = k + 1) then 0 else f i) = _
          by_cases c : 21 ≤ i ∧ i < 21 + j ∧ (i = 21 + k ∨ f i = k + 1)
          · rw [if_pos c, if_pos (by omega)]
          · rw [if_neg c, if_neg (by omega)]
      have b218 : ∀ z : Nat, z = (if j = k ∨ f (21 + j) = k + 1 then 0 else f (21 + j)) → ∃ n, bX7_dies_218 (Lp (lX7_dies_167 Q) n) (nI k) he (nI j) (nI z) (nI (21 + j)) τ Q := by
        intro z hz
        obtain ⟨n, hn⟩ := d167 hk hf K d (j + 1) _ (by omega) (st z hz) o.up
        refine ⟨n, vin (by omega) (by omega), ?_⟩
        rw [nIc (by omega)]
        rintro σ2 rfl x3 rfl
        rw [nI_1]; exact hn
      by_cases c : j = k ∨ f (21 + j) = k + 1
      · obtain ⟨n, hn⟩ := b218 0 (by rw [if_pos c])
        refine ⟨n + 1, ?_⟩
        show bX7_dies_167 _ (nI k) he (nI j) τ Q
        unfold bX7_dies_167
        rw [a21, nIc (by omega), rj, nI_1]
        refine iF (nI_ge (b := 5) (by omega) (by omega)) ?_
        by_cases e1 : j = k
        · exact iT (by rw [e1]) hn
        · exact iF (fun g => e1 ((nI_eq (by omega) (by omega)).mp g)) ⟨vin (by omega) (by omega), iT (by rw [c.resolve_left e1]) hn⟩
      · obtain ⟨n, hn⟩ := b218 (f (21 + j)) (by rw [if_neg c])
        refine ⟨n + 1, ?_⟩
        show bX7_dies_167 _ (nI k) he (nI j) τ Q
        unfold bX7_dies_167
        rw [a21, nIc (by omega), rj, nI_1]
        exact iF (nI_ge (b := 5) (by omega) (by omega)) (iF (fun g => c (Or.inl ((nI_eq (by omega) (by omega)).mp g))) ⟨vin (by omega) (by omega), iF (fun g => c (Or.inr ((nI_eq (by omega) (by omega)).mp g))) ⟨vin (by omega) (by omega), hn⟩⟩)
theorem d228 {σ : St} {f : Nat → Nat} {Q : Int32 → St → Prop} {k he ns : Nat} (hk : k < 5) (hhe : he < 5) (hns : ns ≤ 7) (hf : ∀ j, j < 27 → f j ≤ 999) (hs : σ.1 94 1 = nI ns) (K : ∀ τ, R7 τ (dF4 f k he ns) → O7 σ τ → Q (nI he) τ) : ∀ (d j : Nat) (τ : St), j + d = ns → R7 τ (dF4 f k he j) → O7 σ τ → ∃ n, Lp (lX7_dies_228 Q) n (nI k, nI he, nI j, τ)
  | 0, j, τ, e, r, o => ⟨1, by
      show bX7_dies_228 _ (nI k) (nI he) (nI j) τ Q
      unfold bX7_dies_228
      rw [o.1 94 (by omega), hs]
      obtain rfl : j = ns := by omega
      exact iT (nI_le (Nat.le_refl _) (by omega)) (K τ r o)⟩
  | d + 1, j, τ, e, r, o => by
      have rj : τ.1 100 (13 + j) = nI (f (13 + j)) := by
        rw [r (13 + j) (by omega)]
        show nI (if _ then he else f (13 + j)) = _
        rw [if_neg (by omega)]
      have hfj := hf (13 + j) (by omega)
      have st : ∀ z : Nat, z = (if f (13 + j) = k then he else f (13 + j)) → R7 (up τ 100 (13 + j) (nI z)) (dF4 f k he (j + 1)) := by
        intro z hz i hi
        rw [upg]
        show _ = nI (if 13 ≤ i ∧ i < 13 + (j + 1) ∧ f i = k then he else f i)
        by_cases ei : i = 13 + j
        · subst ei
          rw [if_pos ⟨rfl, rfl⟩, hz]
          by_cases c : f (13 + j) = k
          · rw [if_pos c, if_pos (by omega)]
          · rw [if_neg c, if_neg (by omega)]
        · rw [if_neg (by omega), r i hi]
          show nI (if 13 ≤ i ∧ i < 13 + j ∧ f i = k then he else f i) = _
          by_cases c : 13 ≤ i ∧ i < 13 + j ∧ f i = k
          · rw [if_pos c, if_pos (by omega)]
          · rw [if_neg c, if_neg (by omega)]
      have b276 : ∀ z : Nat, z = (if f (13 + j) = k then he else f (13 + j)) → ∃ n, bX7_dies_276 (Lp (lX7_dies_228 Q) n) (nI k) (nI he) (nI j) (nI z) (nI (13 + j)) τ Q := by
        intro z hz
        obtain ⟨n, hn⟩ := d228 hk hhe hns hf hs K d (j + 1) _ (by omega) (st z hz) o.up
        refine ⟨n, vin (by omega) (by omega), ?_⟩
        rw [nIc (by omega)]
        rintro σ2 rfl x3 rfl
        rw [nI_1]; exact hn
      by_cases c : f (13 + j) = k
      · obtain ⟨n, hn⟩ := b276 he (by rw [if_pos c])
        refine ⟨n + 1, ?_⟩
        show bX7_dies_228 _ (nI k) (nI he) (nI j) τ Q
        unfold bX7_dies_228
        rw [o.1 94 (by omega), hs, a13, nIc (by omega), rj]
        exact iF (nI_ge (by omega) (by omega)) ⟨vin (by omega) (by omega), iT (by rw [c]) hn⟩
      · obtain ⟨n, hn⟩ := b276 (f (13 + j)) (by rw [if_neg c])
        refine ⟨n + 1, ?_⟩
        show bX7_dies_228 _ (nI k) (nI he) (nI j) τ Q
        unfold bX7_dies_228
        rw [o.1 94 (by omega), hs, a13, nIc (by omega), rj]
        exact iF (nI_ge (by omega) (by omega)) ⟨vin (by omega) (by omega), iF (fun g => c ((nI_eq (by omega) (by omega)).mp g)) ⟨vin (by omega) (by omega), hn⟩⟩
theorem dF1_le {f : Nat → Nat} {lo n : Nat} (h : ∀ j, j < 27 → f j ≤ 999) : ∀ j, j < 27 → dF1 f lo n j ≤ 999 := by
  intro j hj
  unfold dF1
  split
  · split <;> omega
  · exact h j hj
theorem b104 {σ : St} {f : Nat → Nat} {Q : Int32 → St → Prop} {k lo he ns : Nat} (hk : k < 5) (hlo : lo < 5) (hhe : he < 5) (hl : lo ≠ k) (hh : he ≠ k) (hns : ns ≤ 7) (hf : ∀ j, j < 27 → f j ≤ 999) (h20 : f 20 < 32) (hr : R7 σ f) (hs : σ.1 94 1 = nI ns) (K : ∀ τ, R7 τ (dF f k lo he ns) → O7 σ τ → Q (nI he) τ) : bX7_dies_104 (nI k) (nI lo) (nI he) σ Q := by
  have hfk := hf (1 + k) (by omega)
  have half : f (1 + k) / 2 ≤ f (1 + k) := Nat.div_le_self _ _
  unfold bX7_dies_104
  rw [a1]
  refine ⟨vin (by omega) (by omega), ?_⟩
  rw [nIc (by omega), hr (1 + k) (by omega), show (2 : Int32) = nI 2 from rfl, nI_div (by omega) (by omega)]
  rintro x2 rfl
  refine inh7 hlo (by omega) hr O7.rf (hf _ (by omega)) (fun τ r o => ⟨vin (by omega) (by omega), ?_⟩)
  have r1 : τ.1 100 (1 + k) = nI (f (1 + k)) := by
    rw [r (1 + k) (by omega)]
    show nI (if 1 + k = 1 + lo then _ else f (1 + k)) = _
    rw [if_neg (by omega)]
  rw [r1, nI_sub half]
  have l1 := dF1_le (lo := lo) (n := f (1 + k) / 2) hf
  refine inh7 hhe (by omega) r o (l1 _ (by omega)) (fun ρ r o => ⟨vin (by omega) (by omega), ?_⟩)
  have l2 := dF1_le (lo := he) (n := f (1 + k) - f (1 + k) / 2) l1
  rintro σ7 rfl
  have r20 : (up ρ 100 (1 + k) 0).1 100 20 = nI (f 20) := by
    rw [up_get_ne (by omega), r 20 (by omega)]
    show nI (if 20 = 1 + he then _ else if 20 = 1 + lo then _ else f 20) = _
    rw [if_neg (by omega), if_neg (by omega)]
  rw [r20, clr_eq h20 hk]
  rintro σ9 rfl
  have r2 : R7 (up (up ρ 100 (1 + k) 0) 100 20 (nI (clr (f 20) k))) (dF2 (dF1 (dF1 f lo (f (1 + k) / 2)) he (f (1 + k) - f (1 + k) / 2)) k) := by
    intro j hj
    rw [upg, upg]
    show _ = nI (if j = 20 then clr (if 20 = 1 + he then _ else if 20 = 1 + lo then _ else f 20) k else if j = 1 + k then 0 else _)
    rw [if_neg (show ¬ 20 = 1 + he by omega), if_neg (show ¬ 20 = 1 + lo by omega)]
    by_cases e : j = 20
    · rw [if_pos ⟨rfl, e⟩, if_pos e]
    · rw [if_neg (by omega), if_neg e]
      by_cases e1 : j = 1 + k
      · rw [if_pos ⟨rfl, e1⟩, if_pos e1]; rfl
      · rw [if_neg (by omega), if_neg e1]; exact r j hj
  have l3 : ∀ j, j < 27 → dF2 (dF1 (dF1 f lo (f (1 + k) / 2)) he (f (1 + k) - f (1 + k) / 2)) k j ≤ 999 := by
    intro j hj
    unfold dF2
    split
    · have := l2 20 (by omega)
      exact Nat.le_trans (clr_le _ _) this
    · split
      · omega
      · exact l2 j hj
  have l4 : ∀ j, j < 27 → dF3 (dF2 (dF1 (dF1 f lo (f (1 + k) / 2)) he (f (1 + k) - f (1 + k) / 2)) k) k 5 j ≤ 999 := by
    intro j hj
    unfold dF3
    split
    · omega
    · exact l3 j hj
  refine d167 hk l3 (fun τ r o => ?_) 5 0 _ (by omega) (fun j hj => ?_) o.up.up
  · refine d228 hk hhe hns l4 hs (fun τ r o => K τ r o) ns 0 τ (by omega) (fun j hj => ?_) o
    rw [r j hj]
    show _ = nI (if 13 ≤ j ∧ j < 13 + 0 ∧ _ then he else _)
    rw [if_neg (by omega)]
  · rw [r2 j hj]
    show _ = nI (if 21 ≤ j ∧ j < 21 + 0 ∧ _ then 0 else _)
    rw [if_neg (by omega)]
