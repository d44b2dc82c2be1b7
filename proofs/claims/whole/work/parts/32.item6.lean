/-! the class reads an item, a text -/
def WB (B : AM) : Prop := B 0 0 ≤ 5 ∧ B 0 1 ≤ 7 ∧ B 0 2 ≤ 15 ∧ 1 ≤ B 0 3 ∧ B 0 3 ≤ 60 ∧ B 0 4 ≤ 1 ∧ B 0 5 ≤ 1 ∧ (∀ k, k < B 0 0 → B 1 k ≤ 99 ∧ 1 ≤ B 2 k ∧ B 2 k ≤ 4) ∧ (∀ k, k < B 0 1 → B 3 k < B 0 0 ∧ B 4 k ≤ 60) ∧ (∀ k, k < 100 → B 5 k ≤ 1)
theorem r01 {r : Int32} {Q : Int32 → St → Prop} {σ : St} (h : r = 0 ∨ r = 1) (q : Q r σ) : ((r = 0 ∨ r = 1) ∧ Q r σ) := ⟨h, q⟩
theorem PS_and {n : Nat} {r : RsT} {σ0 : St} {Q : Int32 → St → Prop} (h : PS n r σ0 Q) : PS n r σ0 (fun r' σ' => (r' = 0 ∨ r' = 1) ∧ Q r' σ') := by
  unfold PS at h ⊢
  cases r with
  | inl p => exact fun σ' a b => ⟨Or.inl rfl, h σ' a b⟩
  | inr p => exact fun σ' a => ⟨Or.inr rfl, h σ' a⟩
section Read6
variable {T : Nat → Nat} {n : Nat} {B : AM} {t : Tk} {σ0 σ : St} {Q : Int32 → St → Prop}
theorem cloud6 (hn : n ≤ 200) (ht : ∀ i, i < 200 → T i ≤ 255) (hT : ∀ i, i < 200 → σ0.1 1 i = nI (T i)) (h : SR n (exB 6 B) B t σ0 σ) (hv : VT n t) (q : PS n (one T n t 0 100 (fun v => sA B 5 v 1)) σ0 Q) : wX5_readCloud σ Q := by
  unfold wX5_readCloud
  refine ad6 hn ht hT h hv (fun σ1 h1 => ?_)
  have hv1 := (VT_lx T (n := n) (p := t.nx) hv.2.1).1
  unfold one at q
  generalize lx T n t.nx = t1 at h1 hv1 q
  refine num6 h1 hv1 (lo := 0) (hi := 100) rfl (by omega) (by omega) rfl (fun c => iF (by decide) ?_) (fun c => iT rfl ?_)
  · rw [if_pos c] at q
    have c2 := c.2.2
    rw [h1.2.2.2.2.2.1 c.1]
    refine ⟨vin (by omega) (by omega), ?_⟩
    rintro σ6 rfl
    rw [nIc (by omega)]
    exact end6 hn ht hT (h1.put (i := 5) (j := t1.v) (m := 1) (by omega) nar1 (by unfold c6; simp) (fun x y _ hy => Or.inl hy)) hv1 (PS_and q)
  · rw [if_neg c] at q
    exact q σ1 h1.1 h1.2.2.2.2.1
theorem easter6 (hn : n ≤ 200) (ht : ∀ i, i < 200 → T i ≤ 255) (hT : ∀ i, i < 200 → σ0.1 1 i = nI (T i)) (h : SR n (exB 6 B) B t σ0 σ) (hw : WB B) (hv : VT n t) (q : PS n (if B 0 5 = 0 then one T n t 1 61 (fun v => sA (sA B 0 3 v) 0 5 1) else bad t.pl) σ0 Q) : wX5_readEaster σ Q := by
  unfold wX5_readEaster
  have e0 : σ.1 9 10 = nI (B 0 5) := h.2.2.2.2.2.2 0 5 (by omega) (by unfold exB ex; simp)
  rw [e0]
  have := hw.2.2.2.2.2.2.1
  by_cases c0 : B 0 5 = 0
  · rw [if_pos c0] at q
    refine iT (by rw [c0]; rfl) (ad6 hn ht hT h hv (fun σ1 h1 => ?_))
    have hv1 := (VT_lx T (n := n) (p := t.nx) hv.2.1).1
    unfold one at q
    generalize lx T n t.nx = t1 at h1 hv1 q
    refine num6 h1 hv1 (lo := 1) (hi := 61) rfl (by omega) (by omega) rfl (fun c => iF (by decide) ?_) (fun c => iT rfl ?_)
    · rw [if_pos c] at q
      rintro σ6 rfl σ7 rfl
      have h2 : SR n (exB 6 B) (sA B 0 3 t1.v) t1 σ0 (up σ1 9 8 (σ1.1 2 5)) := h1.put (i := 0) (j := 3) (by omega) (h1.2.2.2.2.2.1 c.1) rfl (fun x y _ hy => Or.inl hy)
      exact end6 hn ht hT (h2.put (i := 0) (j := 5) (m := 1) (by omega) rfl rfl (fun x y _ hy => Or.inl hy)) hv1 (PS_and q)
    · rw [if_neg c] at q
      exact q σ1 h1.1 h1.2.2.2.2.1
  · rw [if_neg c0] at q
    exact iF (fun f => c0 ((nI_eq (b := 0) (by omega) (by omega)).mp f)) (q σ h.1 h.2.2.2.2.1)
theorem phase6 (hn : n ≤ 200) (ht : ∀ i, i < 200 → T i ≤ 255) (hT : ∀ i, i < 200 → σ0.1 1 i = nI (T i)) (h : SR n (exB 6 B) B t σ0 σ) (hw : WB B) (hv : VT n t) (q : PS n (if B 0 4 = 0 then one T n t 0 16 (fun v => sA (sA B 0 2 v) 0 4 1) else bad t.pl) σ0 Q) : wX5_readPhase σ Q := by
  unfold wX5_readPhase
  have e0 : σ.1 9 9 = nI (B 0 4) := h.2.2.2.2.2.2 0 4 (by omega) (by unfold exB ex; simp)
  rw [e0]
  have := hw.2.2.2.2.2.1
  by_cases c0 : B 0 4 = 0
  · rw [if_pos c0] at q
    refine iT (by rw [c0]; rfl) (ad6 hn ht hT h hv (fun σ1 h1 => ?_))
    have hv1 := (VT_lx T (n := n) (p := t.nx) hv.2.1).1
    unfold one at q
    generalize lx T n t.nx = t1 at h1 hv1 q
    refine num6 h1 hv1 (lo := 0) (hi := 16) rfl (by omega) (by omega) rfl (fun c => iF (by decide) ?_) (fun c => iT rfl ?_)
    · rw [if_pos c] at q
      rintro σ6 rfl σ7 rfl
      have h2 : SR n (exB 6 B) (sA B 0 2 t1.v) t1 σ0 (up σ1 9 7 (σ1.1 2 5)) := h1.put (i := 0) (j := 2) (by omega) (h1.2.2.2.2.2.1 c.1) rfl (fun x y _ hy => Or.inl hy)
      exact end6 hn ht hT (h2.put (i := 0) (j := 4) (m := 1) (by omega) rfl rfl (fun x y _ hy => Or.inl hy)) hv1 (PS_and q)
    · rw [if_neg c] at q
      exact q σ1 h1.1 h1.2.2.2.2.1
  · rw [if_neg c0] at q
    exact iF (fun f => c0 ((nI_eq (b := 0) (by omega) (by omega)).mp f)) (q σ h.1 h.2.2.2.2.1)
theorem farmer6 (hn : n ≤ 200) (ht : ∀ i, i < 200 → T i ≤ 255) (hT : ∀ i, i < 200 → σ0.1 1 i = nI (T i)) (h : SR n (exB 6 B) B t σ0 σ) (hw : WB B) (hv : VT n t) (q : PS n (if 5 ≤ B 0 0 then bad t.pl else two T n B t 1 2 0 0 100 1 5) σ0 Q) : wX5_readFarmer σ Q := by
  unfold wX5_readFarmer
  have e0 : σ.1 9 5 = nI (B 0 0) := h.2.2.2.2.2.2 0 0 (by omega) (by unfold exB ex; simp)
  have w1 := hw.1
  rintro x1 rfl
  rw [e0]
  by_cases c0 : 5 ≤ B 0 0
  · rw [if_pos c0] at q
    exact iF (nI_nlt (b := 5) c0 (by omega)) (q σ h.1 h.2.2.2.2.1)
  · rw [if_neg c0] at q
    refine iT (nI_lt (b := 5) (by omega) (by omega)) (ad6 hn ht hT h hv (fun σ1 h1 => ?_))
    have hv1 := (VT_lx T (n := n) (p := t.nx) hv.2.1).1
    unfold two at q
    generalize lx T n t.nx = t1 at h1 hv1 q
    refine num6 h1 hv1 (lo := 0) (hi := 100) rfl (by omega) (by omega) rfl (fun c => iF (by decide) ?_) (fun c => iT rfl ?_)
    · rw [if_pos c] at q
      refine ⟨vin (by omega) (by omega), ?_⟩
      rintro σ8 rfl
      rw [nIc (by omega)]
      have h2 : SR n (ex 6 (B 0 0 + 1) (B 0 0) (B 0 1) (B 0 1)) (sA B 1 (B 0 0) t1.v) t1 σ0 (up σ1 10 (B 0 0) (σ1.1 2 5)) := h1.put (i := 1) (j := B 0 0) (by omega) (h1.2.2.2.2.2.1 c.1) (by unfold c6; simp) (fun x y _ hy => ex_le (fun y h => by omega) (fun y h => by omega) (fun y h => by omega) (fun y h => by omega) (fun y h => by omega) hy)
      refine ad6 hn ht hT h2 hv1 (fun σ9 h3 => ?_)
      have hv2 := (VT_lx T (n := n) (p := t1.nx) hv1.2.1).1
      generalize lx T n t1.nx = t2 at h3 hv2 q
      refine num6 h3 hv2 (lo := 1) (hi := 5) rfl (by omega) (by omega) rfl (fun d => iF (by decide) ?_) (fun d => iT rfl ?_)
      · rw [if_pos d] at q
        refine ⟨vin (by omega) (by omega), ?_⟩
        rintro σ14 rfl
        have h4 : SR n (ex 6 (B 0 0 + 1) (B 0 0 + 1) (B 0 1) (B 0 1)) (sA (sA B 1 (B 0 0) t1.v) 2 (B 0 0) t2.v) t2 σ0 (up σ9 11 (B 0 0) (σ9.1 2 5)) := h3.put (i := 2) (j := B 0 0) (by omega) (h3.2.2.2.2.2.1 d.1) (by unfold c6; simp) (fun x y _ hy => ex_le (fun y h => by omega) (fun y h => by omega) (fun y h => by omega) (fun y h => by omega) (fun y h => by omega) hy)
        have e5 : (up σ9 11 (B 0 0) (σ9.1 2 5)).1 9 5 = nI (B 0 0) := h4.2.2.2.2.2.2 0 0 (by omega) (by unfold ex; simp)
        rintro σ15 rfl
        rw [e5, nI_1]
        exact end6 hn ht hT (h4.put (i := 0) (j := 0) (m := B 0 0 + 1) (by omega) rfl rfl (fun x y _ hy => Or.inl hy)) hv2 (PS_and q)
      · rw [if_neg d] at q
        exact q σ9 h3.1 h3.2.2.2.2.1
    · rw [if_neg c] at q
      exact q σ1 h1.1 h1.2.2.2.2.1
theorem strip6 (hn : n ≤ 200) (ht : ∀ i, i < 200 → T i ≤ 255) (hT : ∀ i, i < 200 → σ0.1 1 i = nI (T i)) (h : SR n (exB 6 B) B t σ0 σ) (hw : WB B) (hv : VT n t) (q : PS n (if 7 ≤ B 0 1 then bad t.pl else two T n B t 3 4 1 0 (B 0 0) 1 61) σ0 Q) : wX5_readStrip σ Q := by
  unfold wX5_readStrip
  have e0 : σ.1 9 6 = nI (B 0 1) := h.2.2.2.2.2.2 0 1 (by omega) (by unfold exB ex; simp)
  have w1 := hw.1
  have w2 := hw.2.1
  rintro x1 rfl
  rw [e0]
  by_cases c0 : 7 ≤ B 0 1
  · rw [if_pos c0] at q
    exact iF (nI_nlt (b := 7) c0 (by omega)) (q σ h.1 h.2.2.2.2.1)
  · rw [if_neg c0] at q
    refine iT (nI_lt (b := 7) (by omega) (by omega)) (ad6 hn ht hT h hv (fun σ1 h1 => ?_))
    have hv1 := (VT_lx T (n := n) (p := t.nx) hv.2.1).1
    unfold two at q
    generalize lx T n t.nx = t1 at h1 hv1 q
    have e1 : σ1.1 9 5 = nI (B 0 0) := h1.2.2.2.2.2.2 0 0 (by omega) (by unfold exB ex; simp)
    refine num6 h1 hv1 (lo := 0) (hi := B 0 0) rfl (by omega) (by omega) (by rw [e1]) (fun c => iF (by decide) ?_) (fun c => iT rfl ?_)
    · rw [if_pos c] at q
      refine ⟨vin (by omega) (by omega), ?_⟩
      rintro σ8 rfl
      rw [nIc (by omega)]
      have h2 : SR n (ex 6 (B 0 0) (B 0 0) (B 0 1 + 1) (B 0 1)) (sA B 3 (B 0 1) t1.v) t1 σ0 (up σ1 12 (B 0 1) (σ1.1 2 5)) := h1.put (i := 3) (j := B 0 1) (by omega) (h1.2.2.2.2.2.1 c.1) (by unfold c6; simp) (fun x y _ hy => ex_le (fun y h => by omega) (fun y h => by omega) (fun y h => by omega) (fun y h => by omega) (fun y h => by omega) hy)
      refine ad6 hn ht hT h2 hv1 (fun σ9 h3 => ?_)
      have hv2 := (VT_lx T (n := n) (p := t1.nx) hv1.2.1).1
      generalize lx T n t1.nx = t2 at h3 hv2 q
      refine num6 h3 hv2 (lo := 1) (hi := 61) rfl (by omega) (by omega) rfl (fun d => iF (by decide) ?_) (fun d => iT rfl ?_)
      · rw [if_pos d] at q
        refine ⟨vin (by omega) (by omega), ?_⟩
        rintro σ14 rfl
        have h4 : SR n (ex 6 (B 0 0) (B 0 0) (B 0 1 + 1) (B 0 1 + 1)) (sA (sA B 3 (B 0 1) t1.v) 4 (B 0 1) t2.v) t2 σ0 (up σ9 13 (B 0 1) (σ9.1 2 5)) := h3.put (i := 4) (j := B 0 1) (by omega) (h3.2.2.2.2.2.1 d.1) (by unfold c6; simp) (fun x y _ hy => ex_le (fun y h => by omega) (fun y h => by omega) (fun y h => by omega) (fun y h => by omega) (fun y h => by omega) hy)
        have e5 : (up σ9 13 (B 0 1) (σ9.1 2 5)).1 9 6 = nI (B 0 1) := h4.2.2.2.2.2.2 0 1 (by omega) (by unfold ex; simp)
        rintro σ15 rfl
        rw [e5, nI_1]
        exact end6 hn ht hT (h4.put (i := 0) (j := 1) (m := B 0 1 + 1) (by omega) rfl rfl (fun x y _ hy => Or.inl hy)) hv2 (PS_and q)
      · rw [if_neg d] at q
        exact q σ9 h3.1 h3.2.2.2.2.1
    · rw [if_neg c] at q
      exact q σ1 h1.1 h1.2.2.2.2.1
theorem item6 (hn : n ≤ 200) (ht : ∀ i, i < 200 → T i ≤ 255) (hT : ∀ i, i < 200 → σ0.1 1 i = nI (T i)) (h : SR n (exB 6 B) B t σ0 σ) (hw : WB B) (hv : VT n t) (q : PS n (item T n B t) σ0 Q) : wX5_readItem σ Q := by
  unfold wX5_readItem
  rintro x1 rfl
  have h4 := h.2.2.2.1
  unfold item at q
  by_cases c : t.k = 1
  · rw [if_pos c] at q
    have v4 := hv.2.2.2.1 c
    rw [h4.2.2.1 (Or.inl c)]
    have hlt : t.v < 2 ^ 31 := by unfold isL at v4; omega
    have ne : ∀ b, b < 2 ^ 31 → t.v ≠ b → ¬ nI t.v = nI b := fun b hb hne he => hne ((nI_eq hlt hb).mp he)
    by_cases f3 : t.v = 99
    · rw [if_neg (by omega), if_neg (by omega), if_pos f3] at q
      exact iT (by rw [f3]; rfl) (cloud6 hn ht hT h hv (PS_and q))
    refine iF (ne 99 (by omega) f3) ?_
    by_cases f5 : t.v = 101
    · rw [if_neg (by omega), if_neg (by omega), if_neg f3, if_neg (by omega)] at q
      exact iT (by rw [f5]; rfl) (easter6 hn ht hT h hw hv (PS_and q))
    refine iF (ne 101 (by omega) f5) ?_
    by_cases f1 : t.v = 102
    · rw [if_pos f1] at q
      exact iT (by rw [f1]; rfl) (farmer6 hn ht hT h hw hv (PS_and q))
    refine iF (ne 102 (by omega) f1) ?_
    rw [if_neg f1] at q
    by_cases f4 : t.v = 109
    · rw [if_neg (by omega), if_neg f3, if_pos f4] at q
      exact iT (by rw [f4]; rfl) (phase6 hn ht hT h hw hv (PS_and q))
    refine iF (ne 109 (by omega) f4) ?_
    by_cases f2 : t.v = 115
    · rw [if_pos f2] at q
      exact iT (by rw [f2]; rfl) (strip6 hn ht hT h hw hv (PS_and q))
    · unfold isL at v4
      omega
  · rw [if_neg c] at q
    have fin := q σ h.1 h.2.2.2.2.1
    have vs : σ.1 2 3 ≠ 99 ∧ σ.1 2 3 ≠ 101 ∧ σ.1 2 3 ≠ 102 ∧ σ.1 2 3 ≠ 109 ∧ σ.1 2 3 ≠ 115 := by
      have e1 : t.k = 0 ∨ t.k = 2 ∨ t.k = 3 ∨ t.k = 4 := by have := hv.2.2.2.2.2.2; omega
      rcases e1 with a | a | a | a
      · rw [h4.1 a]; decide
      · rw [h4.2.1 a]; decide
      · rw [h4.2.2.1 (Or.inr a), hv.2.2.2.2.1 a]; decide
      · have := h4.2.2.2 a
        exact ⟨this.2.2.1, this.2.2.2.1, this.2.2.2.2.1, this.2.2.2.2.2.1, this.2.2.2.2.2.2.1⟩
    exact iF vs.1 (iF vs.2.1 (iF vs.2.2.1 (iF vs.2.2.2.1 (iF vs.2.2.2.2 fin))))
end Read6
