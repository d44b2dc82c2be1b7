/-! a text, item by item -/
theorem sA_get {A : AM} {i j n : Nat} : sA A i j n i j = n := by unfold sA; rw [if_pos rfl, if_pos rfl]
theorem sA_ne {A : AM} {i j n a b : Nat} (h : ¬ (a = i ∧ b = j)) : sA A i j n a b = A a b := by
  unfold sA
  by_cases c : a = i
  · subst c; rw [if_pos rfl, if_neg (fun f => h ⟨rfl, f⟩)]
  · rw [if_neg c]
theorem sA_at {A : AM} {i j n a b : Nat} : sA A i j n a b = if a = i ∧ b = j then n else A a b := by
  by_cases h : a = i ∧ b = j
  · rw [if_pos h, h.1, h.2, sA_get]
  · rw [if_neg h, sA_ne h]
theorem fin_ok {T : Nat → Nat} {n : Nat} {B B' : AM} {t t' : Tk} (hv : VT n t) (h : fin T n B t = good B' t') : B' = B ∧ VT n t' ∧ t.nx < t'.pl := by
  unfold fin at h
  have ⟨h1, h2⟩ := VT_lx T (n := n) (p := t.nx) hv.2.1
  have ⟨h3, h4⟩ := VT_lx T (n := n) (p := (lx T n t.nx).nx) h1.2.1
  by_cases c : (lx T n t.nx).k = 3
  · rw [if_pos c] at h
    unfold good at h
    have e := Sum.inr.inj h
    have e1 : B = B' := congrArg Prod.fst e
    have e2 : lx T n (lx T n t.nx).nx = t' := congrArg Prod.snd e
    rw [← e2]
    have := h1.2.2.1 (by omega)
    exact ⟨e1.symm, h3, by omega⟩
  · rw [if_neg c] at h
    exact absurd h (by intro f; cases f)
theorem bad_ne {p : Nat} {B : AM} {t : Tk} (h : bad p = good B t) : False := by cases h
theorem one_ok {T : Nat → Nat} {n : Nat} {B' : AM} {w : Nat → AM} {t t' : Tk} {lo hi : Nat} (hv : VT n t) (h : one T n t lo hi w = good B' t') : ∃ v, lo ≤ v ∧ v < hi ∧ B' = w v ∧ VT n t' ∧ t.nx < t'.pl := by
  unfold one at h
  have ⟨h1, h2⟩ := VT_lx T (n := n) (p := t.nx) hv.2.1
  by_cases c : num (lx T n t.nx) lo hi
  · rw [if_pos c] at h
    have ⟨a, b, d⟩ := fin_ok h1 h
    have := h1.1
    exact ⟨_, c.2.1, c.2.2, a, b, by omega⟩
  · rw [if_neg c] at h
    exact (bad_ne h).elim
theorem two_ok {T : Nat → Nat} {n : Nat} {B B' : AM} {t t' : Tk} {i1 i2 j lo1 hi1 lo2 hi2 : Nat} (hv : VT n t) (h : two T n B t i1 i2 j lo1 hi1 lo2 hi2 = good B' t') : ∃ v w, lo1 ≤ v ∧ v < hi1 ∧ lo2 ≤ w ∧ w < hi2 ∧ B' = sA (sA (sA B i1 (B 0 j) v) i2 (B 0 j) w) 0 j (B 0 j + 1) ∧ VT n t' ∧ t.nx < t'.pl := by
  unfold two at h
  have ⟨h1, h2⟩ := VT_lx T (n := n) (p := t.nx) hv.2.1
  have ⟨h3, h4⟩ := VT_lx T (n := n) (p := (lx T n t.nx).nx) h1.2.1
  by_cases c : num (lx T n t.nx) lo1 hi1
  · rw [if_pos c] at h
    by_cases d : num (lx T n (lx T n t.nx).nx) lo2 hi2
    · rw [if_pos d] at h
      have ⟨a, b, e⟩ := fin_ok h3 h
      have := h1.1
      have := h3.1
      exact ⟨_, _, c.2.1, c.2.2, d.2.1, d.2.2, a, b, by omega⟩
    · rw [if_neg d] at h
      exact (bad_ne h).elim
  · rw [if_neg c] at h
    exact (bad_ne h).elim
theorem item_ok {T : Nat → Nat} {n : Nat} {B B' : AM} {t t' : Tk} (hw : WB B) (hv : VT n t) (h : item T n B t = good B' t') : WB B' ∧ VT n t' ∧ t.pl < t'.pl := by
  obtain ⟨w0, w1, w2, w3, w4, w5, w6, w7, w8, w9⟩ := hw
  have hv1 := hv.1
  unfold item at h
  by_cases c : t.k = 1
  · rw [if_pos c] at h
    by_cases f1 : t.v = 102
    · rw [if_pos f1] at h
      by_cases g : 5 ≤ B 0 0
      · rw [if_pos g] at h; exact (bad_ne h).elim
      rw [if_neg g] at h
      obtain ⟨v, w, a1, a2, a3, a4, rfl, a5, a6⟩ := two_ok hv h
      refine ⟨⟨?_, ?_, ?_, ?_, ?_, ?_, ?_, fun k hk => ?_, fun k hk => ?_, fun k hk => ?_⟩, a5, by omega⟩
      all_goals simp only [sA_at] at *
      all_goals simp at *
      all_goals (try omega)
      · by_cases q : k = B 0 0
        · subst q; simp; omega
        · have := w7 k (by omega)
          simp [q]; omega
      · have := w8 k hk
        omega
      · exact w9 k hk
    rw [if_neg f1] at h
    by_cases f2 : t.v = 115
    · rw [if_pos f2] at h
      by_cases g : 7 ≤ B 0 1
      · rw [if_pos g] at h; exact (bad_ne h).elim
      rw [if_neg g] at h
      obtain ⟨v, w, a1, a2, a3, a4, rfl, a5, a6⟩ := two_ok hv h
      refine ⟨⟨?_, ?_, ?_, ?_, ?_, ?_, ?_, fun k hk => ?_, fun k hk => ?_, fun k hk => ?_⟩, a5, by omega⟩
      all_goals simp only [sA_at] at *
      all_goals simp at *
      all_goals (try omega)
      · exact w7 k hk
      · by_cases q : k = B 0 1
        · subst q; simp; omega
        · have := w8 k (by omega)
          simp [q]; omega
      · exact w9 k hk
    rw [if_neg f2] at h
    by_cases f3 : t.v = 99
    · rw [if_pos f3] at h
      obtain ⟨v, a1, a2, rfl, a5, a6⟩ := one_ok hv h
      refine ⟨⟨?_, ?_, ?_, ?_, ?_, ?_, ?_, fun k hk => ?_, fun k hk => ?_, fun k hk => ?_⟩, a5, by omega⟩
      all_goals simp only [sA_at] at *
      all_goals simp at *
      all_goals (try omega)
      · exact w7 k hk
      · exact w8 k hk
      · have := w9 k hk
        split <;> omega
    rw [if_neg f3] at h
    by_cases f4 : t.v = 109
    · rw [if_pos f4] at h
      by_cases g : B 0 4 = 0
      · rw [if_pos g] at h
        obtain ⟨v, a1, a2, rfl, a5, a6⟩ := one_ok hv h
        refine ⟨⟨?_, ?_, ?_, ?_, ?_, ?_, ?_, fun k hk => ?_, fun k hk => ?_, fun k hk => ?_⟩, a5, by omega⟩
        all_goals simp only [sA_at] at *
        all_goals simp at *
        all_goals (try omega)
        · exact w7 k hk
        · exact w8 k hk
        · exact w9 k hk
      · rw [if_neg g] at h; exact (bad_ne h).elim
    · rw [if_neg f4] at h
      by_cases g : B 0 5 = 0
      · rw [if_pos g] at h
        obtain ⟨v, a1, a2, rfl, a5, a6⟩ := one_ok hv h
        refine ⟨⟨?_, ?_, ?_, ?_, ?_, ?_, ?_, fun k hk => ?_, fun k hk => ?_, fun k hk => ?_⟩, a5, by omega⟩
        all_goals simp only [sA_at] at *
        all_goals simp at *
        all_goals (try omega)
        · exact w7 k hk
        · exact w8 k hk
        · exact w9 k hk
      · rw [if_neg g] at h; exact (bad_ne h).elim
  · rw [if_neg c] at h
    exact (bad_ne h).elim
def run (T : Nat → Nat) (n : Nat) : Nat → AM → Tk → Nat → Nat ⊕ (AM × Nat)
  | 0, B, _, m => Sum.inr (B, m)
  | d + 1, B, t, m => if t.k = 0 then Sum.inr (B, m) else match item T n B t with
    | Sum.inl p => Sum.inl p
    | Sum.inr (B', t') => run T n d B' t' (m + 1)
/-- what stands when the class has read the text -/
def PR (n : Nat) (r : Nat ⊕ (AM × Nat)) (σ0 : St) (Q : Int32 → St → Prop) : Prop := match r with
  | Sum.inl p => ∀ σ', FR σ0 σ' → Q (-10 - nI p) σ'
  | Sum.inr (B, m) => WB B → m ≤ n → ∀ σ', FR σ0 σ' → GQ 9 c6 (exB 6 B) B σ' → Q (nI m) σ'
section Run6
variable {T : Nat → Nat} {n : Nat} {σ0 : St} {Q : Int32 → St → Prop}
theorem tok6 {e : Nat → Nat} {B : AM} {t : Tk} {σ : St} (h : SR n e B t σ0 σ) (hv : VT n t) : σ.1 2 3 = -1 ↔ t.k = 0 := by
  have h4 := h.2.2.2.1
  constructor
  · intro f
    rw [f] at h4
    have e1 : t.k = 0 ∨ t.k = 1 ∨ t.k = 2 ∨ t.k = 3 ∨ t.k = 4 := by have := hv.2.2.2.2.2.2; omega
    rcases e1 with a | a | a | a | a
    · exact a
    · have b := h4.2.2.1 (Or.inl a)
      have := hv.2.2.2.1 a
      unfold isL at this
      exact absurd (show nI t.v < 0 by rw [← b]; decide) (nI_pos (n := t.v) (by omega))
    · exact absurd (h4.2.1 a) (by decide)
    · have b := h4.2.2.1 (Or.inr a)
      rw [hv.2.2.2.2.1 a] at b
      exact absurd b (by decide)
    · exact absurd rfl (h4.2.2.2 a).1
  · exact h4.1
theorem run6 (hn : n ≤ 200) (ht : ∀ i, i < 200 → T i ≤ 255) (hT : ∀ i, i < 200 → σ0.1 1 i = nI (T i)) : ∀ (d m : Nat) (B : AM) (t : Tk) (σ : St), n < d + t.pl → m ≤ t.pl → SR n (exB 6 B) B t σ0 σ → WB B → VT n t → PR n (run T n d B t m) σ0 Q → Lp (lX5_read_15 Q) (d + 1) (nI m, σ) := by
  intro d
  induction d with
  | zero =>
    intro m B t σ hd hm h hw hv q
    have := hv.1
    have := hv.2.1
    omega
  | succ d ih =>
    intro m B t σ hd hm h hw hv q
    have a1 := hv.1
    have a2 := hv.2.1
    show bX5_read_15 _ (nI m) σ Q
    unfold bX5_read_15
    rw [h.2.1]
    refine iF (nI_nlt (by omega) (by omega)) ?_
    unfold run at q
    by_cases c : t.k = 0
    · rw [if_pos c] at q
      exact iT ((tok6 h hv).mpr c) (q hw (by omega) σ h.1 h.2.2.2.2.2.2)
    · rw [if_neg c] at q
      refine iF (fun f => c ((tok6 h hv).mp f)) (item6 hn ht hT h hw hv ?_)
      have ok := @item_ok T n B
      cases e : item T n B t with
      | inl p =>
        rw [e] at q
        intro σ' g1 g2
        refine iT rfl ?_
        rw [g2]
        exact q σ' g1
      | inr x =>
        obtain ⟨B', t'⟩ := x
        rw [e] at q
        intro σ' g1
        refine iF (by decide) ?_
        rintro x6 rfl
        rw [nI_1]
        have ⟨b1, b2, b3⟩ := ok hw hv e
        exact ih (m + 1) B' t' σ' (by omega) (by omega) g1 b1 b2 q
def B0 : AM := fun i j => if i = 0 ∧ j = 3 then 30 else 0
theorem WB0 : WB B0 := by
  refine ⟨by decide, by decide, by decide, by decide, by decide, by decide, by decide, fun k hk => absurd hk (by decide +revert), fun k hk => absurd hk (by decide +revert), fun k _ => ?_⟩
  unfold B0
  split <;> omega
def runT (T : Nat → Nat) (n : Nat) : Nat ⊕ (AM × Nat) := run T n (n + 1) B0 (lx T n 0) 0
theorem empty6 : ∀ (d k : Nat) (σ : St) (Q : St → Prop), k + d = 100 → (∀ σ', (∀ i, i ≠ 14 → σ'.1 i = σ.1 i) → σ'.2 = σ.2 → (∀ j, j < 100 → σ'.1 14 j = if k ≤ j then 0 else σ.1 14 j) → Q σ') → ∃ m, Lp (lX3_empty_33 9 Q) m (nI k, σ) := by
  intro d
  induction d with
  | zero =>
    intro k σ Q h q
    refine ⟨1, ?_⟩
    show bX3_empty_33 _ 9 (nI k) σ Q
    unfold bX3_empty_33
    exact iT (nI_lt (a := 99) (by omega) (by omega)) (q σ (fun _ _ => rfl) rfl (fun j hj => by rw [if_neg (by omega)]))
  | succ d ih =>
    intro k σ Q h q
    obtain ⟨m, hm⟩ := ih (k + 1) (up σ 14 k (vp_nar .boolean 0)) Q (by omega) (fun σ' h1 h2 h3 => q σ' (fun i hi => (h1 i hi).trans (up_ne hi)) h2 (fun j hj => by
      rw [h3 j hj, upg, nar0]
      by_cases c : k + 1 ≤ j
      · rw [if_pos c, if_pos (by omega)]
      · rw [if_neg c]
        by_cases e : j = k
        · rw [if_pos ⟨rfl, e⟩, if_pos (by omega)]
        · rw [if_neg (fun f => e f.2), if_neg (by omega)]))
    refine ⟨m + 1, ?_⟩
    show bX3_empty_33 _ 9 (nI k) σ Q
    unfold bX3_empty_33
    refine iF (nI_nlt (a := 99) (by omega) (by omega)) ⟨vin (by omega) (by omega), ?_⟩
    rw [nIc (by omega)]
    rintro σ3 rfl x4 rfl
    rw [nI_1]; exact hm
theorem read6 (hn : n ≤ 200) (ht : ∀ i, i < 200 → T i ≤ 255) (hT : ∀ i, i < 200 → σ0.1 1 i = nI (T i)) (h21 : σ0.1 2 1 = nI n) (q : PR n (runT T n) σ0 Q) : wX5_read σ0 Q := by
  rintro σ1 rfl σ2 rfl σ3 rfl σ4 rfl σ5 rfl σ6 rfl σ7 rfl
  refine empty6 100 0 _ _ (by omega) (fun σ' h1 h2 h3 => ?_)
  have hF : FR σ0 σ' := ⟨fun i a b => by rw [h1 i (by omega), up_ne (by omega), up_ne (by omega), up_ne (by omega), up_ne (by omega), up_ne (by omega), up_ne (by omega), up_ne a], h2, by rw [h1 2 (by omega)]; simp only [upg]; rfl⟩
  have hG : GQ 9 c6 (exB 6 B0) B0 σ' := by
    intro i j hi hj
    have e : exB 6 B0 i = if i = 0 then 6 else if i = 5 then 100 else 0 := by
      have : i = 0 ∨ i = 1 ∨ i = 2 ∨ i = 3 ∨ i = 4 ∨ i = 5 := by omega
      rcases this with rfl | rfl | rfl | rfl | rfl | rfl <;> rfl
    rw [e] at hj
    by_cases c : i = 0
    · subst c
      rw [if_pos rfl] at hj
      rw [h1 (9 + 0) (by omega)]
      have : j = 0 ∨ j = 1 ∨ j = 2 ∨ j = 3 ∨ j = 4 ∨ j = 5 := by omega
      rcases this with rfl | rfl | rfl | rfl | rfl | rfl <;> (simp only [upg]; rfl)
    · rw [if_neg c] at hj
      by_cases f : i = 5
      · subst f
        rw [if_pos rfl] at hj
        have : c6 5 + j = j := by unfold c6; simp
        rw [this, h3 j hj, if_pos (by omega)]
        unfold B0
        rw [if_neg (by omega)]; rfl
      · rw [if_neg f] at hj
        omega
  have hc : C2 σ' σ' n 0 := ⟨fun _ _ => rfl, rfl, hF.2.2.trans h21, by rw [h1 2 (by omega)]; simp only [upg]; rfl⟩
  refine adv6 hn ht (p := 0) (fun i hi => by rw [hF.1 1 (by omega) (by omega)]; exact hT i hi) (by omega) hc (fun σ9 g => ?_)
  obtain ⟨⟨g1, g2, g3, g4⟩, g5, g6, g7⟩ := g
  have ⟨v1, v2⟩ := VT_lx T (n := n) (p := 0) (by omega)
  exact ⟨n + 1 + 1, run6 hn ht hT (n + 1) 0 B0 (lx T n 0) σ9 (by omega) (by omega) ⟨⟨fun i a b => (g1 i a).trans (hF.1 i a b), g2.trans hF.2.1, g3.trans h21.symm⟩, g3, g4, g5, g6, g7, GQ_fr hG (fun i hi => g1 _ (by omega))⟩ WB0 v1 q⟩
end Run6
