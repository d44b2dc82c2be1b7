/-! the model's reading, from the first letter to the last -/
def PM (r : Nat ⊕ (AM × Nat)) (σ0 : St) (Q : Int32 → St → Prop) : Prop := match r with
  | Sum.inl p => ∀ σ', FM σ0 σ' → Q (-10 - nI p) σ'
  | Sum.inr (B, m) => WB B → ∀ σ' t, SQ (exB 4 B) B t σ0 σ' → wX7_settles σ' (fun σ4 => Q (nI m) σ4)
section Par7
variable {T : Nat → Nat} {n : Nat} {σ0 : St} {Q : Int32 → St → Prop}
theorem p100F {σ : St} {p : Nat} {y : Int32} (hp : p ≤ 200) (h : FQ p σ0 σ) (q : Q (-10 - nI p) σ) : bX7_parish_100 y σ Q := by
  refine well0 hp h (iT rfl ?_)
  rw [h.2]; exact q
theorem loopF {σ : St} {p : Nat} {y : Int32} {R : Int32 × St → Prop} (hp : p ≤ 200) (h : FQ p σ0 σ) (q : Q (-10 - nI p) σ) : bX7_parish_25 R y σ Q := well0 hp h (iT rfl (p100F hp h q))
theorem p59F {e : Nat → Nat} {B : AM} {t : Tk} {σ : St} {m : Nat} {R : Int32 × St → Prop} (hp : t.pl ≤ 200) (h : SQ e B t σ0 σ) (q : ∀ σ', FQ t.pl σ0 σ' → R (nI (m + 1), σ')) : bX7_parish_59 R (nI m) σ Q := by
  unfold bX7_parish_59 bX7_parish_60
  refine tk0 h (fun σ' h' => ?_)
  exact well0 hp h' (iT rfl (endF hp h' (q σ' h')))
theorem p60 (hn : n ≤ 200) (ht : ∀ i, i < 200 → T i ≤ 255) (hT : ∀ i, i < 200 → σ0.1 93 i = nI (T i)) (h3 : σ0.1 92 3 = nI n) {e : Nat → Nat} {B : AM} {t : Tk} {σ : St} {m : Nat} {R : Int32 × St → Prop} (h : SQ e B t σ0 σ) (hv : VT n t) (hk : t.k = 1) (q : ∀ σ', SQ e B (lx T n t.nx) σ0 σ' → wX7_readsItem (nI t.v) σ' (fun σ6 => bX7_parish_76 R (nI m) σ6 Q)) : bX7_parish_60 R (nI m) 1 σ Q :=
  tk1 hn ht hT h3 h hv (by omega) (fun σ' h' => well1 h' (iF (by decide) (q σ' h')))
theorem and1 {a b : Nat} (ha : a ≤ 1) (hb : b ≤ 1) : ((nI (a + 2 * b) &&& 1) = 0 ↔ a = 0) ∧ ((nI (a + 2 * b) &&& 2) = 0 ↔ b = 0) := by
  have h1 : a = 0 ∨ a = 1 := by omega
  have h2 : b = 0 ∨ b = 1 := by omega
  rcases h1 with rfl | rfl <;> rcases h2 with rfl | rfl <;> decide
theorem run7 (hn : n ≤ 200) (ht : ∀ i, i < 200 → T i ≤ 255) (hT : ∀ i, i < 200 → σ0.1 93 i = nI (T i)) (h3 : σ0.1 92 3 = nI n) : ∀ (d m : Nat) (B : AM) (t : Tk) (σ : St), n < d + t.pl → SQ (exB 4 B) B t σ0 σ → WB B → VT n t → PM (run T n d B t m) σ0 Q → Lp (lX7_parish_25 Q) (d + 1) (nI m, σ) := by
  intro d
  induction d with
  | zero =>
    intro m B t σ hd h hw hv q
    have := hv.1
    have := hv.2.1
    omega
  | succ d ih =>
    intro m B t σ hd h hw hv q
    have a1 := hv.1
    have a2 := hv.2.1
    have a4 := hv.2.2.2.2.2.2
    show bX7_parish_25 (Lp (lX7_parish_25 Q) (d + 1)) (nI m) σ Q
    unfold bX7_parish_25
    refine well1 h (iF (by decide) ?_)
    rw [h.2.2.1]
    unfold run at q
    by_cases c : t.k = 0
    · rw [if_pos c] at q
      refine iT (by rw [c]; rfl) (well1 h (iF (by decide) ?_))
      exact q hw σ t h
    · rw [if_neg c] at q
      refine iF (fun f => c ((nI_eq (b := 0) (by omega) (by omega)).mp f)) ?_
      have ok := @item_ok T n B
      have key : PT (item T n B t) σ0 (fun σ' => Lp (lX7_parish_25 Q) (d + 1) (nI (m + 1), σ')) := by
        cases e : item T n B t with
        | inl p =>
          rw [e] at q
          intro hp σ' g
          exact loopF hp g (q σ' g.1)
        | inr x =>
          obtain ⟨B', t'⟩ := x
          rw [e] at q
          intro σ' g1
          have ⟨b1, b2, b3⟩ := ok hw hv e
          exact ih (m + 1) B' t' σ' (by omega) g1 b1 b2 q
      unfold item at key
      generalize Lp (lX7_parish_25 Q) (d + 1) = R at key
      have bd : PT (bad t.pl) σ0 (fun σ' => R (nI (m + 1), σ')) → bX7_parish_59 R (nI m) σ Q := fun k => p59F (by omega) h (k (by omega))
      by_cases k1 : t.k = 1
      · rw [if_pos k1] at key
        refine iT (by rw [k1]; rfl) ?_
        have v4 := hv.2.2.2.1 k1
        have hlt : t.v < 2 ^ 31 := by unfold isL at v4; omega
        have ne : ∀ b, b < 2 ^ 31 → t.v ≠ b → ¬ nI t.v = nI b := fun b hb hne he => hne ((nI_eq hlt hb).mp he)
        have go := @p60 T n σ0 Q hn ht hT h3 _ B t σ m R h hv k1
        have e0 : σ.1 94 4 = nI (B 0 0) := GQ_n7 h (j := 0) (by unfold exB ex; simp)
        have e1 : σ.1 94 5 = nI (B 0 1) := GQ_n7 h (j := 1) (by unfold exB ex; simp)
        obtain ⟨w0, w1, w2, w3, w4, w5, w6, w7, w8, w9⟩ := hw
        have an := and1 w5 w6
        unfold wX7_mayBegin bX7_mayBegin_18
        rw [h.2.2.2.2.1 (by omega), e0, e1, h.2.2.2.2.2.2.1]
        by_cases f1 : t.v = 102
        · rw [if_pos f1] at key
          refine iT (by rw [f1]; rfl) (iT (by rw [f1]; rfl) ?_)
          by_cases g : 5 ≤ B 0 0
          · rw [if_pos g] at key
            exact iT (nI_le (a := 5) g (by omega)) (iT rfl (bd key))
          · rw [if_neg g] at key
            refine iF (nI_ge (b := 5) (by omega) (by omega)) (iF (by decide) (go (fun σ' h' => ?_)))
            rw [f1]
            exact far7 hn ht hT h3 ⟨w0, w1, w2, w3, w4, w5, w6, w7, w8, w9⟩ hv h' (by omega) key
        rw [if_neg f1] at key
        refine iF (ne 102 (by omega) f1) ?_
        by_cases f2 : t.v = 115
        · rw [if_pos f2] at key
          refine iT (by rw [f2]; rfl) (iF (ne 102 (by omega) f1) ?_)
          by_cases g : 7 ≤ B 0 1
          · rw [if_pos g] at key
            exact iT (nI_le (a := 7) g (by omega)) (iT rfl (bd key))
          · rw [if_neg g] at key
            refine iF (nI_ge (b := 7) (by omega) (by omega)) (iF (by decide) (go (fun σ' h' => ?_)))
            rw [f2]
            exact str7 hn ht hT h3 ⟨w0, w1, w2, w3, w4, w5, w6, w7, w8, w9⟩ hv h' (by omega) key
        rw [if_neg f2] at key
        refine iF (ne 115 (by omega) f2) ?_
        by_cases f3 : t.v = 99
        · rw [if_pos f3] at key
          refine iT (by rw [f3]; rfl) (iF (by decide) (go (fun σ' h' => ?_)))
          rw [f3]
          exact clo7 hn ht hT h3 hv h' key
        rw [if_neg f3] at key
        refine iF (ne 99 (by omega) f3) ?_
        by_cases f4 : t.v = 109
        · rw [if_pos f4] at key
          refine iT (by rw [f4]; rfl) ?_
          by_cases g : B 0 4 = 0
          · rw [if_pos g] at key
            refine iT (an.1.mpr g) (iF (by decide) (go (fun σ' h' => ?_)))
            rw [f4]
            exact pha7 hn ht hT h3 ⟨w0, w1, w2, w3, w4, w5, w6, w7, w8, w9⟩ hv h' g key
          · rw [if_neg g] at key
            exact iF (fun f => g (an.1.mp f)) (iT rfl (bd key))
        · rw [if_neg f4] at key
          refine iF (ne 109 (by omega) f4) ?_
          have f5 : t.v = 101 := by unfold isL at v4; omega
          by_cases g : B 0 5 = 0
          · rw [if_pos g] at key
            refine iT (an.2.mpr g) (iF (by decide) (go (fun σ' h' => ?_)))
            rw [f5]
            exact eas7 hn ht hT h3 ⟨w0, w1, w2, w3, w4, w5, w6, w7, w8, w9⟩ hv h' g key
          · rw [if_neg g] at key
            exact iF (fun f => g (an.2.mp f)) (iT rfl (bd key))
      · rw [if_neg k1] at key
        exact iF (fun f => k1 ((nI_eq (b := 1) (by omega) (by omega)).mp f)) (bd key)
theorem begin7 : ∀ (d k : Nat) (σ : St) (Q : St → Prop), k + d = 200 → 100 ≤ k → (∀ σ', (∀ i, i ≠ 99 → σ'.1 i = σ.1 i) → σ'.2 = σ.2 → (∀ j, (j < k ∨ 200 ≤ j) → σ'.1 99 j = σ.1 99 j) → (∀ j, k ≤ j → j < 200 → σ'.1 99 j = 0) → Q σ') → ∃ m, Lp (lX7_begins_39 Q) m (nI k, σ) := by
  intro d
  induction d with
  | zero =>
    intro k σ Q h h1 q
    refine ⟨1, ?_⟩
    show bX7_begins_39 _ (nI k) σ Q
    unfold bX7_begins_39
    exact iT (nI_le (a := 200) (by omega) (by omega)) (q σ (fun _ _ => rfl) rfl (fun _ _ => rfl) (fun j _ _ => by omega))
  | succ d ih =>
    intro k σ Q h h1 q
    obtain ⟨m, hm⟩ := ih (k + 1) (up σ 99 k (vp_nar .boolean 0)) Q (by omega) (by omega) (fun σ' h1 h2 h3 h4 => q σ' (fun i hi => (h1 i hi).trans (up_ne hi)) h2 (fun j hj => (h3 j (by omega)).trans (up_get_ne (by omega))) (fun j hj hj2 => by
      by_cases e : j = k
      · subst e
        rw [h3 j (by omega), up_get, nar0]
      · exact h4 j (by omega) hj2))
    refine ⟨m + 1, ?_⟩
    show bX7_begins_39 _ (nI k) σ Q
    unfold bX7_begins_39
    refine iF (nI_ge (b := 200) (by omega) (by omega)) ⟨vin (by omega) (by omega), ?_⟩
    rw [nIc (by omega)]
    rintro σ3 rfl x4 rfl
    rw [nI_1]; exact hm
theorem par7 (hn : n ≤ 200) (ht : ∀ i, i < 200 → T i ≤ 255) {σ : St} (hT : ∀ i, i < 200 → σ.1 93 i = nI (T i)) (h3 : σ.1 92 3 = nI n) (q : PM (runT T n) (up σ 92 0 0) Q) : wX7_parish σ Q := by
  rintro σ1 rfl σ2 rfl σ3 rfl σ4 rfl σ5 rfl σ6 rfl σ7 rfl σ8 rfl
  refine begin7 100 100 _ _ (by omega) (by omega) (fun σ' h1 h2 h4 h5 => ?_)
  have hF : FM (up σ 92 0 0) σ' := by
    refine ⟨fun i j hs => ?_, h2⟩
    unfold st7 at hs
    by_cases c : i = 99
    · subst c
      rw [h4 j (by omega)]
      simp only [upg]
      simp
    · rw [h1 i c]
      simp only [upg]
      rw [if_neg (by omega), if_neg (by omega), if_neg (by omega), if_neg (by omega), if_neg (by omega), if_neg (by omega), if_neg (by omega)]
  have hG : GQ 94 c7 (exB 4 B0) B0 σ' := by
    intro i j hi hj
    have e : exB 4 B0 i = if i = 0 then 4 else if i = 5 then 100 else 0 := by
      have : i = 0 ∨ i = 1 ∨ i = 2 ∨ i = 3 ∨ i = 4 ∨ i = 5 := by omega
      rcases this with rfl | rfl | rfl | rfl | rfl | rfl <;> rfl
    rw [e] at hj
    by_cases c : i = 0
    · subst c
      rw [if_pos rfl] at hj
      rw [h1 (94 + 0) (by omega)]
      have : j = 0 ∨ j = 1 ∨ j = 2 ∨ j = 3 := by omega
      rcases this with rfl | rfl | rfl | rfl <;> (simp only [upg]; rfl)
    · rw [if_neg c] at hj
      by_cases f : i = 5
      · subst f
        rw [if_pos rfl] at hj
        have : c7 5 + j = 100 + j := by unfold c7; simp
        rw [this, h5 (100 + j) (by omega) (by omega)]
        unfold B0
        rw [if_neg (by omega)]; rfl
      · rw [if_neg f] at hj
        omega
  have u : ∀ j, σ'.1 92 j = if j = 10 then 0 else if j = 4 then 0 else if j = 8 then -1 else (up σ 92 0 0).1 92 j := by
    intro j
    rw [h1 92 (by omega)]
    simp only [upg]
    simp
  refine adv7 hn ht (p := 0) (fun i hi => by rw [hF.1 93 i (by unfold st7; omega), up_ne (by omega)]; exact hT i hi) (by rw [u, if_neg (by omega), if_neg (by omega), if_neg (by omega), up_get_ne (by omega)]; exact h3) (by omega) (by rw [u, if_neg (by omega), if_pos rfl]; rfl) (fun σ9 g => ?_)
  obtain ⟨⟨g1, g2, g3⟩, g4, g5, g6, g7⟩ := g
  have ⟨v1, v2⟩ := VT_lx T (n := n) (p := 0) (by omega)
  have hF9 : FM (up σ 92 0 0) σ9 := by
    refine ⟨fun i j hs => ?_, g2.trans hF.2⟩
    by_cases c : i = 92
    · subst c
      rw [g3 j (by unfold st7 at hs; omega)]
      exact hF.1 92 j hs
    · rw [g1 i c]; exact hF.1 i j hs
  exact ⟨n + 1 + 1, run7 (σ0 := up σ 92 0 0) hn ht (fun i hi => by rw [up_ne (by omega)]; exact hT i hi) (by rw [up_get_ne (by omega)]; exact h3) (n + 1) 0 B0 (lx T n 0) σ9 (by omega) ⟨hF9, g4, g5, g6, g7, by rw [g3 8 (by omega), u]; rfl, by rw [g3 10 (by omega), u]; rfl, GQ_fr hG (fun i hi => g1 _ (by omega))⟩ WB0 v1 q⟩
end Par7
