/-! the model's reader -/
def K7 (σ σ' : St) : Prop := (∀ i, i ≠ 92 → σ'.1 i = σ.1 i) ∧ σ'.2 = σ.2 ∧ ∀ j, j < 4 ∨ 7 < j → σ'.1 92 j = σ.1 92 j
def AM7 (t : Tk) (σ σ' : St) : Prop := K7 σ σ' ∧ σ'.1 92 4 = nI t.nx ∧ σ'.1 92 5 = nI t.k ∧ σ'.1 92 6 = nI t.pl ∧ ((t.k = 1 ∨ t.k = 2 ∨ t.k = 3) → σ'.1 92 7 = nI t.v)
theorem K7.rf {σ : St} : K7 σ σ := ⟨fun _ _ => rfl, rfl, fun _ _ => rfl⟩
theorem K7.o {σ τ : St} {j : Nat} {v : Int32} (h : K7 σ τ) (hj : 4 ≤ j ∧ j ≤ 7) : K7 σ (up τ 92 j v) := ⟨fun i hi => (up_ne hi).trans (h.1 i hi), h.2.1, fun i hi => (up_get_ne (by omega)).trans (h.2.2 i hi)⟩
theorem K7.tr {σ τ υ : St} (h : K7 σ τ) (g : K7 τ υ) : K7 σ υ := ⟨fun i hi => (g.1 i hi).trans (h.1 i hi), g.2.1.trans h.2.1, fun i hi => (g.2.2 i hi).trans (h.2.2 i hi)⟩
section Lex7
variable {T : Nat → Nat} {n : Nat}
theorem let7 (hn : n ≤ 200) {σ0 σ : St} (hT : ∀ i, i < 200 → σ0.1 93 i = nI (T i)) (h3 : σ0.1 92 3 = nI n) (hk : K7 σ0 σ) {p : Nat} (hp : p ≤ n) {Q : Int32 → St → Prop} (q1 : n ≤ p → Q (-1) σ) (q2 : p < n → Q (nI (T p)) σ) : wX7_letterAt (nI p) σ Q := by
  unfold wX7_letterAt
  rw [hk.2.2 3 (by omega), h3, hk.1 93 (by omega), nIc (by omega)]
  by_cases c : n ≤ p
  · exact iT (nI_le c (by omega)) (q1 c)
  · refine iF (nI_ge (by omega) (by omega)) ⟨vin (by omega) (by omega), ?_⟩
    rw [hT p (by omega)]
    exact q2 (by omega)
theorem isd7 {c : Nat} (hc : c ≤ 255) {σ : St} {Q : Int32 → St → Prop} (q1 : 48 ≤ c ∧ c ≤ 57 → Q 1 σ) (q0 : ¬ (48 ≤ c ∧ c ≤ 57) → Q 0 σ) : wX7_in (nI c) 48 57 σ Q := by
  by_cases d : 48 ≤ c ∧ c ≤ 57
  · exact in_y (nI_nlt (a := c) (b := 48) d.1 (by omega)) (nI_nlt (a := 57) (b := c) d.2 (by omega)) (q1 d)
  · refine in_n ?_ (q0 d)
    by_cases f : c < 48
    · exact Or.inl (nI_lt (b := 48) f (by omega))
    · exact Or.inr (nI_lt (a := 57) (by omega) (by omega))
variable {Q : St → Prop}
theorem scan7 (hn : n ≤ 200) (ht : ∀ i, i < 200 → T i ≤ 255) {σ0 : St} (hT : ∀ i, i < 200 → σ0.1 93 i = nI (T i)) (h3 : σ0.1 92 3 = nI n) {s c : Nat} (hc : c ≤ 255) : ∀ (d p v : Nat) (σ : St), p + d = n → s ≤ p → v ≤ 999 → K7 σ0 σ → σ.1 92 4 = nI p → σ.1 92 6 = nI s → σ.1 92 7 = nI v → (∀ σ', K7 σ0 σ' → σ'.1 92 4 = nI (dg T d p v).1 → σ'.1 92 6 = nI s → σ'.1 92 7 = nI (dg T d p v).2 → σ'.1 92 5 = nI (if 99 < (dg T d p v).2 ∨ (c = 48 ∧ 1 < (dg T d p v).1 - s) then 4 else 2) → Q σ') → ∃ m, Lp (lX7_advances_71 Q) m (nI c, σ) := by
  have out : ∀ (R : Int32 × St → Prop) (p v : Nat) (σ : St), p ≤ n → s ≤ p → v ≤ 999 → K7 σ0 σ → σ.1 92 4 = nI p → σ.1 92 6 = nI s → σ.1 92 7 = nI v → (∀ σ', K7 σ0 σ' → σ'.1 92 4 = nI p → σ'.1 92 6 = nI s → σ'.1 92 7 = nI v → σ'.1 92 5 = nI (if 99 < v ∨ (c = 48 ∧ 1 < p - s) then 4 else 2) → Q σ') → ((99 < (σ.1 92 7) → bX7_advances_170 σ Q) ∧ (¬ 99 < (σ.1 92 7) → ((nI c = 48 → ((((σ.1 92 4) - (σ.1 92 6)) ≤ 1 → bX7_advances_174 σ Q) ∧ (¬ ((σ.1 92 4) - (σ.1 92 6)) ≤ 1 → bX7_advances_170 σ Q))) ∧ (¬ nI c = 48 → bX7_advances_174 σ Q)))) := by
    intro R p v σ hp hs hv hk h4 h6 h7 q
    have w3 : (99 < v ∨ (c = 48 ∧ 1 < p - s)) → bX7_advances_170 σ Q := by
      intro hh
      rw [if_pos hh] at q
      rintro σ5 rfl
      exact q _ (hk.o (by omega)) ((up_get_ne (by omega)).trans h4) ((up_get_ne (by omega)).trans h6) ((up_get_ne (by omega)).trans h7) up_get
    have w2 : ¬ (99 < v ∨ (c = 48 ∧ 1 < p - s)) → bX7_advances_174 σ Q := by
      intro hh
      rw [if_neg hh] at q
      rintro σ5 rfl
      exact q _ (hk.o (by omega)) ((up_get_ne (by omega)).trans h4) ((up_get_ne (by omega)).trans h6) ((up_get_ne (by omega)).trans h7) up_get
    rw [h7, h4, h6, nI_sub (by omega)]
    by_cases f : 99 < v
    · exact iT (nI_lt (a := 99) f (by omega)) (w3 (by omega))
    · refine iF (nI_nlt (a := 99) (by omega) (by omega)) ?_
      by_cases g : c = 48
      · refine iT (by rw [g]; rfl) ?_
        by_cases i : p - s ≤ 1
        · exact iT (nI_le (b := 1) i (by omega)) (w2 (by omega))
        · exact iF (nI_ge (a := 1) (by omega) (by omega)) (w3 (by omega))
      · exact iF (fun f => g ((nI_eq (b := 48) (by omega) (by omega)).mp f)) (w2 (by omega))
  intro d
  induction d with
  | zero =>
    intro p v σ h hs hv hk h4 h6 h7 q
    refine ⟨1, ?_⟩
    show bX7_advances_71 _ (nI c) σ Q
    unfold bX7_advances_71
    rw [h4]
    refine let7 hn hT h3 hk (by omega) (fun _ => ?_) (fun f => absurd f (by omega))
    refine in_n (Or.inl (by decide)) (iT rfl ?_)
    exact out (Lp (lX7_advances_71 Q) 0) p v σ (by omega) hs hv hk h4 h6 h7 q
  | succ d ih =>
    intro p v σ h hs hv hk h4 h6 h7 q
    have e := ht p (by omega)
    by_cases g : 48 ≤ T p ∧ T p ≤ 57
    · have q2 : dg T (d + 1) p v = dg T d (p + 1) (if v ≤ 99 then 10 * v + T p - 48 else v) := by simp only [dg, if_pos g]
      rw [q2] at q
      have hv2 : (if v ≤ 99 then 10 * v + T p - 48 else v) ≤ 999 := by split <;> omega
      obtain ⟨m, hm⟩ := ih (p + 1) (if v ≤ 99 then 10 * v + T p - 48 else v) (up (up σ 92 7 (nI (if v ≤ 99 then 10 * v + T p - 48 else v))) 92 4 (nI (p + 1))) (by omega) (by omega) hv2 ((hk.o (by omega)).o (by omega)) up_get (by rw [up_get_ne (by omega), up_get_ne (by omega)]; exact h6) (by rw [up_get_ne (by omega), up_get]) q
      refine ⟨m + 1, ?_⟩
      show bX7_advances_71 _ (nI c) σ Q
      unfold bX7_advances_71
      rw [h4]
      refine let7 hn hT h3 hk (by omega) (fun f => absurd f (by omega)) (fun _ => ?_)
      refine isd7 e (fun _ => iF (by decide) ?_) (fun f => absurd g f)
      rw [h7]
      have fin : ∀ z : Int32, z = nI (if v ≤ 99 then 10 * v + T p - 48 else v) → bX7_advances_125 (Lp (lX7_advances_71 Q) m) (nI c) z σ Q := by
        rintro z rfl σ1 rfl σ2 rfl
        rw [up_get_ne (by omega), h4, nI_1]
        exact hm
      by_cases f : v ≤ 99
      · refine iT (nI_le (b := 99) f (by omega)) ?_
        rw [h4]
        refine let7 hn hT h3 hk (by omega) (fun f => absurd f (by omega)) (fun _ => ?_)
        refine fin _ ?_
        rw [if_pos f, show (10 : Int32) = nI 10 from rfl, nI_mul, nI_add, show (48 : Int32) = nI 48 from rfl, nI_sub (by omega)]
      · refine iF (nI_ge (a := 99) (by omega) (by omega)) (fin _ ?_)
        rw [if_neg f]
    · have q2 : dg T (d + 1) p v = (p, v) := by simp only [dg, if_neg g]
      rw [q2] at q
      refine ⟨1, ?_⟩
      show bX7_advances_71 _ (nI c) σ Q
      unfold bX7_advances_71
      rw [h4]
      refine let7 hn hT h3 hk (by omega) (fun f => absurd f (by omega)) (fun _ => ?_)
      refine isd7 e (fun f => absurd f g) (fun _ => iT rfl ?_)
      exact out (Lp (lX7_advances_71 Q) 0) p v σ (by omega) hs hv hk h4 h6 h7 q
theorem skip7 (hn : n ≤ 200) (ht : ∀ i, i < 200 → T i ≤ 255) {σ0 : St} (hT : ∀ i, i < 200 → σ0.1 93 i = nI (T i)) (h3 : σ0.1 92 3 = nI n) : ∀ (d p : Nat) (σ : St), p + d = n → K7 σ0 σ → σ.1 92 4 = nI p → (∀ σ', AM7 (lxq T n (sk T d p)) σ0 σ' → Q σ') → ∃ m, Lp (lX7_advances_0 Q) m σ := by
  intro d
  induction d with
  | zero =>
    intro p σ h hk h4 q
    refine ⟨1, ?_⟩
    show bX7_advances_0 _ σ Q
    unfold bX7_advances_0
    rw [h4]
    refine let7 hn hT h3 hk (by omega) (fun _ => ?_) (fun f => absurd f (by omega))
    refine iF (by decide) ?_
    rintro σ4 rfl
    rw [up_get_ne (by omega), h4]
    refine let7 hn hT h3 (hk.o (by omega)) (by omega) (fun _ => ?_) (fun f => absurd f (by omega))
    refine iF (by decide) ?_
    rintro σ18 rfl
    have e : lxq T n (sk T 0 p) = mT 0 p 0 p := by
      unfold lxq sk
      rw [if_pos (by omega)]
    rw [e] at q
    refine q _ ⟨(hk.o (by omega)).o (by omega), ?_, up_get, ?_, fun f => absurd (show (0 : Nat) = 1 ∨ (0 : Nat) = 2 ∨ (0 : Nat) = 3 from f) (by omega)⟩
    · rw [up_get_ne (by omega), up_get_ne (by omega)]; exact h4
    · rw [up_get_ne (by omega), up_get]; rfl
  | succ d ih =>
    intro p σ h hk h4 q
    have e := ht p (by omega)
    by_cases c : T p = 32
    · have q2 : sk T (d + 1) p = sk T d (p + 1) := by simp only [sk, if_pos c]
      rw [q2] at q
      obtain ⟨m, hm⟩ := ih (p + 1) (up σ 92 4 (nI (p + 1))) (by omega) (hk.o (by omega)) up_get q
      refine ⟨m + 1, ?_⟩
      show bX7_advances_0 _ σ Q
      unfold bX7_advances_0
      rw [h4]
      refine let7 hn hT h3 hk (by omega) (fun f => absurd f (by omega)) (fun _ => ?_)
      refine iT (by rw [c]; rfl) ?_
      rintro σ19 rfl
      rw [h4, nI_1]
      exact hm
    · have q2 : sk T (d + 1) p = p := by simp only [sk, if_neg c]
      rw [q2] at q
      refine ⟨1, ?_⟩
      show bX7_advances_0 _ σ Q
      unfold bX7_advances_0
      rw [h4]
      refine let7 hn hT h3 hk (by omega) (fun f => absurd f (by omega)) (fun _ => ?_)
      refine iF (fun f => c ((nI_eq (b := 32) (by omega) (by omega)).mp f)) ?_
      rintro σ4 rfl
      rw [up_get_ne (by omega), h4]
      have hk4 : K7 σ0 (up σ 92 6 (nI p)) := hk.o (by omega)
      have h44 : (up σ 92 6 (nI p)).1 92 4 = nI p := by rw [up_get_ne (by omega)]; exact h4
      have h64 : (up σ 92 6 (nI p)).1 92 6 = nI p := up_get
      generalize up σ 92 6 (nI p) = τ at hk4 h44 h64
      refine let7 hn hT h3 hk4 (by omega) (fun f => absurd f (by omega)) (fun _ => ?_)
      refine iT (show nI 0 ≤ nI (T p) from nI_le (by omega) (by omega)) ?_
      unfold lxq at q
      rw [if_neg (show ¬ n ≤ p by omega)] at q
      refine isd7 e (fun g => iF (by decide) ?_) (fun g => iT rfl ?_)
      · rw [if_pos g] at q
        rintro σ17 rfl
        refine scan7 hn ht hT h3 e (s := p) (n - p) p 0 _ (by omega) (by omega) (by omega) (hk4.o (by omega)) ((up_get_ne (by omega)).trans h44) ((up_get_ne (by omega)).trans h64) up_get (fun σ' a1 a2 a3 a4 a5 => ?_)
        exact q σ' ⟨a1, a2, a5, a3, fun _ => a4⟩
      · rw [if_neg g] at q
        rintro σ11 rfl σ12 rfl
        rw [h44, nI_1]
        have hk5 : K7 σ0 (up (up τ 92 4 (nI (p + 1))) 92 7 (nI (T p))) := (hk4.o (by omega)).o (by omega)
        have h45 : (up (up τ 92 4 (nI (p + 1))) 92 7 (nI (T p))).1 92 4 = nI (p + 1) := by rw [up_get_ne (by omega), up_get]
        have h65 : (up (up τ 92 4 (nI (p + 1))) 92 7 (nI (T p))).1 92 6 = nI p := by rw [up_get_ne (by omega), up_get_ne (by omega)]; exact h64
        have h75 : (up (up τ 92 4 (nI (p + 1))) 92 7 (nI (T p))).1 92 7 = nI (T p) := up_get
        generalize up (up τ 92 4 (nI (p + 1))) 92 7 (nI (T p)) = υ at hk5 h45 h65 h75
        have fin : ∀ z, z = (if T p = 59 then 3 else if isL (T p) then 1 else 4) → bX7_advances_219 (nI z) υ Q := by
          rintro z rfl σ1 rfl
          exact q _ ⟨hk5.o (by omega), (up_get_ne (by omega)).trans h45, up_get, (up_get_ne (by omega)).trans h65, fun _ => (up_get_ne (by omega)).trans h75⟩
        by_cases h59 : T p = 59
        · exact iT (by rw [h59]; rfl) (fin 3 (by rw [if_pos h59]))
        · rw [if_neg h59] at fin
          refine iF (fun f => h59 ((nI_eq (b := 59) (by omega) (by omega)).mp f)) ?_
          have g1 : isL (T p) → bX7_isLetter_30 υ (fun r15 σ14 => ((r15 = 0 → bX7_advances_219 4 σ14 Q) ∧ (¬ r15 = 0 → bX7_advances_219 1 σ14 Q))) := fun hh => iF (by decide) (fin 1 (by rw [if_pos hh]))
          have ne : ∀ b, b < 2 ^ 31 → T p ≠ b → ¬ nI (T p) = nI b := fun b hb hne he => hne ((nI_eq (by omega) hb).mp he)
          unfold wX7_isLetter
          by_cases f1 : T p = 102
          · exact iT (by rw [f1]; rfl) (g1 (by omega))
          refine iF (ne 102 (by omega) f1) ?_
          by_cases f2 : T p = 115
          · exact iT (by rw [f2]; rfl) (g1 (by omega))
          refine iF (ne 115 (by omega) f2) ?_
          by_cases f3 : T p = 99
          · exact iT (by rw [f3]; rfl) (g1 (by omega))
          refine iF (ne 99 (by omega) f3) ?_
          by_cases f4 : T p = 109
          · exact iT (by rw [f4]; rfl) (g1 (by omega))
          refine iF (ne 109 (by omega) f4) ?_
          by_cases f5 : T p = 101
          · exact iT (by rw [f5]; rfl) (g1 (by omega))
          exact iF (ne 101 (by omega) f5) (iT rfl (fin 4 (by rw [if_neg (by unfold isL; omega)])))
theorem adv7 (hn : n ≤ 200) (ht : ∀ i, i < 200 → T i ≤ 255) {σ : St} (hT : ∀ i, i < 200 → σ.1 93 i = nI (T i)) (h3 : σ.1 92 3 = nI n) {p : Nat} (hp : p ≤ n) (h4 : σ.1 92 4 = nI p) (q : ∀ σ', AM7 (lx T n p) σ σ' → Q σ') : wX7_advances σ Q :=
  skip7 hn ht hT h3 (n - p) p σ (by omega) K7.rf h4 q
end Lex7
