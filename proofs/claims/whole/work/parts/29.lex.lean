/-! the tokens of a text, as both sides find them -/
def Tk : Type := Nat × Nat × Nat × Nat
def Tk.k (t : Tk) : Nat := t.1
def Tk.pl (t : Tk) : Nat := t.2.1
def Tk.v (t : Tk) : Nat := t.2.2.1
def Tk.nx (t : Tk) : Nat := t.2.2.2
def mT (a b c d : Nat) : Tk := (a, b, c, d)
def sk (T : Nat → Nat) : Nat → Nat → Nat
  | 0, p => p
  | d + 1, p => if T p = 32 then sk T d (p + 1) else p
def dg (T : Nat → Nat) : Nat → Nat → Nat → Nat × Nat
  | 0, p, v => (p, v)
  | d + 1, p, v => if 48 ≤ T p ∧ T p ≤ 57 then dg T d (p + 1) (if v ≤ 99 then 10 * v + T p - 48 else v) else (p, v)
abbrev isL (c : Nat) : Prop := c = 102 ∨ c = 115 ∨ c = 99 ∨ c = 109 ∨ c = 101
def lxq (T : Nat → Nat) (n q : Nat) : Tk :=
  if n ≤ q then mT 0 q 0 q
  else if 48 ≤ T q ∧ T q ≤ 57 then mT (if 99 < (dg T (n - q) q 0).2 ∨ (T q = 48 ∧ 1 < (dg T (n - q) q 0).1 - q) then 4 else 2) q (dg T (n - q) q 0).2 (dg T (n - q) q 0).1
  else mT (if T q = 59 then 3 else if isL (T q) then 1 else 4) q (T q) (q + 1)
def lx (T : Nat → Nat) (n p : Nat) : Tk := lxq T n (sk T (n - p) p)
theorem sk_le (T : Nat → Nat) : ∀ d p, p ≤ sk T d p ∧ sk T d p ≤ p + d
  | 0, p => by simp only [sk]; omega
  | d + 1, p => by
      have := sk_le T d (p + 1)
      simp only [sk]
      split <;> omega
theorem dg_le (T : Nat → Nat) : ∀ d p v, p ≤ (dg T d p v).1 ∧ (dg T d p v).1 ≤ p + d
  | 0, p, v => by simp only [dg]; omega
  | d + 1, p, v => by
      simp only [dg]
      split
      · have := dg_le T d (p + 1) (if v ≤ 99 then 10 * v + T p - 48 else v)
        omega
      · exact ⟨Nat.le_refl _, by omega⟩
theorem dg_v (T : Nat → Nat) : ∀ d p v, v ≤ 999 → (dg T d p v).2 ≤ 999
  | 0, p, v, h => by simp only [dg]; omega
  | d + 1, p, v, h => by
      simp only [dg]
      split
      · exact dg_v T d (p + 1) _ (by split <;> omega)
      · exact h
theorem lx_f (T : Nat → Nat) (n p : Nat) (hp : p ≤ n) : p ≤ (lx T n p).pl ∧ (lx T n p).pl ≤ (lx T n p).nx ∧ (lx T n p).nx ≤ n ∧ ((lx T n p).k ≠ 0 → (lx T n p).pl < (lx T n p).nx) ∧ ((lx T n p).k = 1 → isL (lx T n p).v) ∧ ((lx T n p).k = 3 → (lx T n p).v = 59) ∧ ((lx T n p).k = 2 → (lx T n p).v ≤ 99) ∧ (lx T n p).k ≤ 4 := by
  unfold lx
  have hq := sk_le T (n - p) p
  generalize sk T (n - p) p = q at hq
  unfold lxq
  by_cases c : n ≤ q
  · rw [if_pos c]
    refine ⟨hq.1, Nat.le_refl _, ?_, fun e => absurd rfl e, fun e => ?_, fun e => ?_, fun e => ?_, Nat.zero_le _⟩
    · show q ≤ n; omega
    all_goals (exact absurd (show (0 : Nat) = _ from e) (by omega))
  · rw [if_neg c]
    by_cases e : 48 ≤ T q ∧ T q ≤ 57
    · rw [if_pos e]
      obtain ⟨m, hm⟩ : ∃ m, n - q = m + 1 := ⟨n - q - 1, by omega⟩
      have h1 : dg T (n - q) q 0 = dg T m (q + 1) (if 0 ≤ 99 then 10 * 0 + T q - 48 else 0) := by rw [hm]; simp only [dg, if_pos e]
      have h2 := dg_le T m (q + 1) (if 0 ≤ 99 then 10 * 0 + T q - 48 else 0)
      rw [← h1] at h2
      generalize dg T (n - q) q 0 = r at h2
      refine ⟨hq.1, ?_, ?_, fun _ => ?_, fun f => ?_, fun f => ?_, fun f => ?_, ?_⟩
      · show q ≤ r.1; omega
      · show r.1 ≤ n; omega
      · show q < r.1; omega
      · have f : (if 99 < r.2 ∨ (T q = 48 ∧ 1 < r.1 - q) then 4 else 2) = 1 := f
        split at f <;> omega
      · have f : (if 99 < r.2 ∨ (T q = 48 ∧ 1 < r.1 - q) then 4 else 2) = 3 := f
        split at f <;> omega
      · have f : (if 99 < r.2 ∨ (T q = 48 ∧ 1 < r.1 - q) then 4 else 2) = 2 := f
        show r.2 ≤ 99
        split at f <;> omega
      · show (if 99 < r.2 ∨ (T q = 48 ∧ 1 < r.1 - q) then 4 else 2) ≤ 4
        split <;> omega
    · rw [if_neg e]
      refine ⟨hq.1, ?_, ?_, fun _ => ?_, fun f => ?_, fun f => ?_, fun f => ?_, ?_⟩
      · show q ≤ q + 1; omega
      · show q + 1 ≤ n; omega
      · show q < q + 1; omega
      · have f : (if T q = 59 then 3 else if isL (T q) then 1 else 4) = 1 := f
        show isL (T q)
        split at f
        · omega
        · split at f
          · assumption
          · omega
      · have f : (if T q = 59 then 3 else if isL (T q) then 1 else 4) = 3 := f
        show T q = 59
        split at f
        · assumption
        · split at f <;> omega
      · have f : (if T q = 59 then 3 else if isL (T q) then 1 else 4) = 2 := f
        split at f
        · omega
        · split at f <;> omega
      · show (if T q = 59 then 3 else if isL (T q) then 1 else 4) ≤ 4
        split
        · omega
        · split <;> omega
/-! the class's reader -/
def C2 (σ σ' : St) (n p : Nat) : Prop := (∀ i, i ≠ 2 → σ'.1 i = σ.1 i) ∧ σ'.2 = σ.2 ∧ σ'.1 2 1 = nI n ∧ σ'.1 2 2 = nI p
def tcr (t : Tk) (x : Int32) : Prop := (t.k = 0 → x = -1) ∧ (t.k = 2 → x = -2) ∧ ((t.k = 1 ∨ t.k = 3) → x = nI t.v) ∧ (t.k = 4 → x ≠ -1 ∧ x ≠ -2 ∧ x ≠ 99 ∧ x ≠ 101 ∧ x ≠ 102 ∧ x ≠ 109 ∧ x ≠ 115 ∧ x ≠ 59)
def AC (n : Nat) (t : Tk) (σ σ' : St) : Prop := C2 σ σ' n t.nx ∧ tcr t (σ'.1 2 3) ∧ σ'.1 2 4 = nI t.pl ∧ (t.k = 2 → σ'.1 2 5 = nI t.v)
theorem C2.tr {σ τ υ : St} {n m p q : Nat} (h : C2 σ τ n p) (g : C2 τ υ m q) : C2 σ υ m q := ⟨fun i hi => (g.1 i hi).trans (h.1 i hi), g.2.1.trans h.2.1, g.2.2⟩
theorem C2.o {σ τ : St} {n p j : Nat} {v : Int32} (h : C2 σ τ n p) (h1 : j ≠ 1) (h2 : j ≠ 2) : C2 σ (up τ 2 j v) n p := ⟨fun i hi => (up_ne hi).trans (h.1 i hi), h.2.1, (up_get_ne (Ne.symm h1)).trans h.2.2.1, (up_get_ne (Ne.symm h2)).trans h.2.2.2⟩
theorem C2.at {σ τ : St} {n p q : Nat} {v : Int32} (h : C2 σ τ n p) (hv : v = nI q) : C2 σ (up τ 2 2 v) n q := ⟨fun i hi => (up_ne hi).trans (h.1 i hi), h.2.1, (up_get_ne (by omega)).trans h.2.2.1, up_get.trans hv⟩
section Lex
variable {T : Nat → Nat} {n : Nat} {Q : St → Prop}
theorem skip6 (hn : n ≤ 200) (ht : ∀ i, i < 200 → T i ≤ 255) {σ0 : St} (hT : ∀ i, i < 200 → σ0.1 1 i = nI (T i)) : ∀ (d p : Nat) (σ : St), p + d = n → C2 σ0 σ n p → (∀ σ', C2 σ0 σ' n (sk T d p) → bX5_advance_38 σ' Q) → ∃ m, Lp (lX5_advance_0 Q) m σ
  | 0, p, σ, h, hc, q => ⟨1, by
      show bX5_advance_0 _ σ Q
      unfold bX5_advance_0
      rw [hc.2.2.1, hc.2.2.2]
      exact iT (nI_le (by omega) (by omega)) (q σ hc)⟩
  | d + 1, p, σ, h, hc, q => by
      have e := ht p (by omega)
      by_cases c : T p = 32
      · have q2 : sk T (d + 1) p = sk T d (p + 1) := by simp only [sk, if_pos c]
        rw [q2] at q
        obtain ⟨m, hm⟩ := skip6 hn ht hT d (p + 1) (up σ 2 2 (nI (p + 1))) (by omega) (hc.at rfl) q
        refine ⟨m + 1, ?_⟩
        show bX5_advance_0 _ σ Q
        unfold bX5_advance_0
        rw [hc.2.2.1, hc.2.2.2, hc.1 1 (by omega), nIc (by omega), hT p (by omega), nI_1]
        refine iF (nI_ge (by omega) (by omega)) ⟨vin (by omega) (by omega), iT (by rw [c]; rfl) ?_⟩
        rintro σ4 rfl
        exact hm
      · have q2 : sk T (d + 1) p = p := by simp only [sk, if_neg c]
        rw [q2] at q
        refine ⟨1, ?_⟩
        show bX5_advance_0 _ σ Q
        unfold bX5_advance_0
        rw [hc.2.2.1, hc.2.2.2, hc.1 1 (by omega), nIc (by omega), hT p (by omega)]
        exact iF (nI_ge (by omega) (by omega)) ⟨vin (by omega) (by omega), iF (fun f => c ((nI_eq (b := 32) (by omega) (by omega)).mp f)) (q σ hc)⟩
theorem scan6 (hn : n ≤ 200) (ht : ∀ i, i < 200 → T i ≤ 255) {σ0 : St} (hT : ∀ i, i < 200 → σ0.1 1 i = nI (T i)) {x : Int32} : ∀ (d p v : Nat) (σ : St), p + d = n → v ≤ 999 → C2 σ0 σ n p → σ.1 2 4 = x → σ.1 2 5 = nI v → (∀ σ', C2 σ0 σ' n (dg T d p v).1 → σ'.1 2 4 = x → σ'.1 2 5 = nI (dg T d p v).2 → bX5_scanNumber_90 σ' Q) → ∃ m, Lp (lX5_scanNumber_5 Q) m σ
  | 0, p, v, σ, h, hv, hc, h4, h5, q => ⟨1, by
      show bX5_scanNumber_5 _ σ Q
      unfold bX5_scanNumber_5
      rw [hc.2.2.1, hc.2.2.2]
      exact iT (nI_le (by omega) (by omega)) (q σ hc h4 h5)⟩
  | d + 1, p, v, σ, h, hv, hc, h4, h5, q => by
      have e := ht p (by omega)
      by_cases c : 48 ≤ T p ∧ T p ≤ 57
      · have q2 : dg T (d + 1) p v = dg T d (p + 1) (if v ≤ 99 then 10 * v + T p - 48 else v) := by simp only [dg, if_pos c]
        rw [q2] at q
        by_cases f : v ≤ 99
        · rw [if_pos f] at q
          obtain ⟨m, hm⟩ := scan6 hn ht hT d (p + 1) (10 * v + T p - 48) (up (up σ 2 5 (nI (10 * v + T p - 48))) 2 2 (nI (p + 1))) (by omega) (by omega) ((hc.o (by omega) (by omega)).at rfl) (by rw [up_get_ne (by omega), up_get_ne (by omega)]; exact h4) (by rw [up_get_ne (by omega), up_get]) q
          refine ⟨m + 1, ?_⟩
          show bX5_scanNumber_5 _ σ Q
          unfold bX5_scanNumber_5
          rw [hc.2.2.1, hc.2.2.2, hc.1 1 (by omega), nIc (by omega), hT p (by omega), h5]
          refine iF (nI_ge (by omega) (by omega)) ⟨vin (by omega) (by omega), iF (nI_nlt (a := T p) (b := 48) c.1 (by omega)) ⟨vin (by omega) (by omega), iF (nI_nlt (a := 57) (b := T p) c.2 (by omega)) (iF (nI_nlt (a := 99) f (by omega)) ⟨vin (by omega) (by omega), ?_⟩)⟩⟩
          have e2 : nI v * 10 + nI (T p) - 48 = nI (10 * v + T p - 48) := by
            rw [show (10 : Int32) = nI 10 from rfl, nI_mul, nI_add, show (48 : Int32) = nI 48 from rfl, nI_sub (by omega), Nat.mul_comm]
          rw [e2]
          rintro σ8 rfl σ1 rfl
          rw [up_get_ne (by omega), hc.2.2.2, nI_1]
          exact hm
        · rw [if_neg f] at q
          obtain ⟨m, hm⟩ := scan6 hn ht hT d (p + 1) v (up σ 2 2 (nI (p + 1))) (by omega) hv (hc.at rfl) (by rw [up_get_ne (by omega)]; exact h4) (by rw [up_get_ne (by omega)]; exact h5) q
          refine ⟨m + 1, ?_⟩
          show bX5_scanNumber_5 _ σ Q
          unfold bX5_scanNumber_5
          rw [hc.2.2.1, hc.2.2.2, hc.1 1 (by omega), nIc (by omega), hT p (by omega), h5]
          refine iF (nI_ge (by omega) (by omega)) ⟨vin (by omega) (by omega), iF (nI_nlt (a := T p) (b := 48) c.1 (by omega)) ⟨vin (by omega) (by omega), iF (nI_nlt (a := 57) (b := T p) c.2 (by omega)) (iT (nI_lt (a := 99) (by omega) (by omega)) ?_)⟩⟩
          rintro σ1 rfl
          rw [hc.2.2.2, nI_1]
          exact hm
      · have q2 : dg T (d + 1) p v = (p, v) := by simp only [dg, if_neg c]
        rw [q2] at q
        refine ⟨1, ?_⟩
        show bX5_scanNumber_5 _ σ Q
        unfold bX5_scanNumber_5
        have fin := q σ hc h4 h5
        rw [hc.2.2.1, hc.2.2.2, hc.1 1 (by omega), nIc (by omega), hT p (by omega)]
        refine iF (nI_ge (by omega) (by omega)) ⟨vin (by omega) (by omega), ?_⟩
        by_cases f : T p < 48
        · exact iT (nI_lt (b := 48) f (by omega)) fin
        · exact iF (nI_nlt (a := T p) (b := 48) (by omega) (by omega)) ⟨vin (by omega) (by omega), iT (nI_lt (a := 57) (by omega) (by omega)) fin⟩
theorem adv6 (hn : n ≤ 200) (ht : ∀ i, i < 200 → T i ≤ 255) {σ0 : St} (hT : ∀ i, i < 200 → σ0.1 1 i = nI (T i)) {p : Nat} (hp : p ≤ n) (hc : C2 σ0 σ0 n p) (q : ∀ σ', AC n (lx T n p) σ0 σ' → Q σ') : wX5_advance σ0 Q := by
  unfold lx at q
  refine skip6 hn ht hT (n - p) p σ0 (by omega) hc (fun σ1 h1 => ?_)
  have hq := sk_le T (n - p) p
  generalize sk T (n - p) p = s at hq h1 q
  rintro σ2 rfl
  have h2 : C2 σ0 (up σ1 2 4 (σ1.1 2 2)) n s := h1.o (by omega) (by omega)
  have h4 : (up σ1 2 4 (σ1.1 2 2)).1 2 4 = nI s := by rw [up_get]; exact h1.2.2.2
  generalize up σ1 2 4 (σ1.1 2 2) = σ2 at h2 h4
  rw [h2.2.2.1, h2.2.2.2]
  unfold lxq at q
  by_cases c : n ≤ s
  · rw [if_pos c] at q
    refine iF (nI_nlt c (by omega)) ?_
    rintro σ8 rfl
    exact q _ ⟨h2.o (by omega) (by omega), ⟨fun _ => up_get, fun f => absurd (show (0 : Nat) = 2 from f) (by omega), fun f => absurd (show (0 : Nat) = 1 ∨ (0 : Nat) = 3 from f) (by omega), fun f => absurd (show (0 : Nat) = 4 from f) (by omega)⟩, (up_get_ne (by omega)).trans h4, fun f => absurd (show (0 : Nat) = 2 from f) (by omega)⟩
  · rw [if_neg c] at q
    have e := ht s (by omega)
    refine iT (nI_lt (by omega) (by omega)) ⟨vin (by omega) (by omega), ?_⟩
    rw [h2.1 1 (by omega), nIc (by omega), hT s (by omega)]
    by_cases dd : 48 ≤ T s ∧ T s ≤ 57
    · rw [if_pos dd] at q
      refine iF (nI_nlt (a := T s) (b := 48) dd.1 (by omega)) ⟨vin (by omega) (by omega), iF (nI_nlt (a := 57) (b := T s) dd.2 (by omega)) ?_⟩
      rintro σ3 rfl
      refine scan6 hn ht hT (x := nI s) (n - s) s 0 _ (by omega) (by omega) (h2.o (by omega) (by omega)) (by rw [up_get_ne (by omega)]; exact h4) up_get (fun σ4 h5 h6 h7 => ?_)
      have hd := dg_le T (n - s) s 0
      have hv := dg_v T (n - s) s 0 (by omega)
      generalize dg T (n - s) s 0 = r at h5 h7 q hd hv
      unfold bX5_scanNumber_90
      rw [h6, h5.2.2.2, h5.1 1 (by omega), nIc (by omega), hT s (by omega)]
      refine ⟨vin (by omega) (by omega), ?_⟩
      have w3 : (99 < r.2 ∨ (T s = 48 ∧ 1 < r.1 - s)) → bX5_scanNumber_137 σ4 Q := by
        intro hh
        rw [if_pos hh] at q
        rintro σ5 rfl
        refine q _ ⟨h5.o (by omega) (by omega), ⟨fun f => absurd (show (4 : Nat) = 0 from f) (by omega), fun f => absurd (show (4 : Nat) = 2 from f) (by omega), fun f => absurd (show (4 : Nat) = 1 ∨ (4 : Nat) = 3 from f) (by omega), fun _ => ?_⟩, (up_get_ne (by omega)).trans h6, fun f => absurd (show (4 : Nat) = 2 from f) (by omega)⟩
        rw [up_get]
        decide
      have w2 : ¬ (99 < r.2 ∨ (T s = 48 ∧ 1 < r.1 - s)) → bX5_scanNumber_144 (-2) σ4 Q := by
        intro hh
        rw [if_neg hh] at q
        rintro σ5 rfl
        exact q _ ⟨h5.o (by omega) (by omega), ⟨fun f => absurd (show (2 : Nat) = 0 from f) (by omega), fun _ => up_get, fun f => absurd (show (2 : Nat) = 1 ∨ (2 : Nat) = 3 from f) (by omega), fun f => absurd (show (2 : Nat) = 4 from f) (by omega)⟩, (up_get_ne (by omega)).trans h6, fun _ => (up_get_ne (by omega)).trans h7⟩
      have b1 : ¬ (T s = 48 ∧ 1 < r.1 - s) → bX5_scanNumber_121 σ4 Q := by
        intro hh
        refine iT rfl ?_
        rw [h7]
        by_cases g : r.2 ≤ 99
        · exact iT (nI_le (b := 99) g (by omega)) (w2 (by omega))
        · exact iF (nI_ge (a := 99) (by omega) (by omega)) (w3 (by omega))
      by_cases g : T s = 48
      · refine iT (by rw [g]; rfl) ?_
        rw [nI_sub (by omega)]
        by_cases i : r.1 - s ≤ 1
        · exact iT (nI_le (b := 1) i (by omega)) (b1 (by omega))
        · exact iF (nI_ge (a := 1) (by omega) (by omega)) (iF (by decide) (w3 (by omega)))
      · exact iF (fun f => g ((nI_eq (b := 48) (by omega) (by omega)).mp f)) (b1 (by omega))
    · rw [if_neg dd] at q
      have b1 : bX5_advance_100 σ2 Q := by
        unfold bX5_advance_100
        rw [h2.2.2.2, h2.1 1 (by omega), nIc (by omega), hT s (by omega)]
        refine ⟨vin (by omega) (by omega), ?_⟩
        rintro σ3 rfl σ4 rfl
        have h5 : C2 σ0 (up σ2 2 3 (nI (T s))) n s := h2.o (by omega) (by omega)
        refine q _ ⟨h5.at (by rw [h5.2.2.2, nI_1]; rfl), ?_, ?_, ?_⟩
        · rw [up_get_ne (by omega), up_get]
          refine ⟨fun f => ?_, fun f => ?_, fun _ => rfl, fun f => ?_⟩
          · have f : (if T s = 59 then 3 else if isL (T s) then 1 else 4) = 0 := f
            split at f
            · omega
            · split at f <;> omega
          · have f : (if T s = 59 then 3 else if isL (T s) then 1 else 4) = 2 := f
            split at f
            · omega
            · split at f <;> omega
          · have f : (if T s = 59 then 3 else if isL (T s) then 1 else 4) = 4 := f
            split at f
            · omega
            · rename_i n1
              split at f
              · omega
              · rename_i n2
                unfold isL at n2
                have g : ∀ b, b < 2 ^ 31 → T s ≠ b → nI (T s) ≠ nI b := fun b hb hne he => hne ((nI_eq (by omega) hb).mp he)
                refine ⟨fun f => ?_, fun f => ?_, g 99 (by omega) (by omega), g 101 (by omega) (by omega), g 102 (by omega) (by omega), g 109 (by omega) (by omega), g 115 (by omega) (by omega), g 59 (by omega) (by omega)⟩
                all_goals (exact nI_pos (n := T s) (by omega) (by rw [f]; decide))
        · rw [up_get_ne (by omega), up_get_ne (by omega)]; exact h4
        · intro f
          have f : (if T s = 59 then 3 else if isL (T s) then 1 else 4) = 2 := f
          split at f
          · omega
          · split at f <;> omega
      by_cases f : T s < 48
      · exact iT (nI_lt (b := 48) f (by omega)) b1
      · exact iF (nI_nlt (a := T s) (b := 48) (by omega) (by omega)) ⟨vin (by omega) (by omega), iT (nI_lt (a := 57) (by omega) (by omega)) b1⟩
end Lex
