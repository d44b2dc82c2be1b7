/-! an item of the text -/
def GQ (b : Nat) (co e : Nat → Nat) (B : AM) (σ : St) : Prop := ∀ i j, i < 6 → j < e i → σ.1 (b + i) (co i + j) = nI (B i j)
def ex (z a b c d i : Nat) : Nat := if i = 0 then z else if i = 1 then a else if i = 2 then b else if i = 3 then c else if i = 4 then d else 100
def exB (z : Nat) (B : AM) : Nat → Nat := ex z (B 0 0) (B 0 0) (B 0 1) (B 0 1)
theorem GQ_up {b : Nat} {co e e' : Nat → Nat} {B : AM} {σ : St} {i j n : Nat} {v : Int32} (h : GQ b co e B σ) (hv : v = nI n) (he : ∀ x y, x < 6 → y < e' x → y < e x ∨ (x = i ∧ y = j)) : GQ b co e' (sA B i j n) (up σ (b + i) (co i + j) v) := by
  intro x y hx hy
  rw [upg]
  unfold sA
  by_cases c : x = i
  · subst c
    rw [if_pos rfl]
    by_cases d : y = j
    · subst d
      rw [if_pos ⟨rfl, rfl⟩, if_pos rfl]; exact hv
    · rw [if_neg (fun f => d (by omega)), if_neg d]
      exact h x y hx ((he x y hx hy).resolve_right (fun f => d f.2))
  · rw [if_neg (fun f => c (by omega)), if_neg c]
    exact h x y hx ((he x y hx hy).resolve_right (fun f => c f.1))
theorem GQ_fr {b : Nat} {co e : Nat → Nat} {B : AM} {σ σ' : St} (h : GQ b co e B σ) (hf : ∀ i, i < 6 → σ'.1 (b + i) = σ.1 (b + i)) : GQ b co e B σ' := fun i j hi hj => by rw [hf i hi]; exact h i j hi hj
theorem GQ_e {b : Nat} {co e e' : Nat → Nat} {B : AM} {σ : St} (h : GQ b co e B σ) (he : ∀ i j, i < 6 → j < e' i → j < e i) : GQ b co e' B σ := fun i j hi hj => h i j hi (he i j hi hj)
theorem ex_le {z a b c d z' a' b' c' d' i j x y : Nat} (h0 : ∀ y, y < z' → y < z ∨ (0 = i ∧ y = j)) (h1 : ∀ y, y < a' → y < a ∨ (1 = i ∧ y = j)) (h2 : ∀ y, y < b' → y < b ∨ (2 = i ∧ y = j)) (h3 : ∀ y, y < c' → y < c ∨ (3 = i ∧ y = j)) (h4 : ∀ y, y < d' → y < d ∨ (4 = i ∧ y = j)) (hy : y < ex z' a' b' c' d' x) : y < ex z a b c d x ∨ (x = i ∧ y = j) := by
  unfold ex at hy ⊢
  by_cases c0 : x = 0
  · subst c0; exact h0 y hy
  by_cases c1 : x = 1
  · subst c1; exact h1 y hy
  by_cases c2 : x = 2
  · subst c2; exact h2 y hy
  by_cases c3 : x = 3
  · subst c3; exact h3 y hy
  by_cases c4 : x = 4
  · subst c4; exact h4 y hy
  rw [if_neg c0, if_neg c1, if_neg c2, if_neg c3, if_neg c4] at hy ⊢
  exact Or.inl hy
abbrev num (t : Tk) (lo hi : Nat) : Prop := t.k = 2 ∧ lo ≤ t.v ∧ t.v < hi
def RsT : Type := Nat ⊕ (AM × Tk)
def bad (p : Nat) : RsT := Sum.inl p
def good (B : AM) (t : Tk) : RsT := Sum.inr (B, t)
section Item
variable (T : Nat → Nat) (n : Nat)
def fin (B : AM) (t : Tk) : RsT := if (lx T n t.nx).k = 3 then good B (lx T n (lx T n t.nx).nx) else bad (lx T n t.nx).pl
def two (B : AM) (t : Tk) (i1 i2 j lo1 hi1 lo2 hi2 : Nat) : RsT :=
  if num (lx T n t.nx) lo1 hi1 then
    if num (lx T n (lx T n t.nx).nx) lo2 hi2 then fin T n (sA (sA (sA B i1 (B 0 j) (lx T n t.nx).v) i2 (B 0 j) (lx T n (lx T n t.nx).nx).v) 0 j (B 0 j + 1)) (lx T n (lx T n t.nx).nx)
    else bad (lx T n (lx T n t.nx).nx).pl
  else bad (lx T n t.nx).pl
def one (t : Tk) (lo hi : Nat) (w : Nat → AM) : RsT := if num (lx T n t.nx) lo hi then fin T n (w (lx T n t.nx).v) (lx T n t.nx) else bad (lx T n t.nx).pl
def item (B : AM) (t : Tk) : RsT :=
  if t.k = 1 then
    if t.v = 102 then (if 5 ≤ B 0 0 then bad t.pl else two T n B t 1 2 0 0 100 1 5)
    else if t.v = 115 then (if 7 ≤ B 0 1 then bad t.pl else two T n B t 3 4 1 0 (B 0 0) 1 61)
    else if t.v = 99 then one T n t 0 100 (fun v => sA B 5 v 1)
    else if t.v = 109 then (if B 0 4 = 0 then one T n t 0 16 (fun v => sA (sA B 0 2 v) 0 4 1) else bad t.pl)
    else (if B 0 5 = 0 then one T n t 1 61 (fun v => sA (sA B 0 3 v) 0 5 1) else bad t.pl)
  else bad t.pl
end Item
def VT (n : Nat) (t : Tk) : Prop := t.pl ≤ t.nx ∧ t.nx ≤ n ∧ (t.k ≠ 0 → t.pl < t.nx) ∧ (t.k = 1 → isL t.v) ∧ (t.k = 3 → t.v = 59) ∧ (t.k = 2 → t.v ≤ 99) ∧ t.k ≤ 4
theorem VT_lx (T : Nat → Nat) {n p : Nat} (hp : p ≤ n) : VT n (lx T n p) ∧ p ≤ (lx T n p).pl := by
  have h := lx_f T n p hp
  exact ⟨h.2, h.1⟩
def FR (σ0 σ : St) : Prop := (∀ i, i ≠ 2 → ¬ (9 ≤ i ∧ i ≤ 14) → σ.1 i = σ0.1 i) ∧ σ.2 = σ0.2 ∧ σ.1 2 1 = σ0.1 2 1
def c6 (i : Nat) : Nat := if i = 0 then 5 else 0
def SR (n : Nat) (e : Nat → Nat) (B : AM) (t : Tk) (σ0 σ : St) : Prop := FR σ0 σ ∧ σ.1 2 1 = nI n ∧ σ.1 2 2 = nI t.nx ∧ tcr t (σ.1 2 3) ∧ σ.1 2 4 = nI t.pl ∧ (t.k = 2 → σ.1 2 5 = nI t.v) ∧ GQ 9 c6 e B σ
def PS (n : Nat) (r : RsT) (σ0 : St) (Q : Int32 → St → Prop) : Prop := match r with
  | Sum.inl p => ∀ σ', FR σ0 σ' → σ'.1 2 4 = nI p → Q 0 σ'
  | Sum.inr (B, t) => ∀ σ', SR n (exB 6 B) B t σ0 σ' → Q 1 σ'
section Item6
variable {T : Nat → Nat} {n : Nat} {e : Nat → Nat} {B : AM} {t : Tk} {σ0 σ : St}
theorem FR.up {i j : Nat} {v : Int32} (h : FR σ0 σ) (hi : 9 ≤ i ∧ i ≤ 14) : FR σ0 (up σ i j v) := ⟨fun x h1 h2 => (up_ne (by omega)).trans (h.1 x h1 h2), h.2.1, by rw [up_ne (by omega)]; exact h.2.2⟩
theorem SR.put {e' : Nat → Nat} {i j k m : Nat} {v : Int32} (h : SR n e B t σ0 σ) (hi : i < 6) (hv : v = nI m) (hk : k = c6 i + j) (he : ∀ x y, x < 6 → y < e' x → y < e x ∨ (x = i ∧ y = j)) : SR n e' (sA B i j m) t σ0 (up σ (9 + i) k v) := by
  subst hk
  obtain ⟨h1, h2, h3, h4, h5, h6, h7⟩ := h
  have q : (up σ (9 + i) (c6 i + j) v).1 2 = σ.1 2 := up_ne (by omega)
  exact ⟨h1.up (by omega), by rw [q]; exact h2, by rw [q]; exact h3, by rw [q]; exact h4, by rw [q]; exact h5, fun f => by rw [q]; exact h6 f, GQ_up h7 hv he⟩
theorem ad6 (hn : n ≤ 200) (ht : ∀ i, i < 200 → T i ≤ 255) (hT : ∀ i, i < 200 → σ0.1 1 i = nI (T i)) {Q : St → Prop} (h : SR n e B t σ0 σ) (hv : VT n t) (q : ∀ σ', SR n e B (lx T n t.nx) σ0 σ' → Q σ') : wX5_advance σ Q := by
  obtain ⟨h1, h2, h3, h4, h5, h6, h7⟩ := h
  refine adv6 hn ht (p := t.nx) (fun i hi => by rw [h1.1 1 (by omega) (by omega)]; exact hT i hi) hv.2.1 ⟨fun _ _ => rfl, rfl, h2, h3⟩ (fun σ' g => ?_)
  obtain ⟨⟨g1, g2, g3, g4⟩, g5, g6, g7⟩ := g
  exact q σ' ⟨⟨fun i a b => (g1 i a).trans (h1.1 i a b), g2.trans h1.2.1, (g3.trans h2.symm).trans h1.2.2⟩, g3, g4, g5, g6, g7, GQ_fr h7 (fun i hi => g1 _ (by omega))⟩
theorem num6 {Q : Int32 → St → Prop} (h : SR n e B t σ0 σ) (hv : VT n t) {lo hi : Nat} {x y : Int32} (hx : x = nI lo) (hl : lo ≤ 200) (hh : hi ≤ 200) (hy : y = nI hi - 1) (q1 : num t lo hi → Q 1 σ) (q0 : ¬ num t lo hi → Q 0 σ) : wX5_readNumber x y σ Q := by
  obtain ⟨h1, h2, h3, h4, h5, h6, h7⟩ := h
  obtain ⟨v1, v2, v3, v4, v5, v6, v7⟩ := hv
  unfold wX5_readNumber
  by_cases c : t.k = 2
  · refine iT (h4.2.1 c) ?_
    have v6 := v6 c
    rw [h6 c, hx]
    by_cases d : t.v < lo
    · exact iT (nI_lt d (by omega)) (q0 (fun f => by have := f.2.1; omega))
    · refine iF (nI_nlt (by omega) (by omega)) ?_
      rcases Nat.eq_zero_or_pos hi with f | f
      · refine iT ?_ (q0 (fun g => by have := g.2.2; omega))
        rw [hy, f, Int32.lt_iff_toInt_lt, nI_toInt (by omega)]
        have : (nI 0 - 1).toInt = -1 := by decide
        omega
      · rw [hy, sub1 f]
        by_cases g : t.v < hi
        · exact iF (nI_nlt (by omega) (by omega)) (q1 ⟨c, by omega, g⟩)
        · exact iT (nI_lt (by omega) (by omega)) (q0 (fun f => g f.2.2))
  · refine iF (fun f => ?_) (q0 (fun g => c g.1))
    rw [f] at h4
    have e1 : t.k = 0 ∨ t.k = 1 ∨ t.k = 3 ∨ t.k = 4 := by omega
    rcases e1 with a | a | a | a
    · exact absurd (h4.1 a) (by decide)
    · have b := h4.2.2.1 (Or.inl a)
      have := v4 a
      unfold isL at this
      exact nI_pos (n := t.v) (by omega) (by rw [← b]; decide)
    · have b := h4.2.2.1 (Or.inr a)
      rw [v5 a] at b
      exact absurd b (by decide)
    · exact (h4.2.2.2 a).2.1 rfl
theorem end6 (hn : n ≤ 200) (ht : ∀ i, i < 200 → T i ≤ 255) (hT : ∀ i, i < 200 → σ0.1 1 i = nI (T i)) {Q : Int32 → St → Prop} (h : SR n (exB 6 B) B t σ0 σ) (hv : VT n t) (q : PS n (fin T n B t) σ0 Q) : wX5_readItemEnd σ Q := by
  unfold wX5_readItemEnd
  refine ad6 hn ht hT h hv (fun σ1 h1 => ?_)
  have hv1 := (VT_lx T (n := n) (p := t.nx) hv.2.1).1
  unfold fin at q
  generalize lx T n t.nx = t1 at h1 hv1 q
  obtain ⟨v1, v2, v3, v4, v5, v6, v7⟩ := hv1
  have h4 := h1.2.2.2.1
  by_cases c : t1.k = 3
  · rw [if_pos c] at q
    refine iT (by rw [h4.2.2.1 (Or.inr c), v5 c]; rfl) ?_
    exact ad6 hn ht hT h1 ⟨v1, v2, v3, v4, v5, v6, v7⟩ (fun σ2 h2 => q σ2 h2)
  · rw [if_neg c] at q
    refine iF (fun f => ?_) (q σ1 h1.1 h1.2.2.2.2.1)
    rw [f] at h4
    have e1 : t1.k = 0 ∨ t1.k = 1 ∨ t1.k = 2 ∨ t1.k = 4 := by omega
    rcases e1 with a | a | a | a
    · exact absurd (h4.1 a) (by decide)
    · have b := h4.2.2.1 (Or.inl a)
      have := v4 a
      unfold isL at this
      have := (nI_eq (a := 59) (by omega) (by omega)).mp b
      omega
    · exact absurd (h4.2.1 a) (by decide)
    · exact (h4.2.2.2 a).2.2.2.2.2.2.2 rfl
end Item6
