/-! the model reads an item, a text -/
def st7 (i j : Nat) : Prop := (i = 92 ∧ ((4 ≤ j ∧ j ≤ 8) ∨ j = 10)) ∨ (i = 94 ∧ 4 ≤ j) ∨ i = 95 ∨ (i = 96 ∧ 5 ≤ j) ∨ i = 97 ∨ (i = 98 ∧ 7 ≤ j) ∨ (i = 99 ∧ 100 ≤ j)
def FM (σ0 σ : St) : Prop := (∀ i j, ¬ st7 i j → σ.1 i j = σ0.1 i j) ∧ σ.2 = σ0.2
def c7 (i : Nat) : Nat := if i = 0 then 4 else if i = 2 then 5 else if i = 4 then 7 else if i = 5 then 100 else 0
def SQ (e : Nat → Nat) (B : AM) (t : Tk) (σ0 σ : St) : Prop := FM σ0 σ ∧ σ.1 92 4 = nI t.nx ∧ σ.1 92 5 = nI t.k ∧ σ.1 92 6 = nI t.pl ∧ ((t.k = 1 ∨ t.k = 2 ∨ t.k = 3) → σ.1 92 7 = nI t.v) ∧ σ.1 92 8 = -1 ∧ σ.1 92 10 = nI (B 0 4 + 2 * B 0 5) ∧ GQ 94 c7 e B σ
def FQ (p : Nat) (σ0 σ : St) : Prop := FM σ0 σ ∧ σ.1 92 8 = nI p
def PT (r : RsT) (σ0 : St) (Z : St → Prop) : Prop := match r with
  | Sum.inl p => p ≤ 200 → ∀ σ', FQ p σ0 σ' → Z σ'
  | Sum.inr (B, t) => ∀ σ', SQ (exB 4 B) B t σ0 σ' → Z σ'
theorem FM.rf {σ : St} : FM σ σ := ⟨fun _ _ _ => rfl, rfl⟩
theorem FM.o {σ0 σ : St} {i j : Nat} {v : Int32} (h : FM σ0 σ) (hs : st7 i j) : FM σ0 (up σ i j v) := ⟨fun a b hab => by
  rw [upg, if_neg (fun f => hab (by rw [f.1, f.2]; exact hs))]
  exact h.1 a b hab, h.2⟩
theorem st_c7 {i j : Nat} (hi : i < 6) : st7 (94 + i) (c7 i + j) := by
  have : i = 0 ∨ i = 1 ∨ i = 2 ∨ i = 3 ∨ i = 4 ∨ i = 5 := by omega
  unfold st7
  rcases this with rfl | rfl | rfl | rfl | rfl | rfl <;> simp [c7]
section Item7
variable {T : Nat → Nat} {n : Nat} {e : Nat → Nat} {B : AM} {t : Tk} {σ0 σ : St}
theorem SQ.put {e' : Nat → Nat} {i j k m : Nat} {v : Int32} (h : SQ e B t σ0 σ) (hi : i < 6) (h0 : i = 0 → j < 4) (hv : v = nI m) (hk : k = c7 i + j) (he : ∀ x y, x < 6 → y < e' x → y < e x ∨ (x = i ∧ y = j)) : SQ e' (sA B i j m) t σ0 (up σ (94 + i) k v) := by
  subst hk
  obtain ⟨h1, h2, h3, h4, h5, h6, h7, h8⟩ := h
  have q : (up σ (94 + i) (c7 i + j) v).1 92 = σ.1 92 := up_ne (by omega)
  refine ⟨h1.o (st_c7 hi), by rw [q]; exact h2, by rw [q]; exact h3, by rw [q]; exact h4, fun f => by rw [q]; exact h5 f, by rw [q]; exact h6, ?_, GQ_up h8 hv he⟩
  rw [q, sA_ne (by omega), sA_ne (by omega)]
  exact h7
theorem SQ.bit {B' : AM} {v : Int32} (h : SQ e B t σ0 σ) (hB : ∀ i j, i < 6 → j < e i → B' i j = B i j) (hv : v = nI (B' 0 4 + 2 * B' 0 5)) : SQ e B' t σ0 (up σ 92 10 v) := by
  obtain ⟨h1, h2, h3, h4, h5, h6, h7, h8⟩ := h
  refine ⟨h1.o (by unfold st7; omega), (up_get_ne (by omega)).trans h2, (up_get_ne (by omega)).trans h3, (up_get_ne (by omega)).trans h4, fun f => (up_get_ne (by omega)).trans (h5 f), (up_get_ne (by omega)).trans h6, up_get.trans hv, ?_⟩
  intro i j hi hj
  rw [up_ne (by omega), hB i j hi hj]
  exact h8 i j hi hj
theorem FQ.put {p i j : Nat} {v : Int32} (h : FQ p σ0 σ) (hs : st7 i j) (hn : ¬ (i = 92 ∧ j = 8)) : FQ p σ0 (up σ i j v) := ⟨h.1.o hs, by rw [upg, if_neg (fun f => hn ⟨f.1.symm, f.2.symm⟩)]; exact h.2⟩
theorem well1 {Q : Int32 → St → Prop} (h : SQ e B t σ0 σ) (q : Q 1 σ) : wX7_isWell σ Q := by
  unfold wX7_isWell
  rw [h.2.2.2.2.2.1]
  exact iF (by decide) q
theorem well0 {Q : Int32 → St → Prop} {p : Nat} (hp : p ≤ 200) (h : FQ p σ0 σ) (q : Q 0 σ) : wX7_isWell σ Q := by
  unfold wX7_isWell
  rw [h.2]
  exact iT (show nI 0 ≤ nI p from nI_le (by omega) (by omega)) q
theorem ad7 (hn : n ≤ 200) (ht : ∀ i, i < 200 → T i ≤ 255) (hT : ∀ i, i < 200 → σ0.1 93 i = nI (T i)) (h3 : σ0.1 92 3 = nI n) {Q : St → Prop} (h : SQ e B t σ0 σ) (hv : VT n t) (q : ∀ σ', SQ e B (lx T n t.nx) σ0 σ' → Q σ') : wX7_advances σ Q := by
  obtain ⟨h1, h2, h4, h5, h6, h7, h8, h9⟩ := h
  refine adv7 hn ht (p := t.nx) (fun i hi => by rw [h1.1 93 i (by unfold st7; omega)]; exact hT i hi) (by rw [h1.1 92 3 (by unfold st7; omega)]; exact h3) hv.2.1 h2 (fun σ' g => ?_)
  obtain ⟨⟨g1, g2, g3⟩, g4, g5, g6, g7⟩ := g
  refine q σ' ⟨⟨fun i j hs => ?_, g2.trans h1.2⟩, g4, g5, g6, g7, (g3 8 (by omega)).trans h7, (g3 10 (by omega)).trans h8, GQ_fr h9 (fun i hi => g1 _ (by omega))⟩
  by_cases c : i = 92
  · subst c
    rw [g3 j (by unfold st7 at hs; omega)]
    exact h1.1 92 j hs
  · rw [g1 i c]; exact h1.1 i j hs
theorem tk1 (hn : n ≤ 200) (ht : ∀ i, i < 200 → T i ≤ 255) (hT : ∀ i, i < 200 → σ0.1 93 i = nI (T i)) (h3 : σ0.1 92 3 = nI n) {Q : Int32 → St → Prop} (h : SQ e B t σ0 σ) (hv : VT n t) (hk : t.k = 1 ∨ t.k = 2 ∨ t.k = 3) (q : ∀ σ', SQ e B (lx T n t.nx) σ0 σ' → Q (nI t.v) σ') : wX7_takes 1 σ Q := by
  refine well1 h (iF (by decide) (iF (by decide) ?_))
  rintro x5 rfl
  rw [h.2.2.2.2.1 hk]
  exact ad7 hn ht hT h3 h hv q
theorem tk0 {Q : Int32 → St → Prop} (h : SQ e B t σ0 σ) (q : ∀ σ', FQ t.pl σ0 σ' → Q 0 σ') : wX7_takes 0 σ Q := by
  refine well1 h (iF (by decide) (iT rfl ?_))
  rintro σ7 rfl
  exact q _ ⟨h.1.o (by unfold st7; omega), by rw [up_get]; exact h.2.2.2.1⟩
theorem tkF {Q : Int32 → St → Prop} {p : Nat} {x : Int32} (hp : p ≤ 200) (h : FQ p σ0 σ) (q : Q 0 σ) : wX7_takes x σ Q := well0 hp h (iT rfl q)
theorem numF {Q : Int32 → St → Prop} {p : Nat} {x y : Int32} (hp : p ≤ 200) (h : FQ p σ0 σ) (q : Q 0 σ) : wX7_number x y σ Q := by
  unfold wX7_number
  have k0 : bX7_number_25 σ Q := tkF hp h q
  have k1 : ∀ z, bX7_number_26 z σ Q := fun z => tkF hp h q
  refine ⟨fun _ => ?_, fun _ => k0⟩
  unfold wX7_in
  exact ⟨fun _ => ⟨fun _ => k0, fun _ => k1 1⟩, fun _ => ⟨fun _ => ⟨fun _ => k0, fun _ => k1 1⟩, fun _ => ⟨fun _ => k0, fun _ => k1 1⟩⟩⟩
theorem num7 (hn : n ≤ 200) (ht : ∀ i, i < 200 → T i ≤ 255) (hT : ∀ i, i < 200 → σ0.1 93 i = nI (T i)) (h3 : σ0.1 92 3 = nI n) {Q : Int32 → St → Prop} (h : SQ e B t σ0 σ) (hv : VT n t) {lo hi : Nat} {x y : Int32} (hx : x = nI lo) (hl : lo ≤ 200) (hh : hi ≤ 200) (hy : y = nI hi - 1) (q1 : num t lo hi → ∀ σ', SQ e B (lx T n t.nx) σ0 σ' → Q (nI t.v) σ') (q0 : ¬ num t lo hi → ∀ σ', FQ t.pl σ0 σ' → Q 0 σ') : wX7_number x y σ Q := by
  have k4 := hv.2.2.2.2.2.2
  unfold wX7_number
  rw [h.2.2.1]
  have k0 : ¬ num t lo hi → bX7_number_25 σ Q := fun hh => tk0 h (q0 hh)
  by_cases c : t.k = 2
  · refine iT (by rw [c]; rfl) ?_
    have v6 := hv.2.2.2.2.2.1 c
    rw [h.2.2.2.2.1 (by omega), hx]
    by_cases d : t.v < lo
    · exact in_n (Or.inl (nI_lt d (by omega))) (iT rfl (k0 (fun f => by have := f.2.1; omega)))
    · rcases Nat.eq_zero_or_pos hi with f | f
      · refine in_n (Or.inr ?_) (iT rfl (k0 (fun g => by have := g.2.2; omega)))
        rw [hy, f, Int32.lt_iff_toInt_lt, nI_toInt (by omega)]
        have : (nI 0 - 1).toInt = -1 := by decide
        omega
      · rw [hy, sub1 f]
        by_cases g : t.v < hi
        · exact in_y (nI_nlt (by omega) (by omega)) (nI_nlt (by omega) (by omega)) (iF (by decide) (tk1 hn ht hT h3 h hv (by omega) (q1 ⟨c, by omega, g⟩)))
        · exact in_n (Or.inr (nI_lt (by omega) (by omega))) (iT rfl (k0 (fun f => g f.2.2)))
  · exact iF (fun f => c ((nI_eq (b := 2) (by omega) (by omega)).mp f)) (k0 (fun g => c g.1))
theorem endF {R : Int32 × St → Prop} {Q : Int32 → St → Prop} {p m : Nat} (hp : p ≤ 200) (h : FQ p σ0 σ) (q : R (nI (m + 1), σ)) : bX7_parish_76 R (nI m) σ Q := by
  have k : ∀ z, bX7_parish_90 R (nI m) z σ Q := by
    intro z
    refine tkF hp h ?_
    rintro x3 rfl
    rw [nI_1]; exact q
  exact ⟨fun _ => k 1, fun _ => k 0⟩
theorem end7 (hn : n ≤ 200) (ht : ∀ i, i < 200 → T i ≤ 255) (hT : ∀ i, i < 200 → σ0.1 93 i = nI (T i)) (h3 : σ0.1 92 3 = nI n) {R : Int32 × St → Prop} {Q : Int32 → St → Prop} {m : Nat} (hv : VT n t) (h : SQ (exB 4 B) B (lx T n t.nx) σ0 σ) (q : PT (fin T n B t) σ0 (fun σ' => R (nI (m + 1), σ'))) : bX7_parish_76 R (nI m) σ Q := by
  have hv1 := (VT_lx T (n := n) (p := t.nx) hv.2.1).1
  unfold fin at q
  generalize lx T n t.nx = t1 at h hv1 q
  have k4 := hv1.2.2.2.2.2.2
  have k5 := hv1.1
  have k6 := hv1.2.1
  unfold bX7_parish_76
  rw [h.2.2.1]
  by_cases c : t1.k = 3
  · rw [if_pos c] at q
    refine iT (by rw [c]; rfl) (tk1 hn ht hT h3 h hv1 (by omega) (fun σ' h' => ?_))
    rintro x3 rfl
    rw [nI_1]
    exact q σ' h'
  · rw [if_neg c] at q
    refine iF (fun f => c ((nI_eq (b := 3) (by omega) (by omega)).mp f)) (tk0 h (fun σ' h' => ?_))
    rintro x3 rfl
    rw [nI_1]
    exact q (by omega) σ' h'
end Item7
