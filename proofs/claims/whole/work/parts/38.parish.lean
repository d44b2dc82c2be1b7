/-! parish(): the class exchanges the two parishes -/
def xch (σ : St) : St := (fun a => if 3 ≤ a ∧ a ≤ 8 then σ.1 (a + 6) else if 9 ≤ a ∧ a ≤ 14 then σ.1 (a - 6) else σ.1 a, σ.2)
def xc (σ : St) : St := xch σ
def wX6_parish (σ : St) (Q : Int32 → St → Prop) : Prop :=
  wX5_read σ (fun r1 σ1 => ((r1 < 0 → Q r1 σ1) ∧ (¬ r1 < 0 → (∀ σ2 : St, σ2 = up σ1 2 1 0 → (∀ σ3 : St, σ3 = up σ2 15 3 0 → wX4_begin 18 9 σ3 (fun σ4 => wX2_forgetAll σ4 (fun σ5 => (∀ σ6 : St, σ6 = up σ5 87 3 0 → (∀ σ7 : St, σ7 = up σ6 86 0 (vp_nar .boolean 0) → (∀ σ8 : St, σ8 = up σ7 86 1 (vp_nar .boolean 0) → Q r1 (xc σ8)))))))))))
section Begin5
variable {kq pq : Nat} {Q : St → Prop}
theorem beg57 (hkp : pq + 5 < kq) : ∀ (d k : Nat) (σ : St), k + d = 7 → (∀ σ', σ'.2 = σ.2 → (∀ i, i ≠ kq + 3 → i ≠ kq + 4 → σ'.1 i = σ.1 i) → (∀ j, j < k → σ'.1 (kq + 3) j = σ.1 (kq + 3) j ∧ σ'.1 (kq + 4) j = σ.1 (kq + 4) j) → (∀ j, k ≤ j → j < 7 → σ'.1 (kq + 3) j = σ.1 (pq + 3) j ∧ σ'.1 (kq + 4) j = σ.1 (pq + 4) j) → Q σ') → ∃ n, Lp (lX4_begin_57 kq pq Q) n (nI k, σ) := by
  intro d
  induction d with
  | zero =>
    intro k σ h q
    refine ⟨1, ?_⟩
    show bX4_begin_57 _ kq pq (nI k) σ Q
    unfold bX4_begin_57
    exact iT (nI_le (a := 7) (by omega) (by omega)) (q σ rfl (fun _ _ _ => rfl) (fun _ _ => ⟨rfl, rfl⟩) (fun j _ _ => by omega))
  | succ d ih =>
    intro k σ h q
    obtain ⟨m, hm⟩ := ih (k + 1) (up (up σ (kq + 3) k (σ.1 (pq + 3) k)) (kq + 4) k (σ.1 (pq + 4) k)) (by omega) (fun σ' h1 h2 h3 h4 => q σ' h1 (fun i a b => by rw [h2 i a b, up_ne b, up_ne a]) (fun j hj => by
      have := h3 j (by omega)
      rw [this.1, this.2, up_ne (by omega), up_get_ne (by omega), up_get_ne (by omega), up_ne (by omega)]
      exact ⟨rfl, rfl⟩) (fun j hj hj2 => by
      by_cases e : j = k
      · subst e
        have := h3 j (by omega)
        rw [this.1, this.2, up_get, up_ne (by omega), up_get]
        exact ⟨rfl, rfl⟩
      · have := h4 j (by omega) hj2
        rw [this.1, this.2, up_ne (by omega), up_ne (by omega), up_ne (by omega), up_ne (by omega)]
        exact ⟨rfl, rfl⟩))
    refine ⟨m + 1, ?_⟩
    show bX4_begin_57 _ kq pq (nI k) σ Q
    unfold bX4_begin_57
    rw [nIc (by omega)]
    refine iF (nI_ge (b := 7) (by omega) (by omega)) ⟨vin (by omega) (by omega), vin (by omega) (by omega), ?_⟩
    rintro σ4 rfl
    refine ⟨vin (by omega) (by omega), vin (by omega) (by omega), ?_⟩
    rw [up_ne (show pq + 4 ≠ kq + 3 by omega)]
    rintro σ7 rfl x8 rfl
    rw [nI_1]; exact hm
theorem beg24 (hkp : pq + 5 < kq) : ∀ (d k : Nat) (σ : St), k + d = 5 → (∀ σ', σ'.2 = σ.2 → (∀ i, i ≠ kq + 1 → i ≠ kq + 2 → σ'.1 i = σ.1 i) → (∀ j, j < k → σ'.1 (kq + 1) j = σ.1 (kq + 1) j ∧ σ'.1 (kq + 2) j = σ.1 (kq + 2) j) → (∀ j, k ≤ j → j < 5 → σ'.1 (kq + 1) j = σ.1 (pq + 1) j ∧ σ'.1 (kq + 2) j = -9) → ∃ n, Lp (lX4_begin_57 kq pq Q) n (0, σ')) → ∃ n, Lp (lX4_begin_24 kq pq Q) n (nI k, σ) := by
  intro d
  induction d with
  | zero =>
    intro k σ h q
    refine ⟨1, ?_⟩
    show bX4_begin_24 _ kq pq (nI k) σ Q
    unfold bX4_begin_24
    exact iT (nI_le (a := 5) (by omega) (by omega)) (q σ rfl (fun _ _ _ => rfl) (fun _ _ => ⟨rfl, rfl⟩) (fun j _ _ => by omega))
  | succ d ih =>
    intro k σ h q
    obtain ⟨m, hm⟩ := ih (k + 1) (up (up σ (kq + 1) k (σ.1 (pq + 1) k)) (kq + 2) k (-9)) (by omega) (fun σ' h1 h2 h3 h4 => q σ' h1 (fun i a b => by rw [h2 i a b, up_ne b, up_ne a]) (fun j hj => by
      have := h3 j (by omega)
      rw [this.1, this.2, up_ne (by omega), up_get_ne (by omega), up_get_ne (by omega), up_ne (by omega)]
      exact ⟨rfl, rfl⟩) (fun j hj hj2 => by
      by_cases e : j = k
      · subst e
        have := h3 j (by omega)
        rw [this.1, this.2, up_get, up_ne (by omega), up_get]
        exact ⟨rfl, rfl⟩
      · have := h4 j (by omega) hj2
        rw [this.1, this.2, up_ne (by omega), up_ne (by omega)]
        exact ⟨rfl, rfl⟩))
    refine ⟨m + 1, ?_⟩
    show bX4_begin_24 _ kq pq (nI k) σ Q
    unfold bX4_begin_24
    rw [nIc (by omega)]
    refine iF (nI_ge (b := 5) (by omega) (by omega)) ⟨vin (by omega) (by omega), vin (by omega) (by omega), ?_⟩
    rintro σ4 rfl
    refine ⟨vin (by omega) (by omega), ?_⟩
    rintro σ7 rfl x8 rfl
    rw [nI_1]; exact hm
theorem begin5 (hkp : pq + 5 < kq) {σ : St} (q : ∀ σ', σ'.2 = σ.2 → (∀ i, ¬ (kq ≤ i ∧ i ≤ kq + 4) → σ'.1 i = σ.1 i) → σ'.1 kq 4 = 0 → σ'.1 kq 5 = (1 <<< (σ.1 pq 5 &&& 31)) - 1 → σ'.1 kq 6 = 0 → (∀ j, j < 5 → σ'.1 (kq + 1) j = σ.1 (pq + 1) j ∧ σ'.1 (kq + 2) j = -9) → (∀ j, j < 7 → σ'.1 (kq + 3) j = σ.1 (pq + 3) j ∧ σ'.1 (kq + 4) j = σ.1 (pq + 4) j) → Q σ') : wX4_begin kq pq σ Q := by
  rintro σ1 rfl σ2 rfl σ3 rfl
  refine beg24 hkp 5 0 _ (by omega) (fun σ' h1 h2 _ h3 => beg57 hkp 7 0 σ' (by omega) (fun τ g1 g2 _ g3 => ?_))
  have u : τ.1 kq = (up (up (up σ kq 4 0) kq 5 ((1 <<< ((up σ kq 4 0).1 pq 5 &&& 31)) - 1)) kq 6 0).1 kq := by rw [g2 kq (by omega) (by omega), h2 kq (by omega) (by omega)]
  rw [up_ne (show pq ≠ kq by omega)] at u
  refine q τ (g1.trans h1) (fun i hi => ?_) ?_ ?_ ?_ (fun j hj => ?_) (fun j hj => ?_)
  · rw [g2 i (by omega) (by omega), h2 i (by omega) (by omega), up_ne (by omega), up_ne (by omega), up_ne (by omega)]
  · rw [u]; simp only [upg]; simp
  · rw [u]; simp only [upg]; simp
  · rw [u]; simp only [upg]; simp
  · have := h3 j (by omega) hj
    rw [g2 (kq + 1) (by omega) (by omega), g2 (kq + 2) (by omega) (by omega), this.1, this.2, up_ne (by omega), up_ne (by omega), up_ne (by omega)]
    exact ⟨rfl, rfl⟩
  · have := g3 j (by omega) hj
    rw [this.1, this.2, h2 (pq + 3) (by omega) (by omega), h2 (pq + 4) (by omega) (by omega), up_ne (by omega), up_ne (by omega), up_ne (by omega), up_ne (by omega), up_ne (by omega), up_ne (by omega)]
    exact ⟨rfl, rfl⟩
end Begin5
/-- the state that a text brings -/
def AP (A B : AM) : AM := fun i j => if i = 94 then B 0 j else if i = 96 then B 2 j else if i = 98 then B 4 j else if i = 99 then B 5 j
  else if i = 100 then (if 1 ≤ j ∧ j < 1 + B 0 0 then B 1 (j - 1) else if 6 ≤ j ∧ j < 6 + B 0 1 then B 4 (j - 6) else if 13 ≤ j ∧ j < 13 + B 0 1 then B 3 (j - 13) else if j = 20 then 2 ^ B 0 0 - 1 else 0)
  else if i = 92 then (if j = 3 ∨ j = 20 ∨ j = 24 then 0 else A 92 j) else if i = 102 then 0 else A i j
theorem shl1 {k : Nat} (h : k ≤ 5) : (1 <<< (nI k &&& 31)) - 1 = nI (2 ^ k - 1) := by
  have : k = 0 ∨ k = 1 ∨ k = 2 ∨ k = 3 ∨ k = 4 ∨ k = 5 := by omega
  rcases this with rfl | rfl | rfl | rfl | rfl | rfl <;> decide
section AP
variable {A B : AM}
theorem AP_q {k : Nat} (hB : WB B) (h : k < B 0 0) : AP A B 100 (1 + k) = B 1 k := by
  have := hB.1
  show (if 1 ≤ 1 + k ∧ 1 + k < 1 + B 0 0 then B 1 (1 + k - 1) else _) = _
  rw [if_pos (by omega), Nat.add_sub_cancel_left]
theorem AP_l {k : Nat} (hB : WB B) (h : k < B 0 1) : AP A B 100 (6 + k) = B 4 k := by
  have := hB.1
  show (if 1 ≤ 6 + k ∧ 6 + k < 1 + B 0 0 then _ else if 6 ≤ 6 + k ∧ 6 + k < 6 + B 0 1 then B 4 (6 + k - 6) else _) = _
  rw [if_neg (by omega), if_pos (by omega), Nat.add_sub_cancel_left]
theorem AP_w {k : Nat} (hB : WB B) (h : k < B 0 1) : AP A B 100 (13 + k) = B 3 k := by
  have := hB.1
  have := hB.2.1
  show (if 1 ≤ 13 + k ∧ 13 + k < 1 + B 0 0 then _ else if 6 ≤ 13 + k ∧ 13 + k < 6 + B 0 1 then _ else if 13 ≤ 13 + k ∧ 13 + k < 13 + B 0 1 then B 3 (13 + k - 13) else _) = _
  rw [if_neg (by omega), if_neg (by omega), if_pos (by omega), Nat.add_sub_cancel_left]
theorem AP_n (hB : WB B) : AP A B 100 20 = 2 ^ B 0 0 - 1 := by
  have := hB.1
  have := hB.2.1
  show (if 1 ≤ 20 ∧ 20 < 1 + B 0 0 then _ else if 6 ≤ 20 ∧ 20 < 6 + B 0 1 then _ else if 13 ≤ 20 ∧ 20 < 13 + B 0 1 then _ else if 20 = 20 then _ else _) = _
  rw [if_neg (by omega), if_neg (by omega), if_neg (by omega), if_pos rfl]
theorem AP_0 (hB : WB B) {j : Nat} (h1 : ¬ (1 ≤ j ∧ j < 1 + B 0 0)) (h2 : ¬ (6 ≤ j ∧ j < 6 + B 0 1)) (h3 : ¬ (13 ≤ j ∧ j < 13 + B 0 1)) (h4 : j ≠ 20) : AP A B 100 j = 0 := by
  show (if 1 ≤ j ∧ j < 1 + B 0 0 then _ else if 6 ≤ j ∧ j < 6 + B 0 1 then _ else if 13 ≤ j ∧ j < 13 + B 0 1 then _ else if j = 20 then _ else _) = _
  rw [if_neg h1, if_neg h2, if_neg h3, if_neg h4]
theorem p2k {k : Nat} (h : k ≤ 5) : 2 ^ k - 1 < 2 ^ k ∧ 2 ^ k ≤ 32 := by
  have : k = 0 ∨ k = 1 ∨ k = 2 ∨ k = 3 ∨ k = 4 ∨ k = 5 := by omega
  rcases this with rfl | rfl | rfl | rfl | rfl | rfl <;> decide
theorem WF_AP (hA : WF A) (hB : WB B) : WF (AP A B) := by
  have hB0 := hB
  obtain ⟨w0, w1, w2, w3, w4, w5, w6, w7, w8, w9⟩ := hB
  have p2 := p2k w0
  refine ⟨w0, w1, w2, w3, w4, fun k hk => (w7 k hk).2, fun k hk => (w8 k hk).2, w9, ⟨?_, ?_, ?_, fun k hk => ?_, fun k hk => ?_, fun j hj => ?_⟩, Nat.zero_le _, fun j hj => absurd hj (Nat.not_lt_zero j), fun i hi => ⟨Nat.zero_le _, fun f => absurd (show (0 : Nat) = 1 from f) (by omega)⟩, Nat.zero_le _, fun j hj => absurd hj (Nat.not_lt_zero j), Nat.zero_le _, hA.2.2.2.2.2.2.2.2.2.2.2.2.2.2.2⟩
  · rw [AP_0 hB0 (by omega) (by omega) (by omega) (by omega)]; omega
  · rw [AP_n hB0]; exact p2.1
  · rw [AP_0 hB0 (by omega) (by omega) (by omega) (by omega)]; show 0 < 2 ^ B 0 0; omega
  · have hk : k < B 0 0 := hk
    exact Or.inl (AP_0 hB0 (by omega) (by omega) (by omega) (by omega))
  · have hk : k < B 0 1 := hk
    rw [AP_w hB0 hk, AP_l hB0 hk]
    exact w8 k hk
  · by_cases h1 : 1 ≤ j ∧ j < 1 + B 0 0
    · obtain ⟨k, rfl⟩ : ∃ k, j = 1 + k := ⟨j - 1, by omega⟩
      rw [AP_q hB0 (by omega)]
      have := (w7 k (by omega)).1
      omega
    by_cases h2 : 6 ≤ j ∧ j < 6 + B 0 1
    · obtain ⟨k, rfl⟩ : ∃ k, j = 6 + k := ⟨j - 6, by omega⟩
      rw [AP_l hB0 (by omega)]
      have := (w8 k (by omega)).2
      omega
    by_cases h3 : 13 ≤ j ∧ j < 13 + B 0 1
    · obtain ⟨k, rfl⟩ : ∃ k, j = 13 + k := ⟨j - 13, by omega⟩
      rw [AP_w hB0 (by omega)]
      have := (w8 k (by omega)).1
      omega
    by_cases h4 : j = 20
    · subst h4; rw [AP_n hB0]; omega
    · rw [AP_0 hB0 h1 h2 h3 h4]; omega
end AP
theorem settles7 {A B : AM} {t : Tk} {σ0 σ : St} {Q : St → Prop} (hA : RM A σ0) (hB : WB B) (h : SQ (exB 4 B) B t σ0 σ) (q : ∀ σ', SC σ0 σ' → σ'.2 = σ0.2 → RM (AP A B) σ' → Q σ') : wX7_settles σ Q := by
  have hG := h.2.2.2.2.2.2.2
  have hF := h.1
  have w0 := hB.1
  have w1 := hB.2.1
  have g0 : ∀ j, j < 4 → σ.1 94 (4 + j) = nI (B 0 j) := fun j hj => hG 0 j (by omega) hj
  have g1 : ∀ j, j < B 0 0 → σ.1 95 j = nI (B 1 j) := fun j hj => by
    have := hG 1 j (by omega) hj
    rw [show c7 1 + j = j from Nat.zero_add j] at this; exact this
  have g2 : ∀ j, j < B 0 0 → σ.1 96 (5 + j) = nI (B 2 j) := fun j hj => hG 2 j (by omega) hj
  have g3 : ∀ j, j < B 0 1 → σ.1 97 j = nI (B 3 j) := fun j hj => by
    have := hG 3 j (by omega) hj
    rw [show c7 3 + j = j from Nat.zero_add j] at this; exact this
  have g4 : ∀ j, j < B 0 1 → σ.1 98 (7 + j) = nI (B 4 j) := fun j hj => hG 4 j (by omega) hj
  have g5 : ∀ j, j < 100 → σ.1 99 (100 + j) = nI (B 5 j) := fun j hj => hG 5 j (by omega) hj
  refine set2 4 0 σ (by omega) (fun σ1 a1 a2 a3 => set29 27 0 σ1 (by omega) (fun σ2 b1 b2 b3 => set50 100 0 σ2 (by omega) (fun j hj => ⟨B 5 j, hB.2.2.2.2.2.2.2.2.2 j hj, ?_⟩) (fun σ3 c1 c2 c3 => set79 w0 5 0 σ3 (by omega) ?_ (fun σ4 d1 d2 d3 => set134 (nf := B 0 0) w1 7 0 σ4 (by omega) ?_ ?_ (fun σ5 e1 e2 e3 e4 e5 e6 e7 e8 e9 => ?_)))))
  · rw [b2 99 _ (by omega), a2 99 _ (by omega)]; exact g5 j hj
  · rw [c2 94 0 (by omega), b2 94 0 (by omega), a3 0 (by omega) (by omega)]; exact g0 0 (by omega)
  · rw [d2 94 1 (by omega) (by omega), c2 94 1 (by omega), b2 94 1 (by omega), a3 1 (by omega) (by omega)]; exact g0 1 (by omega)
  · rw [d2 94 0 (by omega) (by omega), c2 94 0 (by omega), b2 94 0 (by omega), a3 0 (by omega) (by omega)]; exact g0 0 (by omega)
  have keep : ∀ i j, ¬ (i = 94 ∧ j < 4) → ¬ i = 100 → ¬ (i = 99 ∧ j < 100) → ¬ (i = 96 ∧ j < 5) → ¬ (i = 98 ∧ j < 7) → ¬ (i = 92 ∧ (j = 3 ∨ j = 24 ∨ j = 20)) → ¬ (i = 102 ∧ j < 2) → σ5.1 i j = σ.1 i j := by
    intro i j h1 h2 h3 h4 h5 h6 h7
    rw [e2 i j (by omega) (by omega) (by omega) (by omega), d2 i j (by omega) (by omega), c2 i j (by omega), b2 i j (by omega), a2 i j (by omega)]
  refine q σ5 ⟨fun i hi => ?_, ?_⟩ ?_ ?_
  · funext j
    rw [keep i j (by omega) (by omega) (by omega) (by omega) (by omega) (by omega) (by omega)]
    exact hF.1 i j (by unfold st7; omega)
  · rw [e1, d1, c1, b1, a1, hF.2]
  · rw [e1, d1, c1, b1, a1, hF.2]
  · intro i j hr
    have oth : ∀ i j, (i = 93 ∨ i = 101 ∨ (103 ≤ i ∧ i ≤ 106)) → rl A i j → σ5.1 i j = nI (AP A B i j) := by
      intro i j hh hrl
      rw [keep i j (by omega) (by omega) (by omega) (by omega) (by omega) (by omega) (by omega), hF.1 i j (by unfold st7; omega), hA i j hrl]
      have : AP A B i j = A i j := by
        unfold AP
        rw [if_neg (by omega), if_neg (by omega), if_neg (by omega), if_neg (by omega), if_neg (by omega), if_neg (by omega), if_neg (by omega)]
      rw [this]
    rcases hr with ⟨rfl, hj⟩ | ⟨rfl, hj⟩ | ⟨rfl, hj⟩ | ⟨rfl, hj⟩ | ⟨rfl, hj⟩ | ⟨rfl, hj⟩ | ⟨rfl, hj⟩ | ⟨rfl, hj⟩ | ⟨rfl, hj⟩ | ⟨rfl, hj⟩ | ⟨rfl, hj⟩ | ⟨rfl, hj⟩ | ⟨rfl, hj⟩
    · rw [e2 94 j (by omega) (by omega) (by omega) (by omega), d2 94 j (by omega) (by omega), c2 94 j (by omega), b2 94 j (by omega), a3 j (by omega) hj]; exact g0 j hj
    · have hj : j < B 0 0 := hj
      rw [e2 96 j (by omega) (by omega) (by omega) (by omega), (d3 j (by omega) (by omega)).1, c2 96 _ (by omega), b2 96 _ (by omega), a2 96 _ (by omega)]; exact g2 j hj
    · have hj : j < B 0 1 := hj
      rw [(e3 j (by omega) (by omega)).1, d2 98 _ (by omega) (by omega), c2 98 _ (by omega), b2 98 _ (by omega), a2 98 _ (by omega)]; exact g4 j hj
    · rw [e2 99 j (by omega) (by omega) (by omega) (by omega), d2 99 j (by omega) (by omega), c3 j (by omega) hj, b2 99 _ (by omega), a2 99 _ (by omega)]; exact g5 j hj
    · by_cases h1 : 1 ≤ j ∧ j < 6
      · obtain ⟨k, rfl⟩ : ∃ k, j = 1 + k := ⟨j - 1, by omega⟩
        rw [e2 100 _ (by omega) (by omega) (by omega) (by omega), (d3 k (by omega) (by omega)).2]
        by_cases c : k < B 0 0
        · rw [if_pos c, c2 95 _ (by omega), b2 95 _ (by omega), a2 95 _ (by omega), AP_q hB c]; exact g1 k c
        · rw [if_neg c, AP_0 hB (by omega) (by omega) (by omega) (by omega)]; rfl
      by_cases h2 : 6 ≤ j ∧ j < 13
      · obtain ⟨k, rfl⟩ : ∃ k, j = 6 + k := ⟨j - 6, by omega⟩
        rw [(e3 k (by omega) (by omega)).2.1]
        by_cases c : k < B 0 1
        · rw [if_pos c, d2 98 _ (by omega) (by omega), c2 98 _ (by omega), b2 98 _ (by omega), a2 98 _ (by omega), AP_l hB c]; exact g4 k c
        · rw [if_neg c, AP_0 hB (by omega) (by omega) (by omega) (by omega)]; rfl
      by_cases h3 : 13 ≤ j ∧ j < 20
      · obtain ⟨k, rfl⟩ : ∃ k, j = 13 + k := ⟨j - 13, by omega⟩
        rw [(e3 k (by omega) (by omega)).2.2]
        by_cases c : k < B 0 1
        · rw [if_pos c, d2 97 _ (by omega) (by omega), c2 97 _ (by omega), b2 97 _ (by omega), a2 97 _ (by omega), AP_w hB c]; exact g3 k c
        · rw [if_neg c, AP_0 hB (by omega) (by omega) (by omega) (by omega)]; rfl
      by_cases h4 : j = 20
      · subst h4
        rw [e4, AP_n hB]; exact shl1 w0
      · rw [e2 100 j (by omega) (by omega) (by omega) (by omega), d2 100 j (by omega) (by omega), c2 100 j (by omega), b3 j (by omega) hj, AP_0 hB (by omega) (by omega) (by omega) h4]; rfl
    · exact oth 101 j (by omega) (by unfold rl; omega)
    · have : AP A B 102 j = 0 := rfl
      rw [this]
      have : j = 0 ∨ j = 1 := by omega
      rcases this with rfl | rfl
      · exact e8
      · exact e9
    · exact oth 103 j (by omega) (by unfold rl; omega)
    · exact oth 104 j (by omega) (by unfold rl; omega)
    · exact oth 105 j (by omega) (by unfold rl; omega)
    · exact oth 106 j (by omega) (by unfold rl; omega)
    · rcases hj with rfl | rfl | rfl
      · exact e5
      · exact e7
      · exact e6
    · exact oth 93 j (by omega) (by unfold rl; omega)
