/-! the model settles what it read -/
section Settle
variable {Q : St → Prop}
theorem set2 : ∀ (d k : Nat) (σ : St), k + d = 4 → (∀ σ', σ'.2 = σ.2 → (∀ i j, ¬ (i = 94 ∧ k ≤ j ∧ j < 4) → σ'.1 i j = σ.1 i j) → (∀ j, k ≤ j → j < 4 → σ'.1 94 j = σ.1 94 (4 + j)) → ∃ n, Lp (lX7_settles_29 Q) n (0, σ')) → ∃ n, Lp (lX7_settles_2 Q) n (nI k, σ) := by
  intro d
  induction d with
  | zero =>
    intro k σ h q
    refine ⟨1, ?_⟩
    show bX7_settles_2 _ (nI k) σ Q
    unfold bX7_settles_2
    exact iT (nI_le (a := 4) (by omega) (by omega)) (q σ rfl (fun _ _ _ => rfl) (fun j _ _ => by omega))
  | succ d ih =>
    intro k σ h q
    obtain ⟨m, hm⟩ := ih (k + 1) (up σ 94 k (σ.1 94 (4 + k))) (by omega) (fun σ' h1 h2 h3 => q σ' h1 (fun i j hij => by rw [h2 i j (by omega), upg, if_neg (by omega)]) (fun j hj hj2 => by
      by_cases e : j = k
      · subst e
        rw [h2 94 j (by omega), up_get]
      · rw [h3 j (by omega) hj2, up_get_ne (by omega)]))
    refine ⟨m + 1, ?_⟩
    show bX7_settles_2 _ (nI k) σ Q
    unfold bX7_settles_2
    have e4 : (4 : Int32) + nI k = nI (4 + k) := nI_add 4 k
    rw [e4, nIc (by omega), nIc (by omega)]
    refine iF (nI_ge (b := 4) (by omega) (by omega)) ⟨vin (by omega) (by omega), vin (by omega) (by omega), ?_⟩
    rintro σ4 rfl x5 rfl
    rw [nI_1]; exact hm
theorem set29 : ∀ (d k : Nat) (σ : St), k + d = 27 → (∀ σ', σ'.2 = σ.2 → (∀ i j, ¬ (i = 100 ∧ k ≤ j ∧ j < 27) → σ'.1 i j = σ.1 i j) → (∀ j, k ≤ j → j < 27 → σ'.1 100 j = 0) → ∃ n, Lp (lX7_settles_50 Q) n (0, σ')) → ∃ n, Lp (lX7_settles_29 Q) n (nI k, σ) := by
  intro d
  induction d with
  | zero =>
    intro k σ h q
    refine ⟨1, ?_⟩
    show bX7_settles_29 _ (nI k) σ Q
    unfold bX7_settles_29
    exact iT (nI_le (a := 27) (by omega) (by omega)) (q σ rfl (fun _ _ _ => rfl) (fun j _ _ => by omega))
  | succ d ih =>
    intro k σ h q
    obtain ⟨m, hm⟩ := ih (k + 1) (up σ 100 k 0) (by omega) (fun σ' h1 h2 h3 => q σ' h1 (fun i j hij => by rw [h2 i j (by omega), upg, if_neg (by omega)]) (fun j hj hj2 => by
      by_cases e : j = k
      · subst e
        rw [h2 100 j (by omega), up_get]
      · exact h3 j (by omega) hj2))
    refine ⟨m + 1, ?_⟩
    show bX7_settles_29 _ (nI k) σ Q
    unfold bX7_settles_29
    rw [nIc (by omega)]
    refine iF (nI_ge (b := 27) (by omega) (by omega)) ⟨vin (by omega) (by omega), ?_⟩
    rintro σ4 rfl x5 rfl
    rw [nI_1]; exact hm
theorem nar_le {x : Nat} (h : x ≤ 1) : vp_nar .boolean (nI x) = nI x := by
  have : x = 0 ∨ x = 1 := by omega
  rcases this with rfl | rfl
  · exact nar0
  · exact nar1
theorem set50 : ∀ (d k : Nat) (σ : St), k + d = 100 → (∀ j, j < 100 → ∃ x, x ≤ 1 ∧ σ.1 99 (100 + j) = nI x) → (∀ σ', σ'.2 = σ.2 → (∀ i j, ¬ (i = 99 ∧ k ≤ j ∧ j < 100) → σ'.1 i j = σ.1 i j) → (∀ j, k ≤ j → j < 100 → σ'.1 99 j = σ.1 99 (100 + j)) → ∃ n, Lp (lX7_settles_79 Q) n (0, σ')) → ∃ n, Lp (lX7_settles_50 Q) n (nI k, σ) := by
  intro d
  induction d with
  | zero =>
    intro k σ h hb q
    refine ⟨1, ?_⟩
    show bX7_settles_50 _ (nI k) σ Q
    unfold bX7_settles_50
    exact iT (nI_le (a := 100) (by omega) (by omega)) (q σ rfl (fun _ _ _ => rfl) (fun j _ _ => by omega))
  | succ d ih =>
    intro k σ h hb q
    obtain ⟨m, hm⟩ := ih (k + 1) (up σ 99 k (σ.1 99 (100 + k))) (by omega) (fun j hj => by rw [up_get_ne (by omega)]; exact hb j hj) (fun σ' h1 h2 h3 => q σ' h1 (fun i j hij => by rw [h2 i j (by omega), upg, if_neg (by omega)]) (fun j hj hj2 => by
      by_cases e : j = k
      · subst e
        rw [h2 99 j (by omega), up_get]
      · rw [h3 j (by omega) hj2, up_get_ne (by omega)]))
    refine ⟨m + 1, ?_⟩
    show bX7_settles_50 _ (nI k) σ Q
    unfold bX7_settles_50
    have e4 : (100 : Int32) + nI k = nI (100 + k) := nI_add 100 k
    obtain ⟨x, hx, ex⟩ := hb k (by omega)
    rw [e4, nIc (by omega), nIc (by omega), ex, nar_le hx, ← ex]
    refine iF (nI_ge (b := 100) (by omega) (by omega)) ⟨vin (by omega) (by omega), vin (by omega) (by omega), ?_⟩
    rintro σ4 rfl x5 rfl
    rw [nI_1]; exact hm
theorem set79 {nf : Nat} (hf : nf ≤ 5) : ∀ (d k : Nat) (σ : St), k + d = 5 → σ.1 94 0 = nI nf → (∀ σ', σ'.2 = σ.2 → (∀ i j, ¬ (i = 96 ∧ k ≤ j ∧ j < 5) → ¬ (i = 100 ∧ 1 + k ≤ j ∧ j < 6) → σ'.1 i j = σ.1 i j) → (∀ j, k ≤ j → j < 5 → σ'.1 96 j = σ.1 96 (5 + j) ∧ σ'.1 100 (1 + j) = if j < nf then σ.1 95 j else 0) → ∃ n, Lp (lX7_settles_134 Q) n (0, σ')) → ∃ n, Lp (lX7_settles_79 Q) n (nI k, σ) := by
  intro d
  induction d with
  | zero =>
    intro k σ h hb q
    refine ⟨1, ?_⟩
    show bX7_settles_79 _ (nI k) σ Q
    unfold bX7_settles_79
    exact iT (nI_le (a := 5) (by omega) (by omega)) (q σ rfl (fun _ _ _ _ => rfl) (fun j _ _ => by omega))
  | succ d ih =>
    intro k σ h hb q
    obtain ⟨m, hm⟩ := ih (k + 1) (up (up σ 96 k (σ.1 96 (5 + k))) 100 (1 + k) (if k < nf then σ.1 95 k else 0)) (by omega) (by rw [up_ne (by omega), up_ne (by omega)]; exact hb) (fun σ' h1 h2 h3 => q σ' h1 (fun i j hij hij2 => by rw [h2 i j (by omega) (by omega), upg, if_neg (by omega), upg, if_neg (by omega)]) (fun j hj hj2 => by
      by_cases e : j = k
      · subst e
        rw [h2 96 j (by omega) (by omega), h2 100 (1 + j) (by omega) (by omega), up_get, up_ne (by omega), up_get]
        exact ⟨rfl, rfl⟩
      · have := h3 j (by omega) hj2
        rw [this.1, this.2, up_ne (by omega), up_get_ne (by omega), up_ne (by omega), up_ne (by omega)]
        exact ⟨rfl, rfl⟩))
    refine ⟨m + 1, ?_⟩
    show bX7_settles_79 (Lp (lX7_settles_79 Q) m) (nI k) σ Q
    unfold bX7_settles_79
    have e4 : (5 : Int32) + nI k = nI (5 + k) := nI_add 5 k
    rw [e4, nIc (by omega), nIc (by omega)]
    refine iF (nI_ge (b := 5) (by omega) (by omega)) ⟨vin (by omega) (by omega), vin (by omega) (by omega), ?_⟩
    rintro σ4 rfl
    rw [up_ne (by omega), up_ne (by omega), hb]
    have k1 : ∀ z, z = (if k < nf then σ.1 95 k else 0) → bX7_settles_125 (Lp (lX7_settles_79 Q) m) (nI k) z (1 + nI k) (up σ 96 k (σ.1 96 (5 + k))) Q := by
      rintro z rfl
      rw [a1]
      refine ⟨vin (by omega) (by omega), ?_⟩
      rw [nIc (by omega)]
      rintro σ2 rfl x3 rfl
      rw [nI_1]; exact hm
    by_cases c : k < nf
    · exact iF (nI_ge (by omega) (by omega)) ⟨vin (by omega) (by omega), k1 _ (by rw [if_pos c])⟩
    · exact iT (nI_le (by omega) (by omega)) (k1 _ (by rw [if_neg c]))
theorem set134 {ns nf : Nat} (hs : ns ≤ 7) : ∀ (d k : Nat) (σ : St), k + d = 7 → σ.1 94 1 = nI ns → σ.1 94 0 = nI nf → (∀ σ', σ'.2 = σ.2 → (∀ i j, ¬ (i = 98 ∧ k ≤ j ∧ j < 7) → ¬ (i = 100 ∧ ((6 + k ≤ j ∧ j < 13) ∨ (13 + k ≤ j ∧ j < 20) ∨ j = 20)) → ¬ (i = 92 ∧ (j = 3 ∨ j = 24 ∨ j = 20)) → ¬ (i = 102 ∧ j < 2) → σ'.1 i j = σ.1 i j) → (∀ j, k ≤ j → j < 7 → σ'.1 98 j = σ.1 98 (7 + j) ∧ σ'.1 100 (6 + j) = (if j < ns then σ.1 98 (7 + j) else 0) ∧ σ'.1 100 (13 + j) = if j < ns then σ.1 97 j else 0) → σ'.1 100 20 = (1 <<< (nI nf &&& 31)) - 1 → σ'.1 92 3 = 0 → σ'.1 92 24 = 0 → σ'.1 92 20 = 0 → σ'.1 102 0 = 0 → σ'.1 102 1 = 0 → Q σ') → ∃ n, Lp (lX7_settles_134 Q) n (nI k, σ) := by
  intro d
  induction d with
  | zero =>
    intro k σ h hb hf q
    refine ⟨1, ?_⟩
    show bX7_settles_134 _ (nI k) σ Q
    unfold bX7_settles_134
    refine iT (nI_le (a := 7) (by omega) (by omega)) ?_
    rw [hf, nar0]
    rintro σ3 rfl σ4 rfl σ5 rfl σ6 rfl σ8 rfl σ10 rfl
    refine q _ rfl (fun i j h1 h2 h3 h4 => ?_) (fun j _ _ => by omega) ?_ ?_ ?_ ?_ ?_ ?_
    · simp only [upg]
      rw [if_neg (by omega), if_neg (by omega), if_neg (by omega), if_neg (by omega), if_neg (by omega), if_neg (by omega)]
    all_goals (simp only [upg]; simp)
  | succ d ih =>
    intro k σ h hb hf q
    obtain ⟨m, hm⟩ := ih (k + 1) (up (up (up σ 98 k (σ.1 98 (7 + k))) 100 (6 + k) (if k < ns then σ.1 98 (7 + k) else 0)) 100 (13 + k) (if k < ns then σ.1 97 k else 0)) (by omega) (by rw [up_ne (by omega), up_ne (by omega), up_ne (by omega)]; exact hb) (by rw [up_ne (by omega), up_ne (by omega), up_ne (by omega)]; exact hf) (fun σ' h1 h2 h3 => q σ' h1 (fun i j hij hij2 hij3 hij4 => by rw [h2 i j (by omega) (by omega) (by omega) (by omega), upg, if_neg (by omega), upg, if_neg (by omega), upg, if_neg (by omega)]) (fun j hj hj2 => by
      by_cases e : j = k
      · subst e
        rw [h2 98 j (by omega) (by omega) (by omega) (by omega), h2 100 (6 + j) (by omega) (by omega) (by omega) (by omega), h2 100 (13 + j) (by omega) (by omega) (by omega) (by omega), up_get, up_get_ne (by omega), up_get, up_ne (by omega), up_ne (by omega), up_get]
        exact ⟨rfl, rfl, rfl⟩
      · have := h3 j (by omega) hj2
        rw [this.1, this.2.1, this.2.2, up_ne (by omega), up_ne (by omega), up_get_ne (by omega), up_ne (by omega), up_ne (by omega), up_ne (by omega)]
        exact ⟨rfl, rfl, rfl⟩))
    refine ⟨m + 1, ?_⟩
    show bX7_settles_134 (Lp (lX7_settles_134 Q) m) (nI k) σ Q
    unfold bX7_settles_134
    have e4 : (7 : Int32) + nI k = nI (7 + k) := nI_add 7 k
    rw [e4, nIc (by omega), nIc (by omega)]
    refine iF (nI_ge (b := 7) (by omega) (by omega)) ⟨vin (by omega) (by omega), vin (by omega) (by omega), ?_⟩
    rintro σ4 rfl
    rw [up_ne (by omega), up_get, hb]
    have k2 : ∀ y z, y = (if k < ns then σ.1 98 (7 + k) else 0) → z = (if k < ns then σ.1 97 k else 0) → bX7_settles_212 (Lp (lX7_settles_134 Q) m) (nI k) z (13 + nI k) (up (up σ 98 k (σ.1 98 (7 + k))) 100 (6 + k) y) Q := by
      rintro y z rfl rfl
      rw [a13]
      refine ⟨vin (by omega) (by omega), ?_⟩
      rw [nIc (by omega)]
      rintro σ2 rfl x3 rfl
      rw [nI_1]; exact hm
    have k1 : ∀ y, y = (if k < ns then σ.1 98 (7 + k) else 0) → bX7_settles_183 (Lp (lX7_settles_134 Q) m) (nI k) y (6 + nI k) (up σ 98 k (σ.1 98 (7 + k))) Q := by
      intro y hy
      rw [a6]
      refine ⟨vin (by omega) (by omega), ?_⟩
      rw [nIc (by omega)]
      rintro σ2 rfl
      rw [up_ne (by omega), up_ne (by omega), up_ne (by omega), up_ne (by omega), hb, nIc (by omega)]
      by_cases c : k < ns
      · exact iF (nI_ge (by omega) (by omega)) ⟨vin (by omega) (by omega), k2 _ _ hy (by rw [if_pos c])⟩
      · exact iT (nI_le (by omega) (by omega)) (k2 _ _ hy (by rw [if_neg c]))
    by_cases c : k < ns
    · exact iF (nI_ge (by omega) (by omega)) ⟨vin (by omega) (by omega), k1 _ (by rw [if_pos c])⟩
    · exact iT (nI_le (by omega) (by omega)) (k1 _ (by rw [if_neg c]))
end Settle
