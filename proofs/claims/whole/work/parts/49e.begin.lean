/-! the model's first state -/
theorem settles8 {A B : AM} {σ0 σ : St} {Q : St → Prop} (hA : RM A σ0) (hB : WB B) (hF : FM σ0 σ) (hG : GQ 94 c7 (exB 4 B) B σ) (q : ∀ σ', SC σ0 σ' → σ'.2 = σ0.2 → RM (AP A B) σ' → Q σ') : wX7_settles σ Q := by
  have w0 := hB.1
  have w1 := hB.2.1
  have g0 : ∀ j, j < 4 → σ.1 94 (4 + j) = nI (B 0 j) := fun j hj => hG 0 j (by omega) hj
  have g1 : ∀ j, j < B 0 0 → σ.1 95 j = nI (B 1 j) := fun j hj => by
    have := hG 1 j (by omega) hj
    rw [show c7 1 + j = j from Nat.zero_add j] at this; exact this
  have g2 : ∀ j, j < B 0 0 → σ.1 96 (5 + j) = nI (B 2 j) := fun j hj => hG 2 j (by omega) hj
  have g3 : ∀ j, j < B 0 1 → σ.1 97 j = nI (B 3 j) := fun j hj => by
    have := hG 3 j (by omega) hj
    rw [show c7 3 + j = j from Nat.zero_add j] at this; exact this
  have g4 : ∀ j, j < B 0 1 → σ.1 98 (7 + j) = nI (B 4 j) := fun j hj => hG 4 j (by omega) hj
  have g5 : ∀ j, j < 100 → σ.1 99 (100 + j) = nI (B 5 j) := fun j hj => hG 5 j (by omega) hj
  refine set2 4 0 σ (by omega) (fun σ1 a1 a2 a3 => set29 27 0 σ1 (by omega) (fun σ2 b1 b2 b3 => set50 100 0 σ2 (by omega) (fun j hj => ⟨B 5 j, hB.2.2.2.2.2.2.2.2.2 j hj, ?_⟩) (fun σ3 c1 c2 c3 => set79 w0 5 0 σ3 (by omega) ?_ (fun σ4 d1 d2 d3 => set134 (nf := B 0 0) w1 7 0 σ4 (by omega) ?_ ?_ (fun σ5 e1 e2 e3 e4 e5 e6 e7 e8 e9 => ?_)))))
  · rw [b2 99 _ (by omega), a2 99 _ (by omega)]; exact g5 j hj
  · rw [c2 94 0 (by omega), b2 94 0 (by omega), a3 0 (by omega) (by omega)]; exact g0 0 (by omega)
  · rw [d2 94 1 (by omega) (by omega), c2 94 1 (by omega), b2 94 1 (by omega), a3 1 (by omega) (by omega)]; exact g0 1 (by omega)
  · rw [d2 94 0 (by omega) (by omega), c2 94 0 (by omega), b2 94 0 (by omega), a3 0 (by omega) (by omega)]; exact g0 0 (by omega)
  have keep : ∀ i j, ¬ (i = 94 ∧ j < 4) → ¬ i = 100 → ¬ (i = 99 ∧ j < 100) → ¬ (i = 96 ∧ j < 5) → ¬ (i = 98 ∧ j < 7) → ¬ (i = 92 ∧ (j = 3 ∨ j = 24 ∨ j = 20)) → ¬ (i = 102 ∧ j < 2) → σ5.1 i j = σ.1 i j := by
    intro i j h1 h2 h3 h4 h5 h6 h7
    rw [e2 i j (by omega) (by omega) (by omega) (by omega), d2 i j (by omega) (by omega), c2 i j (by omega), b2 i j (by omega), a2 i j (by omega)]
  refine q σ5 ⟨fun i hi => ?_, ?_⟩ ?_ ?_
  · funext j
    rw [keep i j (by omega) (by omega) (by omega) (by omega) (by omega) (by omega) (by omega)]
    exact hF.1 i j (by unfold st7; omega)
  · rw [e1, d1, c1, b1, a1, hF.2]
  · rw [e1, d1, c1, b1, a1, hF.2]
  · intro i j hr
    have oth : ∀ i j, (i = 93 ∨ i = 101 ∨ (103 ≤ i ∧ i ≤ 106)) → rl A i j → σ5.1 i j = nI (AP A B i j) := by
      intro i j hh hrl
      rw [keep i j (by omega) (by omega) (by omega) (by omega) (by omega) (by omega) (by omega), hF.1 i j (by unfold st7; omega), hA i j hrl]
      have : AP A B i j = A i j := by
        unfold AP
        rw [if_neg (by omega), if_neg (by omega), if_neg (by omega), if_neg (by omega), if_neg (by omega), if_neg (by omega), if_neg (by omega)]
      rw [this]
    rcases hr with ⟨rfl, hj⟩ | ⟨rfl, hj⟩ | ⟨rfl, hj⟩ | ⟨rfl, hj⟩ | ⟨rfl, hj⟩ | ⟨rfl, hj⟩ | ⟨rfl, hj⟩ | ⟨rfl, hj⟩ | ⟨rfl, hj⟩ | ⟨rfl, hj⟩ | ⟨rfl, hj⟩ | ⟨rfl, hj⟩ | ⟨rfl, hj⟩
    · rw [e2 94 j (by omega) (by omega) (by omega) (by omega), d2 94 j (by omega) (by omega), c2 94 j (by omega), b2 94 j (by omega), a3 j (by omega) hj]; exact g0 j hj
    · have hj : j < B 0 0 := hj
      rw [e2 96 j (by omega) (by omega) (by omega) (by omega), (d3 j (by omega) (by omega)).1, c2 96 _ (by omega), b2 96 _ (by omega), a2 96 _ (by omega)]; exact g2 j hj
    · have hj : j < B 0 1 := hj
      rw [(e3 j (by omega) (by omega)).1, d2 98 _ (by omega) (by omega), c2 98 _ (by omega), b2 98 _ (by omega), a2 98 _ (by omega)]; exact g4 j hj
    · rw [e2 99 j (by omega) (by omega) (by omega) (by omega), d2 99 j (by omega) (by omega), c3 j (by omega) hj, b2 99 _ (by omega), a2 99 _ (by omega)]; exact g5 j hj
    · by_cases h1 : 1 ≤ j ∧ j < 6
      · obtain ⟨k, rfl⟩ : ∃ k, j = 1 + k := ⟨j - 1, by omega⟩
        rw [e2 100 _ (by omega) (by omega) (by omega) (by omega), (d3 k (by omega) (by omega)).2]
        by_cases c : k < B 0 0
        · rw [if_pos c, c2 95 _ (by omega), b2 95 _ (by omega), a2 95 _ (by omega), AP_q hB c]; exact g1 k c
        · rw [if_neg c, AP_0 hB (by omega) (by omega) (by omega) (by omega)]; rfl
      by_cases h2 : 6 ≤ j ∧ j < 13
      · obtain ⟨k, rfl⟩ : ∃ k, j = 6 + k := ⟨j - 6, by omega⟩
        rw [(e3 k (by omega) (by omega)).2.1]
        by_cases c : k < B 0 1
        · rw [if_pos c, d2 98 _ (by omega) (by omega), c2 98 _ (by omega), b2 98 _ (by omega), a2 98 _ (by omega), AP_l hB c]; exact g4 k c
        · rw [if_neg c, AP_0 hB (by omega) (by omega) (by omega) (by omega)]; rfl
      by_cases h3 : 13 ≤ j ∧ j < 20
      · obtain ⟨k, rfl⟩ : ∃ k, j = 13 + k := ⟨j - 13, by omega⟩
        rw [(e3 k (by omega) (by omega)).2.2]
        by_cases c : k < B 0 1
        · rw [if_pos c, d2 97 _ (by omega) (by omega), c2 97 _ (by omega), b2 97 _ (by omega), a2 97 _ (by omega), AP_w hB c]; exact g3 k c
        · rw [if_neg c, AP_0 hB (by omega) (by omega) (by omega) (by omega)]; rfl
      by_cases h4 : j = 20
      · subst h4
        rw [e4, AP_n hB]; exact shl1 w0
      · rw [e2 100 j (by omega) (by omega) (by omega) (by omega), d2 100 j (by omega) (by omega), c2 100 j (by omega), b3 j (by omega) hj, AP_0 hB (by omega) (by omega) (by omega) h4]; rfl
    · exact oth 101 j (by omega) (by unfold rl; omega)
    · have : AP A B 102 j = 0 := rfl
      rw [this]
      have : j = 0 ∨ j = 1 := by omega
      rcases this with rfl | rfl
      · exact e8
      · exact e9
    · exact oth 103 j (by omega) (by unfold rl; omega)
    · exact oth 104 j (by omega) (by unfold rl; omega)
    · exact oth 105 j (by omega) (by unfold rl; omega)
    · exact oth 106 j (by omega) (by unfold rl; omega)
    · rcases hj with rfl | rfl | rfl
      · exact e5
      · exact e7
      · exact e6
    · exact oth 93 j (by omega) (by unfold rl; omega)
theorem begins7 {σ : St} {Q : St → Prop} (q : ∀ σ', FM σ σ' → GQ 94 c7 (exB 4 B0) B0 σ' → Q σ') : wX7_begins σ Q := by
  rintro σ1 rfl σ2 rfl σ3 rfl σ4 rfl σ5 rfl
  refine begin7 100 100 _ _ (by omega) (by omega) (fun σ' h1 h2 h4 h5 => ?_)
  refine q σ' ⟨fun i j hs => ?_, h2⟩ ?_
  · unfold st7 at hs
    by_cases c : i = 99
    · subst c
      rw [h4 j (by omega)]
      simp only [upg]
      simp
    · rw [h1 i c]
      simp only [upg]
      rw [if_neg (by omega), if_neg (by omega), if_neg (by omega), if_neg (by omega), if_neg (by omega)]
  · intro i j hi hj
    have e : exB 4 B0 i = if i = 0 then 4 else if i = 5 then 100 else 0 := by
      have : i = 0 ∨ i = 1 ∨ i = 2 ∨ i = 3 ∨ i = 4 ∨ i = 5 := by omega
      rcases this with rfl | rfl | rfl | rfl | rfl | rfl <;> rfl
    rw [e] at hj
    by_cases c : i = 0
    · subst c
      rw [if_pos rfl] at hj
      rw [h1 (94 + 0) (by omega)]
      have : j = 0 ∨ j = 1 ∨ j = 2 ∨ j = 3 := by omega
      rcases this with rfl | rfl | rfl | rfl <;> (simp only [upg]; rfl)
    · rw [if_neg c] at hj
      by_cases f : i = 5
      · subst f
        rw [if_pos rfl] at hj
        have : c7 5 + j = 100 + j := by unfold c7; simp
        rw [this, h5 (100 + j) (by omega) (by omega)]
        unfold B0
        rw [if_neg (by omega)]; rfl
      · rw [if_neg f] at hj
        omega
theorem σz_hi {i : Nat} (h : 23 ≤ i) : σz.1 i = fun _ => 0 := by
  unfold σz
  rw [up_ne (by omega), up_ne (by omega)]
theorem bz_hi {σ : St} (h : BZ σ) : ∀ i, 23 ≤ i → σ.1 i = fun _ => 0 := fun i hi => by rw [h.2.1 i (by omega), σz_hi hi]
theorem bz23 {σ1 : St} (h : BZ σ1) : BZ (σ23 σ1) := by
  refine ⟨h.1, fun i hi => ?_, h.2.2.1, h.2.2.2.1, h.2.2.2.2⟩
  show (if i < 23 then σ1.1 i else fun _ => 0) = _
  by_cases c : i < 23
  · rw [if_pos c]; exact h.2.1 i hi
  · rw [if_neg c, σz_hi (by omega)]
def A1 : AM := fun i j => if i = 94 ∧ j = 3 then 1 else 0
theorem WF_A1 : WF A1 := by
  refine ⟨by decide, by decide, by decide, by decide, by decide, fun k hk => absurd hk (Nat.not_lt_zero k), fun k hk => absurd hk (Nat.not_lt_zero k), fun n _ => Nat.zero_le _, ⟨Nat.zero_le _, by decide, by decide, fun k hk => absurd hk (Nat.not_lt_zero k), fun k hk => absurd hk (Nat.not_lt_zero k), fun j _ => Nat.zero_le _⟩, Nat.zero_le _, fun j hj => absurd hj (Nat.not_lt_zero j), fun i _ => ⟨Nat.zero_le _, fun f => absurd (show (0 : Nat) = 1 from f) (by omega)⟩, Nat.zero_le _, fun j hj => absurd hj (Nat.not_lt_zero j), Nat.zero_le _, fun i _ => Nat.zero_le _⟩
theorem INV_start {σ : St} (h : BZ σ) : wX7_begins σ (fun σ1 => wX7_settles σ1 INV) := by
  refine begins7 (fun σ1 hF hG => ?_)
  refine settles8 (A := fun _ _ => 0) (fun i j hr => ?_) WB0 hF hG (fun σ2 s1 s2 s3 => ⟨AP (fun _ _ => 0) B0, ?_, s3, RC_SC ?_ s1, AL_SC ?_ s1, ?_⟩)
  · rw [bz_hi h i (by unfold rl at hr; omega)]; rfl
  · have e : AP (fun _ _ => 0) B0 = AP A1 B0 := by
      funext i j
      by_cases c : i = 94
      · subst c; rfl
      · have e1 : A1 i j = 0 := if_neg (fun f => c f.1)
        have e2 : A1 92 j = 0 := if_neg (fun f => absurd f.1 (by omega))
        unfold AP
        rw [e1, e2]
    rw [e]
    exact WF_AP WF_A1 WB0
  · refine ⟨⟨?_, ?_, ?_, ?_, fun k hk => absurd hk (Nat.not_lt_zero k), fun k hk => absurd hk (Nat.not_lt_zero k), fun k hk => ?_⟩, ⟨?_, ?_, ?_, fun k hk => absurd hk (Nat.not_lt_zero k), fun k hk => absurd hk (Nat.not_lt_zero k)⟩, ⟨0, by omega, ?_, ?_, fun j hj => absurd hj (Nat.not_lt_zero j)⟩, fun i hi => ⟨?_, fun f => absurd (show (0 : Nat) = 1 from f) (by omega)⟩, ⟨?_, fun i hi => ?_⟩, ⟨?_, fun i hi => ⟨?_, ?_, ?_⟩⟩⟩
    · rw [h.2.1 3 (by omega)]; rfl
    · rw [h.2.1 3 (by omega)]; rfl
    · rw [h.2.1 3 (by omega)]; rfl
    · rw [h.2.1 3 (by omega)]; rfl
    · rw [h.2.1 8 (by omega)]; rfl
    · rw [h.2.2.1, AP_0 WB0 (by omega) (by omega) (by omega) (by omega)]; rfl
    · rw [h.2.2.2.1, AP_n WB0]; rfl
    · rw [h.2.2.2.2, AP_0 WB0 (by decide) (by decide) (by decide) (by omega)]; rfl
    · rw [bz_hi h 23 (by omega)]; rfl
    · rw [bz_hi h 23 (by omega)]; rfl
    · rw [bz_hi h 86 (by omega)]; rfl
    · rw [h.2.1 2 (by omega)]; rfl
    · rw [h.2.1 1 (by omega)]; rfl
    · rw [bz_hi h 87 (by omega)]; rfl
    · rw [bz_hi h 88 (by omega)]; rfl
    · rw [bz_hi h 89 (by omega)]; rfl
    · rw [bz_hi h 90 (by omega)]; rfl
  · refine Or.inl ?_
    rw [h.2.1 15 (by omega)]; rfl
  · rw [s2, h.1]
