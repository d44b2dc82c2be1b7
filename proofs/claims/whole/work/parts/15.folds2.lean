/-! rate, lit, mean, soonest -/
theorem up21 (σ : St) (t : Int64) : (upT σ t).2.1 = t := rfl
theorem upTT (σ : St) (t u : Int64) : upT (upT σ t) u = upT σ u := rfl
theorem inv_tr {A : AM} {σ : St} (hw : WF A) (hM : RM A σ) (hC : RC A σ) (hL : AL A σ) (t u : Int64) (h : t = u) : INV (upM (up (upT σ t) 92 0 0) u) :=
  ⟨A, hw, RM_irr (i := 92) (j := 0) (v := 0) hM (by unfold rl; omega), RC_SC (σ := upT σ t) (σ' := upM (up (upT σ t) 92 0 0) u) hC ⟨fun i hi => up_ne (σ := upT σ t) (by omega), rfl⟩, AL_SC (σ := upT σ t) (σ' := upM (up (upT σ t) 92 0 0) u) hL ⟨fun i hi => up_ne (σ := upT σ t) (by omega), rfl⟩, h⟩
theorem t_rate {σ : St} (h : INV σ) (a b : Int32) : wX6_rate a b σ (fun r σ1 => wX7_rate a b σ1 (fun r' σ2 => r = r' ∧ INV σ2)) := by
  obtain ⟨A, hw, hM, hC, hL, hT⟩ := h
  have hI := inv92 hw hM hC hL hT
  have hM1 := rm92 hM
  have w1 := hw.1
  have w2 := hw.2.1
  have wn := hw.2.2.2.2.2.2.2.2.1.1
  by_cases hx : isX b (A 94 1)
  · obtain ⟨k, hk, rfl⟩ := hx
    have hS := hC.2.1.2.2.2.2 k hk
    have wo := hw.2.2.2.2.2.2.2.2.1.2.2.2.2.1 k hk
    have key : ∀ (r : Int32) (t u : Int64), t = σ.2.2 + u → (a = 0 → r = nI (A 100 (6 + k)) ∧ u = 1) → (a = 1 → r = nI (A 100 (6 + k)) + nI (moN (A 94 2) (A 100 0)) ∧ u = 11) → (a = 2 → r = nI (A 100 (6 + k)) - nI (A 96 (A 100 (13 + k))) ∧ u = 101) → (a = 3 → r = 2 * (nI (A 100 (6 + k)) + nI (moN (A 94 2) (A 100 0))) ∧ u = 1011) → (a = 4 → r = (nI (A 100 (6 + k)) - nI (A 96 (A 100 (13 + k)))) + nI k ∧ u = 10101) → (a = 5 → r = nI (A 100 (6 + k)) + nI (A 100 0) ∧ u = 100001) → isX a 6 → wX7_rate a (nI k) (upT σ t) (fun r' σ2 => r = r' ∧ INV σ2) := by
      intro r t u ht q0 q1 q2 q3 q4 q5 hx
      obtain ⟨j, hj, rfl⟩ := hx
      have hMt : RM A (up (upT σ t) 92 0 0) := hM1
      have fin : INV (upM (up (upT σ t) 92 0 0) (σ.2.2 + u)) := inv_tr hw hM hC hL t _ ht
      rintro σ1 rfl
      refine in_X (n := 6) (by omega) rfl hj (iF (by decide) (s7_y hMt hw hk (iF (by decide) ?_)))
      rw [a6, a13]
      refine ⟨vin (by omega) (by omega), ?_⟩
      rw [nIc (by omega), nIc (by omega), hMt 100 (6 + k) (by unfold rl; omega), hMt 100 0 (by unfold rl; omega)]
      rintro x9 rfl
      refine m7 hMt hw wn ?_
      rintro x12 rfl
      rw [hMt 100 (13 + k) (by unfold rl; omega)]
      refine ⟨vin (by omega) (by omega), vin (by omega) (by omega), ?_⟩
      rw [nIc (by omega), hMt 96 _ (by unfold rl; omega)]
      rintro x15 rfl
      rcases (by omega : j = 0 ∨ j = 1 ∨ j = 2 ∨ j = 3 ∨ j = 4 ∨ j = 5) with rfl | rfl | rfl | rfl | rfl | rfl
      · obtain ⟨e1, rfl⟩ := q0 rfl
        refine iT rfl ?_
        rintro σ1 rfl
        exact iT rfl ⟨e1, fin⟩
      · obtain ⟨e1, rfl⟩ := q1 rfl
        refine iF (by decide) (iT rfl ?_)
        rintro σ1 rfl
        exact iF (by decide) (iT rfl ⟨e1, fin⟩)
      · obtain ⟨e1, rfl⟩ := q2 rfl
        refine iF (by decide) (iF (by decide) (iT rfl ?_))
        rintro σ1 rfl
        exact iF (by decide) (iF (by decide) (iT rfl ⟨e1, fin⟩))
      · obtain ⟨e1, rfl⟩ := q3 rfl
        refine iF (by decide) (iF (by decide) (iF (by decide) (iT rfl ?_)))
        rintro σ1 rfl
        exact iF (by decide) (iF (by decide) (iF (by decide) (iT rfl ⟨e1, fin⟩)))
      · obtain ⟨e1, rfl⟩ := q4 rfl
        refine iF (by decide) (iF (by decide) (iF (by decide) (iF (by decide) (iT rfl ?_))))
        rintro σ1 rfl
        exact iF (by decide) (iF (by decide) (iF (by decide) (iF (by decide) (iT rfl ⟨e1, fin⟩))))
      · obtain ⟨e1, rfl⟩ := q5 rfl
        refine iF (by decide) (iF (by decide) (iF (by decide) (iF (by decide) (iF (by decide) ?_))))
        rintro σ1 rfl
        refine iF (by decide) (iF (by decide) (iF (by decide) (iF (by decide) (iF (by decide) ⟨?_, fin⟩))))
        rw [e1]
        show _ = _ + (up (upT σ t) 92 0 0).1 100 0
        rw [hMt 100 0 (by unfold rl; omega)]
    have one : ∀ (i : Nat) (r : Int32) (t u : Int64), i < 6 → a = nI i → t = σ.2.2 + u → (i = 0 → r = nI (A 100 (6 + k)) ∧ u = 1) → (i = 1 → r = nI (A 100 (6 + k)) + nI (moN (A 94 2) (A 100 0)) ∧ u = 11) → (i = 2 → r = nI (A 100 (6 + k)) - nI (A 96 (A 100 (13 + k))) ∧ u = 101) → (i = 3 → r = 2 * (nI (A 100 (6 + k)) + nI (moN (A 94 2) (A 100 0))) ∧ u = 1011) → (i = 4 → r = (nI (A 100 (6 + k)) - nI (A 96 (A 100 (13 + k)))) + nI k ∧ u = 10101) → (i = 5 → r = nI (A 100 (6 + k)) + nI (A 100 0) ∧ u = 100001) → wX7_rate a (nI k) (upT σ t) (fun r' σ2 => r = r' ∧ INV σ2) := by
      intro i r t u hi e ht q0 q1 q2 q3 q4 q5
      have f : ∀ j : Nat, j < 6 → a = nI j → i = j := fun j hj e2 => (nI_eq (by omega) (by omega)).mp (e.symm.trans e2)
      exact key r t u ht (fun c => q0 (f 0 (by omega) c)) (fun c => q1 (f 1 (by omega) c)) (fun c => q2 (f 2 (by omega) c)) (fun c => q3 (f 3 (by omega) c)) (fun c => q4 (f 4 (by omega) c)) (fun c => q5 (f 5 (by omega) c)) ⟨i, hi, e⟩
    have vk : vp_in (nI k) 7 := vin (by omega) (by omega)
    have e22 : ∀ t, (upT σ t).1 22 (nI k).toNatClampNeg = nI (A 100 (6 + k)) := fun t => by rw [nIc (by omega)]; exact hS.2
    have e21 : ∀ t, (upT σ t).1 21 (nI k).toNatClampNeg = nI (A 100 (13 + k)) := fun t => by rw [nIc (by omega)]; exact hS.1
    have e5 : ∀ t, (upT σ t).1 5 (nI (A 100 (13 + k))).toNatClampNeg = nI (A 96 (A 100 (13 + k))) := fun t => by rw [nIc (by omega)]; exact hC.1.2.2.2.2.1 _ wo.1
    have e18 : ∀ t, (upT σ t).1 18 4 = nI (A 100 0) := fun t => hC.2.1.1
    have hCt : ∀ t, RC A (upT σ t) := fun t => hC
    refine s6_y hC hw hk (iF (by decide) ?_)
    refine ⟨fun c => ?_, fun c0 => ⟨fun c => ?_, fun c1 => ⟨fun c => ?_, fun c2 => ⟨fun c => ?_, fun c3 => ⟨fun c => ?_, fun c4 => ⟨fun c => ?_, fun c5 => ?_⟩⟩⟩⟩⟩⟩
    · rintro σ1 rfl
      refine ⟨vk, ?_⟩
      rw [e22]
      exact one 0 _ _ 1 (by omega) c (by rw [hT]) (fun _ => ⟨rfl, rfl⟩) (by omega) (by omega) (by omega) (by omega) (by omega)
    · rintro σ1 rfl σ2 rfl
      refine ⟨vk, ?_⟩
      simp only [up21, upTT, e18]
      refine m6 (hCt _) hw wn ?_
      refine one 1 _ _ 11 (by omega) c (by rw [hT, Int64.add_assoc]; rfl) (by omega) (fun _ => ⟨?_, rfl⟩) (by omega) (by omega) (by omega) (by omega)
      rw [e22]
    · rintro σ1 rfl σ2 rfl
      refine ⟨vk, vk, ?_⟩
      simp only [up21, upTT, e21, e22, e5]
      exact ⟨vin (by omega) (by omega), one 2 _ _ 101 (by omega) c (by rw [hT, Int64.add_assoc]; rfl) (by omega) (by omega) (fun _ => ⟨rfl, rfl⟩) (by omega) (by omega) (by omega)⟩
    · rintro σ1 rfl σ2 rfl σ3 rfl
      refine ⟨vk, ?_⟩
      simp only [up21, upTT, e18]
      refine m6 (hCt _) hw wn ?_
      refine one 3 _ _ 1011 (by omega) c (by rw [hT, Int64.add_assoc, Int64.add_assoc]; rfl) (by omega) (by omega) (by omega) (fun _ => ⟨?_, rfl⟩) (by omega) (by omega)
      rw [e22]
    · rintro σ1 rfl σ2 rfl σ3 rfl
      refine ⟨vk, vk, ?_⟩
      simp only [up21, upTT, e21, e22, e5]
      exact ⟨vin (by omega) (by omega), one 4 _ _ 10101 (by omega) c (by rw [hT, Int64.add_assoc, Int64.add_assoc]; rfl) (by omega) (by omega) (by omega) (by omega) (fun _ => ⟨rfl, rfl⟩) (by omega)⟩
    · rintro σ1 rfl σ2 rfl
      refine ⟨vk, ?_⟩
      simp only [up21, upTT, e18, e22]
      exact one 5 _ _ 100001 (by omega) c (by rw [hT, Int64.add_assoc]; rfl) (by omega) (by omega) (by omega) (by omega) (by omega) (fun _ => ⟨rfl, rfl⟩)
    · rintro σ1 rfl
      refine in_N (n := 6) (by omega) (by omega) rfl ?_ (iT rfl ⟨rfl, hI⟩)
      rintro ⟨j, hj, rfl⟩
      rcases (by omega : j = 0 ∨ j = 1 ∨ j = 2 ∨ j = 3 ∨ j = 4 ∨ j = 5) with rfl | rfl | rfl | rfl | rfl | rfl
      · exact c0 rfl
      · exact c1 rfl
      · exact c2 rfl
      · exact c3 rfl
      · exact c4 rfl
      · exact c5 rfl
  · refine s6_n hC hw hx (iT rfl ?_)
    rintro σ1 rfl
    by_cases ha : isX a 6
    · obtain ⟨j, hj, rfl⟩ := ha
      exact in_X (n := 6) (by omega) rfl hj (iF (by decide) (s7_n hM1 hw hx (iT rfl ⟨rfl, hI⟩)))
    · exact in_N (n := 6) (by omega) (by omega) rfl ha (iT rfl ⟨rfl, hI⟩)
section Lit
variable {A : AM} {σ : St} {Q : Int32 → St → Prop}
def gLit (A : AM) (m : Nat → Nat) (i : Nat) (a : Int32) : Int32 := if A 106 i ≤ m (A 105 i) * A 96 (A 104 i) then a else a ||| (1 <<< (nI (A 104 i) &&& 31))
theorem lit6 (hC : RC A σ) (hw : WF A) : ∀ (d k : Nat) (a : Int32), k + d = A 92 24 → Q (accF (gLit A (mo (A 94 2) (A 99))) d k a) σ → ∃ n, Lp (lX6_lit_4 Q) n (a, nI k, σ)
  | 0, k, a, h, q => ⟨1, by
      have := hw.2.2.2.2.2.2.2.2.2.2.2.2.1
      show bX6_lit_4 _ a (nI k) σ Q
      unfold bX6_lit_4
      rw [hC.2.2.2.2.2.1]
      exact iT (nI_le (by omega) (by omega)) q⟩
  | d + 1, k, a, h, q => by
      have w13 := hw.2.2.2.2.2.2.2.2.2.2.2.2.1
      have w14 := hw.2.2.2.2.2.2.2.2.2.2.2.2.2.1 k (by omega)
      have w1 := hw.1
      have wo := hw.2.2.2.2.2.1 _ w14.1
      have w8 := hw.2.2.2.2.2.2.2.1 (A 105 k) (by omega)
      obtain ⟨n, hn⟩ := lit6 hC hw d (k + 1) (gLit A (mo (A 94 2) (A 99)) k a) (by omega) q
      refine ⟨n + 1, ?_⟩
      show bX6_lit_4 _ a (nI k) σ Q
      unfold bX6_lit_4
      have e := hC.2.2.2.2.2.2 k (by omega)
      rw [hC.2.2.2.2.2.1]
      refine iF (nI_ge (by omega) (by omega)) ⟨vin (by omega) (by omega), ?_⟩
      rw [nIc (by omega), e.1, e.2.1]
      rintro x3 rfl
      refine ⟨vin (by omega) (by omega), ?_⟩
      rintro x5 rfl
      refine ⟨vin (by omega) (by omega), ?_⟩
      rw [nIc (by omega), hC.1.2.2.2.2.2.2 _ (by omega)]
      have fin : ∀ z : Nat, z = mo (A 94 2) (A 99) (A 105 k) * A 96 (A 104 k) → bX6_lit_72 (Lp (lX6_lit_4 Q) n) a (nI k) (nI (A 104 k)) (nI z) σ Q := by
        rintro z rfl
        have hm := mo_le (A 94 2) (A 99) (A 105 k)
        have hz : mo (A 94 2) (A 99) (A 105 k) * A 96 (A 104 k) ≤ 4 * 4 := Nat.mul_le_mul hm wo.2
        unfold gLit at hn
        refine ⟨vin (by omega) (by omega), ?_⟩
        rw [nIc (by omega), e.2.2]
        by_cases c : A 106 k ≤ mo (A 94 2) (A 99) (A 105 k) * A 96 (A 104 k)
        · rw [if_pos c] at hn
          refine iT (nI_le c (by omega)) ?_
          rintro x1 rfl
          rw [nI_1]; exact hn
        · rw [if_neg c] at hn
          refine iF (fun d => c ((nI_leI (by omega) (by omega)).mp d)) ?_
          rintro x3 rfl x1 rfl
          rw [nI_1]; exact hn
      by_cases c : A 99 (A 105 k) = 0
      · refine iT (by rw [c]; rfl) (m6 hC hw (by omega) ⟨vin (by omega) (by omega), ?_⟩)
        rw [nIc (by omega), hC.1.2.2.2.2.1 _ w14.1, nI_mul]
        exact fin _ (by rw [mo_pos c])
      · refine iF (fun d => c ((nI_eq (b := 0) (by omega) (by omega)).mp d)) (fin 0 (by rw [mo_neg c, Nat.zero_mul]))
theorem lit7 (hM : RM A σ) (hw : WF A) : ∀ (d k : Nat) (a : Int32), k + d = A 92 24 → Q (accF (gLit A (mo (A 94 2) (A 99))) d k a) σ → ∃ n, Lp (lX7_lit_9 Q) n (a, nI k, σ)
  | 0, k, a, h, q => ⟨1, by
      have := hw.2.2.2.2.2.2.2.2.2.2.2.2.1
      show bX7_lit_9 _ a (nI k) σ Q
      unfold bX7_lit_9
      rw [hM 92 24 (by unfold rl; omega)]
      exact iT (nI_le (by omega) (by omega)) q⟩
  | d + 1, k, a, h, q => by
      have w13 := hw.2.2.2.2.2.2.2.2.2.2.2.2.1
      have w14 := hw.2.2.2.2.2.2.2.2.2.2.2.2.2.1 k (by omega)
      have w1 := hw.1
      have wo := hw.2.2.2.2.2.1 _ w14.1
      obtain ⟨n, hn⟩ := lit7 hM hw d (k + 1) (gLit A (mo (A 94 2) (A 99)) k a) (by omega) q
      refine ⟨n + 1, ?_⟩
      show bX7_lit_9 _ a (nI k) σ Q
      unfold bX7_lit_9
      have hm := mo_le (A 94 2) (A 99) (A 105 k)
      have hz : mo (A 94 2) (A 99) (A 105 k) * A 96 (A 104 k) ≤ 4 * 4 := Nat.mul_le_mul hm wo.2
      rw [hM 92 24 (by unfold rl; omega)]
      refine iF (nI_ge (by omega) (by omega)) ⟨vin (by omega) (by omega), vin (by omega) (by omega), ?_⟩
      rw [nIc (by omega), hM 105 k (by unfold rl; omega), hM 106 k (by unfold rl; omega)]
      refine mo7 hM hw (by omega) ⟨vin (by omega) (by omega), ?_⟩
      rw [hM 104 k (by unfold rl; omega), nIc (by omega), hM 96 _ (by unfold rl; omega), nI_mul]
      refine ⟨vin (by omega) (by omega), ?_⟩
      unfold gLit at hn
      have fin : ∀ z : Int32, Lp (lX7_lit_9 Q) n (a ||| z, nI (k + 1), σ) → bX7_lit_61 (Lp (lX7_lit_9 Q) n) (nI k) z a σ Q := by
        rintro z hz x1 rfl x2 rfl
        rw [nI_1]; exact hz
      by_cases c : A 106 k ≤ mo (A 94 2) (A 99) (A 105 k) * A 96 (A 104 k)
      · rw [if_pos c] at hn
        exact iT (nI_le c (by omega)) (fin 0 (by rw [or0]; exact hn))
      · rw [if_neg c] at hn
        exact iF (fun d => c ((nI_leI (by omega) (by omega)).mp d)) ⟨vin (by omega) (by omega), fin _ hn⟩
end Lit
theorem t_lit {σ : St} (h : INV σ) : wX6_lit σ (fun r σ1 => wX7_lit σ1 (fun r' σ2 => r = r' ∧ INV σ2)) := by
  obtain ⟨A, hw, hM, hC, hL, hT⟩ := h
  have hI := inv92 hw hM hC hL hT
  have hM1 := rm92 hM
  refine lit6 hC hw (A 92 24) 0 0 (by omega) ?_
  rintro σ1 rfl
  exact lit7 hM1 hw (A 92 24) 0 0 (by omega) ⟨rfl, hI⟩
