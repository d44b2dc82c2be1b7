/-! loops that fold -/
def accF (g : Nat → Int32 → Int32) : Nat → Nat → Int32 → Int32
  | 0, _, a => a
  | d + 1, k, a => accF g d (k + 1) (g k a)
section Folds
variable {A : AM} {σ : St} {Q : Int32 → St → Prop}
def gDone (f : Nat → Nat) (k : Nat) (a : Int32) : Int32 := if f (6 + k) = 0 then a ||| (1 <<< (nI k &&& 31)) else a
def gSum (f : Nat → Nat) (k : Nat) (a : Int32) : Int32 := a + nI (f (1 + k))
def gFull (m : Nat → Nat) (n : Nat) (a : Int32) : Int32 := if m n = 4 then a + 1 else a
theorem done6 (hC : RC A σ) (hw : WF A) : ∀ (d k : Nat) (a : Int32), k + d = A 94 1 → Q (accF (gDone (A 100)) d k a) σ → ∃ n, Lp (lX6_doneStrips_4 Q) n (a, nI k, σ)
  | 0, k, a, h, q => ⟨1, by
      have := hw.2.1
      show bX6_doneStrips_4 _ a (nI k) σ Q
      unfold bX6_doneStrips_4
      rw [hC.1.2.1]
      exact iT (nI_le (by omega) (by omega)) q⟩
  | d + 1, k, a, h, q => by
      have w2 := hw.2.1
      have wl := (hw.2.2.2.2.2.2.2.2.1.2.2.2.2.1 k (by omega)).2
      obtain ⟨n, hn⟩ := done6 hC hw d (k + 1) (gDone (A 100) k a) (by omega) q
      refine ⟨n + 1, ?_⟩
      show bX6_doneStrips_4 _ a (nI k) σ Q
      unfold bX6_doneStrips_4
      rw [hC.1.2.1]
      refine iF (nI_ge (by omega) (by omega)) ⟨vin (by omega) (by omega), ?_⟩
      rw [nIc (by omega), (hC.2.1.2.2.2.2 k (by omega)).2]
      unfold gDone at hn
      by_cases c : A 100 (6 + k) = 0
      · rw [if_pos c] at hn
        refine iT (by rw [c]; rfl) ?_
        rintro x4 rfl x1 rfl
        rw [nI_1]; exact hn
      · rw [if_neg c] at hn
        refine iF (fun e => c ((nI_eq (b := 0) (by omega) (by omega)).mp e)) ?_
        rintro x1 rfl
        rw [nI_1]; exact hn
theorem sum6 (hC : RC A σ) (hw : WF A) : ∀ (d k : Nat) (a : Int32), k + d = A 94 0 → Q (accF (gSum (A 100)) d k a) σ → ∃ n, Lp (lX6_quartersOfAll_4 Q) n (a, nI k, σ)
  | 0, k, a, h, q => ⟨1, by
      have := hw.1
      show bX6_quartersOfAll_4 _ a (nI k) σ Q
      unfold bX6_quartersOfAll_4
      rw [hC.1.1]
      exact iT (nI_le (by omega) (by omega)) q⟩
  | d + 1, k, a, h, q => by
      have w2 := hw.1
      obtain ⟨n, hn⟩ := sum6 hC hw d (k + 1) (gSum (A 100) k a) (by omega) q
      refine ⟨n + 1, ?_⟩
      show bX6_quartersOfAll_4 _ a (nI k) σ Q
      unfold bX6_quartersOfAll_4
      rw [hC.1.1]
      refine iF (nI_ge (by omega) (by omega)) ⟨vin (by omega) (by omega), ?_⟩
      rw [nIc (by omega), (hC.2.1.2.2.2.1 k (by omega)).1]
      rintro x3 rfl x4 rfl
      rw [nI_1]; exact hn
theorem ge_nI {a b : Nat} (h : b ≤ a) (ha : a < 2 ^ 31) : nI b ≤ nI a := nI_le h ha
theorem mo_pos {ph : Nat} {cl : Nat → Nat} {n : Nat} (h : cl n = 0) : mo ph cl n = moN ph n := by unfold mo; rw [if_pos h]
theorem mo_neg {ph : Nat} {cl : Nat → Nat} {n : Nat} (h : ¬ cl n = 0) : mo ph cl n = 0 := by unfold mo; rw [if_neg h]
theorem full6 (hC : RC A σ) (hw : WF A) : ∀ (d k : Nat) (a : Int32), k ≤ 99 → A 94 3 - k = d → Q (accF (gFull (mo (A 94 2) (A 99))) d k a) σ → ∃ n, Lp (lX6_fullNights_10 Q) n (a, nI k, σ)
  | 0, k, a, h0, h, q => ⟨1, by
      have := hw.2.2.2.2.1
      show bX6_fullNights_10 _ a (nI k) σ Q
      unfold bX6_fullNights_10
      rw [hC.1.2.2.2.1]
      exact iT (nI_le (by omega) (by omega)) q⟩
  | d + 1, k, a, h0, h, q => by
      have w5 := hw.2.2.2.2.1
      have w8 := hw.2.2.2.2.2.2.2.1 k (by omega)
      obtain ⟨n, hn⟩ := full6 hC hw d (k + 1) (gFull (mo (A 94 2) (A 99)) k a) (by omega) (by omega) q
      refine ⟨n + 1, ?_⟩
      show bX6_fullNights_10 _ a (nI k) σ Q
      unfold bX6_fullNights_10
      rw [hC.1.2.2.2.1]
      refine iF (nI_ge (by omega) (by omega)) ⟨vin (by omega) (by omega), ?_⟩
      rw [nIc (by omega), hC.1.2.2.2.2.2.2 k (by omega)]
      unfold gFull at hn
      by_cases c : A 99 k = 0
      · rw [mo_pos c] at hn
        refine iT (by rw [c]; rfl) (m6 hC hw (by omega) ?_)
        have := moN_le (A 94 2) k
        by_cases e : moN (A 94 2) k = 4
        · rw [if_pos e] at hn
          refine iT (by rw [e]; rfl) ?_
          rintro x7 rfl x1 rfl
          rw [nI_1]; exact hn
        · rw [if_neg e] at hn
          refine iF (fun f => e ((nI_eq (b := 4) (by omega) (by omega)).mp f)) ?_
          rintro x1 rfl
          rw [nI_1]; exact hn
      · rw [mo_neg c, if_neg (by omega)] at hn
        refine iF (fun e => c ((nI_eq (b := 0) (by omega) (by omega)).mp e)) ?_
        rintro x1 rfl
        rw [nI_1]; exact hn
theorem or0 (x : Int32) : x ||| 0 = x := Int32.or_zero
theorem full7 (hM : RM A σ) (hw : WF A) (y1 y2 y3 : Int32) : ∀ (d k : Nat) (a : Int32), k ≤ 99 → A 94 3 - k = d → ((y1 = 0 → Q (σ.1 100 0) σ) ∧ (¬ y1 = 0 → ((y1 = 1 → Q y2 σ) ∧ (¬ y1 = 1 → ((y1 = 2 → Q (σ.1 100 20) σ) ∧ (¬ y1 = 2 → ((y1 = 3 → Q y3 σ) ∧ (¬ y1 = 3 → ((y1 = 4 → Q (accF (gFull (mo (A 94 2) (A 99))) d k a) σ) ∧ (¬ y1 = 4 → Q (σ.1 92 20) σ)))))))))) → ∃ n, Lp (lX7_now_107 Q) n (y1, y2, y3, a, nI k, σ)
  | 0, k, a, h0, h, q => ⟨1, by
      have := hw.2.2.2.2.1
      show bX7_now_107 _ y1 y2 y3 a (nI k) σ Q
      unfold bX7_now_107
      rw [hM 94 3 (by unfold rl; omega)]
      exact iT (nI_le (by omega) (by omega)) q⟩
  | d + 1, k, a, h0, h, q => by
      have w5 := hw.2.2.2.2.1
      have w8 := hw.2.2.2.2.2.2.2.1 k (by omega)
      obtain ⟨n, hn⟩ := full7 hM hw y1 y2 y3 d (k + 1) (gFull (mo (A 94 2) (A 99)) k a) (by omega) (by omega) q
      refine ⟨n + 1, ?_⟩
      show bX7_now_107 _ y1 y2 y3 a (nI k) σ Q
      unfold bX7_now_107
      rw [hM 94 3 (by unfold rl; omega)]
      refine iF (nI_ge (by omega) (by omega)) (m7 hM hw (by omega) ?_)
      unfold gFull at hn
      have := moN_le (A 94 2) k
      have fin : ∀ z : Int32, Lp (lX7_now_107 Q) n (y1, y2, y3, a + z, nI (k + 1), σ) → bX7_now_145 (Lp (lX7_now_107 Q) n) y1 y2 y3 (nI k) z a σ Q := by
        rintro z hz x1 rfl x2 rfl
        rw [nI_1]; exact hz
      by_cases e : moN (A 94 2) k = 4
      · refine iT (by rw [e]; rfl) ⟨vin (by omega) (by omega), ?_⟩
        rw [nIc (by omega), hM 99 k (by unfold rl; omega)]
        by_cases c : A 99 k = 0
        · rw [mo_pos c, if_pos e] at hn
          exact iT (by rw [c]; rfl) (fin _ hn)
        · rw [mo_neg c, if_neg (by omega)] at hn
          exact iF (fun e => c ((nI_eq (b := 0) (by omega) (by omega)).mp e)) (fin 0 (by rw [Int32.add_zero]; exact hn))
      · have e2 : ¬ mo (A 94 2) (A 99) k = 4 := by unfold mo; split <;> omega
        rw [if_neg e2] at hn
        exact iF (fun f => e ((nI_eq (b := 4) (by omega) (by omega)).mp f)) (fin 0 (by rw [Int32.add_zero]; exact hn))
theorem sum7 (hM : RM A σ) (hw : WF A) (y1 y2 y4 : Int32) (K : Int32 → Prop) (hK : ∀ y3, K y3 → ∃ n, Lp (lX7_now_107 Q) n (y1, y2, y3, y4, σ.1 100 0, σ)) : ∀ (d k : Nat) (a : Int32), k + d = A 94 0 → K (accF (gSum (A 100)) d k a) → ∃ n, Lp (lX7_now_70 Q) n (y1, y2, a, y4, nI k, σ)
  | 0, k, a, h, q => ⟨1, by
      have := hw.1
      show bX7_now_70 _ y1 y2 a y4 (nI k) σ Q
      unfold bX7_now_70
      rw [hM 94 0 (by unfold rl; omega)]
      refine iT (nI_le (by omega) (by omega)) ?_
      rintro x2 rfl
      exact hK _ q⟩
  | d + 1, k, a, h, q => by
      have w2 := hw.1
      obtain ⟨n, hn⟩ := sum7 hM hw y1 y2 y4 K hK d (k + 1) (gSum (A 100) k a) (by omega) q
      refine ⟨n + 1, ?_⟩
      show bX7_now_70 _ y1 y2 a y4 (nI k) σ Q
      unfold bX7_now_70
      rw [hM 94 0 (by unfold rl; omega), a1]
      refine iF (nI_ge (by omega) (by omega)) ⟨vin (by omega) (by omega), ?_⟩
      rw [nIc (by omega), hM 100 (1 + k) (by unfold rl; omega)]
      rintro x3 rfl x4 rfl
      rw [nI_1]; exact hn
theorem done7 (hM : RM A σ) (hw : WF A) (y1 : Int32) (K : Int32 → Prop) (hK : ∀ y2, K y2 → ∃ n, Lp (lX7_now_70 Q) n (y1, y2, 0, 0, 0, σ)) : ∀ (d k : Nat) (a : Int32), k + d = A 94 1 → K (accF (gDone (A 100)) d k a) → ∃ n, Lp (lX7_now_26 Q) n (y1, a, 0, 0, nI k, σ)
  | 0, k, a, h, q => ⟨1, by
      have := hw.2.1
      show bX7_now_26 _ y1 a 0 0 (nI k) σ Q
      unfold bX7_now_26
      rw [hM 94 1 (by unfold rl; omega)]
      exact iT (nI_le (by omega) (by omega)) (hK _ q)⟩
  | d + 1, k, a, h, q => by
      have w2 := hw.2.1
      have wl := (hw.2.2.2.2.2.2.2.2.1.2.2.2.2.1 k (by omega)).2
      obtain ⟨n, hn⟩ := done7 hM hw y1 K hK d (k + 1) (gDone (A 100) k a) (by omega) q
      refine ⟨n + 1, ?_⟩
      show bX7_now_26 _ y1 a 0 0 (nI k) σ Q
      unfold bX7_now_26
      rw [hM 94 1 (by unfold rl; omega), a6]
      refine iF (nI_ge (by omega) (by omega)) ⟨vin (by omega) (by omega), ?_⟩
      rw [nIc (by omega), hM 100 (6 + k) (by unfold rl; omega)]
      unfold gDone at hn
      have fin : ∀ z : Int32, Lp (lX7_now_26 Q) n (y1, a ||| z, 0, 0, nI (k + 1), σ) → bX7_now_59 (Lp (lX7_now_26 Q) n) y1 0 0 (nI k) z a σ Q := by
        rintro z hz x1 rfl x2 rfl
        rw [nI_1]; exact hz
      by_cases c : A 100 (6 + k) = 0
      · rw [if_pos c] at hn
        exact iT (by rw [c]; rfl) (fin _ hn)
      · rw [if_neg c] at hn
        exact iF (fun e => c ((nI_eq (b := 0) (by omega) (by omega)).mp e)) (fin 0 (by rw [or0]; exact hn))
end Folds
theorem t_now {σ : St} (h : INV σ) (a : Int32) : wX6_now a σ (fun r σ1 => wX7_now a σ1 (fun r' σ2 => r = r' ∧ INV σ2)) := by
  obtain ⟨A, hw, hM, hC, hL, hT⟩ := h
  have hI := inv92 hw hM hC hL hT
  have hM1 := rm92 hM
  have wn := hw.2.2.2.2.2.2.2.2.1.1
  have key : ∀ r : Int32, (a = 0 → r = nI (A 100 0)) → (a = 1 → r = accF (gDone (A 100)) (A 94 1) 0 0) → (a = 2 → r = nI (A 100 20)) → (a = 3 → r = accF (gSum (A 100)) (A 94 0) 0 0) → (a = 4 → r = accF (gFull (mo (A 94 2) (A 99))) (A 94 3 - A 100 0) (A 100 0) 0) → (a = 5 → r = nI (A 92 20)) → (¬ isX a 6 → r = -1) → wX7_now a σ (fun r' σ2 => r = r' ∧ INV σ2) := by
    intro r q0 q1 q2 q3 q4 q5 q6
    rintro σ1 rfl
    by_cases hx : isX a 6
    · obtain ⟨j, hj, rfl⟩ := hx
      refine in_X (n := 6) (by omega) rfl hj (iF (by decide) ?_)
      refine done7 hM1 hw (nI j) (fun y2 => y2 = accF (gDone (A 100)) (A 94 1) 0 0) (fun y2 e2 => ?_) (A 94 1) 0 0 (by omega) rfl
      refine sum7 hM1 hw (nI j) y2 0 (fun y3 => y3 = accF (gSum (A 100)) (A 94 0) 0 0) (fun y3 e3 => ?_) (A 94 0) 0 0 (by omega) rfl
      rw [hM1 100 0 (by unfold rl; omega)]
      refine full7 hM1 hw (nI j) y2 y3 _ (A 100 0) 0 wn rfl ?_
      rw [hM1 100 0 (by unfold rl; omega), hM1 100 20 (by unfold rl; omega), hM1 92 20 (by unfold rl; omega)]
      refine ⟨fun c => ⟨q0 c, hI⟩, fun c0 => ⟨fun c => ⟨(q1 c).trans e2.symm, hI⟩, fun c1 => ⟨fun c => ⟨q2 c, hI⟩, fun c2 => ⟨fun c => ⟨(q3 c).trans e3.symm, hI⟩, fun c3 => ⟨fun c => ⟨q4 c, hI⟩, fun c4 => ⟨q5 ?_, hI⟩⟩⟩⟩⟩⟩
      rcases (by omega : j = 0 ∨ j = 1 ∨ j = 2 ∨ j = 3 ∨ j = 4 ∨ j = 5) with rfl | rfl | rfl | rfl | rfl | rfl
      · exact absurd rfl c0
      · exact absurd rfl c1
      · exact absurd rfl c2
      · exact absurd rfl c3
      · exact absurd rfl c4
      · rfl
    · exact in_N (n := 6) (by omega) (by omega) rfl hx (iT rfl ⟨q6 hx, hI⟩)
  have ne : ∀ i j : Nat, i < 6 → j < 6 → i ≠ j → a = nI i → ¬ a = nI j := by
    intro i j hi hj hij e1 e2
    exact hij ((nI_eq (by omega) (by omega)).mp (e1.symm.trans e2))
  have one : ∀ (r : Int32) (i : Nat), i < 6 → a = nI i → (i = 0 → r = nI (A 100 0)) → (i = 1 → r = accF (gDone (A 100)) (A 94 1) 0 0) → (i = 2 → r = nI (A 100 20)) → (i = 3 → r = accF (gSum (A 100)) (A 94 0) 0 0) → (i = 4 → r = accF (gFull (mo (A 94 2) (A 99))) (A 94 3 - A 100 0) (A 100 0) 0) → (i = 5 → r = nI (A 92 20)) → wX7_now a σ (fun r' σ2 => r = r' ∧ INV σ2) := by
    intro r i hi e q0 q1 q2 q3 q4 q5
    have f : ∀ j : Nat, j < 6 → a = nI j → i = j := fun j hj e2 => by
      rcases Nat.decEq i j with c | c
      · exact absurd e2 (ne i j hi hj c e)
      · exact c
    exact key r (fun c => q0 (f 0 (by omega) c)) (fun c => q1 (f 1 (by omega) c)) (fun c => q2 (f 2 (by omega) c)) (fun c => q3 (f 3 (by omega) c)) (fun c => q4 (f 4 (by omega) c)) (fun c => q5 (f 5 (by omega) c)) (fun n => absurd ⟨i, hi, e⟩ n)
  refine ⟨fun c => ?_, fun c0 => ⟨fun c => ?_, fun c1 => ⟨fun c => ?_, fun c2 => ⟨fun c => ?_, fun c3 => ⟨fun c => ?_, fun c4 => ⟨fun c => ?_, fun c5 => ?_⟩⟩⟩⟩⟩⟩
  · exact one _ 0 (by omega) c (fun _ => hC.2.1.1) (by omega) (by omega) (by omega) (by omega) (by omega)
  · exact done6 hC hw (A 94 1) 0 0 (by omega) (one _ 1 (by omega) c (by omega) (fun _ => rfl) (by omega) (by omega) (by omega) (by omega))
  · exact one _ 2 (by omega) c (by omega) (by omega) (fun _ => hC.2.1.2.1) (by omega) (by omega) (by omega)
  · exact sum6 hC hw (A 94 0) 0 0 (by omega) (one _ 3 (by omega) c (by omega) (by omega) (by omega) (fun _ => rfl) (by omega) (by omega))
  · rintro x1 rfl
    rw [hC.2.1.1]
    exact full6 hC hw _ (A 100 0) 0 wn rfl (one _ 4 (by omega) c (by omega) (by omega) (by omega) (by omega) (fun _ => rfl) (by omega))
  · obtain ⟨x, -, -, hu, -⟩ := hC.2.2.1
    exact one _ 5 (by omega) c (by omega) (by omega) (by omega) (by omega) (by omega) (fun _ => hu)
  · refine key _ (fun d => absurd d c0) (fun d => absurd d c1) (fun d => absurd d c2) (fun d => absurd d c3) (fun d => absurd d c4) (fun d => absurd d c5) (fun _ => rfl)
