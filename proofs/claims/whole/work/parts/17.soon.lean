section Soon7
variable {A : AM} {σ : St} {Q : Int32 → St → Prop}
theorem soon7 (hM : RM A σ) (hw : WF A) {ka : Nat} (hka : ka < A 94 0) {b : Int32} {bp : Bool} {ob : Nat} (hb : (b = -1 ∧ bp = false ∧ ob = 0) ∨ ∃ kb, kb < A 94 0 ∧ b = nI kb ∧ bp = true ∧ ob = A 96 kb) : ∀ (d n l f s : Nat), n + d = 100 → 0 < l → l ≤ 60 → f ≤ 999 → s ≤ 999 → Q (sF (A 94 2) (A 99) bp (A 96 ka) ob d n l f s) σ → ∃ m, Lp (lX7_soonest_101 Q) m (nI ka, b, nI l, nI f, nI s, nI n, σ)
  | 0, n, l, f, s, h, h1, h2, h3, h4, q => ⟨1, by
      show bX7_soonest_101 _ (nI ka) b (nI l) (nI f) (nI s) (nI n) σ Q
      exact iT (nI_le (a := 100) (by omega) (by omega)) q⟩
  | d + 1, n, l, f, s, h, h1, h2, h3, h4, q => by
      have w1 := hw.1
      have wa := hw.2.2.2.2.2.1 ka hka
      have w8 := hw.2.2.2.2.2.2.2.1 n (by omega)
      have hm := moN_le (A 94 2) n
      have hob : ob ≤ 4 := by
        rcases hb with ⟨-, -, rfl⟩ | ⟨kb, h1, -, -, rfl⟩
        · omega
        · exact (hw.2.2.2.2.2.1 kb h1).2
      unfold sF at q
      generalize hmm : moN (A 94 2) n = m at q hm
      have ecl := hM 99 n (by unfold rl; omega)
      -- the end of a turn
      have last : ∀ (c1 c2 f' s' : Nat), c1 ≤ 16 → c2 ≤ 16 → c1 + c2 = (if A 99 n = 0 then m * ((if m ≤ f then A 96 ka else 0) + (if bp = true ∧ m ≤ s then ob else 0)) else 0) → f' = (if m ≤ f then f - m else f) → s' = (if bp = true ∧ m ≤ s then s - m else s) → ∃ k, bX7_soonest_254 (Lp (lX7_soonest_101 Q) k) (nI ka) b (nI f') (nI s') (nI n) (nI c2) (nI l - nI c1) σ Q := by
        intro c1 c2 f' s' hc1 hc2 hc hf' hs'
        rw [← hc, ← hf', ← hs'] at q
        have hf9 : f' ≤ 999 := by rw [hf']; split <;> omega
        have hs9 : s' ≤ 999 := by rw [hs']; split <;> omega
        by_cases hl : l ≤ c1 + c2
        · rw [if_pos hl] at q
          refine ⟨0, ?_⟩
          rintro x1 rfl
          rw [sub2, nI_add]
          exact iF (fun e => by have := (sub_gt (by omega) (by omega)).mp e; omega) q
        · rw [if_neg hl] at q
          obtain ⟨k, hk⟩ := soon7 hM hw hka hb d (n + 1) (l - (c1 + c2)) f' s' (by omega) (by omega) (by omega) hf9 hs9 q
          refine ⟨k, ?_⟩
          rintro x1 rfl
          rw [sub2, nI_add]
          refine iT ((sub_gt (by omega) (by omega)).mpr (by omega)) ?_
          rintro x3 rfl
          rw [nI_sub (by omega), nI_1]
          exact hk
      -- by who ploughs
      have tail : ∀ (u1 u2 : Int32) (d1 d2 e1 e2 : Nat), ((u1 = 0 ∧ d1 = 0 ∧ e1 = 0) ∨ (u1 = 1 ∧ d1 = m ∧ e1 = A 96 ka)) → ((u2 = 0 ∧ d2 = 0 ∧ e2 = 0) ∨ (u2 = 1 ∧ d2 = m ∧ e2 = ob ∧ bp = true)) → d1 ≤ f → d2 ≤ s → m * (e1 + e2) = m * ((if m ≤ f then A 96 ka else 0) + (if bp = true ∧ m ≤ s then ob else 0)) → f - d1 = (if m ≤ f then f - m else f) → s - d2 = (if bp = true ∧ m ≤ s then s - m else s) → ∃ k, bX7_soonest_157 (Lp (lX7_soonest_101 Q) k) (nI ka) b (nI l) (nI f) (nI s) (nI n) (nI m) u1 u2 σ Q := by
        intro u1 u2 d1 d2 e1 e2 hu1 hu2 hd1 hd2 hc hf' hs'
        have he1 : m * e1 ≤ 4 * 4 := by
          rcases hu1 with ⟨-, -, rfl⟩ | ⟨-, -, rfl⟩
          · omega
          · exact Nat.mul_le_mul hm wa.2
        have he2 : m * e2 ≤ 4 * 4 := by
          rcases hu2 with ⟨-, -, rfl⟩ | ⟨-, -, rfl, -⟩
          · omega
          · exact Nat.mul_le_mul hm hob
        have cl : ∃ k, ∀ (c1 c2 : Nat), c1 = (if A 99 n = 0 then m * e1 else 0) → c2 = (if A 99 n = 0 then m * e2 else 0) → bX7_soonest_254 (Lp (lX7_soonest_101 Q) k) (nI ka) b (nI (f - d1)) (nI (s - d2)) (nI n) (nI c2) (nI l - nI c1) σ Q := by
          obtain ⟨k, hk⟩ := last (if A 99 n = 0 then m * e1 else 0) (if A 99 n = 0 then m * e2 else 0) (f - d1) (s - d2) (by split <;> omega) (by split <;> omega) (by rw [← hc, Nat.mul_add]; split <;> omega) hf' hs'
          exact ⟨k, fun c1 c2 h1 h2 => by rw [h1, h2]; exact hk⟩
        obtain ⟨k, hk⟩ := cl
        -- the second one's furrows
        have s221 : ∀ c1 : Nat, c1 = (if A 99 n = 0 then m * e1 else 0) → bX7_soonest_221 (Lp (lX7_soonest_101 Q) k) (nI ka) b (nI (f - d1)) (nI (s - d2)) (nI n) (nI m) u2 (nI c1) (nI l) σ Q := by
          intro c1 h1
          rintro x1 rfl
          rcases hu2 with ⟨rfl, -, rfl⟩ | ⟨rfl, -, rfl, rfl⟩
          · exact iT rfl (hk c1 0 h1 (by simp))
          · refine iF (by decide) ⟨vin (by omega) (by omega), ?_⟩
            rw [nIc (by omega), ecl]
            rcases hb with ⟨-, hbf, -⟩ | ⟨kb, hkb, rfl, -, rfl⟩
            · cases hbf
            · by_cases c : A 99 n = 0
              · refine iT (by rw [c]; rfl) ⟨vin (by omega) (by omega), ?_⟩
                rw [nIc (by omega), hM 96 kb (by unfold rl; omega), nI_mul]
                exact hk c1 _ h1 (by rw [if_pos c])
              · exact iF (fun e => c ((nI_eq (b := 0) (by omega) (by omega)).mp e)) (hk c1 0 h1 (by rw [if_neg c]))
        have s188 : ∀ (z0 : Nat) (z1 : Int32), z1 - nI z0 = nI (s - d2) → bX7_soonest_188 (Lp (lX7_soonest_101 Q) k) (nI ka) b (nI l) (nI (f - d1)) (nI n) (nI m) u1 u2 (nI z0) z1 σ Q := by
          intro z0 z1 hz
          rintro x1 rfl
          rw [hz]
          rcases hu1 with ⟨rfl, -, rfl⟩ | ⟨rfl, -, rfl⟩
          · exact iT rfl (s221 0 (by simp))
          · refine iF (by decide) ⟨vin (by omega) (by omega), ?_⟩
            rw [nIc (by omega), ecl]
            by_cases c : A 99 n = 0
            · refine iT (by rw [c]; rfl) ⟨vin (by omega) (by omega), ?_⟩
              rw [nIc (by omega), hM 96 ka (by unfold rl; omega), nI_mul]
              exact s221 _ (by rw [if_pos c])
            · exact iF (fun e => c ((nI_eq (b := 0) (by omega) (by omega)).mp e)) (s221 0 (by rw [if_neg c]))
        have s172 : ∀ (z0 : Nat) (z1 : Int32), z1 - nI z0 = nI (f - d1) → bX7_soonest_172 (Lp (lX7_soonest_101 Q) k) (nI ka) b (nI l) (nI s) (nI n) (nI m) u1 u2 (nI z0) z1 σ Q := by
          intro z0 z1 hz
          rintro x1 rfl
          rw [hz]
          rcases hu2 with ⟨rfl, rfl, -⟩ | ⟨rfl, rfl, -, -⟩
          · exact iT rfl (s188 0 _ (nI_sub (by omega)))
          · exact iF (by decide) (s188 _ _ (nI_sub (by omega)))
        refine ⟨k, ?_⟩
        rcases hu1 with ⟨rfl, rfl, -⟩ | ⟨rfl, rfl, -⟩
        · exact iT rfl (s172 0 _ (nI_sub (by omega)))
        · exact iF (by decide) (s172 _ _ (nI_sub (by omega)))
      -- from the moon on
      have m133 : ∀ (u1 : Int32) (d1 e1 : Nat), ((u1 = 0 ∧ d1 = 0 ∧ e1 = 0) ∨ (u1 = 1 ∧ d1 = m ∧ e1 = A 96 ka)) → d1 ≤ f → m * e1 = m * (if m ≤ f then A 96 ka else 0) → f - d1 = (if m ≤ f then f - m else f) → ∃ k, bX7_soonest_133 (Lp (lX7_soonest_101 Q) k) (nI ka) b (nI l) (nI f) (nI s) (nI n) (nI m) u1 σ Q := by
        intro u1 d1 e1 hu1 hd1 hc1 hf'
        rcases Nat.eq_zero_or_pos m with hm0 | hm0
        · obtain ⟨k, hk⟩ := tail u1 0 d1 0 e1 0 hu1 (Or.inl ⟨rfl, rfl, rfl⟩) hd1 (by omega) (by rw [hm0]; simp) hf' (by rw [hm0]; split <;> simp)
          exact ⟨k, iT (by rw [hm0]; decide) hk⟩
        · by_cases hu : bp = true ∧ m ≤ s
          · obtain ⟨k, hk⟩ := tail u1 1 d1 m e1 ob hu1 (Or.inr ⟨rfl, rfl, rfl, hu.1⟩) hd1 hu.2 (by rw [if_pos hu, Nat.mul_add, Nat.mul_add, hc1]) hf' (by rw [if_pos hu])
            refine ⟨k, iF (nI_nle hm0 (by omega)) ?_⟩
            rcases hb with ⟨-, hbf, -⟩ | ⟨kb, hkb, rfl, -, rfl⟩
            · rw [hbf] at hu; cases hu.1
            · exact iF (fun e => nI_pos (n := kb) (by omega) (by rw [e]; decide)) (iF (nI_nlt hu.2 (by omega)) hk)
          · obtain ⟨k, hk⟩ := tail u1 0 d1 0 e1 0 hu1 (Or.inl ⟨rfl, rfl, rfl⟩) hd1 (by omega) (by rw [if_neg hu, Nat.mul_add, Nat.mul_add, hc1]) hf' (by rw [if_neg hu]; rfl)
            refine ⟨k, iF (nI_nle hm0 (by omega)) ?_⟩
            rcases hb with ⟨rfl, -, -⟩ | ⟨kb, hkb, rfl, hbt, rfl⟩
            · exact iT rfl hk
            · refine iF (fun e => nI_pos (n := kb) (by omega) (by rw [e]; decide)) (iT (nI_lt ?_ (by omega)) hk)
              rcases Nat.lt_or_ge s m with g | g
              · exact g
              · exact absurd ⟨hbt, g⟩ hu
      have go : ∃ k, (nI m ≤ 0 → bX7_soonest_132 (Lp (lX7_soonest_101 Q) k) (nI ka) b (nI l) (nI f) (nI s) (nI n) (nI m) σ Q) ∧ (¬ nI m ≤ 0 → ((nI f < nI m → bX7_soonest_132 (Lp (lX7_soonest_101 Q) k) (nI ka) b (nI l) (nI f) (nI s) (nI n) (nI m) σ Q) ∧ (¬ nI f < nI m → bX7_soonest_133 (Lp (lX7_soonest_101 Q) k) (nI ka) b (nI l) (nI f) (nI s) (nI n) (nI m) 1 σ Q))) := by
        rcases Nat.eq_zero_or_pos m with hm0 | hm0
        · obtain ⟨k, hk⟩ := m133 0 0 0 (Or.inl ⟨rfl, rfl, rfl⟩) (by omega) (by rw [hm0]; simp) (by rw [hm0]; simp)
          exact ⟨k, iT (by rw [hm0]; decide) hk⟩
        · by_cases e : m ≤ f
          · obtain ⟨k, hk⟩ := m133 1 m (A 96 ka) (Or.inr ⟨rfl, rfl, rfl⟩) e (by rw [if_pos e]) (by rw [if_pos e])
            exact ⟨k, iF (nI_nle hm0 (by omega)) (iF (nI_nlt e (by omega)) hk)⟩
          · obtain ⟨k, hk⟩ := m133 0 0 0 (Or.inl ⟨rfl, rfl, rfl⟩) (by omega) (by rw [if_neg e]) (by rw [if_neg e]; rfl)
            exact ⟨k, iF (nI_nle hm0 (by omega)) (iT (nI_lt (by omega) (by omega)) hk)⟩
      obtain ⟨k, hk⟩ := go
      refine ⟨k + 1, ?_⟩
      show bX7_soonest_101 _ (nI ka) b (nI l) (nI f) (nI s) (nI n) σ Q
      refine iF (fun e => by have := (nI_leI (a := 100) (by omega) (by omega)).mp e; omega) (m7 hM hw (by omega) ?_)
      rw [hmm]
      exact hk
end Soon7
theorem t_soonest {σ : St} (h : INV σ) (a b c : Int32) : wX6_soonest a b c σ (fun r σ1 => wX7_soonest a b c σ1 (fun r' σ2 => r = r' ∧ INV σ2)) := by
  obtain ⟨A, hw, hM, hC, hL, hT⟩ := h
  have hI := inv92 hw hM hC hL hT
  have hM1 := rm92 hM
  have w1 := hw.1
  have w2 := hw.2.1
  have wn := hw.2.2.2.2.2.2.2.2.1.1
  have wq := hw.2.2.2.2.2.2.2.2.1.2.2.2.2.2
  by_cases hx : isX a (A 94 0)
  · obtain ⟨ka, hka, rfl⟩ := hx
    refine f6_y hC hw hka (iF (by decide) ?_)
    by_cases hy : isX c (A 94 1)
    · obtain ⟨k, hk, rfl⟩ := hy
      have wl := (hw.2.2.2.2.2.2.2.2.1.2.2.2.2.1 k hk).2
      refine s6_y hC hw hk (iF (by decide) ?_)
      -- both walk
      have main : ∀ (bp : Bool) (ob : Nat) (s0 : Nat), s0 ≤ 999 → ¬ nI ka = b → ((b = -1 ∧ bp = false ∧ ob = 0 ∧ s0 = 0) ∨ ∃ kb, kb < A 94 0 ∧ b = nI kb ∧ bp = true ∧ ob = A 96 kb ∧ s0 = A 100 (1 + kb)) → bX6_soonest_36 (nI ka) b (nI k) σ (fun r σ1 => wX7_soonest (nI ka) b (nI k) σ1 (fun r' σ2 => r = r' ∧ INV σ2)) := by
        intro bp ob s0 hs0 hne hb
        have hb2 : (b = -1 ∧ bp = false ∧ ob = 0) ∨ ∃ kb, kb < A 94 0 ∧ b = nI kb ∧ bp = true ∧ ob = A 96 kb := by
          rcases hb with ⟨h1, h2, h3, -⟩ | ⟨kb, h1, h2, h3, h4, -⟩
          · exact Or.inl ⟨h1, h2, h3⟩
          · exact Or.inr ⟨kb, h1, h2, h3, h4⟩
        have mod : ∀ r : Int32, (A 100 (6 + k) = 0 → r = nI (A 100 0)) → (¬ A 100 (6 + k) = 0 → r = sF (A 94 2) (A 99) bp (A 96 ka) ob (100 - A 100 0) (A 100 0) (A 100 (6 + k)) (A 100 (1 + ka)) s0) → wX7_soonest (nI ka) b (nI k) σ (fun r' σ2 => r = r' ∧ INV σ2) := by
          intro r q0 q1
          rintro σ1 rfl
          have b79 : bX7_soonest_79 (nI ka) b (nI (A 100 (6 + k))) (nI (A 100 (1 + ka))) (nI s0) (up σ 92 0 0) (fun r' σ2 => r = r' ∧ INV σ2) := by
            unfold bX7_soonest_79
            rw [hM1 100 0 (by unfold rl; omega)]
            by_cases e : A 100 (6 + k) = 0
            · exact iT (by rw [e]; rfl) ⟨q0 e, hI⟩
            · refine iF (fun d => e ((nI_eq (b := 0) (by omega) (by omega)).mp d)) ?_
              rintro x2 rfl
              exact soon7 hM1 hw hka hb2 _ (A 100 0) _ _ _ (by omega) (by omega) wl (wq _ (by omega)) hs0 ⟨q1 e, hI⟩
          have b26 : bX7_soonest_26 (nI ka) b (nI k) (up σ 92 0 0) (fun r' σ2 => r = r' ∧ INV σ2) := by
            refine iF hne (s7_y hM1 hw hk (iF (by decide) ?_))
            rw [a6, a1]
            refine ⟨vin (by omega) (by omega), ?_⟩
            rw [nIc (by omega), hM1 100 _ (by unfold rl; omega)]
            rintro x6 rfl
            refine ⟨vin (by omega) (by omega), ?_⟩
            rw [nIc (by omega), hM1 100 _ (by unfold rl; omega)]
            rintro x8 rfl
            rcases hb with ⟨h1, h2, h3, h4⟩ | ⟨kb, h1, h2, h3, h4, h5⟩
            · refine iT h1 ?_
              rw [h4] at b79; exact b79
            · refine iF (fun e => nI_pos (n := kb) (by omega) (by rw [← h2, e]; decide)) ?_
              rw [h2, a1]
              refine ⟨vin (by omega) (by omega), ?_⟩
              rw [nIc (by omega), hM1 100 _ (by unfold rl; omega), ← h5, ← h2]
              exact b79
          refine f7_y hM1 hw hka (iF (by decide) ?_)
          rcases hb with ⟨h1, h2, h3, h4⟩ | ⟨kb, h1, h2, h3, h4, h5⟩
          · exact iT h1 b26
          · refine iF (fun e => nI_pos (n := kb) (by omega) (by rw [← h2, e]; decide)) ?_
            rw [h2]
            refine f7_y hM1 hw h1 (iF (by decide) ?_)
            rw [← h2]; exact b26
        refine ⟨vin (by omega) (by omega), ?_⟩
        rintro x2 rfl
        rw [nIc (by omega), (hC.2.1.2.2.2.2 k hk).2, hC.2.1.1]
        by_cases e : A 100 (6 + k) = 0
        · exact iT (by rw [e]; rfl) (mod _ (fun _ => rfl) (fun n => absurd e n))
        · refine iF (fun d => e ((nI_eq (b := 0) (by omega) (by omega)).mp d)) ⟨vin (by omega) (by omega), ?_⟩
          rintro x5 rfl
          rw [nIc (by omega), (hC.2.1.2.2.2.1 ka hka).1]
          have fin : bX6_soonest_89 (nI ka) b (nI (A 100 (6 + k))) (nI (A 100 (1 + ka))) (nI s0) σ (fun r σ1 => wX7_soonest (nI ka) b (nI k) σ1 (fun r' σ2 => r = r' ∧ INV σ2)) := by
            rintro x1 rfl
            rw [hC.2.1.1]
            exact soon6 hC hw hka hb2 _ (A 100 0) _ _ _ (by omega) (by omega) wl (wq _ (by omega)) hs0 (mod _ (fun n => absurd n e) (fun _ => rfl))
          rcases hb with ⟨h1, h2, h3, h4⟩ | ⟨kb, h1, h2, h3, h4, h5⟩
          · refine iT h1 ?_
            rw [h4] at fin; exact fin
          · refine iF (fun e => nI_pos (n := kb) (by omega) (by rw [← h2, e]; decide)) ?_
            rw [h2]
            refine ⟨vin (by omega) (by omega), ?_⟩
            rw [nIc (by omega), (hC.2.1.2.2.2.1 kb h1).1, ← h5, ← h2]
            exact fin
      by_cases hab : nI ka = b
      · refine iT hab ?_
        rintro σ1 rfl
        refine f7_y hM1 hw hka (iF (by decide) (iF (fun e => nI_pos (n := ka) (by omega) (by rw [hab, e]; decide)) ?_))
        rw [← hab]
        exact f7_y hM1 hw hka (iF (by decide) (iT rfl ⟨rfl, hI⟩))
      · refine iF hab ?_
        by_cases hb1 : b = -1
        · exact iT hb1 (main false 0 0 (by omega) hab (Or.inl ⟨hb1, rfl, rfl, rfl⟩))
        · refine iF hb1 ?_
          by_cases hxb : isX b (A 94 0)
          · obtain ⟨kb, hkb, rfl⟩ := hxb
            exact f6_y hC hw hkb (iF (by decide) (main true (A 96 kb) (A 100 (1 + kb)) (wq _ (by omega)) hab (Or.inr ⟨kb, hkb, rfl, rfl, rfl, rfl⟩)))
          · refine f6_n hC hw hxb (iT rfl ?_)
            rintro σ1 rfl
            exact f7_y hM1 hw hka (iF (by decide) (iF hb1 (f7_n hM1 hw hxb (iT rfl ⟨rfl, hI⟩))))
    · refine s6_n hC hw hy (iT rfl ?_)
      rintro σ1 rfl
      have b26 : bX7_soonest_26 (nI ka) b c (up σ 92 0 0) (fun r' σ2 => -1 = r' ∧ INV σ2) := by
        by_cases hab : nI ka = b
        · exact iT hab ⟨rfl, hI⟩
        · exact iF hab (s7_n hM1 hw hy (iT rfl ⟨rfl, hI⟩))
      refine f7_y hM1 hw hka (iF (by decide) ?_)
      by_cases hb1 : b = -1
      · exact iT hb1 b26
      · refine iF hb1 ?_
        by_cases hxb : isX b (A 94 0)
        · obtain ⟨kb, hkb, rfl⟩ := hxb
          exact f7_y hM1 hw hkb (iF (by decide) b26)
        · exact f7_n hM1 hw hxb (iT rfl ⟨rfl, hI⟩)
  · refine f6_n hC hw hx (iT rfl ?_)
    rintro σ1 rfl
    exact f7_n hM1 hw hx (iT rfl ⟨rfl, hI⟩)
