/-! calls that change little: both sides answer alike -/
theorem inv_up {A : AM} {σ : St} {i j : Nat} {v : Int32} (hi : 92 ≤ i) (hr : ¬ rl A i j) (hw : WF A) (hM : RM A σ) (hC : RC A σ) (hL : AL A σ) (hT : σ.2.1 = σ.2.2) : INV (up σ i j v) := ⟨A, hw, RM_irr hM hr, RC_SC hC (SC.up hi), AL_SC hL (SC.up hi), hT⟩
theorem add_nI {k n : Nat} {c : Int32} (hc : c = nI n) : c + nI k = nI (n + k) := by rw [hc, nI_add]
theorem up_get {σ : St} {i k : Nat} {v : Int32} : (up σ i k v).1 i k = v := by simp [up, upd]
theorem up_get_ne {σ : St} {i k b : Nat} {v : Int32} (h : b ≠ k) : (up σ i k v).1 i b = σ.1 i b := by simp [up, upd, h]
theorem t_trace {σ : St} (h : INV σ) : wX6_trace σ (fun r σ1 => wX7_trace σ1 (fun r' σ2 => r = r' ∧ INV σ2)) := by
  obtain ⟨A, hw, hM, hC, hL, hT⟩ := h
  rintro σ1 rfl
  exact ⟨hT, inv_up (by omega) (by unfold rl; omega) hw hM hC hL hT⟩
theorem t_clear {σ : St} (h : INV σ) : wX6_clear σ (fun r σ1 => wX7_clear σ1 (fun r' σ2 => r = r' ∧ INV σ2)) := by
  obtain ⟨A, hw, hM, hC, hL, hT⟩ := h
  rintro x1 rfl σ1 rfl σ2 rfl x2 rfl σ3 rfl
  have e1 := hM 92 3 (by unfold rl; omega)
  refine ⟨?_, sA A 92 3 0, ?_, RM_sA (RM_irr (RM_SM hM (SM.up (by omega))) (by unfold rl; omega)) (by omega) rfl, ?_, ?_, hT⟩
  · rw [hC.2.2.2.2.1.1, up_get_ne (by omega), up_ne (by omega), e1]
  · obtain ⟨w1, w2, w3, w4, w5, w6, w7, w8, w9, w10, w11, w12, w13, w14, w15, w16⟩ := hw
    exact ⟨w1, w2, w3, w4, w5, w6, w7, w8, w9, w10, w11, w12, w13, w14, Nat.zero_le _, w16⟩
  · refine RC_SC ?_ ((SC.up (by omega)).tr (SC.up (by omega)))
    obtain ⟨hP, hS, hH, hI, hT, hK⟩ := hC
    exact ⟨RP_eq hP (fun i _ _ => up_ne (by omega)), RSn_eq hS (fun i _ _ => up_ne (by omega)), RH_eq hH (fun i _ _ => up_ne (by omega)), RI_eq hI (fun i _ _ => up_ne (by omega)), ⟨up_get, hT.2⟩, RK_eq hK (fun i _ _ => up_ne (by omega))⟩
  · exact AL_SC (AL_eq hL (fun i h1 h2 => up_ne (by omega))) ((SC.up (by omega)).tr (SC.up (by omega)))
theorem t_forget {σ : St} (h : INV σ) : wX6_forget σ (fun r σ1 => wX7_forget σ1 (fun r' σ2 => r = r' ∧ INV σ2)) := by
  obtain ⟨A, hw, hM, hC, hL, hT⟩ := h
  rintro x1 rfl σ1 rfl σ2 rfl x2 rfl σ3 rfl
  have e1 := hM 92 24 (by unfold rl; omega)
  refine ⟨?_, sA A 92 24 0, ?_, RM_sA (RM_irr (RM_SM hM (SM.up (by omega))) (by unfold rl; omega)) (by omega) rfl, ?_, ?_, hT⟩
  · rw [hC.2.2.2.2.2.1, up_get_ne (by omega), up_ne (by omega), e1]
  · obtain ⟨w1, w2, w3, w4, w5, w6, w7, w8, w9, w10, w11, w12, w13, w14, w15, w16⟩ := hw
    exact ⟨w1, w2, w3, w4, w5, w6, w7, w8, w9, w10, w11, w12, Nat.zero_le _, fun i hi => absurd hi (Nat.not_lt_zero i), w15, w16⟩
  · refine RC_SC ?_ ((SC.up (by omega)).tr (SC.up (by omega)))
    obtain ⟨hP, hS, hH, hI, hT, hK⟩ := hC
    exact ⟨RP_eq hP (fun i _ _ => up_ne (by omega)), RSn_eq hS (fun i _ _ => up_ne (by omega)), RH_eq hH (fun i _ _ => up_ne (by omega)), RI_eq hI (fun i _ _ => up_ne (by omega)), RT_eq hT (fun i _ => up_ne (by omega)), ⟨up_get, hK.2⟩⟩
  · exact AL_SC (AL_eq hL (fun i h1 h2 => up_ne (by omega))) ((SC.up (by omega)).tr (SC.up (by omega)))
theorem char_id {n : Nat} (h : n ≤ 255) : vp_nar .char ((nI n).toUInt32 % 65536).toInt32 = nI n := by
  rw [vp_nar_char]
  have := (by decide +kernel : ∀ n : Fin 256, (((nI n.val).toUInt32 % 65536).toInt32.toUInt32.toUInt16.toUInt32.toInt32) = nI n.val) ⟨n, by omega⟩
  exact this
theorem t_type {σ : St} (h : INV σ) (a : Int32) : wX6_type a σ (fun r σ1 => wX7_type a σ1 (fun r' σ2 => r = r' ∧ INV σ2)) := by
  obtain ⟨A, hw, hM, hC, hL, hT⟩ := h
  have w15 := hw.2.2.2.2.2.2.2.2.2.2.2.2.2.2.1
  have e0 := hC.2.2.2.2.1.1
  unfold wX6_type
  rcases isX_or a 256 (by omega) with ⟨n, hn, rfl⟩ | ⟨hx, hq⟩
  · refine iF (nI_pos (by omega)) (iT (show nI n ≤ nI 255 from nI_le (by omega) (by omega)) ?_)
    unfold wX5_add
    rw [e0]
    by_cases hf : A 92 3 < 200
    · refine iT (nI_lt (b := 200) hf (by omega)) ⟨vin hf (by omega), ?_⟩
      rintro σ5 rfl σ6 rfl
      refine iF (by decide) ?_
      rintro σ1 rfl
      refine in_y (nI_pos (by omega)) (nI_nlt (a := 255) (by omega) (by omega)) (iF (by decide) ?_)
      have e1 : ∀ (v w u : Int32) (j : Nat), (up (up (up σ 1 j v) 2 1 w) 92 0 u).1 92 3 = nI (A 92 3) := fun v w u j => by
        rw [up_get_ne (by omega), up_ne (by omega), up_ne (by omega)]; exact hM 92 3 (by unfold rl; omega)
      rw [e1]
      refine iF (fun c => by have := (nI_eq (b := 200) (by omega) (by omega)).mp c; omega) ⟨vin hf (by omega), ?_⟩
      rintro σ7 rfl σ8 rfl
      rw [char_id (by omega), nI_clamp (by omega)]
      have e2 : (up σ 1 (A 92 3) (nI n)).1 2 1 = nI (A 92 3) := by rw [up_ne (by omega)]; exact e0
      rw [e2, nI_1]
      have e3 : (up (up (up (up σ 1 (A 92 3) (nI n)) 2 1 (nI (A 92 3 + 1))) 92 0 0) 93 (A 92 3) (nI n)).1 92 3 = nI (A 92 3) := by
        rw [up_ne (by omega)]; exact e1 _ _ _ _
      rw [e3, nI_1]
      refine ⟨by rw [up_get, up_get], sA (sA A 93 (A 92 3) n) 92 3 (A 92 3 + 1), ?_, RM_sA (RM_sA (RM_irr (RM_SM hM ((SM.up (by omega)).tr (SM.up (by omega)))) (by unfold rl; omega)) (by omega) rfl) (by omega) rfl, ?_, ?_, hT⟩
      · obtain ⟨w1, w2, w3, w4, w5, w6, w7, w8, w9, w10, w11, w12, w13, w14, w15, w16⟩ := hw
        refine ⟨w1, w2, w3, w4, w5, w6, w7, w8, w9, w10, w11, w12, w13, w14, hf, fun i hi => ?_⟩
        show (if i = A 92 3 then n else A 93 i) ≤ 255
        split
        · omega
        · exact w16 i hi
      · refine RC_SC ?_ (((SC.up (by omega)).tr (SC.up (by omega))).tr (SC.up (by omega)))
        obtain ⟨hP, hS, hH, hI, hT, hK⟩ := hC
        have q : ∀ i, i ≠ 2 → i ≠ 1 → (up (up σ 1 (A 92 3) (nI n)) 2 1 (nI (A 92 3 + 1))).1 i = σ.1 i := fun i h0 h1 => by rw [up_ne h0, up_ne h1]
        refine ⟨RP_eq hP (fun i _ _ => q i (by omega) (by omega)), RSn_eq hS (fun i _ _ => q i (by omega) (by omega)), RH_eq hH (fun i _ _ => q i (by omega) (by omega)), RI_eq hI (fun i _ _ => q i (by omega) (by omega)), ⟨up_get, fun i hi => ?_⟩, RK_eq hK (fun i _ _ => q i (by omega) (by omega))⟩
        rw [up_ne (by omega), up_eq]
        show (if i = A 92 3 then nI n else σ.1 1 i) = nI (if i = A 92 3 then n else A 93 i)
        split
        · rfl
        · exact hT.2 i hi
      · refine AL_SC (AL_eq hL (fun i h1 h2 => ?_)) (((SC.up (by omega)).tr (SC.up (by omega))).tr (SC.up (by omega)))
        rw [up_ne (by omega), up_ne (by omega)]
    · refine iF (fun c => hf ((nI_ltI (by omega) (by omega)).mp c)) (iT rfl ?_)
      rintro σ1 rfl
      refine in_y (nI_pos (by omega)) (nI_nlt (a := 255) (by omega) (by omega)) (iF (by decide) ?_)
      rw [up_get_ne (by omega), hM 92 3 (by unfold rl; omega)]
      exact iT (by rw [show A 92 3 = 200 by omega]; rfl) ⟨rfl, inv_up (by omega) (by unfold rl; omega) hw hM hC hL hT⟩
  · have hm : wX7_type a σ (fun r' σ2 => -1 = r' ∧ INV σ2) := by
      rintro σ1 rfl
      exact in_N (n := 256) (by omega) (by omega) rfl hx (iT rfl ⟨rfl, inv_up (by omega) (by unfold rl; omega) hw hM hC hL hT⟩)
    rcases hq with c | ⟨c, d⟩
    · exact iT c hm
    · refine iF c (iF (fun e => ?_) hm)
      obtain ⟨j, hj, rfl⟩ := nI_of c
      have := (nI_leI (by omega) hj).mp d
      have := (nI_leI (b := 255) hj (by omega)).mp e
      omega
