/-! parish(): both sides answer alike -/
theorem good_ne {p : Nat} {B : AM} {t : Tk} (h : good B t = bad p) : False := by cases h
theorem bad_inj {p p' : Nat} (h : bad p = bad p') : p = p' := Sum.inl.inj h
theorem fin_bad {T : Nat → Nat} {n p : Nat} {B : AM} {t : Tk} (hv : VT n t) (h : fin T n B t = bad p) : p ≤ n := by
  unfold fin at h
  have h1 := (VT_lx T (n := n) (p := t.nx) hv.2.1).1
  have a1 := h1.1
  have a2 := h1.2.1
  split at h
  · exact (good_ne h).elim
  · have := bad_inj h; omega
theorem one_bad {T : Nat → Nat} {n p : Nat} {w : Nat → AM} {t : Tk} {lo hi : Nat} (hv : VT n t) (h : one T n t lo hi w = bad p) : p ≤ n := by
  unfold one at h
  have h1 := (VT_lx T (n := n) (p := t.nx) hv.2.1).1
  have a1 := h1.1
  have a2 := h1.2.1
  split at h
  · exact fin_bad h1 h
  · have := bad_inj h; omega
theorem two_bad {T : Nat → Nat} {n p : Nat} {B : AM} {t : Tk} {i1 i2 j lo1 hi1 lo2 hi2 : Nat} (hv : VT n t) (h : two T n B t i1 i2 j lo1 hi1 lo2 hi2 = bad p) : p ≤ n := by
  unfold two at h
  have h1 := (VT_lx T (n := n) (p := t.nx) hv.2.1).1
  have h3 := (VT_lx T (n := n) (p := (lx T n t.nx).nx) h1.2.1).1
  have a1 := h1.1
  have a2 := h1.2.1
  have a3 := h3.1
  have a4 := h3.2.1
  split at h
  · split at h
    · exact fin_bad h3 h
    · have := bad_inj h; omega
  · have := bad_inj h; omega
theorem item_bad {T : Nat → Nat} {n p : Nat} {B : AM} {t : Tk} (hv : VT n t) (h : item T n B t = bad p) : p ≤ n := by
  have a1 := hv.1
  have a2 := hv.2.1
  have tb : bad t.pl = bad p → p ≤ n := fun h => by have := bad_inj h; omega
  unfold item at h
  split at h
  · split at h
    · split at h
      · exact tb h
      · exact two_bad hv h
    · split at h
      · split at h
        · exact tb h
        · exact two_bad hv h
      · split at h
        · exact one_bad hv h
        · split at h
          · split at h
            · exact one_bad hv h
            · exact tb h
          · split at h
            · exact one_bad hv h
            · exact tb h
  · exact tb h
theorem run_bad {T : Nat → Nat} {n p : Nat} : ∀ (d m : Nat) (B : AM) (t : Tk), WB B → VT n t → run T n d B t m = Sum.inl p → p ≤ n := by
  intro d
  induction d with
  | zero =>
    intro m B t hw hv h
    unfold run at h
    cases h
  | succ d ih =>
    intro m B t hw hv h
    unfold run at h
    split at h
    · cases h
    · have ib := @item_bad T n
      have ok := @item_ok T n B
      cases e : item T n B t with
      | inl p' =>
        rw [e] at h
        have := ib hv e
        have q : p' = p := Sum.inl.inj h
        omega
      | inr x =>
        obtain ⟨B', t'⟩ := x
        rw [e] at h
        have ⟨b1, b2, b3⟩ := ok hw hv e
        exact ih (m + 1) B' t' b1 b2 h
theorem neg10 {p : Nat} (h : p ≤ 200) : (-10 : Int32) - nI p < 0 := by
  rw [Int32.lt_iff_toInt_lt, Int32.toInt_sub, nI_toInt (by omega), show ((-10 : Int32)).toInt = -10 from by decide, Int.bmod_eq_of_le (by omega) (by omega)]
  show (-10 : Int) - p < 0
  omega
theorem rl_st {A : AM} (hw : WF A) {i j : Nat} (h : rl A i j) : ¬ st7 i j := by
  have w0 := hw.1
  have w1 := hw.2.1
  intro hs
  rcases h with ⟨rfl, hj⟩ | ⟨rfl, hj⟩ | ⟨rfl, hj⟩ | ⟨rfl, hj⟩ | ⟨rfl, hj⟩ | ⟨rfl, hj⟩ | ⟨rfl, hj⟩ | ⟨rfl, hj⟩ | ⟨rfl, hj⟩ | ⟨rfl, hj⟩ | ⟨rfl, hj⟩ | ⟨rfl, hj⟩ | ⟨rfl, hj⟩
  all_goals (unfold st7 at hs; omega)
theorem xch_lo {σ : St} {i : Nat} (h : 3 ≤ i ∧ i ≤ 8) : (xch σ).1 i = σ.1 (i + 6) := by unfold xch; simp only; rw [if_pos h]
theorem xch_ne {σ : St} {i : Nat} (h : ¬ (3 ≤ i ∧ i ≤ 14)) : (xch σ).1 i = σ.1 i := by unfold xch; simp only; rw [if_neg (by omega), if_neg (by omega)]
theorem t_parish {σ : St} (h : INV σ) : wX6_parish σ (fun r σ1 => wX7_parish σ1 (fun r' σ2 => r = r' ∧ INV σ2)) := by
  obtain ⟨A, hw, hM, hC, hL, hT⟩ := h
  have w15 := hw.2.2.2.2.2.2.2.2.2.2.2.2.2.2.1
  have w16 := hw.2.2.2.2.2.2.2.2.2.2.2.2.2.2.2
  unfold wX6_parish
  refine read6 (T := A 93) w15 w16 hC.2.2.2.2.1.2 hC.2.2.2.2.1.1 ?_
  have rb := @run_bad (A 93) (A 92 3)
  have p7 := @par7 (A 93) (A 92 3)
  have v0 := (VT_lx (A 93) (n := A 92 3) (p := 0) (by omega)).1
  unfold runT at p7 ⊢
  cases e : run (A 93) (A 92 3) (A 92 3 + 1) B0 (lx (A 93) (A 92 3) 0) 0 with
  | inl p =>
    have hp := rb _ _ _ _ WB0 v0 e
    intro σ' hF
    refine iT (neg10 (by omega)) ?_
    refine p7 w15 w16 (fun i hi => by rw [hF.1 93 (by omega) (by omega)]; exact hM 93 i (by unfold rl; omega)) (by rw [hF.1 92 (by omega) (by omega)]; exact hM 92 3 (by unfold rl; omega)) ?_
    rw [e]
    intro σ2 g
    have k : ∀ i j, i ≠ 2 → ¬ (9 ≤ i ∧ i ≤ 14) → ¬ st7 i j → ¬ (i = 92 ∧ j = 0) → σ2.1 i j = σ.1 i j := by
      intro i j h1 h2 h3 h4
      rw [g.1 i j h3, upg, if_neg h4, hF.1 i h1 h2]
    have kk : ∀ i, i < 92 → i ≠ 2 → ¬ (9 ≤ i ∧ i ≤ 14) → σ2.1 i = σ.1 i := fun i a b c => funext (fun j => k i j b c (by unfold st7; omega) (by omega))
    have k2 : σ2.1 2 1 = σ.1 2 1 := by rw [g.1 2 1 (by unfold st7; omega), upg, if_neg (by omega)]; exact hF.2.2
    have rc : RC A σ2 := by
      obtain ⟨hP, hS, hH, hI, hTx, hK⟩ := hC
      exact ⟨RP_eq hP (fun i _ _ => kk i (by omega) (by omega) (by omega)), RSn_eq hS (fun i _ _ => kk i (by omega) (by omega) (by omega)), RH_eq hH (fun i _ _ => kk i (by omega) (by omega) (by omega)), RI_eq hI (fun i _ _ => kk i (by omega) (by omega) (by omega)), ⟨k2.trans hTx.1, fun i hi => by rw [kk 1 (by omega) (by omega) (by omega)]; exact hTx.2 i hi⟩, RK_eq hK (fun i _ _ => kk i (by omega) (by omega) (by omega))⟩
    refine ⟨rfl, A, hw, fun i j hr => ?_, rc, AL_eq hL (fun i h1 h2 => ?_), ?_⟩
    · have s := rl_st hw hr
      rw [k i j (fun f => by unfold rl at hr; omega) (fun f => by unfold rl at hr; omega) s (fun f => by unfold rl at hr; omega)]
      exact hM i j hr
    · funext j; exact k i j (by omega) (by omega) (by unfold st7; omega) (by omega)
    · rw [g.2]
      show σ'.2.1 = σ'.2.2
      rw [hF.2.1]; exact hT
  | inr x =>
    obtain ⟨B, m⟩ := x
    intro hB hm σ' hF hG
    refine iF (nI_pos (by omega)) ?_
    rintro σ2 rfl σ3 rfl
    have g8 : σ'.1 9 8 = nI (B 0 3) := hG 0 3 (by omega) (by unfold exB ex; simp)
    refine begin5 (by omega) (fun τ t1 t2 t3 t4 t5 t6 t7 => ?_)
    rintro σ6 rfl σ7 rfl σ8 rfl σ9 rfl
    have g5 : σ'.1 9 5 = nI (B 0 0) := hG 0 0 (by omega) (by unfold exB ex; simp)
    have g6 : σ'.1 9 6 = nI (B 0 1) := hG 0 1 (by omega) (by unfold exB ex; simp)
    have g7 : σ'.1 9 7 = nI (B 0 2) := hG 0 2 (by omega) (by unfold exB ex; simp)
    have ga : ∀ i j, 1 ≤ i → i < 6 → j < exB 6 B i → σ'.1 (9 + i) j = nI (B i j) := by
      intro i j h1 h2 h3
      have := hG i j h2 h3
      have c : c6 i = 0 := by unfold c6; rw [if_neg (by omega)]
      rw [c, Nat.zero_add] at this
      exact this
    have lo : ∀ i, ¬ i = 2 → ¬ i = 15 → (up (up σ' 2 1 0) 15 3 0).1 i = σ'.1 i := fun i h1 h2 => by rw [up_ne h2, up_ne h1]
    have lo9 := lo 9 (by omega) (by omega)
    have lo10 := lo (9 + 1) (by omega) (by omega)
    have lo12 := lo (9 + 3) (by omega) (by omega)
    have lo13 := lo (9 + 4) (by omega) (by omega)
    rw [lo9, g5] at t4
    rw [lo10] at t6
    rw [lo12, lo13] at t7
    have u3 : ∀ i, 3 ≤ i → i ≤ 8 → (xc (up (up (up (up τ 23 2 0) 87 3 0) 86 0 (vp_nar .boolean 0)) 86 1 (vp_nar .boolean 0))).1 i = σ'.1 (i + 6) := by
      intro i h1 h2
      unfold xc
      rw [xch_lo ⟨h1, h2⟩, up_ne (by omega), up_ne (by omega), up_ne (by omega), up_ne (by omega), t2 _ (by omega), lo _ (by omega) (by omega)]
    have u1 : ∀ i, ¬ (3 ≤ i ∧ i ≤ 15) → i ≠ 23 → i ≠ 86 → i ≠ 87 → (xc (up (up (up (up τ 23 2 0) 87 3 0) 86 0 (vp_nar .boolean 0)) 86 1 (vp_nar .boolean 0))).1 i = τ.1 i := by
      intro i h1 h2 h3 h4
      unfold xc
      rw [xch_ne (by omega), up_ne h3, up_ne h3, up_ne h4, up_ne h2]
    have u0 : ∀ i, ¬ (2 ≤ i ∧ i ≤ 15) → ¬ (18 ≤ i ∧ i ≤ 22) → i ≠ 0 → i ≠ 23 → i ≠ 86 → i ≠ 87 → (xc (up (up (up (up τ 23 2 0) 87 3 0) 86 0 (vp_nar .boolean 0)) 86 1 (vp_nar .boolean 0))).1 i = σ.1 i := by
      intro i h1 h2 h3 h4 h5 h6
      rw [u1 i (by omega) h4 h5 h6, t2 i (by omega), lo i (by omega) (by omega), hF.1 i (by omega) (by omega)]
    have v23 : ∀ j, (xc (up (up (up (up τ 23 2 0) 87 3 0) 86 0 (vp_nar .boolean 0)) 86 1 (vp_nar .boolean 0))).1 23 j = if j = 2 then 0 else σ.1 23 j := by
      intro j
      unfold xc
      rw [xch_ne (by omega), up_ne (by omega), up_ne (by omega), up_ne (by omega), upg, t2 23 (by omega), lo 23 (by omega) (by omega), hF.1 23 (by omega) (by omega)]
      simp
    have v86 : ∀ j, j < 2 → (xc (up (up (up (up τ 23 2 0) 87 3 0) 86 0 (vp_nar .boolean 0)) 86 1 (vp_nar .boolean 0))).1 86 j = 0 := by
      intro j hj
      unfold xc
      rw [xch_ne (by omega), upg, upg, nar0]
      by_cases c : j = 1
      · rw [if_pos ⟨rfl, c⟩]
      · rw [if_neg (by omega), if_pos (by omega)]
    have v87 : (xc (up (up (up (up τ 23 2 0) 87 3 0) 86 0 (vp_nar .boolean 0)) 86 1 (vp_nar .boolean 0))).1 87 3 = 0 := by
      unfold xc
      rw [xch_ne (by omega), up_ne (by omega), up_ne (by omega), up_get]
    have v0 : (xc (up (up (up (up τ 23 2 0) 87 3 0) 86 0 (vp_nar .boolean 0)) 86 1 (vp_nar .boolean 0))).1 2 1 = 0 := by
      rw [u1 2 (by omega) (by omega) (by omega) (by omega), t2 2 (by omega), up_ne (by omega), up_get]
    have v15 : (xc (up (up (up (up τ 23 2 0) 87 3 0) 86 0 (vp_nar .boolean 0)) 86 1 (vp_nar .boolean 0))).1 15 3 = 0 := by
      unfold xc
      rw [xch_ne (by omega), up_ne (by omega), up_ne (by omega), up_ne (by omega), up_ne (by omega), t2 15 (by omega), up_get]
    have vT : (xc (up (up (up (up τ 23 2 0) 87 3 0) 86 0 (vp_nar .boolean 0)) 86 1 (vp_nar .boolean 0))).2 = σ.2 := t1.trans hF.2.1
    generalize xc (up (up (up (up τ 23 2 0) 87 3 0) 86 0 (vp_nar .boolean 0)) 86 1 (vp_nar .boolean 0)) = υ at u3 u1 u0 v23 v86 v87 v0 v15 vT
    have hSM : SM σ υ := ⟨fun i hi => u0 i (by omega) (by omega) (by omega) (by omega) (by omega) (by omega), by rw [vT]⟩
    have hMυ : RM A υ := RM_SM hM hSM
    have w0 := hB.1
    have w1 := hB.2.1
    have hCυ : RC (AP A B) υ := by
      refine ⟨⟨?_, ?_, ?_, ?_, fun k hk => ?_, fun k hk => ?_, fun k hk => ?_⟩, ⟨?_, ?_, ?_, fun k hk => ⟨?_, ?_⟩, fun k hk => ⟨?_, ?_⟩⟩, ?_, fun i hi => ⟨?_, fun f => ?_⟩, ⟨?_, fun i hi => ?_⟩, ⟨?_, fun i hi => ?_⟩⟩
      · rw [u3 3 (by omega) (by omega)]; exact g5
      · rw [u3 3 (by omega) (by omega)]; exact g6
      · rw [u3 3 (by omega) (by omega)]; exact g7
      · rw [u3 3 (by omega) (by omega)]; exact g8
      · rw [u3 5 (by omega) (by omega)]; exact ga 2 k (by omega) (by omega) hk
      · rw [u3 7 (by omega) (by omega)]; exact ga 4 k (by omega) (by omega) hk
      · rw [u3 8 (by omega) (by omega)]; exact ga 5 k (by omega) (by omega) hk
      · rw [u1 18 (by omega) (by omega) (by omega) (by omega), t3, AP_0 hB (by omega) (by omega) (by omega) (by omega)]; rfl
      · rw [u1 18 (by omega) (by omega) (by omega) (by omega), t4, AP_n hB]; exact shl1 w0
      · rw [u1 18 (by omega) (by omega) (by omega) (by omega), t5, AP_0 hB (by omega) (by omega) (by omega) (by omega)]; rfl
      · have hk : k < B 0 0 := hk
        rw [u1 (18 + 1) (by omega) (by omega) (by omega) (by omega), (t6 k (by omega)).1, AP_q hB hk]
        exact ga 1 k (by omega) (by omega) hk
      · have hk : k < B 0 0 := hk
        rw [u1 (18 + 2) (by omega) (by omega) (by omega) (by omega), (t6 k (by omega)).2, AP_0 hB (by omega) (by omega) (by omega) (by omega)]; rfl
      · have hk : k < B 0 1 := hk
        rw [u1 (18 + 3) (by omega) (by omega) (by omega) (by omega), (t7 k (by omega)).1, AP_w hB hk]
        exact ga 3 k (by omega) (by omega) hk
      · have hk : k < B 0 1 := hk
        rw [u1 (18 + 4) (by omega) (by omega) (by omega) (by omega), (t7 k (by omega)).2, AP_l hB hk]
        exact ga 4 k (by omega) (by omega) hk
      · obtain ⟨x, x1, x2, x3, x4⟩ := hC.2.2.1
        refine ⟨x, x1, ?_, ?_, fun j hj => absurd hj (Nat.not_lt_zero j)⟩
        · rw [v23, if_neg (by omega)]; exact x2
        · rw [v23, if_pos rfl]; rfl
      · rw [v86 i hi]; rfl
      · exact absurd (show (0 : Nat) = 1 from f) (by omega)
      · rw [v0]; rfl
      · rw [u0 1 (by omega) (by omega) (by omega) (by omega) (by omega) (by omega)]
        exact hC.2.2.2.2.1.2 i hi
      · rw [v87]; rfl
      · rw [u0 88 (by omega) (by omega) (by omega) (by omega) (by omega) (by omega), u0 89 (by omega) (by omega) (by omega) (by omega) (by omega) (by omega), u0 90 (by omega) (by omega) (by omega) (by omega) (by omega) (by omega)]
        exact hC.2.2.2.2.2.2 i hi
    have hLυ : AL (AP A B) υ := by
      exact Or.inl v15
    refine p7 w15 w16 (fun i hi => hMυ 93 i (by unfold rl; omega)) (hMυ 92 3 (by unfold rl; omega)) ?_
    rw [e]
    intro hB2 σ2 t hS
    refine settles7 (rm92 hMυ) hB hS (fun σ3 s1 s2 s3 => ⟨rfl, AP A B, WF_AP hw hB, s3, RC_SC (RC_SC hCυ (SC.up (by omega))) s1, AL_SC (AL_SC hLυ (SC.up (by omega))) s1, ?_⟩)
    rw [s2]
    show υ.2.1 = υ.2.2
    rw [vT]; exact hT
