theorem dF_0 {f : Nat → Nat} {k lo he ns : Nat} (hk : k < 5) (hlo : lo < 5) (hhe : he < 5) : dF f k lo he ns 0 = f 0 := by
  unfold dF dF4 dF3 dF2 dF1
  rw [if_neg (by omega), if_neg (by omega), if_neg (by omega), if_neg (by omega), if_neg (by omega), if_neg (by omega)]
theorem dF_26 {f : Nat → Nat} {k lo he ns : Nat} (hk : k < 5) (hlo : lo < 5) (hhe : he < 5) (hs : ns ≤ 7) : dF f k lo he ns 26 = f 26 := by
  unfold dF dF4 dF3 dF2 dF1
  rw [if_neg (by omega), if_neg (by omega), if_neg (by omega), if_neg (by omega), if_neg (by omega), if_neg (by omega)]
theorem dF_20 {f : Nat → Nat} {k lo he ns : Nat} (hk : k < 5) (hlo : lo < 5) (hhe : he < 5) (hs : ns ≤ 7) : dF f k lo he ns 20 = clr (f 20) k := by
  unfold dF dF4 dF3 dF2 dF1
  rw [if_neg (by omega), if_neg (by omega), if_pos rfl, if_neg (by omega), if_neg (by omega)]
theorem dF_q {f : Nat → Nat} {k lo he ns j : Nat} (hj : j < 5) : dF f k lo he ns (1 + j) = if j = k then 0 else dF1 (dF1 f lo (f (1 + k) / 2)) he (f (1 + k) - f (1 + k) / 2) (1 + j) := by
  unfold dF dF4 dF3 dF2
  rw [if_neg (by omega), if_neg (by omega), if_neg (by omega)]
  by_cases e : j = k
  · rw [if_pos (by omega), if_pos e]
  · rw [if_neg (by omega), if_neg e]
theorem dF_m {f : Nat → Nat} {k lo he ns j : Nat} (hj : j < 5) (hk : k < 5) (hlo : lo < 5) (hhe : he < 5) (hs : ns ≤ 7) : dF f k lo he ns (21 + j) = if j = k ∨ f (21 + j) = k + 1 then 0 else f (21 + j) := by
  unfold dF dF4 dF3 dF2 dF1
  rw [if_neg (by omega)]
  simp only [if_neg (show ¬ 21 + j = 20 by omega), if_neg (show ¬ 21 + j = 1 + k by omega), if_neg (show ¬ 21 + j = 1 + he by omega), if_neg (show ¬ 21 + j = 1 + lo by omega)]
  by_cases c : j = k ∨ f (21 + j) = k + 1
  · rw [if_pos (by omega), if_pos c]
  · rw [if_neg (by omega), if_neg c]
theorem dF_o {f : Nat → Nat} {k lo he ns j : Nat} (hj : j < ns) (hk : k < 5) (hlo : lo < 5) (hhe : he < 5) (hs : ns ≤ 7) : dF f k lo he ns (13 + j) = if f (13 + j) = k then he else f (13 + j) := by
  have e : dF3 (dF2 (dF1 (dF1 f lo (f (1 + k) / 2)) he (f (1 + k) - f (1 + k) / 2)) k) k 5 (13 + j) = f (13 + j) := by
    unfold dF3 dF2 dF1
    rw [if_neg (by omega), if_neg (by omega), if_neg (by omega), if_neg (by omega), if_neg (by omega)]
  unfold dF dF4
  rw [e]
  by_cases c : f (13 + j) = k
  · rw [if_pos ⟨by omega, by omega, c⟩, if_pos c]
  · rw [if_neg (fun q => c q.2.2), if_neg c]
theorem dF_l {f : Nat → Nat} {k lo he ns j : Nat} (hj : j < 7) (hk : k < 5) (hlo : lo < 5) (hhe : he < 5) (hs : ns ≤ 7) : dF f k lo he ns (6 + j) = f (6 + j) := by
  unfold dF dF4 dF3 dF2 dF1
  rw [if_neg (by omega), if_neg (by omega), if_neg (by omega), if_neg (by omega), if_neg (by omega), if_neg (by omega)]
theorem beq5 {σ : St} {g : Nat → Nat} {nf lo n : Nat} {Q : St → Prop} (hlo : lo < nf) (hnf : nf ≤ 5) (hn : n ≤ 999) (hg : ∀ j, j < nf → σ.1 19 j = nI (g (1 + j))) (hl : g (1 + lo) ≤ 999) (K : ∀ τ, (∀ i, i ≠ 19 → τ.1 i = σ.1 i) → τ.2 = σ.2 → (∀ j, j < nf → τ.1 19 j = nI (dF1 g lo n (1 + j))) → Q τ) : wX4_bequeath 18 (nI lo) (nI n) σ Q := by
  unfold wX4_bequeath
  rw [show (18 + 1 : Nat) = 19 from rfl]
  refine ⟨vin (by omega) (by omega), ?_⟩
  rw [nIc (by omega), hg lo hlo, nI_add]
  rintro x2 rfl
  refine ⟨vin (by omega) (by omega), ?_⟩
  have ex : (if nI (g (1 + lo) + n) < 999 then nI (g (1 + lo) + n) else 999) = nI (if g (1 + lo) + n ≤ 999 then g (1 + lo) + n else 999) := by
    by_cases c : g (1 + lo) + n ≤ 999
    · rw [if_pos c]
      by_cases d : g (1 + lo) + n = 999
      · rw [d]; rfl
      · rw [if_pos (show nI (g (1 + lo) + n) < 999 from nI_lt (b := 999) (by omega) (by omega))]
    · rw [if_neg c, if_neg (show ¬ nI (g (1 + lo) + n) < 999 from nI_nlt (b := 999) (by omega) (by omega))]; rfl
  rw [ex]
  rintro σ4 rfl
  refine K _ (fun i hi => up_ne hi) rfl (fun j hj => ?_)
  rw [upg]
  show _ = nI (if 1 + j = 1 + lo then _ else g (1 + j))
  by_cases e : j = lo
  · rw [if_pos ⟨rfl, e⟩, if_pos (show 1 + j = 1 + lo by omega)]
  · rw [if_neg (by omega), if_neg (show ¬ 1 + j = 1 + lo by omega)]; exact hg j hj
theorem own5 {σ : St} {f : Nat → Nat} {Q : St → Prop} {k he ns : Nat} (hk : k < 5) (hns : ns ≤ 7) (hf : ∀ j, j < ns → f (13 + j) < 5) (K : ∀ τ, (∀ i, i ≠ 21 → τ.1 i = σ.1 i) → τ.2 = σ.2 → (∀ s, s < ns → τ.1 21 s = nI (if f (13 + s) = k then he else f (13 + s))) → (vp_in (nI k) 5 ∧ (((τ.1 20 k) = (-9) → bX4_bury_100 18 (nI k) τ Q) ∧ (¬ (τ.1 20 k) = (-9) → (vp_in (nI he) 5 ∧ ∀ σ5 : St, σ5 = up τ 20 (nI he).toNatClampNeg (-9) → (vp_in (nI k) 5 ∧ ∀ σ7 : St, σ7 = up σ5 20 k (-9) → bX4_bury_100 18 (nI k) σ7 Q)))))) : ∀ (d j : Nat) (τ : St), j + d = 7 → (∀ i, i ≠ 21 → τ.1 i = σ.1 i) → τ.2 = σ.2 → (∀ s, s < ns → τ.1 21 s = nI (if s < j ∧ f (13 + s) = k then he else f (13 + s))) → ∃ n, Lp (lX4_bury_41 18 Q) n (nI k, nI he, nI j, τ)
  | 0, j, τ, e, c1, c2, c3 => ⟨1, by
      show bX4_bury_41 _ 18 (nI k) (nI he) (nI j) τ Q
      obtain rfl : j = 7 := by omega
      unfold bX4_bury_41
      have := K τ c1 c2 (fun s hs => by rw [c3 s hs]; congr 1; by_cases q : f (13 + s) = k; rw [if_pos ⟨by omega, q⟩, if_pos q]; rw [if_neg (fun z => q z.2), if_neg q])
      rw [show (18 + 2 : Nat) = 20 from rfl, nIc (by omega)]
      exact iT (by decide) this⟩
  | d + 1, j, τ, e, c1, c2, c3 => by
      have go : ∀ τ', (∀ i, i ≠ 21 → τ'.1 i = σ.1 i) → τ'.2 = σ.2 → (∀ s, s < ns → τ'.1 21 s = nI (if s < j + 1 ∧ f (13 + s) = k then he else f (13 + s))) → ∃ n, bX4_bury_67 (Lp (lX4_bury_41 18 Q) n) 18 (nI k) (nI he) (nI j) τ' Q := by
        intro τ' d1 d2 d3
        obtain ⟨n, hn⟩ := own5 hk hns hf K d (j + 1) τ' (by omega) d1 d2 d3
        refine ⟨n, ?_⟩
        rintro x1 rfl
        rw [nI_1]; exact hn
      by_cases c : τ.1 21 j = nI k
      · obtain ⟨n, hn⟩ := go (up τ 21 j (nI he)) (fun i hi => by rw [up_ne hi]; exact c1 i hi) c2 (fun s hs => by
          rw [upg]
          by_cases es : s = j
          · subst es
            rw [if_pos ⟨rfl, rfl⟩]
            have h3 := c3 s hs
            rw [if_neg (by omega), c] at h3
            have := (nI_eq (by omega) (by have := hf s hs; omega)).mp h3
            rw [if_pos ⟨by omega, this.symm⟩]
          · rw [if_neg (by omega), c3 s hs]
            congr 1
            by_cases q : s < j ∧ f (13 + s) = k
            · rw [if_pos q, if_pos ⟨by omega, q.2⟩]
            · rw [if_neg q, if_neg (by omega)])
        refine ⟨n + 1, ?_⟩
        show bX4_bury_41 _ 18 (nI k) (nI he) (nI j) τ Q
        unfold bX4_bury_41
        rw [show (18 + 3 : Nat) = 21 from rfl, nIc (n := j) (by omega)]
        refine iF (nI_ge (b := 7) (by omega) (by omega)) ⟨vin (by omega) (by omega), iT c ⟨vin (by omega) (by omega), ?_⟩⟩
        rintro σ11 rfl
        exact hn
      · obtain ⟨n, hn⟩ := go τ c1 c2 (fun s hs => by
          rw [c3 s hs]
          congr 1
          by_cases q : s < j ∧ f (13 + s) = k
          · rw [if_pos q, if_pos ⟨by omega, q.2⟩]
          · rw [if_neg q]
            by_cases q2 : s < j + 1 ∧ f (13 + s) = k
            · exfalso
              have es : s = j := by omega
              subst es
              have h3 := c3 s hs
              rw [if_neg q, q2.2] at h3
              exact c h3
            · rw [if_neg q2])
        refine ⟨n + 1, ?_⟩
        show bX4_bury_41 _ 18 (nI k) (nI he) (nI j) τ Q
        unfold bX4_bury_41
        rw [show (18 + 3 : Nat) = 21 from rfl, nIc (n := j) (by omega)]
        exact iF (nI_ge (b := 7) (by omega) (by omega)) ⟨vin (by omega) (by omega), iF c hn⟩
theorem bury5 {σ : St} {f : Nat → Nat} {Q : St → Prop} {nf ns k lo he : Nat} (hS : RSn nf ns σ 18 f) (hW : WSn nf ns f) (hnf : nf ≤ 5) (hns : ns ≤ 7) (hk : k < nf) (hlo : lo < nf) (hhe : he < nf) (hl : lo ≠ k) (hh : he ≠ k) (hm : (f (21 + k) = 0 ∧ he = lo) ∨ f (21 + k) = he + 1) (K : ∀ τ, (∀ i, (i < 18 ∨ 22 < i) → τ.1 i = σ.1 i) → τ.2 = σ.2 → RSn nf ns τ 18 (dF f k lo he ns) → Q τ) : wX4_bury 18 (nI k) (nI lo) (nI he) σ Q := by
  obtain ⟨r1, r2, r3, r4, r5⟩ := hS
  obtain ⟨s1, s2, s3, s4, s5, s6⟩ := hW
  have hfk := s6 (1 + k) (by omega)
  have half : f (1 + k) / 2 ≤ f (1 + k) := Nat.div_le_self _ _
  have h32 : f 20 < 32 := Nat.lt_of_lt_of_le s2 (pow_le hnf)
  unfold wX4_bury
  rw [show (18 + 1 : Nat) = 19 from rfl]
  refine ⟨vin (by omega) (by omega), ?_⟩
  have q4 : ∀ j, j < nf → σ.1 19 j = nI (f (1 + j)) := fun j hj => (r4 j hj).1
  rw [nIc (n := k) (by omega), q4 k hk, show (2 : Int32) = nI 2 from rfl, nI_div (by omega) (by omega)]
  rintro x2 rfl
  refine beq5 hlo hnf (by omega) q4 (s6 _ (by omega)) (fun τ1 a1' a2' a3' => ⟨vin (by omega) (by omega), ?_⟩)
  have e1 : τ1.1 19 k = nI (f (1 + k)) := by
    rw [a3' k hk]
    show nI (if 1 + k = 1 + lo then _ else f (1 + k)) = _
    rw [if_neg (by omega)]
  rw [e1, nI_sub half]
  have l1 := dF1_le (lo := lo) (n := f (1 + k) / 2) s6
  refine beq5 hhe hnf (by omega) a3' (l1 _ (by omega)) (fun τ2 b1' b2' b3' => ⟨vin (by omega) (by omega), ?_⟩)
  rintro σ7 rfl
  have g1 : ∀ i, i ≠ 19 → (up τ2 19 k 0).1 i = σ.1 i := fun i hi => by rw [up_ne hi, b1' i hi, a1' i hi]
  have g2 : (up τ2 19 k 0).2 = σ.2 := b2'.trans a2'
  have g3 : ∀ j, j < nf → (up τ2 19 k 0).1 19 j = nI (dF f k lo he ns (1 + j)) := by
    intro j hj
    rw [dF_q (by omega), upg]
    by_cases e : j = k
    · rw [if_pos ⟨rfl, e⟩, if_pos e]; rfl
    · rw [if_neg (by omega), if_neg e]; exact b3' j hj
  generalize up τ2 19 k 0 = τ3 at g1 g2 g3
  have fin : ∀ τ, (∀ i, i ≠ 20 → i ≠ 21 → τ.1 i = τ3.1 i) → τ.2 = τ3.2 → (∀ s, s < ns → τ.1 21 s = nI (if f (13 + s) = k then he else f (13 + s))) → (∀ j, j < nf → τ.1 20 j = mt (if j = k ∨ f (21 + j) = k + 1 then 0 else f (21 + j))) → bX4_bury_100 18 (nI k) τ Q := by
    intro τ d1 d2 d3 d4
    unfold bX4_bury_100
    have e5 : τ.1 18 5 = nI (f 20) := by rw [d1 18 (by omega) (by omega), g1 18 (by omega)]; exact r2
    rw [e5, clr_eq h32 (by omega)]
    rintro σ1 rfl
    refine K _ (fun i hi => by rw [up_ne (by omega), d1 i (by omega) (by omega), g1 i (by omega)]) (d2.trans g2) ⟨?_, ?_, ?_, fun j hj => ?_, fun j hj => ?_⟩
    · rw [up_get_ne (by omega), d1 18 (by omega) (by omega), g1 18 (by omega), dF_0 (by omega) (by omega) (by omega)]; exact r1
    · rw [up_get, dF_20 (by omega) (by omega) (by omega) hns]
    · rw [up_get_ne (by omega), d1 18 (by omega) (by omega), g1 18 (by omega), dF_26 (by omega) (by omega) (by omega) hns]; exact r3
    · rw [up_ne (by omega), up_ne (by omega), d1 (18 + 1) (by omega) (by omega)]
      refine ⟨g3 j hj, ?_⟩
      rw [dF_m (by omega) (by omega) (by omega) (by omega) hns]
      exact d4 j hj
    · rw [up_ne (by omega), up_ne (by omega), d1 (18 + 4) (by omega) (by omega), g1 (18 + 4) (by omega), dF_o hj (by omega) (by omega) (by omega) hns, dF_l (by omega) (by omega) (by omega) (by omega) hns]
      exact ⟨d3 j hj, (r5 j hj).2⟩
  refine own5 (f := f) (ns := ns) (by omega) hns (fun j hj => by have := (s5 j hj).1; omega) (fun τ c1 c2 c3 => ⟨vin (by omega) (by omega), ?_⟩) 7 0 τ3 (by omega) (fun _ _ => rfl) rfl (fun s hs => by rw [g1 21 (by omega), if_neg (by omega)]; exact (r5 s hs).1)
  have mk : ∀ j, j < nf → τ.1 20 j = mt (f (21 + j)) := fun j hj => by rw [c1 20 (by omega), g1 20 (by omega)]; exact (r4 j hj).2
  rw [mk k hk]
  rcases hm with ⟨m0, -⟩ | m1
  · refine iT (by rw [m0]; rfl) (fin τ (fun i _ h => c1 i h) c2 c3 (fun j hj => ?_))
    rw [mk j hj]
    by_cases c : j = k ∨ f (21 + j) = k + 1
    · rw [if_pos c]
      rcases c with rfl | c
      · rw [m0]
      · rcases s4 j hj with q | ⟨m, q1, q2, q3, q4⟩
        · omega
        · have : m = k := by omega
          subst this; omega
    · rw [if_neg c]
  · refine iF (by rw [m1, mt_nI]; exact fun d => nI_pos (n := he) (by omega) (by rw [d]; decide)) ⟨vin (by omega) (by omega), ?_⟩
    rw [nIc (by omega)]
    rintro σ5 rfl
    refine ⟨vin (by omega) (by omega), ?_⟩
    rintro σ7 rfl
    refine fin _ (fun i h1 h2 => by rw [up_ne h1, up_ne h1, c1 i h2]) c2 (fun s hs => by rw [up_ne (by omega), up_ne (by omega)]; exact c3 s hs) (fun j hj => ?_)
    rw [upg, upg]
    have he1 : f (21 + he) = k + 1 := by
      rcases s4 k hk with q | ⟨m, q1, q2, q3, q4⟩
      · omega
      · have : m = he := by omega
        subst this; exact q4
    by_cases e1 : j = k
    · rw [if_pos ⟨rfl, e1⟩, if_pos (Or.inl e1)]; rfl
    · rw [if_neg (by omega)]
      by_cases e2 : j = he
      · rw [if_pos ⟨rfl, e2⟩, if_pos (Or.inr (by rw [e2]; exact he1))]; rfl
      · rw [if_neg (by omega), if_neg, mk j hj]
        rintro (c | c)
        · exact e1 c
        · rcases s4 j hj with q | ⟨m, q1, q2, q3, q4⟩
          · omega
          · have : m = k := by omega
            subst this; omega
theorem WSn_dF {f : Nat → Nat} {nf ns k lo he : Nat} (hW : WSn nf ns f) (hnf : nf ≤ 5) (hns : ns ≤ 7) (hk : k < nf) (hlo : lo < nf) (hhe : he < nf) : WSn nf ns (dF f k lo he ns) := by
  obtain ⟨s1, s2, s3, s4, s5, s6⟩ := hW
  have l1 := dF1_le (lo := lo) (n := f (1 + k) / 2) s6
  have l2 := dF1_le (lo := he) (n := f (1 + k) - f (1 + k) / 2) l1
  refine ⟨by rw [dF_0 (by omega) (by omega) (by omega)]; exact s1, by rw [dF_20 (by omega) (by omega) (by omega) hns]; exact Nat.lt_of_le_of_lt (clr_le _ _) s2, by rw [dF_26 (by omega) (by omega) (by omega) hns]; exact s3, fun j hj => ?_, fun j hj => ?_, fun j hj => ?_⟩
  · rw [dF_m (by omega) (by omega) (by omega) (by omega) hns]
    by_cases c : j = k ∨ f (21 + j) = k + 1
    · rw [if_pos c]; exact Or.inl rfl
    · rw [if_neg c]
      rcases s4 j hj with q | ⟨m, q1, q2, q3, q4⟩
      · exact Or.inl q
      · refine Or.inr ⟨m, q1, q2, q3, ?_⟩
        rw [dF_m (by omega) (by omega) (by omega) (by omega) hns, if_neg (by omega)]; exact q4
  · rw [dF_o hj (by omega) (by omega) (by omega) hns, dF_l (by omega) (by omega) (by omega) (by omega) hns]
    refine ⟨?_, (s5 j hj).2⟩
    have := (s5 j hj).1
    split <;> omega
  · have l3 : ∀ j, j < 27 → dF2 (dF1 (dF1 f lo (f (1 + k) / 2)) he (f (1 + k) - f (1 + k) / 2)) k j ≤ 999 := by
      intro j hj
      unfold dF2
      split
      · exact Nat.le_trans (clr_le _ _) (l2 20 (by omega))
      · split
        · omega
        · exact l2 j hj
    have l4 : ∀ j, j < 27 → dF3 (dF2 (dF1 (dF1 f lo (f (1 + k) / 2)) he (f (1 + k) - f (1 + k) / 2)) k) k 5 j ≤ 999 := by
      intro j hj
      unfold dF3
      split
      · omega
      · exact l3 j hj
    unfold dF
    have := l4 j hj
    generalize dF3 (dF2 (dF1 (dF1 f lo (f (1 + k) / 2)) he (f (1 + k) - f (1 + k) / 2)) k) k 5 = g at this
    unfold dF4
    split <;> omega
theorem t_dies {σ : St} (h : INV σ) (a : Int32) : wX6_dies a σ (fun r σ1 => wX7_dies a σ1 (fun r' σ2 => r = r' ∧ INV σ2)) := by
  obtain ⟨A, hw, hM, hC, hL, hT⟩ := h
  have hI := inv92 hw hM hC hL hT
  have hM1 := rm92 hM
  have w1 := hw.1
  have w2 := hw.2.1
  have wl := wf_live hw
  have wS := WSn_of hw
  rcases (Classical.em (isX a (A 94 0))).symm with hx | ⟨k, hk, rfl⟩
  · refine f6_n hC hw hx (iT rfl ?_)
    rintro σ1 rfl
    exact f7_n hM1 hw hx (iT rfl ⟨rfl, hI⟩)
  refine f6_y hC hw hk (iF (by decide) (low5 hC.2.1 wl (by omega) 5 0 (by omega) ?_))
  have l5 : lowF (A 100 20) k 5 0 = lowF (A 100 20) k (A 94 0) 0 := by
    have := lowF_app (a := A 100 20) (k := k) (A 94 0) (5 - A 94 0) 0
    rw [show A 94 0 + (5 - A 94 0) = 5 by omega] at this
    rw [this, lowF_none (5 - A 94 0) (0 + A 94 0) (fun i h1 _ => bit_lt wS.2.1 (by omega))]
    cases lowF (A 100 20) k (A 94 0) 0 <;> rfl
  rw [l5]
  -- the model
  have mod : ∀ {P : Int32 → St → Prop} {τ : St}, RM A τ → (bit (A 100 20) k = 0 ∨ lowF (A 100 20) k (A 94 0) 0 = none → P (-2) τ) → (∀ lo he, bit (A 100 20) k = 1 → lowF (A 100 20) k (A 94 0) 0 = some lo → he = (if A 100 (21 + k) = 0 then lo else A 100 (21 + k) - 1) → he < A 94 0 → he ≠ k → ∀ ρ, RM (sR (pushA A) 100 (dF (A 100) k lo he (A 94 1))) ρ → (∀ i, i < 92 → ρ.1 i = τ.1 i) → ρ.2 = τ.2 → P (nI he) ρ) → ∀ τ0, up τ0 92 0 0 = τ → wX7_dies (nI k) τ0 P := by
    intro P τ hMt qn qy τ0 e0
    rintro σ1 rfl
    rw [e0]
    refine f7_y hMt hw hk (iF (by decide) ?_)
    rw [hMt 94 0 (by unfold rl; omega)]
    rintro x5 rfl
    refine low7 hMt wl (by omega) (A 94 0) (-9) w1 (fun lo' hlo' => ?_)
    refine li7 hMt wl (by omega) (fun b1 => iF (by decide) ?_) (fun b0 => iT rfl (qn (Or.inl b0)))
    cases hlow : lowF (A 100 20) k (A 94 0) 0 with
    | none =>
      rw [hlow] at hlo'
      exact iT hlo' (qn (Or.inr hlow))
    | some lo =>
      rw [hlow] at hlo'
      obtain ⟨-, g2, g3, g4⟩ := lowF_some hlow
      have hlo' : lo' = nI lo := hlo'
      subst hlo'
      refine iF (fun d => nI_pos (n := lo) (by omega) (by rw [d]; decide)) (notes7 hMt hw (fun ρ rm m1 m2 => ?_))
      have m1' : R7 ρ (A 100) := fun j hj => rm 100 j (by unfold rl; omega)
      have m94 : ρ.1 94 1 = nI (A 94 1) := rm 94 1 (by unfold rl; omega)
      rw [a21]
      refine ⟨vin (by omega) (by omega), ?_⟩
      have s6k := wS.2.2.2.2.2 (21 + k) (by omega)
      rw [nIc (by omega), m1' (21 + k) (by omega)]
      have fin : ∀ he, he = (if A 100 (21 + k) = 0 then lo else A 100 (21 + k) - 1) → he < A 94 0 → he ≠ k → bX7_dies_104 (nI k) (nI lo) (nI he) ρ P := by
        intro he hhe hh1 hh2
        refine b104 (ns := A 94 1) (by omega) (by omega) (by omega) g3 hh2 w2 wS.2.2.2.2.2 wl m1' m94 (fun τ2 r o => ?_)
        exact qy lo he b1 hlow hhe hh1 hh2 τ2 (RM_row rm o.1 r) (fun i hi => by rw [o.1 i (by omega), m1 i (by omega) (by omega)]) (o.2.trans m2)
      by_cases c : A 100 (21 + k) = 0
      · exact iT (by rw [c]; decide) (fin lo (by rw [if_pos c]) (by omega) g3)
      · refine iF (nI_nle (by omega) (by omega)) ⟨vin (by omega) (by omega), ?_⟩
        rw [sub1 (by omega)]
        rcases wS.2.2.2.1 k hk with q | ⟨m, q1, q2, q3, q4⟩
        · exact absurd q c
        · exact fin _ (by rw [if_neg c]) (by omega) (by omega)
  have state : bit (A 100 20) k = 0 ∨ lowF (A 100 20) k (A 94 0) 0 = none → wX7_dies (nI k) σ (fun r' σ2 => -2 = r' ∧ INV σ2) := fun hn => mod hM1 (fun _ => ⟨rfl, hI⟩) (fun lo he b1 hl => by rcases hn with q | q; omega; rw [q] at hl; cases hl) σ rfl
  refine al5 hC.2.1 wl (by omega) (fun b1 => iF (by decide) ?_) (fun b0 => iT rfl (state (Or.inl b0)))
  cases hlow : lowF (A 100 20) k (A 94 0) 0 with
  | none => exact iT rfl (state (Or.inr hlow))
  | some lo =>
    obtain ⟨-, g2, g3, g4⟩ := lowF_some hlow
    refine iF (fun d => nI_pos (n := lo) (by omega) (by rw [show loI (some lo) = nI lo from rfl] at d; rw [d]; decide)) (push6 hC hw (fun τ rc p1 p2 => ⟨vin (by omega) (by omega), ?_⟩))
    have hS := rc.2.1
    have mk : τ.1 20 k = mt (A 100 (21 + k)) := (hS.2.2.2.1 k hk).2
    have s6k := wS.2.2.2.2.2 (21 + k) (by omega)
    rw [nIc (by omega), mk]
    have fin : ∀ he, he = (if A 100 (21 + k) = 0 then lo else A 100 (21 + k) - 1) → he < A 94 0 → he ≠ k → ((A 100 (21 + k) = 0 ∧ he = lo) ∨ A 100 (21 + k) = he + 1) → bX6_dies_77 (nI k) (nI lo) (nI he) τ (fun r σ1 => wX7_dies (nI k) σ1 (fun r' σ2 => r = r' ∧ INV σ2)) := by
      intro he hhe hh1 hh2 hm
      refine bury5 (f := A 100) (nf := A 94 0) (ns := A 94 1) hS wS w1 w2 hk (by omega) hh1 g3 hh2 hm (fun τ2 c1 c2 hS2 => ?_)
      have rc2 : RC (sR (pushA A) 100 (dF (A 100) k lo he (A 94 1))) τ2 := RC_row rc c1 hS2
      have sm : SM σ τ2 := SM_of (fun i hi => by rw [c1 i (by omega)]; exact p1 i (by omega)) (c2.trans p2)
      have hM2 := rm92 (RM_SM hM sm)
      refine mod hM2 (fun hn => by rcases hn with q | q; omega; rw [q] at hlow; cases hlow) (fun lo2 he2 _ hl2 hhe2 _ _ ρ rm m1 m2 => ?_) τ2 rfl
      rw [hlow] at hl2
      cases hl2
      have : he2 = he := hhe2.trans hhe.symm
      subst this
      exact ⟨rfl, glue hw hT hL rc2 (fun i _ _ => by rw [c1 i (by omega)]; exact p1 i (by omega)) (c2.trans p2) rm (fun i hi => by rw [m1 i hi, up_ne (by omega)]) m2 (WSn_dF wS w1 w2 hk (by omega) hh1)⟩
    by_cases c : A 100 (21 + k) = 0
    · exact iT (by rw [c]; rfl) (fin lo (by rw [if_pos c]) (by omega) g3 (Or.inl ⟨c, rfl⟩))
    · rcases wS.2.2.2.1 k hk with q | ⟨m, q1, q2, q3, q4⟩
      · exact absurd q c
      · have hmt : mt (A 100 (21 + k)) = nI (A 100 (21 + k) - 1) := by unfold mt; rw [if_neg c]
        rw [hmt]
        exact iF (fun d => nI_pos (n := A 100 (21 + k) - 1) (by omega) (by rw [d]; decide)) ⟨vin (by omega) (by omega), fin _ (by rw [if_neg c]) (by omega) (by omega) (Or.inr (by omega))⟩
