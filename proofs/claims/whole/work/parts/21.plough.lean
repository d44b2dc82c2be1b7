/-! ploughs -/
def orb (a k : Nat) : Nat := if bit a k = 1 then a else a + 2 ^ k
theorem orb_eq {a k : Nat} (ha : a < 32) (hk : k < 5) : (nI a ||| (1 <<< (nI k &&& 31))) = nI (orb a k) := by
  have := (by decide +kernel : ∀ (a : Fin 32) (k : Fin 5), (nI a.val ||| (1 <<< (nI k.val &&& 31))) = nI (orb a.val k.val)) ⟨a, ha⟩ ⟨k, hk⟩
  exact this
theorem orb_lt {n a k : Nat} (hn : n ≤ 5) (hk : k < n) (ha : a < 2 ^ n) : orb a k < 2 ^ n := by
  have h32 := pow_le hn
  have := (by decide +kernel : ∀ (n : Fin 6) (k : Fin 5) (a : Fin 32), k.val < n.val → a.val < 2 ^ n.val → orb a.val k.val < 2 ^ n.val) ⟨n, by omega⟩ ⟨k, by omega⟩ ⟨a, by omega⟩ hk ha
  exact this
def clr (a k : Nat) : Nat := if bit a k = 1 then a - 2 ^ k else a
theorem clr_eq {a k : Nat} (ha : a < 32) (hk : k < 5) : (nI a &&& ((1 <<< (nI k &&& 31)) ^^^ (-1))) = nI (clr a k) := by
  have := (by decide +kernel : ∀ (a : Fin 32) (k : Fin 5), (nI a.val &&& ((1 <<< (nI k.val &&& 31)) ^^^ (-1))) = nI (clr a.val k.val)) ⟨a, ha⟩ ⟨k, hk⟩
  exact this
theorem clr_le (a k : Nat) : clr a k ≤ a := by unfold clr; split; exact Nat.sub_le _ _; exact Nat.le_refl _
theorem may_eq {o k m nf : Nat} (ho : o < nf) (hk : k < nf) (hn : nf ≤ 5) (hm : m ≤ 999) : (nI o = mt m ↔ m = o + 1) := by
  unfold mt
  by_cases e : m = 0
  · rw [if_pos e]
    refine ⟨fun d => absurd d ?_, fun d => by omega⟩
    intro d
    exact nI_pos (n := o) (by omega) (by rw [d]; decide)
  · rw [if_neg e, nI_eq (by omega) (by omega)]
    omega
theorem t_ploughs {σ : St} (h : INV σ) (a b : Int32) : wX6_ploughs a b σ (fun r σ1 => wX7_ploughs a b σ1 (fun r' σ2 => r = r' ∧ INV σ2)) := by
  obtain ⟨A, hw, hM, hC, hL, hT⟩ := h
  have hI := inv92 hw hM hC hL hT
  have hM1 := rm92 hM
  have w1 := hw.1
  have w2 := hw.2.1
  have wl := wf_live hw
  have wp := wf_plo hw
  have wS := WSn_of hw
  rcases (Classical.em (isX a (A 94 0))).symm with hx | ⟨k, hk, rfl⟩
  · refine f6_n hC hw hx (iT rfl ?_)
    rintro σ1 rfl
    exact f7_n hM1 hw hx (iT rfl ⟨rfl, hI⟩)
  refine f6_y hC hw hk (iF (by decide) ?_)
  rcases (Classical.em (isX b (A 94 1))).symm with hy | ⟨s, hs, rfl⟩
  · refine s6_n hC hw hy (iT rfl ?_)
    rintro σ1 rfl
    exact f7_y hM1 hw hk (iF (by decide) (s7_n hM1 hw hy (iT rfl ⟨rfl, hI⟩)))
  refine s6_y hC hw hs (iF (by decide) ?_)
  have wn := wS.1
  have wo := wS.2.2.2.2.1 s hs
  have wq := wS.2.2.2.2.2 (1 + k) (by omega)
  have wm := wS.2.2.2.2.2 (21 + k) (by omega)
  have wa := hw.2.2.2.2.2.1 k hk
  have hm4 := moN_le (A 94 2) (A 100 0)
  have w8 := hw.2.2.2.2.2.2.2.1 (A 100 0) (by omega)
  generalize hmm : moN (A 94 2) (A 100 0) = m at hm4
  -- the cut
  let cut : Nat := if A 99 (A 100 0) = 0 then m * A 96 k else 0
  have hcut : cut ≤ 16 := by
    show (if A 99 (A 100 0) = 0 then m * A 96 k else 0) ≤ 16
    have : m * A 96 k ≤ 4 * 4 := Nat.mul_le_mul hm4 wa.2
    split <;> omega
  let OK : Prop := (A 100 (13 + s) = k ∨ A 100 (21 + k) = A 100 (13 + s) + 1) ∧ bit (A 100 20) k = 1 ∧ bit (A 100 26) k = 0 ∧ 0 < A 100 (6 + s) ∧ 0 < m ∧ m ≤ A 100 (1 + k)
  let f : Nat → Nat := fun b => if b = 6 + s then A 100 (6 + s) - cut else if b = 26 then orb (A 100 26) k else if b = 1 + k then A 100 (1 + k) - m else A 100 b
  have fv : ∀ b, f b = if b = 6 + s then A 100 (6 + s) - cut else if b = 26 then orb (A 100 26) k else if b = 1 + k then A 100 (1 + k) - m else A 100 b := fun _ => rfl
  have ff : ∀ b, b ≠ 6 + s → b ≠ 26 → b ≠ 1 + k → f b = A 100 b := fun b q1 q2 q3 => by rw [fv, if_neg q1, if_neg q2, if_neg q3]
  have f6 : f (6 + s) = A 100 (6 + s) - cut := by rw [fv, if_pos rfl]
  have f26 : f 26 = orb (A 100 26) k := by rw [fv, if_neg (by omega), if_pos rfl]
  have f1 : f (1 + k) = A 100 (1 + k) - m := by
    rw [fv]
    by_cases e : 1 + k = 6 + s
    · omega
    · rw [if_neg e, if_neg (by omega), if_pos rfl]
  -- the model
  have mod : ∀ {P : Int32 → St → Prop} {τ : St}, RM A τ → (OK → ∀ ρ, RM (sR (pushA A) 100 f) ρ → (∀ i, i < 92 → ρ.1 i = τ.1 i) → ρ.2 = τ.2 → P (nI (A 100 (6 + s) - cut)) ρ) → (¬ OK → P (-2) τ) → ∀ τ0, up τ0 92 0 0 = τ → wX7_ploughs (nI k) (nI s) τ0 P := by
    intro P τ hMt qy qn τ0 e0
    rintro σ1 rfl
    rw [e0]
    refine f7_y hMt hw hk (iF (by decide) (s7_y hMt hw hs (iF (by decide) ?_)))
    rw [hMt 100 0 (by unfold rl; omega)]
    refine m7 hMt hw wn ?_
    rw [hmm, a13, a21]
    refine ⟨vin (by omega) (by omega), ?_⟩
    rw [nIc (by omega), nIc (by omega), hMt 100 (13 + s) (by unfold rl; omega), hMt 100 (21 + k) (by unfold rl; omega)]
    have b75 : ∀ z : Int32, (z = 1 ∧ (A 100 (13 + s) = k ∨ A 100 (21 + k) = A 100 (13 + s) + 1)) ∨ (z = 0 ∧ ¬ (A 100 (13 + s) = k ∨ A 100 (21 + k) = A 100 (13 + s) + 1)) → bX7_ploughs_75 (nI k) (nI s) (nI m) z τ P := by
      intro z hz
      unfold bX7_ploughs_75
      rw [a6, a1]
      refine ⟨vin (by omega) (by omega), ?_⟩
      rw [nIc (by omega), nIc (by omega), hMt 100 (6 + s) (by unfold rl; omega)]
      by_cases d1 : A 100 (6 + s) = 0
      · exact iT (by rw [d1]; rfl) (qn (fun c => by have := c.2.2.2.1; omega))
      refine iF (fun e => d1 ((nI_eq (b := 0) (by omega) (by omega)).mp e)) ?_
      refine li7 hMt wl (by omega) (fun b1 => iF (by decide) ?_) (fun b1 => iT rfl (qn (fun c => by have := c.2.1; omega)))
      rcases hz.symm with ⟨rfl, hz2⟩ | ⟨rfl, hz2⟩
      · exact iT rfl (qn (fun c => hz2 c.1))
      refine iF (by decide) ?_
      rw [hMt 100 26 (by unfold rl; omega), bit_eq wp (by omega)]
      have hb01 := bit_le (A 100 26) k
      by_cases d2 : bit (A 100 26) k = 1
      · exact iT ((nI01 hb01).1.mpr d2) (qn (fun c => by have := c.2.2.1; omega))
      refine iF (fun e => d2 ((nI01 hb01).1.mp e)) ?_
      by_cases d3 : m = 0
      · exact iT (by rw [d3]; rfl) (qn (fun c => by have := c.2.2.2.2.1; omega))
      refine iF (fun e => d3 ((nI_eq (b := 0) (by omega) (by omega)).mp e)) ⟨vin (by omega) (by omega), ?_⟩
      rw [hMt 100 (1 + k) (by unfold rl; omega)]
      rcases (Classical.em (m ≤ A 100 (1 + k))).symm with d4 | d4
      · exact iF (fun e => d4 ((nI_leI (by omega) (by omega)).mp e)) (qn (fun c => d4 c.2.2.2.2.2))
      refine iT (nI_le d4 (by omega)) (notes7 hMt hw (fun ρ rm m1 m2 => ⟨vin (by omega) (by omega), vin (by omega) (by omega), ?_⟩))
      have m1' : ∀ j, j < 27 → ρ.1 100 j = nI (A 100 j) := fun j hj => rm 100 j (by unfold rl; omega)
      rw [m1' _ (by omega), nI_sub d4]
      rintro σ14 rfl
      rw [up_get_ne (by omega), m1' 26 (by omega), orb_eq wp (by omega)]
      rintro σ16 rfl
      have g0 : (up (up ρ 100 (1 + k) (nI (A 100 (1 + k) - m))) 100 26 (nI (orb (A 100 26) k))).1 100 0 = nI (A 100 0) := by
        rw [up_get_ne (by omega), up_get_ne (by omega)]; exact m1' 0 (by omega)
      rw [g0, nIc (by omega)]
      refine ⟨vin (by omega) (by omega), ?_⟩
      have g99 : (up (up ρ 100 (1 + k) (nI (A 100 (1 + k) - m))) 100 26 (nI (orb (A 100 26) k))).1 99 (A 100 0) = nI (A 99 (A 100 0)) := by
        rw [up_ne (by omega), up_ne (by omega)]; exact rm 99 _ (by unfold rl; omega)
      have g96 : (up (up ρ 100 (1 + k) (nI (A 100 (1 + k) - m))) 100 26 (nI (orb (A 100 26) k))).1 96 k = nI (A 96 k) := by
        rw [up_ne (by omega), up_ne (by omega)]; exact rm 96 k (by unfold rl; exact Or.inr (Or.inl ⟨rfl, hk⟩))
      have g6 : (up (up ρ 100 (1 + k) (nI (A 100 (1 + k) - m))) 100 26 (nI (orb (A 100 26) k))).1 100 (6 + s) = nI (A 100 (6 + s)) := by
        rw [up_get_ne (by omega), up_get_ne (by omega)]; exact m1' _ (by omega)
      rw [g99, nIc (by omega), g96, nI_mul]
      have b191 : ∀ c : Nat, c = cut → bX7_ploughs_191 (nI s) (nI c) (up (up ρ 100 (1 + k) (nI (A 100 (1 + k) - m))) 100 26 (nI (orb (A 100 26) k))) P := by
        rintro c rfl
        unfold bX7_ploughs_191
        rw [a6, nIc (by omega), g6]
        have b231 : ∀ c' : Nat, A 100 (6 + s) - c' = A 100 (6 + s) - cut → c' ≤ A 100 (6 + s) → bX7_ploughs_231 (nI s) (nI c') (nI (A 100 (6 + s))) (nI (6 + s)) (up (up ρ 100 (1 + k) (nI (A 100 (1 + k) - m))) 100 26 (nI (orb (A 100 26) k))) P := by
          intro c' hc1 hc2
          unfold bX7_ploughs_231
          rw [a6, nIc (by omega), nI_sub hc2, hc1]
          refine ⟨vin (by omega) (by omega), ?_⟩
          rintro σ2 rfl
          refine ⟨vin (by omega) (by omega), ?_⟩
          rw [up_get]
          refine qy ⟨hz2, b1, by omega, by omega, by omega, d4⟩ _ (RM_row rm (fun i hi => by rw [up_ne hi, up_ne hi, up_ne hi]) (fun j hj => ?_)) (fun i hi => by rw [up_ne (by omega), up_ne (by omega), up_ne (by omega), m1 i (by omega) (by omega)]) m2
          rw [upg, upg, upg, m1' j hj, fv]
          by_cases e1 : j = 6 + s
          · rw [if_pos ⟨rfl, e1⟩, if_pos e1]
          · rw [if_neg (by omega), if_neg e1]
            by_cases e2 : j = 26
            · rw [if_pos ⟨rfl, e2⟩, if_pos e2]
            · rw [if_neg (by omega), if_neg e2]
              by_cases e3 : j = 1 + k
              · rw [if_pos ⟨rfl, e3⟩, if_pos e3]
              · rw [if_neg (by omega), if_neg e3]
        refine ⟨vin (by omega) (by omega), vin (by omega) (by omega), ?_⟩
        by_cases d5 : cut ≤ A 100 (6 + s)
        · exact iT (nI_le d5 (by omega)) (b231 cut rfl d5)
        · exact iF (fun e => d5 ((nI_leI (by omega) (by omega)).mp e)) ⟨vin (by omega) (by omega), b231 _ (by omega) (Nat.le_refl _)⟩
      by_cases d6 : A 99 (A 100 0) = 0
      · exact iT (by rw [d6]; rfl) ⟨vin (by omega) (by omega), b191 _ (by show _ = (if A 99 (A 100 0) = 0 then m * A 96 k else 0); rw [if_pos d6])⟩
      · exact iF (fun e => d6 ((nI_eq (b := 0) (by omega) (by omega)).mp e)) (b191 0 (by show _ = (if A 99 (A 100 0) = 0 then m * A 96 k else 0); rw [if_neg d6]))
    by_cases e1 : A 100 (13 + s) = k
    · exact iT (by rw [e1]) (b75 1 (Or.inl ⟨rfl, Or.inl e1⟩))
    · refine iF (fun e => e1 ((nI_eq (by omega) (by omega)).mp e)) ⟨vin (by omega) (by omega), vin (by omega) (by omega), ?_⟩
      rw [nI_1]
      by_cases e2 : A 100 (21 + k) = A 100 (13 + s) + 1
      · exact iT (by rw [e2]) (b75 1 (Or.inl ⟨rfl, Or.inr e2⟩))
      · exact iF (fun e => e2 ((nI_eq (by omega) (by omega)).mp e)) (b75 0 (Or.inr ⟨rfl, by omega⟩))
  have state : ¬ OK → wX7_ploughs (nI k) (nI s) σ (fun r' σ2 => -2 = r' ∧ INV σ2) := fun hn => mod hM1 (fun o => absurd o hn) (fun _ => ⟨rfl, hI⟩) σ rfl
  -- the class
  obtain ⟨r1, r2, r3, r4, r5⟩ := id hC.2.1
  rw [r1]
  refine m6 hC hw wn ?_
  rw [hmm]
  have go : OK → wX2_push σ (fun σ12 => (vp_in (σ12.1 18 4) 100 ∧ (((σ12.1 8 (σ12.1 18 4).toNatClampNeg) = 0 → (vp_in (nI k) 5 ∧ bX6_ploughs_93 (nI k) (nI s) (nI m) (nI m * (σ12.1 5 k)) σ12 (fun r σ1 => wX7_ploughs (nI k) (nI s) σ1 (fun r' σ2 => r = r' ∧ INV σ2)))) ∧ (¬ (σ12.1 8 (σ12.1 18 4).toNatClampNeg) = 0 → bX6_ploughs_93 (nI k) (nI s) (nI m) 0 σ12 (fun r σ1 => wX7_ploughs (nI k) (nI s) σ1 (fun r' σ2 => r = r' ∧ INV σ2)))))) := by
    intro hok
    refine push6 hC hw (fun τ rc p1 p2 => ?_)
    obtain ⟨t1, t2, t3, t4, t5⟩ := rc.2.1
    have t1 : τ.1 18 4 = nI (A 100 0) := t1
    have t3 : τ.1 18 6 = nI (A 100 26) := t3
    have tq : τ.1 19 k = nI (A 100 (1 + k)) := (t4 k hk).1
    have tl : τ.1 22 s = nI (A 100 (6 + s)) := (t5 s hs).2
    have t8 : τ.1 8 (A 100 0) = nI (A 99 (A 100 0)) := by rw [p1 8 (by omega)]; exact hC.1.2.2.2.2.2.2 _ (by omega)
    have t55 : τ.1 5 k = nI (A 96 k) := by rw [p1 5 (by omega)]; exact hC.1.2.2.2.2.1 k hk
    rw [t1, nIc (by omega), t8, t55, nI_mul]
    refine ⟨vin (by omega) (by omega), ?_⟩
    have fin : ∀ c : Nat, c = cut → bX6_ploughs_93 (nI k) (nI s) (nI m) (nI c) τ (fun r σ1 => wX7_ploughs (nI k) (nI s) σ1 (fun r' σ2 => r = r' ∧ INV σ2)) := by
      rintro c rfl
      refine ⟨vin (by omega) (by omega), vin (by omega) (by omega), ?_⟩
      rw [nIc (by omega), nIc (by omega)]
      rw [show (18 + 1 : Nat) = 19 from rfl, show (18 + 4 : Nat) = 22 from rfl, tq, nI_sub hok.2.2.2.2.2]
      rintro σ3 rfl
      refine ⟨vin (by omega) (by omega), ?_⟩
      rw [up_ne (by omega), tl]
      have ex : (if 0 < nI (A 100 (6 + s)) - nI cut then nI (A 100 (6 + s)) - nI cut else 0) = nI (A 100 (6 + s) - cut) := by
        by_cases e : cut < A 100 (6 + s)
        · rw [if_pos ((sub_gt (by omega) (by omega)).mpr e), nI_sub (by omega)]
        · rw [if_neg (fun d => e ((sub_gt (by omega) (by omega)).mp d)), show A 100 (6 + s) - cut = 0 by omega]; rfl
      rw [ex]
      rintro x5 rfl
      refine ⟨vin (by omega) (by omega), ?_⟩
      rintro σ7 rfl
      rw [up_ne (by omega), up_ne (by omega), t3, orb_eq wp (by omega)]
      rintro σ8 rfl
      refine ⟨vin (by omega) (by omega), ?_⟩
      have hr : (up (up (up τ 19 k (nI (A 100 (1 + k) - m))) 22 s (nI (A 100 (6 + s) - cut))) 18 6 (nI (orb (A 100 26) k))).1 22 s = nI (A 100 (6 + s) - cut) := by rw [up_ne (by omega), up_get]
      rw [hr]
      have q : ∀ i, (i < 18 ∨ 22 < i) → (up (up (up τ 19 k (nI (A 100 (1 + k) - m))) 22 s (nI (A 100 (6 + s) - cut))) 18 6 (nI (orb (A 100 26) k))).1 i = τ.1 i := fun i hi => by rw [up_ne (by omega), up_ne (by omega), up_ne (by omega)]
      have rc2 : RC (sR (pushA A) 100 f) (up (up (up τ 19 k (nI (A 100 (1 + k) - m))) 22 s (nI (A 100 (6 + s) - cut))) 18 6 (nI (orb (A 100 26) k))) := by
        refine RC_row rc q ⟨?_, ?_, ?_, fun j hj => ?_, fun j hj => ?_⟩
        · rw [up_get_ne (by omega), up_ne (by omega), up_ne (by omega), ff 0 (by omega) (by omega) (by omega)]; exact t1
        · rw [up_get_ne (by omega), up_ne (by omega), up_ne (by omega), ff 20 (by omega) (by omega) (by omega)]; exact t2
        · rw [up_get, f26]
        · have hj : j < A 94 0 := hj
          have t4j := t4 j hj
          refine ⟨?_, by rw [up_ne (by omega), up_ne (by omega), up_ne (by omega), ff (21 + j) (by omega) (by omega) (by omega)]; exact t4j.2⟩
          rw [up_ne (by omega), up_ne (by omega)]
          show (up τ 19 k _).1 19 j = _
          rw [upg]
          by_cases e : j = k
          · subst e; rw [if_pos ⟨rfl, rfl⟩, f1]
          · rw [if_neg (by omega), ff (1 + j) (by omega) (by omega) (by omega)]; exact t4j.1
        · have hj : j < A 94 1 := hj
          have t5j := t5 j hj
          refine ⟨by rw [up_ne (by omega), up_ne (by omega), up_ne (by omega), ff (13 + j) (by omega) (by omega) (by omega)]; exact t5j.1, ?_⟩
          rw [up_ne (by omega)]
          show (up (up τ 19 k _) 22 s _).1 22 j = _
          rw [upg]
          by_cases e : j = s
          · subst e; rw [if_pos ⟨rfl, rfl⟩, f6]
          · rw [if_neg (by omega), up_ne (by omega), ff (6 + j) (by omega) (by omega) (by omega)]; exact t5j.2
      have hf : WSn (A 94 0) (A 94 1) f := by
        obtain ⟨s1, s2, s3, s4, s5, s6⟩ := wS
        refine ⟨by rw [ff 0 (by omega) (by omega) (by omega)]; exact s1, by rw [ff 20 (by omega) (by omega) (by omega)]; exact s2, by rw [f26]; exact orb_lt w1 hk s3, fun j hj => ?_, fun j hj => ?_, fun j hj => ?_⟩
        · rcases s4 j hj with q | ⟨n, q1, q2, q3, q4⟩
          · exact Or.inl (by rw [ff _ (by omega) (by omega) (by omega)]; exact q)
          · exact Or.inr ⟨n, q1, q2, by rw [ff _ (by omega) (by omega) (by omega)]; exact q3, by rw [ff _ (by omega) (by omega) (by omega)]; exact q4⟩
        · have s5j := s5 j hj
          refine ⟨by rw [ff _ (by omega) (by omega) (by omega)]; exact s5j.1, ?_⟩
          by_cases e : j = s
          · subst e; rw [f6]; omega
          · rw [ff _ (by omega) (by omega) (by omega)]; exact s5j.2
        · rw [fv]
          have := s6 j hj
          have ho := orb_lt w1 hk s3
          have := pow_le w1
          split
          · omega
          · split
            · omega
            · split <;> omega
      have cc1 : ∀ i, 15 ≤ i → i ≤ 17 → (up (up (up τ 19 k (nI (A 100 (1 + k) - m))) 22 s (nI (A 100 (6 + s) - cut))) 18 6 (nI (orb (A 100 26) k))).1 i = σ.1 i := fun i _ _ => by rw [q i (by omega)]; exact p1 i (by omega)
      have cc2 : (up (up (up τ 19 k (nI (A 100 (1 + k) - m))) 22 s (nI (A 100 (6 + s) - cut))) 18 6 (nI (orb (A 100 26) k))).2 = σ.2 := p2
      have sm : SM σ (up (up (up τ 19 k (nI (A 100 (1 + k) - m))) 22 s (nI (A 100 (6 + s) - cut))) 18 6 (nI (orb (A 100 26) k))) := SM_of (fun i _ => by rw [q i (by omega)]; exact p1 i (by omega)) p2
      generalize (up (up (up τ 19 k (nI (A 100 (1 + k) - m))) 22 s (nI (A 100 (6 + s) - cut))) 18 6 (nI (orb (A 100 26) k))) = τ2 at rc2 cc1 cc2 sm
      have hM2 := rm92 (RM_SM hM sm)
      exact mod hM2 (fun _ ρ rm m1 m2 => ⟨rfl, glue hw hT hL rc2 cc1 cc2 rm (fun i hi => by rw [m1 i hi, up_ne (by omega)]) m2 hf⟩) (fun hn => absurd hok hn) τ2 rfl
    by_cases d6 : A 99 (A 100 0) = 0
    · exact iT (by rw [d6]; rfl) ⟨vin (by omega) (by omega), fin _ (by show _ = (if A 99 (A 100 0) = 0 then m * A 96 k else 0); rw [if_pos d6])⟩
    · exact iF (fun e => d6 ((nI_eq (b := 0) (by omega) (by omega)).mp e)) (fin 0 (by show _ = (if A 99 (A 100 0) = 0 then m * A 96 k else 0); rw [if_neg d6]))
  have b30 : ∀ z : Int32, (z = 1 ∧ (A 100 (13 + s) = k ∨ A 100 (21 + k) = A 100 (13 + s) + 1)) ∨ (z = 0 ∧ ¬ (A 100 (13 + s) = k ∨ A 100 (21 + k) = A 100 (13 + s) + 1)) → bX4_mayPlough_30 18 (nI k) (nI s) (nI m) z σ (fun r10 σ9 => ((r10 = 0 → wX7_ploughs (nI k) (nI s) σ9 (fun r' σ2 => -2 = r' ∧ INV σ2)) ∧ (¬ r10 = 0 → wX2_push σ9 (fun σ12 => (vp_in (σ12.1 18 4) 100 ∧ (((σ12.1 8 (σ12.1 18 4).toNatClampNeg) = 0 → (vp_in (nI k) 5 ∧ bX6_ploughs_93 (nI k) (nI s) (nI m) (nI m * (σ12.1 5 k)) σ12 (fun r σ1 => wX7_ploughs (nI k) (nI s) σ1 (fun r' σ2 => r = r' ∧ INV σ2)))) ∧ (¬ (σ12.1 8 (σ12.1 18 4).toNatClampNeg) = 0 → bX6_ploughs_93 (nI k) (nI s) (nI m) 0 σ12 (fun r σ1 => wX7_ploughs (nI k) (nI s) σ1 (fun r' σ2 => r = r' ∧ INV σ2))))))))) := by
    intro z hz
    rcases hz.symm with ⟨rfl, hz2⟩ | ⟨rfl, hz2⟩
    · exact iT rfl (iT rfl (state (fun c => hz2 c.1)))
    refine iF (by decide) ?_
    refine al5 hC.2.1 wl (by omega) (fun b1 => iF (by decide) ?_) (fun b1 => iT rfl (iT rfl (state (fun c => by have := c.2.1; omega))))
    refine pl5 hC.2.1 wp (by omega) (fun b2 => iF (by decide) (iT rfl (state (fun c => by have := c.2.2.1; omega)))) (fun b2 => iT rfl ⟨vin (by omega) (by omega), ?_⟩)
    rw [nIc (by omega), nIc (by omega), (r5 s hs).2, (r4 k hk).1]
    by_cases d1 : A 100 (6 + s) = 0
    · exact iT (by rw [d1]; decide) (iT rfl (state (fun c => by have := c.2.2.2.1; omega)))
    refine iF (nI_nle (by omega) (by omega)) ?_
    by_cases d3 : m = 0
    · exact iT (by rw [d3]; decide) (iT rfl (state (fun c => by have := c.2.2.2.2.1; omega)))
    refine iF (nI_nlt (b := 1) (by omega) (by omega)) ⟨vin (by omega) (by omega), ?_⟩
    rcases (Classical.em (m ≤ A 100 (1 + k))).symm with d4 | d4
    · exact iT (nI_lt (by omega) (by omega)) (iT rfl (state (fun c => d4 c.2.2.2.2.2)))
    · exact iF (nI_nlt d4 (by omega)) (iF (by decide) (go ⟨hz2, b1, b2, by omega, by omega, d4⟩))
  refine ⟨vin (by omega) (by omega), ?_⟩
  rw [nIc (by omega), nIc (by omega), (r5 s hs).1, (r4 k hk).2]
  by_cases e1 : A 100 (13 + s) = k
  · exact iT (by rw [e1]) (b30 1 (Or.inl ⟨rfl, Or.inl e1⟩))
  · refine iF (fun e => e1 ((nI_eq (by omega) (by omega)).mp e)) ⟨vin (by omega) (by omega), vin (by omega) (by omega), ?_⟩
    have hme := may_eq wo.1 hk w1 wm
    by_cases e2 : A 100 (21 + k) = A 100 (13 + s) + 1
    · exact iT (hme.mpr e2) (b30 1 (Or.inl ⟨rfl, Or.inr e2⟩))
    · exact iF (fun e => e2 (hme.mp e)) (b30 0 (Or.inr ⟨rfl, by omega⟩))
