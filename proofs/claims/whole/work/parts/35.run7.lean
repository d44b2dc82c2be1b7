/-! the model reads a text -/
theorem GQ_n7 {e : Nat → Nat} {B : AM} {t : Tk} {σ0 σ : St} (h : SQ e B t σ0 σ) {j : Nat} (hj : j < e 0) : σ.1 94 (4 + j) = nI (B 0 j) := h.2.2.2.2.2.2.2 0 j (by omega) hj
section Run7
variable {T : Nat → Nat} {n : Nat} {B : AM} {t : Tk} {σ0 σ : St} {R : Int32 × St → Prop} {Q : Int32 → St → Prop} {m : Nat}
/-- an item whose first letter is taken: t is that letter -/
theorem far7 (hn : n ≤ 200) (ht : ∀ i, i < 200 → T i ≤ 255) (hT : ∀ i, i < 200 → σ0.1 93 i = nI (T i)) (h3 : σ0.1 92 3 = nI n) (hw : WB B) (hv : VT n t) (h : SQ (exB 4 B) B (lx T n t.nx) σ0 σ) (hb : B 0 0 < 5) (q : PT (two T n B t 1 2 0 0 100 1 5) σ0 (fun σ' => R (nI (m + 1), σ'))) : wX7_readsItem (nI 102) σ (fun σ6 => bX7_parish_76 R (nI m) σ6 Q) := by
  have hv1 := (VT_lx T (n := n) (p := t.nx) hv.2.1).1
  unfold two at q
  generalize lx T n t.nx = t1 at h hv1 q
  refine iT rfl ?_
  rintro x33 rfl
  have e0 : σ.1 94 4 = nI (B 0 0) := GQ_n7 h (j := 0) (by unfold exB ex; simp)
  have c1 := hv1.1
  have c2 := hv1.2.1
  rw [e0]
  have e5 : (5 : Int32) + nI (B 0 0) = nI (5 + B 0 0) := nI_add 5 _
  refine num7 hn ht hT h3 h hv1 (lo := 0) (hi := 100) rfl (by omega) (by omega) rfl (fun c σ1 g1 => ⟨vin (by omega) (by omega), ?_⟩) (fun c σ1 g1 => ⟨vin (by omega) (by omega), ?_⟩)
  · rw [if_pos c, nIc (by omega)] at *
    rintro σ37 rfl
    have g2 : SQ (ex 4 (B 0 0 + 1) (B 0 0) (B 0 1) (B 0 1)) (sA B 1 (B 0 0) t1.v) (lx T n t1.nx) σ0 (up σ1 95 (B 0 0) (nI t1.v)) := g1.put (i := 1) (j := B 0 0) (by omega) (by omega) rfl (by unfold c7; simp) (fun x y _ hy => ex_le (fun y h => by omega) (fun y h => by omega) (fun y h => by omega) (fun y h => by omega) (fun y h => by omega) hy)
    have hv2 := (VT_lx T (n := n) (p := t1.nx) hv1.2.1).1
    generalize lx T n t1.nx = t2 at g2 hv2 q
    have d1 := hv2.1
    have d2 := hv2.2.1
    rw [e5]
    refine num7 hn ht hT h3 g2 hv2 (lo := 1) (hi := 5) rfl (by omega) (by omega) rfl (fun d σ2 g3 => ⟨vin (by omega) (by omega), ?_⟩) (fun d σ2 g3 => ⟨vin (by omega) (by omega), ?_⟩)
    · rw [if_pos d] at q
      rw [nIc (by omega)]
      rintro σ41 rfl
      have g4 : SQ (ex 4 (B 0 0 + 1) (B 0 0 + 1) (B 0 1) (B 0 1)) (sA (sA B 1 (B 0 0) t1.v) 2 (B 0 0) t2.v) (lx T n t2.nx) σ0 (up σ2 96 (5 + B 0 0) (nI t2.v)) := g3.put (i := 2) (j := B 0 0) (by omega) (by omega) rfl (by unfold c7; simp) (fun x y _ hy => ex_le (fun y h => by omega) (fun y h => by omega) (fun y h => by omega) (fun y h => by omega) (fun y h => by omega) hy)
      have e6 : (up σ2 96 (5 + B 0 0) (nI t2.v)).1 94 4 = nI (B 0 0) := GQ_n7 g4 (j := 0) (by unfold ex; simp)
      rintro σ43 rfl
      rw [e6, nI_1]
      exact end7 hn ht hT h3 hv2 (g4.put (i := 0) (j := 0) (m := B 0 0 + 1) (by omega) (by omega) rfl rfl (fun x y _ hy => Or.inl hy)) q
    · rw [if_neg d] at q
      rw [nIc (by omega)]
      rintro σ41 rfl σ43 rfl
      have g4 := (g3.put (i := 96) (j := 5 + B 0 0) (v := 0) (by unfold st7; omega) (by omega)).put (i := 94) (j := 4) (v := ((up σ2 96 (5 + B 0 0) 0).1 94 4) + 1) (by unfold st7; omega) (by omega)
      exact endF (by omega) g4 (q (by omega) _ g4)
  · rw [if_neg c] at q
    rw [nIc (by omega)]
    rintro σ37 rfl
    have g2 := g1.put (i := 95) (j := B 0 0) (v := 0) (by unfold st7; omega) (by omega)
    refine numF (by omega) g2 ?_
    rw [e5]
    refine ⟨vin (by omega) (by omega), ?_⟩
    rw [nIc (by omega)]
    rintro σ41 rfl σ43 rfl
    have g4 := (g2.put (i := 96) (j := 5 + B 0 0) (v := 0) (by unfold st7; omega) (by omega)).put (i := 94) (j := 4) (v := ((up (up σ1 95 (B 0 0) 0) 96 (5 + B 0 0) 0).1 94 4) + 1) (by unfold st7; omega) (by omega)
    exact endF (by omega) g4 (q (by omega) _ g4)
theorem str7 (hn : n ≤ 200) (ht : ∀ i, i < 200 → T i ≤ 255) (hT : ∀ i, i < 200 → σ0.1 93 i = nI (T i)) (h3 : σ0.1 92 3 = nI n) (hw : WB B) (hv : VT n t) (h : SQ (exB 4 B) B (lx T n t.nx) σ0 σ) (hb : B 0 1 < 7) (q : PT (two T n B t 3 4 1 0 (B 0 0) 1 61) σ0 (fun σ' => R (nI (m + 1), σ'))) : wX7_readsItem (nI 115) σ (fun σ6 => bX7_parish_76 R (nI m) σ6 Q) := by
  have hv1 := (VT_lx T (n := n) (p := t.nx) hv.2.1).1
  have w0 := hw.1
  unfold two at q
  generalize lx T n t.nx = t1 at h hv1 q
  refine iF (by decide) (iT rfl ?_)
  rintro x22 rfl
  have e0 : σ.1 94 5 = nI (B 0 1) := GQ_n7 h (j := 1) (by unfold exB ex; simp)
  have e1 : σ.1 94 4 = nI (B 0 0) := GQ_n7 h (j := 0) (by unfold exB ex; simp)
  have c1 := hv1.1
  have c2 := hv1.2.1
  rw [e0, e1]
  have e5 : (7 : Int32) + nI (B 0 1) = nI (7 + B 0 1) := nI_add 7 _
  refine num7 hn ht hT h3 h hv1 (lo := 0) (hi := B 0 0) rfl (by omega) (by omega) rfl (fun c σ1 g1 => ⟨vin (by omega) (by omega), ?_⟩) (fun c σ1 g1 => ⟨vin (by omega) (by omega), ?_⟩)
  · rw [if_pos c, nIc (by omega)] at *
    rintro σ37 rfl
    have g2 : SQ (ex 4 (B 0 0) (B 0 0) (B 0 1 + 1) (B 0 1)) (sA B 3 (B 0 1) t1.v) (lx T n t1.nx) σ0 (up σ1 97 (B 0 1) (nI t1.v)) := g1.put (i := 3) (j := B 0 1) (by omega) (by omega) rfl (by unfold c7; simp) (fun x y _ hy => ex_le (fun y h => by omega) (fun y h => by omega) (fun y h => by omega) (fun y h => by omega) (fun y h => by omega) hy)
    have hv2 := (VT_lx T (n := n) (p := t1.nx) hv1.2.1).1
    generalize lx T n t1.nx = t2 at g2 hv2 q
    have d1 := hv2.1
    have d2 := hv2.2.1
    rw [e5]
    refine num7 hn ht hT h3 g2 hv2 (lo := 1) (hi := 61) rfl (by omega) (by omega) rfl (fun d σ2 g3 => ⟨vin (by omega) (by omega), ?_⟩) (fun d σ2 g3 => ⟨vin (by omega) (by omega), ?_⟩)
    · rw [if_pos d] at q
      rw [nIc (by omega)]
      rintro σ41 rfl
      have g4 : SQ (ex 4 (B 0 0) (B 0 0) (B 0 1 + 1) (B 0 1 + 1)) (sA (sA B 3 (B 0 1) t1.v) 4 (B 0 1) t2.v) (lx T n t2.nx) σ0 (up σ2 98 (7 + B 0 1) (nI t2.v)) := g3.put (i := 4) (j := B 0 1) (by omega) (by omega) rfl (by unfold c7; simp) (fun x y _ hy => ex_le (fun y h => by omega) (fun y h => by omega) (fun y h => by omega) (fun y h => by omega) (fun y h => by omega) hy)
      have e6 : (up σ2 98 (7 + B 0 1) (nI t2.v)).1 94 5 = nI (B 0 1) := GQ_n7 g4 (j := 1) (by unfold ex; simp)
      rintro σ43 rfl
      rw [e6, nI_1]
      exact end7 hn ht hT h3 hv2 (g4.put (i := 0) (j := 1) (m := B 0 1 + 1) (by omega) (by omega) rfl rfl (fun x y _ hy => Or.inl hy)) q
    · rw [if_neg d] at q
      rw [nIc (by omega)]
      rintro σ41 rfl σ43 rfl
      have g4 := (g3.put (i := 98) (j := 7 + B 0 1) (v := 0) (by unfold st7; omega) (by omega)).put (i := 94) (j := 5) (v := ((up σ2 98 (7 + B 0 1) 0).1 94 5) + 1) (by unfold st7; omega) (by omega)
      exact endF (by omega) g4 (q (by omega) _ g4)
  · rw [if_neg c] at q
    rw [nIc (by omega)]
    rintro σ37 rfl
    have g2 := g1.put (i := 97) (j := B 0 1) (v := 0) (by unfold st7; omega) (by omega)
    refine numF (by omega) g2 ?_
    rw [e5]
    refine ⟨vin (by omega) (by omega), ?_⟩
    rw [nIc (by omega)]
    rintro σ41 rfl σ43 rfl
    have g4 := (g2.put (i := 98) (j := 7 + B 0 1) (v := 0) (by unfold st7; omega) (by omega)).put (i := 94) (j := 5) (v := ((up (up σ1 97 (B 0 1) 0) 98 (7 + B 0 1) 0).1 94 5) + 1) (by unfold st7; omega) (by omega)
    exact endF (by omega) g4 (q (by omega) _ g4)
theorem clo7 (hn : n ≤ 200) (ht : ∀ i, i < 200 → T i ≤ 255) (hT : ∀ i, i < 200 → σ0.1 93 i = nI (T i)) (h3 : σ0.1 92 3 = nI n) (hv : VT n t) (h : SQ (exB 4 B) B (lx T n t.nx) σ0 σ) (q : PT (one T n t 0 100 (fun v => sA B 5 v 1)) σ0 (fun σ' => R (nI (m + 1), σ'))) : wX7_readsItem (nI 99) σ (fun σ6 => bX7_parish_76 R (nI m) σ6 Q) := by
  have hv1 := (VT_lx T (n := n) (p := t.nx) hv.2.1).1
  unfold one at q
  generalize lx T n t.nx = t1 at h hv1 q
  refine iF (by decide) (iF (by decide) (iT rfl ?_))
  have c1 := hv1.1
  have c2 := hv1.2.1
  refine num7 hn ht hT h3 h hv1 (lo := 0) (hi := 100) rfl (by omega) (by omega) rfl (fun c σ1 g1 => ?_) (fun c σ1 g1 => ?_)
  · rw [if_pos c] at q
    have c3 := c.2.2
    rw [show (100 : Int32) + nI t1.v = nI (100 + t1.v) from nI_add 100 _]
    have k : bX7_readsItem_155 (nI (100 + t1.v)) σ1 (fun σ6 => bX7_parish_76 R (nI m) σ6 Q) := by
      refine ⟨vin (by omega) (by omega), ?_⟩
      rw [nIc (by omega), nar1]
      rintro σ2 rfl
      exact end7 hn ht hT h3 hv1 (g1.put (i := 5) (j := t1.v) (m := 1) (by omega) (by omega) rfl rfl (fun x y _ hy => Or.inl hy)) q
    exact ⟨vin (by omega) (by omega), fun _ => well1 g1 (iF (by decide) k), fun _ => k⟩
  · rw [if_neg c] at q
    have k : ∀ z, bX7_readsItem_160 z (100 + 0) σ1 (fun σ6 => bX7_parish_76 R (nI m) σ6 Q) := by
      intro z
      refine ⟨vin (k := 100) (by omega) (by omega), ?_⟩
      rintro σ2 rfl
      have g2 := g1.put (i := 99) (j := 100) (v := vp_nar .boolean z) (by unfold st7; omega) (by omega)
      exact endF (by omega) g2 (q (by omega) _ g2)
    exact ⟨vin (k := 100) (by omega) (by omega), fun _ => well0 (by omega) g1 (iT rfl (k 0)), fun _ => k 1⟩
theorem bit1 {b : Nat} (h : b ≤ 1) : nI (0 + 2 * b) ||| 1 = nI (1 + 2 * b) := by
  have : b = 0 ∨ b = 1 := by omega
  rcases this with rfl | rfl <;> decide
theorem bit2 {b : Nat} (h : b ≤ 1) : nI (b + 2 * 0) ||| 2 = nI (b + 2 * 1) := by
  have : b = 0 ∨ b = 1 := by omega
  rcases this with rfl | rfl <;> decide
theorem pha7 (hn : n ≤ 200) (ht : ∀ i, i < 200 → T i ≤ 255) (hT : ∀ i, i < 200 → σ0.1 93 i = nI (T i)) (h3 : σ0.1 92 3 = nI n) (hw : WB B) (hv : VT n t) (h : SQ (exB 4 B) B (lx T n t.nx) σ0 σ) (hb : B 0 4 = 0) (q : PT (one T n t 0 16 (fun v => sA (sA B 0 2 v) 0 4 1)) σ0 (fun σ' => R (nI (m + 1), σ'))) : wX7_readsItem (nI 109) σ (fun σ6 => bX7_parish_76 R (nI m) σ6 Q) := by
  have hv1 := (VT_lx T (n := n) (p := t.nx) hv.2.1).1
  unfold one at q
  generalize lx T n t.nx = t1 at h hv1 q
  refine iF (by decide) (iF (by decide) (iF (by decide) (iT rfl ?_)))
  have c1 := hv1.1
  have c2 := hv1.2.1
  have w6 := hw.2.2.2.2.2.2.1
  refine num7 hn ht hT h3 h hv1 (lo := 0) (hi := 16) rfl (by omega) (by omega) rfl (fun c σ1 g1 => ?_) (fun c σ1 g1 => ?_)
  · rw [if_pos c] at q
    rintro σ13 rfl
    have g2 : SQ (exB 4 B) (sA B 0 2 t1.v) (lx T n t1.nx) σ0 (up σ1 94 6 (nI t1.v)) := g1.put (i := 0) (j := 2) (by omega) (by omega) rfl rfl (fun x y _ hy => Or.inl hy)
    have e10 := g2.2.2.2.2.2.2.1
    rw [sA_ne (by omega), sA_ne (by omega), hb] at e10
    rintro σ14 rfl
    rw [e10, bit1 w6]
    have g3 := g2.bit (B' := sA (sA B 0 2 t1.v) 0 4 1) (v := nI (1 + 2 * B 0 5)) (fun i j hi hj => sA_ne (fun f => by
      rw [f.1, f.2] at hj
      exact absurd hj (by unfold exB ex; simp))) (by rw [sA_get, sA_ne (by omega), sA_ne (by omega)])
    exact end7 hn ht hT h3 hv1 g3 q
  · rw [if_neg c] at q
    rintro σ13 rfl σ14 rfl
    have g2 := (g1.put (i := 94) (j := 6) (v := 0) (by unfold st7; omega) (by omega)).put (i := 92) (j := 10) (v := ((up σ1 94 6 0).1 92 10) ||| 1) (by unfold st7; omega) (by omega)
    exact endF (by omega) g2 (q (by omega) _ g2)
theorem eas7 (hn : n ≤ 200) (ht : ∀ i, i < 200 → T i ≤ 255) (hT : ∀ i, i < 200 → σ0.1 93 i = nI (T i)) (h3 : σ0.1 92 3 = nI n) (hw : WB B) (hv : VT n t) (h : SQ (exB 4 B) B (lx T n t.nx) σ0 σ) (hb : B 0 5 = 0) (q : PT (one T n t 1 61 (fun v => sA (sA B 0 3 v) 0 5 1)) σ0 (fun σ' => R (nI (m + 1), σ'))) : wX7_readsItem (nI 101) σ (fun σ6 => bX7_parish_76 R (nI m) σ6 Q) := by
  have hv1 := (VT_lx T (n := n) (p := t.nx) hv.2.1).1
  unfold one at q
  generalize lx T n t.nx = t1 at h hv1 q
  refine iF (by decide) (iF (by decide) (iF (by decide) (iF (by decide) ?_)))
  have c1 := hv1.1
  have c2 := hv1.2.1
  have w5 := hw.2.2.2.2.2.1
  refine num7 hn ht hT h3 h hv1 (lo := 1) (hi := 61) rfl (by omega) (by omega) rfl (fun c σ1 g1 => ?_) (fun c σ1 g1 => ?_)
  · rw [if_pos c] at q
    rintro σ13 rfl
    have g2 : SQ (exB 4 B) (sA B 0 3 t1.v) (lx T n t1.nx) σ0 (up σ1 94 7 (nI t1.v)) := g1.put (i := 0) (j := 3) (by omega) (by omega) rfl rfl (fun x y _ hy => Or.inl hy)
    have e10 := g2.2.2.2.2.2.2.1
    rw [sA_ne (by omega), sA_ne (by omega), hb] at e10
    rintro σ14 rfl
    rw [e10, bit2 w5]
    have g3 := g2.bit (B' := sA (sA B 0 3 t1.v) 0 5 1) (v := nI (B 0 4 + 2 * 1)) (fun i j hi hj => sA_ne (fun f => by
      rw [f.1, f.2] at hj
      exact absurd hj (by unfold exB ex; simp))) (by rw [sA_get, sA_ne (by omega), sA_ne (by omega)])
    exact end7 hn ht hT h3 hv1 g3 q
  · rw [if_neg c] at q
    rintro σ13 rfl σ14 rfl
    have g2 := (g1.put (i := 94) (j := 7) (v := 0) (by unfold st7; omega) (by omega)).put (i := 92) (j := 10) (v := ((up σ1 94 7 0).1 92 10) ||| 2) (by unfold st7; omega) (by omega)
    exact endF (by omega) g2 (q (by omega) _ g2)
end Run7
