/-! mean, soonest -/
def sumN (g : Nat → Nat) : Nat → Nat → Nat
  | 0, _ => 0
  | d + 1, k => g k + sumN g d (k + 1)
theorem sumN_mul (g : Nat → Nat) (x : Nat) : ∀ d k, sumN (fun n => g n * x) d k = sumN g d k * x
  | 0, _ => by simp [sumN]
  | d + 1, k => by simp only [sumN]; rw [sumN_mul g x d (k + 1), Nat.add_mul]
theorem sumN_le (g : Nat → Nat) (b : Nat) (h : ∀ n, g n ≤ b) : ∀ d k, sumN g d k ≤ d * b
  | 0, _ => by simp [sumN]
  | d + 1, k => by
    simp only [sumN]
    have := sumN_le g b h d (k + 1)
    have := h k
    rw [Nat.succ_mul]
    omega
section Mean
variable {A : AM} {σ : St} {Q : Int32 → St → Prop}
theorem gcd7 : ∀ (b a : Nat), a < 2 ^ 31 → b < 2 ^ 31 → Q (nI (Nat.gcd b a)) σ → ∃ n, Lp (lX7_gcd_4 Q) n (nI a, nI b, σ) := by
  intro b
  induction b using Nat.strongRecOn with
  | _ b ih =>
    intro a ha hb q
    rcases Nat.eq_zero_or_pos b with rfl | h
    · refine ⟨1, ?_⟩
      show bX7_gcd_4 _ (nI a) (nI 0) σ Q
      rw [Nat.gcd_zero_left] at q
      exact iT rfl q
    · rw [Nat.gcd_rec] at q
      have hl := Nat.mod_lt a h
      obtain ⟨n, hn⟩ := ih (a % b) hl b hb (by omega) q
      refine ⟨n + 1, ?_⟩
      show bX7_gcd_4 _ (nI a) (nI b) σ Q
      have hne : ¬ nI b = 0 := nI_ne0 h hb
      refine iF hne ⟨hne, ?_⟩
      rintro x3 rfl
      rw [nI_mod ha hb]
      exact hn
def g10 (u : Nat) : Nat := if u % 10 = 0 then 10 else if u % 5 = 0 then 5 else if u % 2 = 0 then 2 else 1
theorem g10_eq (u : Nat) : g10 u = Nat.gcd 10 u := by
  rw [Nat.gcd_rec]
  have h1 : u % 5 = u % 10 % 5 := by omega
  have h2 : u % 2 = u % 10 % 2 := by omega
  unfold g10
  rw [h1, h2]
  have h3 := Nat.mod_lt u (by omega : 10 > 0)
  generalize u % 10 = r at h3
  exact (by decide : ∀ r, r < 10 → (if r = 0 then 10 else if r % 5 = 0 then 5 else if r % 2 = 0 then 2 else 1) = Nat.gcd r 10) r h3
theorem ten6 {u : Nat} (h : u < 2 ^ 31) (q : Q (nI (g10 u)) σ) : wX6_sharedWithTen (nI u) σ Q := by
  unfold wX6_sharedWithTen
  unfold g10 at q
  rw [show (10 : Int32) = nI 10 from rfl, show (5 : Int32) = nI 5 from rfl, show (2 : Int32) = nI 2 from rfl, nI_mod h (by omega), nI_mod h (by omega), nI_mod h (by omega)]
  by_cases c1 : u % 10 = 0
  · rw [if_pos c1] at q
    exact iT (by rw [c1]; rfl) q
  · rw [if_neg c1] at q
    refine iF (fun d => c1 ((nI_eq (b := 0) (by omega) (by omega)).mp d)) ?_
    by_cases c2 : u % 5 = 0
    · rw [if_pos c2] at q
      exact iT (by rw [c2]; rfl) q
    · rw [if_neg c2] at q
      refine iF (fun d => c2 ((nI_eq (b := 0) (by omega) (by omega)).mp d)) ?_
      by_cases c3 : u % 2 = 0
      · rw [if_pos c3] at q
        exact iT (by rw [c3]; rfl) q
      · rw [if_neg c3] at q
        exact iF (fun d => c3 ((nI_eq (b := 0) (by omega) (by omega)).mp d)) q
theorem g10_pos (u : Nat) : 0 < g10 u ∧ g10 u ≤ 10 := by unfold g10; split <;> (try split) <;> (try split) <;> omega
theorem mean6 (hC : RC A σ) (hw : WF A) {k x : Nat} (hk : k < A 94 0) (hx : x ≤ 10) {w : Int32} : ∀ (d n a : Nat), n ≤ 99 → A 94 3 - n = d → a ≤ 9600 - d * 160 → ((w = 0 → Q (nI (a + sumN (fun n => mo (A 94 2) (A 99) n * A 96 k * x) d n) / nI (g10 (a + sumN (fun n => mo (A 94 2) (A 99) n * A 96 k * x) d n))) σ) ∧ (¬ w = 0 → Q (10 / nI (g10 (a + sumN (fun n => mo (A 94 2) (A 99) n * A 96 k * x) d n))) σ)) → ∃ m, Lp (lX6_mean_41 Q) m (nI k, nI x, w, nI a, nI n, σ)
  | 0, n, a, h0, h, ha, q => ⟨1, by
      have := hw.2.2.2.2.1
      show bX6_mean_41 _ (nI k) (nI x) w (nI a) (nI n) σ Q
      unfold bX6_mean_41
      rw [hC.1.2.2.2.1]
      simp only [sumN, Nat.add_zero] at q
      have hp := g10_pos a
      have hne : ¬ nI (g10 a) = 0 := nI_ne0 hp.1 (by omega)
      exact iT (nI_le (by omega) (by omega)) (ten6 (by omega) ⟨fun c => ⟨hne, q.1 c⟩, fun c => ⟨hne, q.2 c⟩⟩)⟩
  | d + 1, n, a, h0, h, ha, q => by
      have w5 := hw.2.2.2.2.1
      have w1 := hw.1
      have wo := hw.2.2.2.2.2.1 k hk
      have w8 := hw.2.2.2.2.2.2.2.1 n (by omega)
      have hm := mo_le (A 94 2) (A 99) n
      have hz : mo (A 94 2) (A 99) n * A 96 k ≤ 4 * 4 := Nat.mul_le_mul hm wo.2
      have hz2 : mo (A 94 2) (A 99) n * A 96 k * x ≤ 16 * 10 := Nat.mul_le_mul hz hx
      simp only [sumN] at q
      rw [← Nat.add_assoc] at q
      obtain ⟨m, hm⟩ := mean6 hC hw hk hx d (n + 1) (a + mo (A 94 2) (A 99) n * A 96 k * x) (by omega) (by omega) (by omega) q
      refine ⟨m + 1, ?_⟩
      show bX6_mean_41 _ (nI k) (nI x) w (nI a) (nI n) σ Q
      unfold bX6_mean_41
      rw [hC.1.2.2.2.1]
      refine iF (nI_ge (by omega) (by omega)) ⟨vin (by omega) (by omega), ?_⟩
      rw [nIc (by omega), hC.1.2.2.2.2.2.2 n (by omega)]
      have fin : ∀ z : Nat, z = mo (A 94 2) (A 99) n * A 96 k * x → bX6_mean_93 (Lp (lX6_mean_41 Q) m) (nI k) (nI x) w (nI n) (nI z) (nI a) σ Q := by
        rintro z rfl x1 rfl x2 rfl
        rw [nI_1, nI_add]; exact hm
      by_cases c : A 99 n = 0
      · refine iT (by rw [c]; rfl) (m6 hC hw (by omega) ⟨vin (by omega) (by omega), ?_⟩)
        rw [nIc (by omega), hC.1.2.2.2.2.1 _ hk, nI_mul, nI_mul]
        exact fin _ (by rw [mo_pos c])
      · exact iF (fun d => c ((nI_eq (b := 0) (by omega) (by omega)).mp d)) (fin 0 (by rw [mo_neg c, Nat.zero_mul, Nat.zero_mul]))
theorem mean7 (hM : RM A σ) (hw : WF A) {k x : Nat} (hk : k < A 94 0) (hx : x ≤ 10) {w : Int32} : ∀ (d n a : Nat), n ≤ 99 → A 94 3 - n = d → a ≤ 960 - d * 16 → ((w = 0 → Q (nI ((a + sumN (fun n => mo (A 94 2) (A 99) n * A 96 k) d n) * x) / nI (g10 ((a + sumN (fun n => mo (A 94 2) (A 99) n * A 96 k) d n) * x))) σ) ∧ (¬ w = 0 → Q (10 / nI (g10 ((a + sumN (fun n => mo (A 94 2) (A 99) n * A 96 k) d n) * x))) σ)) → ∃ m, Lp (lX7_mean_45 Q) m (nI k, nI x, w, nI a, nI n, σ)
  | 0, n, a, h0, h, ha, q => ⟨1, by
      have := hw.2.2.2.2.1
      show bX7_mean_45 _ (nI k) (nI x) w (nI a) (nI n) σ Q
      unfold bX7_mean_45
      rw [hM 94 3 (by unfold rl; omega), nI_mul]
      simp only [sumN, Nat.add_zero] at q
      have hax : a * x ≤ 960 * 10 := Nat.mul_le_mul (by omega) hx
      have hp := g10_pos (a * x)
      have hne : ¬ nI (g10 (a * x)) = 0 := nI_ne0 hp.1 (by omega)
      refine iT (nI_le (by omega) (by omega)) (gcd7 10 (a * x) (by omega) (by omega) ?_)
      rw [← g10_eq]
      exact ⟨fun c => ⟨hne, q.1 c⟩, fun c => ⟨hne, q.2 c⟩⟩⟩
  | d + 1, n, a, h0, h, ha, q => by
      have w5 := hw.2.2.2.2.1
      have w1 := hw.1
      have wo := hw.2.2.2.2.2.1 k hk
      have hm := mo_le (A 94 2) (A 99) n
      have hz : mo (A 94 2) (A 99) n * A 96 k ≤ 4 * 4 := Nat.mul_le_mul hm wo.2
      simp only [sumN] at q
      rw [← Nat.add_assoc] at q
      obtain ⟨m, hm⟩ := mean7 hM hw hk hx d (n + 1) (a + mo (A 94 2) (A 99) n * A 96 k) (by omega) (by omega) (by omega) q
      refine ⟨m + 1, ?_⟩
      show bX7_mean_45 _ (nI k) (nI x) w (nI a) (nI n) σ Q
      unfold bX7_mean_45
      rw [hM 94 3 (by unfold rl; omega)]
      refine iF (nI_ge (by omega) (by omega)) (mo7 hM hw (by omega) ⟨vin (by omega) (by omega), ?_⟩)
      rw [nIc (by omega), hM 96 k (by unfold rl; omega), nI_mul, nI_add, nI_1]
      rintro x10 rfl x11 rfl
      exact hm
end Mean
theorem t_mean {σ : St} (h : INV σ) (a b c : Int32) : wX6_mean a b c σ (fun r σ1 => wX7_mean a b c σ1 (fun r' σ2 => r = r' ∧ INV σ2)) := by
  obtain ⟨A, hw, hM, hC, hL, hT⟩ := h
  have hI := inv92 hw hM hC hL hT
  have hM1 := rm92 hM
  have wn := hw.2.2.2.2.2.2.2.2.1.1
  have w5 := hw.2.2.2.2.1
  by_cases hx : isX a (A 94 0)
  · obtain ⟨k, hk, rfl⟩ := hx
    refine f6_y hC hw hk (iF (by decide) ?_)
    rcases isX_or b 11 (by omega) with ⟨x, hx, rfl⟩ | ⟨hxb, hq⟩
    · refine iF (nI_pos (by omega)) (iF (nI_nlt (a := 10) (by omega) (by omega)) ?_)
      have go : isX c 2 → bX6_mean_29 (nI k) (nI x) c σ (fun r σ1 => wX7_mean (nI k) (nI x) c σ1 (fun r' σ2 => r = r' ∧ INV σ2)) := by
        intro hc
        rintro x1 rfl
        rw [hC.2.1.1]
        have key : ∀ r : Int32, (c = 0 → r = nI (0 + sumN (fun n => mo (A 94 2) (A 99) n * A 96 k * x) (A 94 3 - A 100 0) (A 100 0)) / nI (g10 (0 + sumN (fun n => mo (A 94 2) (A 99) n * A 96 k * x) (A 94 3 - A 100 0) (A 100 0)))) → (¬ c = 0 → r = 10 / nI (g10 (0 + sumN (fun n => mo (A 94 2) (A 99) n * A 96 k * x) (A 94 3 - A 100 0) (A 100 0)))) → wX7_mean (nI k) (nI x) c σ (fun r' σ2 => r = r' ∧ INV σ2) := by
          intro r q0 q1
          obtain ⟨j, hj, rfl⟩ := hc
          rintro σ1 rfl
          refine f7_y hM1 hw hk (iF (by decide) (in_X (n := 11) (by omega) rfl hx (iF (by decide) (in_X (n := 2) (by omega) rfl hj (iF (by decide) ?_)))))
          rintro x11 rfl
          rw [hM1 100 0 (by unfold rl; omega)]
          refine mean7 hM1 hw hk (by omega) _ (A 100 0) 0 wn rfl (by omega) ⟨fun e => ⟨?_, hI⟩, fun e => ⟨?_, hI⟩⟩
          · rw [q0 e, Nat.zero_add, sumN_mul, Nat.zero_add]
          · rw [q1 e, Nat.zero_add, sumN_mul, Nat.zero_add]
        exact mean6 hC hw hk (by omega) _ (A 100 0) 0 wn rfl (by omega) ⟨fun e => key _ (fun _ => rfl) (fun n => absurd e n), fun e => key _ (fun n => absurd n e) (fun _ => rfl)⟩
      refine ⟨fun c0 => go ⟨0, by omega, c0⟩, fun c0 => ⟨fun c1 => go ⟨1, by omega, c1⟩, fun c1 => ?_⟩⟩
      rintro σ1 rfl
      refine f7_y hM1 hw hk (iF (by decide) (in_X (n := 11) (by omega) rfl hx (iF (by decide) (in_N (n := 2) (by omega) (by omega) rfl ?_ (iT rfl ⟨rfl, hI⟩)))))
      rintro ⟨j, hj, rfl⟩
      rcases (by omega : j = 0 ∨ j = 1) with rfl | rfl
      · exact c0 rfl
      · exact c1 rfl
    · have hm : wX7_mean (nI k) b c σ (fun r' σ2 => -1 = r' ∧ INV σ2) := by
        rintro σ1 rfl
        exact f7_y hM1 hw hk (iF (by decide) (in_N (n := 11) (by omega) (by omega) rfl hxb (iT rfl ⟨rfl, hI⟩)))
      rcases hq with c1 | ⟨c1, d⟩
      · exact iT c1 hm
      · refine iF c1 (iT ?_ hm)
        obtain ⟨j, hj, rfl⟩ := nI_of c1
        have := (nI_leI (by omega) hj).mp d
        exact nI_lt (a := 10) (by omega) hj
  · refine f6_n hC hw hx (iT rfl ?_)
    rintro σ1 rfl
    exact f7_n hM1 hw hx (iT rfl ⟨rfl, hI⟩)
/-! soonest -/
def sF (ph : Nat) (cl : Nat → Nat) (bp : Bool) (oa ob : Nat) : Nat → Nat → Nat → Nat → Nat → Int32
  | 0, _, _, _, _ => -9
  | d + 1, n, l, f, s =>
    if l ≤ (if cl n = 0 then moN ph n * ((if moN ph n ≤ f then oa else 0) + (if bp = true ∧ moN ph n ≤ s then ob else 0)) else 0) then nI n
    else sF ph cl bp oa ob d (n + 1) (l - (if cl n = 0 then moN ph n * ((if moN ph n ≤ f then oa else 0) + (if bp = true ∧ moN ph n ≤ s then ob else 0)) else 0)) (if moN ph n ≤ f then f - moN ph n else f) (if bp = true ∧ moN ph n ≤ s then s - moN ph n else s)
theorem sub_gt {l c : Nat} (hl : l < 2 ^ 30) (hc : c < 2 ^ 30) : 0 < nI l - nI c ↔ c < l := by
  rcases Nat.lt_or_ge c l with h | h
  · rw [nI_sub (by omega)]
    exact ⟨fun _ => h, fun _ => nI_lt (a := 0) (by omega) (by omega)⟩
  · refine ⟨fun e => absurd e ?_, fun e => absurd e (by omega)⟩
    rw [Int32.lt_iff_toInt_lt, Int32.toInt_sub, nI_toInt (by omega), nI_toInt (by omega), Int.bmod_eq_of_le (by omega) (by omega)]
    have : (0 : Int32).toInt = 0 := by decide
    omega
theorem sub2 (x y z : Int32) : x - y - z = x - (y + z) := by
  rw [Int32.sub_eq_add_neg, Int32.sub_eq_add_neg, Int32.sub_eq_add_neg, Int32.neg_add, Int32.add_assoc, Int32.sub_eq_add_neg]
section Soon
variable {A : AM} {σ : St} {Q : Int32 → St → Prop}
theorem soon6 (hC : RC A σ) (hw : WF A) {ka : Nat} (hka : ka < A 94 0) {b : Int32} {bp : Bool} {ob : Nat} (hb : (b = -1 ∧ bp = false ∧ ob = 0) ∨ ∃ kb, kb < A 94 0 ∧ b = nI kb ∧ bp = true ∧ ob = A 96 kb) : ∀ (d n l f s : Nat), n + d = 100 → 0 < l → l ≤ 60 → f ≤ 999 → s ≤ 999 → Q (sF (A 94 2) (A 99) bp (A 96 ka) ob d n l f s) σ → ∃ m, Lp (lX6_soonest_100 Q) m (nI ka, b, nI l, nI f, nI s, nI n, σ)
  | 0, n, l, f, s, h, h1, h2, h3, h4, q => ⟨1, by
      show bX6_soonest_100 _ (nI ka) b (nI l) (nI f) (nI s) (nI n) σ Q
      exact iT (nI_lt (a := 99) (by omega) (by omega)) q⟩
  | d + 1, n, l, f, s, h, h1, h2, h3, h4, q => by
      have w1 := hw.1
      have wa := hw.2.2.2.2.2.1 ka hka
      have w8 := hw.2.2.2.2.2.2.2.1 n (by omega)
      have hm := moN_le (A 94 2) n
      have hob : ob ≤ 4 := by
        rcases hb with ⟨-, -, rfl⟩ | ⟨kb, h1, -, -, rfl⟩
        · omega
        · exact (hw.2.2.2.2.2.1 kb h1).2
      -- behind the oxen
      have fin : ∀ (o f' s' : Nat), o = (if moN (A 94 2) n ≤ f then A 96 ka else 0) + (if bp = true ∧ moN (A 94 2) n ≤ s then ob else 0) → f' = (if moN (A 94 2) n ≤ f then f - moN (A 94 2) n else f) → s' = (if bp = true ∧ moN (A 94 2) n ≤ s then s - moN (A 94 2) n else s) → ∃ m, bX6_soonest_182 (Lp (lX6_soonest_100 Q) m) (nI ka) b (nI l) (nI f') (nI s') (nI n) (nI (moN (A 94 2) n)) (nI o) σ Q := by
        intro o f' s' ho hf' hs'
        unfold sF at q
        rw [← ho, ← hf', ← hs'] at q
        have hf9 : f' ≤ 999 := by rw [hf']; split <;> omega
        have hs9 : s' ≤ 999 := by rw [hs']; split <;> omega
        have ho8 : o ≤ 8 := by
          rw [ho]
          have : (if moN (A 94 2) n ≤ f then A 96 ka else 0) ≤ 4 := by split <;> omega
          have : (if bp = true ∧ moN (A 94 2) n ≤ s then ob else 0) ≤ 4 := by split <;> omega
          omega
        have hc : moN (A 94 2) n * o ≤ 4 * 8 := Nat.mul_le_mul hm ho8
        have base : ∀ c : Nat, c ≤ 32 → c = (if A 99 n = 0 then moN (A 94 2) n * o else 0) → ∃ m, bX6_soonest_206 (Lp (lX6_soonest_100 Q) m) (nI ka) b (nI f') (nI s') (nI n) (nI c) (nI l) σ Q := by
          intro c hc32 hcc
          rw [← hcc] at q
          by_cases hl : l ≤ c
          · rw [if_pos hl] at q
            refine ⟨0, ?_⟩
            rintro x1 rfl
            exact iF (fun e => by have := (sub_gt (by omega) (by omega)).mp e; omega) q
          · rw [if_neg hl] at q
            obtain ⟨m, hm⟩ := soon6 hC hw hka hb d (n + 1) (l - c) f' s' (by omega) (by omega) (by omega) hf9 hs9 q
            refine ⟨m, ?_⟩
            rintro x1 rfl
            refine iT ((sub_gt (by omega) (by omega)).mpr (by omega)) ?_
            rintro x3 rfl
            rw [nI_sub (by omega), nI_1]
            exact hm
        by_cases c : A 99 n = 0
        · obtain ⟨m, hm⟩ := base (moN (A 94 2) n * o) (by omega) (by rw [if_pos c])
          refine ⟨m, vin (by omega) (by omega), ?_⟩
          rw [nIc (by omega), hC.1.2.2.2.2.2.2 n (by omega), nI_mul]
          exact iT (by rw [c]; rfl) hm
        · obtain ⟨m, hm⟩ := base 0 (by omega) (by rw [if_neg c])
          refine ⟨m, vin (by omega) (by omega), ?_⟩
          rw [nIc (by omega), hC.1.2.2.2.2.2.2 n (by omega)]
          exact iF (fun e => c ((nI_eq (b := 0) (by omega) (by omega)).mp e)) hm
      -- the second one
      have sec : ∀ (o f' : Nat), o ≤ 4 → o = (if moN (A 94 2) n ≤ f then A 96 ka else 0) → f' = (if moN (A 94 2) n ≤ f then f - moN (A 94 2) n else f) → ∃ m, bX6_soonest_149 (Lp (lX6_soonest_100 Q) m) (nI ka) b (nI l) (nI f') (nI s) (nI n) (nI (moN (A 94 2) n)) (nI o) σ Q := by
        intro o f' ho4 ho hf'
        rcases hb with ⟨rfl, rfl, rfl⟩ | ⟨kb, hkb, rfl, rfl, rfl⟩
        · obtain ⟨m, hm⟩ := fin o f' s (by rw [ho]; simp) hf' (by simp)
          exact ⟨m, iT rfl hm⟩
        · have hn1 : ¬ nI kb = -1 := fun e => nI_pos (n := kb) (by omega) (by rw [e]; decide)
          by_cases e : moN (A 94 2) n ≤ s
          · obtain ⟨m, hm⟩ := fin (o + A 96 kb) f' (s - moN (A 94 2) n) (by rw [ho]; simp [e]) hf' (by simp [e])
            refine ⟨m, iF hn1 (iF (nI_nlt e (by omega)) ?_)⟩
            rintro x3 rfl
            refine ⟨vin (by omega) (by omega), ?_⟩
            rintro x5 rfl
            rw [nIc (by omega), hC.1.2.2.2.2.1 kb hkb, nI_add, nI_sub e]
            exact hm
          · obtain ⟨m, hm⟩ := fin o f' s (by rw [ho]; simp [e]) hf' (by simp [e])
            exact ⟨m, iF hn1 (iT (nI_lt (by omega) (by omega)) hm)⟩
      -- the first one
      by_cases e : moN (A 94 2) n ≤ f
      · obtain ⟨m, hm9⟩ := sec (A 96 ka) (f - moN (A 94 2) n) (by omega) (by rw [if_pos e]) (by rw [if_pos e])
        refine ⟨m + 1, ?_⟩
        show bX6_soonest_100 _ (nI ka) b (nI l) (nI f) (nI s) (nI n) σ Q
        refine iF (nI_nlt (a := 99) (by omega) (by omega)) (m6 hC hw (by omega) (iF (nI_nlt e (by omega)) ?_))
        rintro x5 rfl
        refine ⟨vin (by omega) (by omega), ?_⟩
        rintro x7 rfl
        rw [nIc (by omega), hC.1.2.2.2.2.1 ka hka, nI_sub e, Int32.zero_add]
        exact hm9
      · obtain ⟨m, hm9⟩ := sec 0 f (by omega) (by rw [if_neg e]) (by rw [if_neg e])
        refine ⟨m + 1, ?_⟩
        show bX6_soonest_100 _ (nI ka) b (nI l) (nI f) (nI s) (nI n) σ Q
        exact iF (nI_nlt (a := 99) (by omega) (by omega)) (m6 hC hw (by omega) (iT (nI_lt (by omega) (by omega)) hm9))
end Soon
