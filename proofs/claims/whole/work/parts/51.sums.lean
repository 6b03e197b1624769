/-! what strands bear -/
def sw (W : Nat → Nat) (ex g y : Nat) : Nat := if W (17 + 7 * y) = g + 1 ∧ ¬ y = ex then stW W y else 0
def SB (W : Nat → Nat) (ex g : Nat) : Nat := fb_sm (sw W ex g) (W 3)
def RB (W : Nat → Nat) (ex : Nat) : Nat := 3 * min (min (SB W ex 0) (SB W ex 1)) (SB W ex 2)
theorem SB_le {k : Nat} {W : Nat → Nat} (hB : WBd k W) (ex g : Nat) : SB W ex g ≤ 10719 := by
  have h9 := hB.2.2.2.1
  have := fb_sm_bound (f := sw W ex g) (c := 1191) (n := W 3) (fun y hy => by
    have := stW_le hB hy
    unfold sw
    split <;> omega)
  have h2 : W 3 * 1191 ≤ 9 * 1191 := Nat.mul_le_mul_right _ h9
  unfold SB
  omega
theorem jmin_nI {a b : Nat} (ha : a < 2 ^ 31) (hb : b < 2 ^ 31) : jmin (nI a) (nI b) = nI (min a b) := by
  unfold jmin
  by_cases c : b < a
  · rw [if_pos ((nI_ltI hb ha).mpr c), Nat.min_eq_right (by omega)]
  · rw [if_neg (fun z => c ((nI_ltI hb ha).mp z)), Nat.min_eq_left (by omega)]
theorem st_eq {s g : Nat} (hs : s ≤ 3) (hg : g < 3) : nI s - 1 = nI g ↔ s = g + 1 := by
  by_cases h0 : s = 0
  · subst h0
    rw [st_0]
    exact ⟨fun z => absurd z.symm (nI_m1 (by omega)), fun z => absurd z (by omega)⟩
  · rw [st_s (by omega), nI_eq (by omega) (by omega)]
    omega
theorem sbw_spec {k : Nat} {W : Nat → Nat} {σ : Sg} (hB : WBd k W) (hk : k ≤ 512) (h : CW W σ) {g ex : Nat} (hg : g < 3) {X : Int32} (hX : ∀ y, y < 9 → (nI y = X ↔ y = ex)) : fX9_strandBearsWithout (nI g) X σ = some (nI (SB W ex g)) := by
  have h9 := hB.2.2.2.1
  unfold fX9_strandBearsWithout
  rw [lp_to (o := nI (SB W ex g)) (fun i => (nI (fb_sm (sw W ex g) i), nI i)) (W 3) (by omega)]
  · rfl
  · intro i hi
    have hb := hB.2.2.2.2.2 i hi
    show fX9_strandBearsWithout_B5 (nI g) X (nI (fb_sm (sw W ex g) i)) (nI i) σ = _
    unfold fX9_strandBearsWithout_B5 fX9_strandBearsWithout_J42
    rw [gf_eq, h.1.2.2.2.1, if_neg (by rw [nI_leI (by omega) (by omega)]; omega), gd_t (bst0 (by omega)), cw_st h hi h9, strength_spec hB hk h hi]
    simp only [Option.bind_some]
    rw [nI_1, fb_sm_succ, nI_add]
    unfold sw
    by_cases c1 : W (17 + 7 * i) = g + 1
    · rw [if_pos ((st_eq (by omega) hg).mpr c1)]
      by_cases c2 : i = ex
      · rw [if_pos ((hX i (by omega)).mpr c2), if_neg (fun z => z.2 c2)]; rfl
      · rw [if_neg (fun z => c2 ((hX i (by omega)).mp z)), if_pos ⟨c1, c2⟩]
    · rw [if_neg (fun z => c1 ((st_eq (by omega) hg).mp z)), if_neg (fun z => c1 z.1)]; rfl
  · show fX9_strandBearsWithout_B5 (nI g) X (nI (fb_sm (sw W ex g) (W 3))) (nI (W 3)) σ = _
    unfold fX9_strandBearsWithout_B5
    rw [gf_eq, h.1.2.2.2.1, if_pos (by rw [nI_leI (by omega) (by omega)]; omega)]
    rfl
  · rfl
theorem rbw_spec {k : Nat} {W : Nat → Nat} {σ : Sg} (hB : WBd k W) (hk : k ≤ 512) (h : CW W σ) {ex : Nat} {X : Int32} (hX : ∀ y, y < 9 → (nI y = X ↔ y = ex)) : fX9_ropeBearsWithout X σ = some (nI (RB W ex)) := by
  have l0 := SB_le hB ex 0
  have l1 := SB_le hB ex 1
  have l2 := SB_le hB ex 2
  unfold fX9_ropeBearsWithout
  rw [show (0 : Int32) = nI 0 from rfl, sbw_spec hB hk h (g := 0) (by omega) hX]
  simp only [Option.bind_some]
  rw [lp_to (o := nI (min (min (SB W ex 0) (SB W ex 1)) (SB W ex 2))) (fun i => (nI (if i = 0 then SB W ex 0 else if i = 1 then min (SB W ex 0) (SB W ex 1) else min (min (SB W ex 0) (SB W ex 1)) (SB W ex 2)), nI (i + 1))) 2 (by omega)]
  · simp only [Option.bind_some]
    rw [show (3 : Int32) = nI 3 from rfl, pk_mul]
    rfl
  · intro i hi
    have : i = 0 ∨ i = 1 := by omega
    rcases this with rfl | rfl
    · show fX9_ropeBearsWithout_B9 X (nI (SB W ex 0)) (nI 1) σ = _
      unfold fX9_ropeBearsWithout_B9
      rw [if_neg (by decide), sbw_spec hB hk h (by omega) hX]
      simp only [Option.bind_some]
      rw [jmin_nI (by omega) (by omega), nI_1]
      rfl
    · show fX9_ropeBearsWithout_B9 X (nI (min (SB W ex 0) (SB W ex 1))) (nI 2) σ = _
      unfold fX9_ropeBearsWithout_B9
      rw [if_neg (by decide), sbw_spec hB hk h (by omega) hX]
      simp only [Option.bind_some]
      rw [jmin_nI (by omega) (by omega), nI_1]
      rfl
  · show fX9_ropeBearsWithout_B9 X (nI (min (min (SB W ex 0) (SB W ex 1)) (SB W ex 2))) (nI 3) σ = _
    unfold fX9_ropeBearsWithout_B9
    rw [if_pos (by decide)]
  · rfl
theorem none_X : ∀ y, y < 9 → (nI y = (-1 : Int32) ↔ y = 9) := fun y hy => ⟨fun z => absurd z (nI_m1 (by omega)), fun z => absurd z (by omega)⟩
theorem some_X {x : Nat} (hx : x < 9) : ∀ y, y < 9 → (nI y = nI x ↔ y = x) := fun y hy => nI_eq (by omega) (by omega)
theorem ropeBears_spec {k : Nat} {W : Nat → Nat} {σ : Sg} (hB : WBd k W) (hk : k ≤ 512) (h : CW W σ) : fX9_ropeBears σ = some (nI (RB W 9)) := by
  unfold fX9_ropeBears
  rw [rbw_spec hB hk h none_X]
  rfl
theorem strandBears_spec {k : Nat} {W : Nat → Nat} {σ : Sg} (hB : WBd k W) (hk : k ≤ 512) (h : CW W σ) {g : Nat} (hg : g < 3) : fX9_strandBears (nI g) σ = some (nI (SB W 9 g)) := by
  unfold fX9_strandBears
  rw [sbw_spec hB hk h hg none_X]
  rfl
/-- the first weakest of three -/
def wkN (f : Nat → Nat) : Nat := if f (if f 0 ≤ f 1 then 0 else 1) ≤ f 2 then (if f 0 ≤ f 1 then 0 else 1) else 2
theorem wkN_lt (f : Nat → Nat) : wkN f < 3 := by
  unfold wkN
  by_cases c1 : f 0 ≤ f 1
  · rw [if_pos c1]; split <;> omega
  · rw [if_neg c1]; split <;> omega
theorem wkN_min (f : Nat → Nat) : f (wkN f) = min (min (f 0) (f 1)) (f 2) := by
  unfold wkN
  by_cases c1 : f 0 ≤ f 1
  · rw [if_pos c1, Nat.min_eq_left c1]
    by_cases c2 : f 0 ≤ f 2
    · rw [if_pos c2, Nat.min_eq_left c2]
    · rw [if_neg c2, Nat.min_eq_right (Nat.le_of_lt (Nat.not_le.mp c2))]
  · rw [if_neg c1, Nat.min_eq_right (a := f 0) (b := f 1) (Nat.le_of_lt (Nat.not_le.mp c1))]
    by_cases c2 : f 1 ≤ f 2
    · rw [if_pos c2, Nat.min_eq_left c2]
    · rw [if_neg c2, Nat.min_eq_right (Nat.le_of_lt (Nat.not_le.mp c2))]
theorem weakest_spec {k : Nat} {W : Nat → Nat} {σ : Sg} (hB : WBd k W) (hk : k ≤ 512) (h : CW W σ) : fX9_weakestStrand σ = some (nI (wkN (SB W 9))) := by
  have l0 := SB_le hB 9 0
  have l1 := SB_le hB 9 1
  have l2 := SB_le hB 9 2
  unfold fX9_weakestStrand
  rw [lp_to (o := nI (wkN (SB W 9))) (fun i => (nI (if i = 0 then 0 else if i = 1 then (if SB W 9 0 ≤ SB W 9 1 then 0 else 1) else wkN (SB W 9)), nI (i + 1))) 2 (by omega)]
  · rfl
  · intro i hi
    have : i = 0 ∨ i = 1 := by omega
    rcases this with rfl | rfl
    · show fX9_weakestStrand_B4 (nI 0) (nI 1) σ = _
      unfold fX9_weakestStrand_B4 fX9_weakestStrand_J24
      rw [if_neg (by decide), strandBears_spec hB hk h (by omega), strandBears_spec hB hk h (by omega)]
      simp only [Option.bind_some]
      by_cases c : SB W 9 0 ≤ SB W 9 1
      · rw [if_pos ((nI_leI (by omega) (by omega)).mpr c)]; simp only [c, if_true]; rfl
      · rw [if_neg (fun z => c ((nI_leI (by omega) (by omega)).mp z))]; simp only [c, if_false]; rfl
    · have hv : (if SB W 9 0 ≤ SB W 9 1 then 0 else 1) < 3 := by split <;> omega
      have hl := SB_le hB 9 (if SB W 9 0 ≤ SB W 9 1 then 0 else 1)
      show fX9_weakestStrand_B4 (nI (if SB W 9 0 ≤ SB W 9 1 then 0 else 1)) (nI 2) σ = some (.inl (nI (wkN (SB W 9)), nI 3))
      unfold fX9_weakestStrand_B4 fX9_weakestStrand_J24 wkN
      rw [if_neg (by decide), strandBears_spec hB hk h (by omega), strandBears_spec hB hk h hv]
      simp only [Option.bind_some]
      by_cases c : SB W 9 (if SB W 9 0 ≤ SB W 9 1 then 0 else 1) ≤ SB W 9 2
      · rw [if_pos ((nI_leI (by omega) (by omega)).mpr c), if_pos c]; rfl
      · rw [if_neg (fun z => c ((nI_leI (by omega) (by omega)).mp z)), if_neg c]; rfl
  · show fX9_weakestStrand_B4 (nI (wkN (SB W 9))) (nI 3) σ = _
    unfold fX9_weakestStrand_B4
    rw [if_pos (by decide)]
  · rfl
/-! the reference's -/
theorem mweakest_spec {σ : Sg} {f : Nat → Nat} (hf : ∀ g, g < 3 → σ.1 46 g = nI (f g) ∧ f g < 2 ^ 30) : fX11_weakest σ = some (nI (wkN f)) := by
  have l0 := (hf 0 (by omega)).2
  have l1 := (hf 1 (by omega)).2
  have l2 := (hf 2 (by omega)).2
  unfold fX11_weakest
  rw [lp_to (o := nI (wkN f)) (fun i => (nI (if i = 0 then 0 else if i = 1 then (if f 0 ≤ f 1 then 0 else 1) else wkN f), nI (i + 1))) 2 (by omega)]
  · rfl
  · intro i hi
    have : i = 0 ∨ i = 1 := by omega
    rcases this with rfl | rfl
    · show fX11_weakest_B4 (nI 0) (nI 1) σ = _
      unfold fX11_weakest_B4 fX11_weakest_J29
      rw [if_neg (by decide), gd_t (b3 (by omega)), gd_t (b3 (by omega)), ga_nI _ _ _ (by omega), ga_nI _ _ _ (by omega), (hf 0 (by omega)).1, (hf 1 (by omega)).1]
      by_cases c : f 0 ≤ f 1
      · rw [if_pos ((nI_leI (by omega) (by omega)).mpr c)]; simp only [c, if_true]; rfl
      · rw [if_neg (fun z => c ((nI_leI (by omega) (by omega)).mp z))]; simp only [c, if_false]; rfl
    · have hv : (if f 0 ≤ f 1 then 0 else 1) < 3 := by split <;> omega
      have hl := (hf _ hv).2
      show fX11_weakest_B4 (nI (if f 0 ≤ f 1 then 0 else 1)) (nI 2) σ = some (.inl (nI (wkN f), nI 3))
      unfold fX11_weakest_B4 fX11_weakest_J29 wkN
      rw [if_neg (by decide), gd_t (b3 (by omega)), gd_t (b3 hv), ga_nI _ _ _ (by omega), ga_nI _ _ _ (by omega), (hf _ hv).1, (hf 2 (by omega)).1]
      by_cases c : f (if f 0 ≤ f 1 then 0 else 1) ≤ f 2
      · rw [if_pos ((nI_leI (by omega) (by omega)).mpr c), if_pos c]; rfl
      · rw [if_neg (fun z => c ((nI_leI (by omega) (by omega)).mp z)), if_neg c]; rfl
  · show fX11_weakest_B4 (nI (wkN f)) (nI 3) σ = _
    unfold fX11_weakest_B4
    rw [if_pos (by decide)]
  · rfl
theorem mrope_spec {σ : Sg} {f : Nat → Nat} (hf : ∀ g, g < 3 → σ.1 46 g = nI (f g) ∧ f g < 2 ^ 30) : fX11_ropeBears σ = some (nI (3 * min (min (f 0) (f 1)) (f 2))) := by
  have := wkN_lt f
  unfold fX11_ropeBears
  rw [mweakest_spec hf]
  simp only [Option.bind_some]
  rw [gd_t (b3 this), ga_nI _ _ _ (by omega), (hf _ this).1, show (3 : Int32) = nI 3 from rfl, pk_mul, wkN_min f]
theorem noStrands_spec (σ : Sg) : ∃ τ, fX11_noStrands σ = some τ ∧ FE [46] [] σ τ ∧ ∀ g, g < 3 → τ.1 46 g = 0 := by
  unfold fX11_noStrands
  have key := lp_for (f := fun w : Int32 × Sg => fX11_noStrands_B2 w.1 w.2) (P := fun i w => w.1 = nI i ∧ FE [46] [] σ w.2 ∧ ∀ g, g < i → w.2.1 46 g = 0) (Q := fun τ => FE [46] [] σ τ ∧ ∀ g, g < 3 → τ.1 46 g = 0) 3 (by omega) (s0 := (0, σ)) ⟨rfl, FE.refl _ _ _, fun j hj => absurd hj (Nat.not_lt_zero _)⟩ ?_ ?_
  · obtain ⟨τ, h1, h2, h3⟩ := key
    rw [h1]
    exact ⟨τ, rfl, h2, h3⟩
  · rintro i ⟨x, w⟩ hi ⟨rfl, h2, h3⟩
    dsimp only at h2 h3
    refine ⟨(nI (i + 1), sup w 46 i 0), ?_, rfl, h2.same FE_supC, ?_⟩
    · show fX11_noStrands_B2 (nI i) w = _
      unfold fX11_noStrands_B2
      rw [show (3 : Int32) = nI 3 from rfl, if_neg (by rw [nI_leI (by omega) (by omega)]; omega), gd_t (b3 hi), sa_nI _ _ _ _ (by omega), nI_1]
    · intro g hg
      show (sup w 46 i 0).1 46 g = 0
      rw [sup_at]
      by_cases c : g = i
      · rw [if_pos ⟨rfl, c⟩]
      · rw [if_neg (fun z => c z.2)]; exact h3 g (by omega)
  · rintro ⟨x, w⟩ ⟨rfl, h2, h3⟩
    refine ⟨w, ?_, h2, h3⟩
    show fX11_noStrands_B2 (nI 3) w = _
    unfold fX11_noStrands_B2
    rw [if_pos (by decide)]
theorem layStrands_spec {k : Nat} {W : Nat → Nat} {σ : Sg} (hB : WBd k W) (hk : k ≤ 512) (h : MW W σ) : ∃ τ, fX11_layStrands σ = some τ ∧ FE [46] [] σ τ ∧ ∀ g, g < 3 → τ.1 46 g = nI (SB W 9 g) := by
  have h9 := hB.2.2.2.1
  unfold fX11_layStrands
  obtain ⟨ρ, r1, r2, r3⟩ := noStrands_spec σ
  rw [r1]
  simp only [Option.bind_some]
  have key := lp_for (f := fun w : Int32 × Sg => fX11_layStrands_B6 w.1 w.2) (P := fun i w => w.1 = nI i ∧ FE [46] [] σ w.2 ∧ ∀ g, g < 3 → w.2.1 46 g = nI (fb_sm (sw W 9 g) i)) (Q := fun τ => FE [46] [] σ τ ∧ ∀ g, g < 3 → τ.1 46 g = nI (SB W 9 g)) (W 3) (by omega) (s0 := (0, ρ)) ⟨rfl, r2, fun g hg => r3 g hg⟩ ?_ ?_
  · obtain ⟨τ, h1, h2, h3⟩ := key
    rw [h1]
    exact ⟨τ, rfl, h2, h3⟩
  · rintro i ⟨x, w⟩ hi ⟨rfl, h2, h3⟩
    dsimp only at h2 h3
    have hb := hB.2.2.2.2.2 i hi
    have hw : MW W w := h.fr h2 (by decide)
    by_cases c : W (17 + 7 * i) = 0
    · refine ⟨(nI (i + 1), w), ?_, rfl, h2, fun g hg => ?_⟩
      · show fX11_layStrands_B6 (nI i) w = _
        unfold fX11_layStrands_B6 fX11_layStrands_J44
        rw [gd_t i77_3, mk3 hw, if_neg (by rw [nI_leI (by omega) (by omega)]; omega), of_3 hw hi h9]
        simp only [Option.bind_some]
        rw [if_pos ((st_neg (by omega)).mpr c), nI_1]
      · show w.1 46 g = _
        rw [h3 g hg, fb_sm_succ]
        have : sw W 9 g i = 0 := if_neg (fun z => by omega)
        rw [this]; rfl
    · refine ⟨(nI (i + 1), sup w 46 (W (17 + 7 * i) - 1) (w.1 46 (W (17 + 7 * i) - 1) + nI (stW W i))), ?_, rfl, h2.same FE_supC, fun g hg => ?_⟩
      · show fX11_layStrands_B6 (nI i) w = _
        unfold fX11_layStrands_B6 fX11_layStrands_J44
        rw [gd_t i77_3, mk3 hw, if_neg (by rw [nI_leI (by omega) (by omega)]; omega), of_3 hw hi h9, mstrength_spec hB hk hw hi]
        simp only [Option.bind_some]
        rw [if_neg (fun z => c ((st_neg (by omega)).mp z)), nI_1, st_s (by omega), gd_t (b3 (by omega)), gd_t (b3 (by omega)), ga_nI _ _ _ (by omega), sa_nI _ _ _ _ (by omega)]
      · show (sup w 46 (W (17 + 7 * i) - 1) (w.1 46 (W (17 + 7 * i) - 1) + nI (stW W i))).1 46 g = _
        rw [sup_at, fb_sm_succ]
        by_cases e : g = W (17 + 7 * i) - 1
        · rw [if_pos ⟨rfl, e⟩, ← e, h3 g hg, nI_add]
          have : sw W 9 g i = stW W i := if_pos ⟨by omega, by omega⟩
          rw [this]
        · rw [if_neg (fun z => e z.2), h3 g hg]
          have : sw W 9 g i = 0 := if_neg (fun z => by omega)
          rw [this]; rfl
  · rintro ⟨x, w⟩ ⟨rfl, h2, h3⟩
    refine ⟨w, ?_, h2, h3⟩
    have hw : MW W w := h.fr h2 (by decide)
    show fX11_layStrands_B6 (nI (W 3)) w = _
    unfold fX11_layStrands_B6
    rw [gd_t i77_3, mk3 hw, if_pos (by rw [nI_leI (by omega) (by omega)]; omega)]
theorem mlay_lt {k : Nat} {W : Nat → Nat} {τ : Sg} (hB : WBd k W) (h : ∀ g, g < 3 → τ.1 46 g = nI (SB W 9 g)) : ∀ g, g < 3 → τ.1 46 g = nI (SB W 9 g) ∧ SB W 9 g < 2 ^ 30 := fun g hg => ⟨h g hg, by have := SB_le hB 9 g; omega⟩
/-! bears -/
theorem ok_bears : OK_bears Inv := by
  intro k b σ a1 hk hI
  obtain ⟨⟨t, W, ⟨t1, wt, wm, w0, hB, hT, hS, hM⟩, _⟩, _⟩ := hI.2.2.2.2
  have hC : CW W σ := ⟨hT, hS⟩
  have hM' : MW W (sup σ 38 0 0) := hM
  obtain ⟨τ, p1, p2, p3⟩ := layStrands_spec hB (by omega) hM'
  unfold fX10_bears fX11_bears fX10_bears_J22
  have e1 : gf σ 8 0 = nI t := wt
  have e2 : gf (sup σ 38 0 0) 38 7 = nI t := wm
  have e := small_in a1 3 (by omega)
  rw [show (nI 3).toInt64 = (3 : Int64) from rfl] at e
  rw [e1, e2, in_spec, p1]
  simp only [e, Option.bind_some]
  by_cases ht : t = 0
  · subst ht
    exact ⟨_, _, rfl, rfl, rfl, hI.up.thr 0⟩
  rw [if_neg (q0 ht), if_neg (q0 ht)]
  have hU : Inv (k + 1) b τ := (hI.up.thr 0).fr p2 (by decide)
  by_cases h : ∃ j, j ≤ 3 ∧ a1 = nI j
  rotate_left
  · simp only [h, if_false, if_true]
    by_cases c1 : a1 < 0
    · simp only [c1, if_true]
      exact ⟨_, _, rfl, rfl, rfl, hI.up.thr 0⟩
    · have c2 : ¬ a1 ≤ 3 := by
        have := (small_no (by omega) h).resolve_left c1
        rw [fa_le]; rw [fa_lt] at this; exact Int.not_le.mpr this
      simp only [c1, c2, if_false]
      exact ⟨_, _, rfl, rfl, rfl, hI.up.thr 0⟩
  simp only [h, if_true, one_ne, if_false]
  obtain ⟨j, hj, rfl⟩ := h
  rw [if_neg (nI_pos (by omega)), if_pos (show nI j ≤ (3 : Int32) from (nI_leI (b := 3) (by omega) (by omega)).mpr hj)]
  by_cases c3 : j = 3
  · subst c3
    rw [if_pos (show nI 3 = (3 : Int32) from rfl), if_pos (show nI 3 = (3 : Int32) from rfl), ropeBears_spec hB (by omega) hC, mrope_spec (mlay_lt hB p3)]
    exact ⟨_, _, rfl, rfl, rfl, hU⟩
  · rw [if_neg (q3 c3), if_neg (q3 c3), strandBears_spec hB (by omega) hC (by omega), gd_t (b3 (by omega)), ga_nI _ _ _ (by omega), p3 j (by omega)]
    exact ⟨_, _, rfl, rfl, rfl, hU⟩
