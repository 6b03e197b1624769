/-! draws -/
def nxN (x : Nat) : Nat := x * 16807 % 2147483647
theorem nxN_lt (x : Nat) : nxN x < 2147483647 := Nat.mod_lt _ (by decide)
theorem lrm_nI {a b : Nat} (ha : a < 2 ^ 63) (h0 : 0 < b) (hb : b < 2 ^ 63) : lrm (lN a) (lN b) = lN (a % b) := pk_lRem ha h0 hb
theorem irm_nI {a b : Nat} (ha : a < 2 ^ 31) (h0 : 0 < b) (hb : b < 2 ^ 31) : irm (nI a) (nI b) = nI (a % b) := pk_rem ha h0 hb
theorem nextX_spec {x : Nat} (hx : x < 2 ^ 31) (σ : Sg) : fX10_nextX (nI x) σ = some (nI (nxN x)) := by
  unfold fX10_nextX nxN
  rw [nI_l hx, show (16807 : Int64) = lN 16807 from rfl, show (2147483647 : Int64) = lN 2147483647 from rfl, lN_mul, lrm_nI (by omega) (by omega) (by omega), lN_i]
theorem draw_spec {x : Nat} (hx : x < 2 ^ 31) {σ : Sg} (h : σ.2 = lN x) : fX11_draw 10 σ = some (nI (nxN x % 10), slg σ (lN (nxN x))) := by
  have := nxN_lt x
  unfold fX11_draw
  rw [gd_t (show nzL ((10 : Int32).toInt64) = true by decide), slg_long, h, show (16807 : Int64) = lN 16807 from rfl, show (2147483647 : Int64) = lN 2147483647 from rfl, lN_mul, lrm_nI (by omega) (by omega) (by omega)]
  show some ((lrm (lN (nxN x)) (lN 10)).toInt32, _) = _
  rw [lrm_nI (by omega) (by omega) (by omega), lN_i]
  rfl
theorem seed_of {a : Int32} (h : 1 ≤ a ∧ a ≤ 999999) : ∃ x, x < 2 ^ 31 ∧ a = nI x := by
  obtain ⟨x, hx, e⟩ := nI_of (x := a) (by have z1 : (1 : Int32).toInt = 1 := rfl; have h1 := h.1; rw [fa_le, z1] at h1; rw [lt0_iff]; omega)
  exact ⟨x, hx, e⟩
/-! wear -/
def wearN (W : Nat → Nat) (i j : Nat) : Nat := if 19 ≤ j ∧ (j - 19) % 7 = 0 ∧ (j - 19) / 7 < i then W j + (if W (j - 2) = 0 then 0 else 1) else W j
theorem wearN_0 (W : Nat → Nat) : wearN W 0 = W := funext fun j => if_neg (by omega)
theorem wearN_out {W : Nat → Nat} {i j : Nat} (h : ¬ (19 ≤ j ∧ (j - 19) % 7 = 0 ∧ (j - 19) / 7 < i)) : wearN W i j = W j := if_neg h
theorem wearN_s (W : Nat → Nat) (i : Nat) : wearN W (i + 1) = updN (wearN W i) (17 + 2 + 7 * i) (W (19 + 7 * i) + (if W (17 + 7 * i) = 0 then 0 else 1)) := by
  funext j
  unfold updN
  by_cases c : j = 17 + 2 + 7 * i
  · rw [if_pos c]
    subst c
    unfold wearN
    rw [if_pos (by omega), show 17 + 2 + 7 * i = 19 + 7 * i by omega, show 19 + 7 * i - 2 = 17 + 7 * i by omega]
  · rw [if_neg c]
    unfold wearN
    by_cases d : 19 ≤ j ∧ (j - 19) % 7 = 0 ∧ (j - 19) / 7 < i
    · rw [if_pos d, if_pos (by omega)]
    · rw [if_neg d, if_neg (by omega)]
theorem wearN_same (W : Nat → Nat) (h5 : W 2 ≤ 5) (i : Nat) : Same (wearN W i) W := by
  have e2 : wearN W i 2 = W 2 := wearN_out (by omega)
  refine ⟨wearN_out (by omega), wearN_out (by omega), e2, wearN_out (by omega), fun p hp => ?_, fun y _ => ⟨wearN_out (by omega), wearN_out (by omega), wearN_out (by omega)⟩⟩
  rw [e2] at hp
  exact ⟨wearN_out (by omega), wearN_out (by omega)⟩
theorem wearN_bd {k : Nat} {W : Nat → Nat} (hB : WBd k W) (i : Nat) : WBd (k + 1) (wearN W i) := by
  obtain ⟨e0, e1, e2, e3, e4, e5⟩ := wearN_same W hB.2.2.1 i
  obtain ⟨h0, h1, h2, h3, h4, h5⟩ := hB
  refine ⟨by omega, by omega, by omega, by omega, fun p hp => ?_, fun y hy => ?_⟩
  · rw [(e4 p hp).1, (e4 p hp).2]; exact h4 p (by omega)
  · obtain ⟨a1, a2, a3, a4, a5, a6, a7⟩ := h5 y (by omega)
    rw [(e5 y hy).1, (e5 y hy).2.1, (e5 y hy).2.2, e2]
    refine ⟨a1, a2, a3, ?_, ?_, ?_, ?_⟩
    · rw [wearN_out (by omega)]; exact a4
    · rw [wearN_out (by omega)]; exact a5
    · unfold wearN
      split
      · split <;> omega
      · omega
    · rw [wearN_out (by omega)]; exact a7
theorem wear_c {k : Nat} {W : Nat → Nat} {σ : Sg} (hB : WBd k W) (hk : k < 512) (h : CW W σ) : ∃ τ, fX9_wearLaid σ = some τ ∧ FE [14] [] σ τ ∧ CW (wearN W (W 3)) τ := by
  have h9 := hB.2.2.2.1
  unfold fX9_wearLaid
  have key := lp_for (f := fun w : Int32 × Sg => fX9_wearLaid_B2 w.1 w.2) (P := fun i w => w.1 = nI i ∧ FE [14] [] σ w.2 ∧ CW (wearN W i) w.2) (Q := fun τ => FE [14] [] σ τ ∧ CW (wearN W (W 3)) τ) (W 3) (by omega) (s0 := (0, σ)) ⟨rfl, FE.refl _ _ _, by rw [wearN_0]; exact h⟩ ?_ ?_
  · obtain ⟨τ, h1, h2, h3⟩ := key
    rw [h1]
    exact ⟨τ, rfl, h2, h3⟩
  · rintro i ⟨x, w⟩ hi ⟨rfl, h2, h3⟩
    dsimp only at h2 h3
    have hB' := wearN_bd hB i
    have e3 : wearN W i 3 = W 3 := wearN_out (by omega)
    have hi' : i < wearN W i 3 := by omega
    have e17 : wearN W i (17 + 7 * i) = W (17 + 7 * i) := wearN_out (by omega)
    have e19 : wearN W i (19 + 7 * i) = W (19 + 7 * i) := wearN_out (by omega)
    refine ⟨(nI (i + 1), sup w 14 (9 * 2 + i) (fv 2 (W (19 + 7 * i) + (if W (17 + 7 * i) = 0 then 0 else 1)))), ?_, rfl, h2.same FE_supC, ?_⟩
    · show fX9_wearLaid_B2 (nI i) w = _
      unfold fX9_wearLaid_B2 fX9_wearLaid_J33
      rw [gf_eq, h3.1.2.2.2.1, e3, if_neg (by rw [nI_leI (by omega) (by omega)]; omega), gd_t (bst18 (by omega)), isLaid_spec hB' h3 hi', e17, cw_wn h3 hi' (by omega), e19]
      simp only [Option.bind_some]
      rw [gd_t (bst18 (by omega)), nI_1, sa14_2 (by omega), sa14_2 (by omega), fv_2]
      by_cases c : W (17 + 7 * i) = 0
      · rw [if_pos c, if_pos c, if_pos rfl, show (0 : Int32) = nI 0 from rfl, nI_add]
      · rw [if_neg c, if_neg c, if_neg one_ne, nI_1, gd_t (bst18 (by omega))]
    · show CW (wearN W (i + 1)) _
      rw [wearN_s]
      exact h3.put hB' (by omega) (by omega)
  · rintro ⟨x, w⟩ ⟨rfl, h2, h3⟩
    dsimp only at h3
    refine ⟨w, ?_, h2, h3⟩
    have e3 : wearN W (W 3) 3 = W 3 := wearN_out (by omega)
    show fX9_wearLaid_B2 (nI (W 3)) w = _
    unfold fX9_wearLaid_B2
    rw [gf_eq, h3.1.2.2.2.1, e3, if_pos (by rw [nI_leI (by omega) (by omega)]; omega)]
theorem wear_m {k : Nat} {W : Nat → Nat} {σ : Sg} (hB : WBd k W) (hk : k < 512) (h : MW W σ) (v4 : Int32) : ∃ τ, lpO (fun w : Int32 × Sg => fX11_pull_B79 v4 0 w.1 w.2) FUEL (0, σ) = some τ ∧ FE [42] [] σ τ ∧ MW (wearN W (W 3)) τ := by
  have h9 := hB.2.2.2.1
  refine lp_for (P := fun i w => w.1 = nI i ∧ FE [42] [] σ w.2 ∧ MW (wearN W i) w.2) (W 3) (by omega) ⟨rfl, FE.refl _ _ _, by rw [wearN_0]; exact h⟩ ?_ ?_
  · rintro i ⟨x, w⟩ hi ⟨rfl, h2, h3⟩
    dsimp only at h2 h3
    have hB' := wearN_bd hB i
    have hb := hB.2.2.2.2.2 i hi
    have e3 : wearN W i 3 = W 3 := wearN_out (by omega)
    have hi' : i < wearN W i 3 := by omega
    have e17 : wearN W i (17 + 7 * i) = W (17 + 7 * i) := wearN_out (by omega)
    have e19 : wearN W i (19 + 7 * i) = W (19 + 7 * i) := wearN_out (by omega)
    by_cases c : W (17 + 7 * i) = 0
    · refine ⟨(nI (i + 1), w), ?_, rfl, h2, ?_⟩
      · show fX11_pull_B79 v4 0 (nI i) w = _
        unfold fX11_pull_B79 fX11_pull_J135 fX11_pull_J161
        rw [gd_t i77_3, mk3 h3, e3, if_neg (by rw [nI_leI (by omega) (by omega)]; omega), of_3 h3 hi' (by omega), e17]
        simp only [Option.bind_some, if_true]
        rw [if_pos ((st_neg (by omega)).mpr c), nI_1]
      · show MW (wearN W (i + 1)) w
        have e : wearN W (i + 1) = wearN W i := by
          funext j
          unfold wearN
          by_cases d : 19 ≤ j ∧ (j - 19) % 7 = 0 ∧ (j - 19) / 7 < i
          · rw [if_pos d, if_pos (by omega)]
          · rw [if_neg d]
            by_cases d2 : j = 19 + 7 * i
            · subst d2
              rw [if_pos (by omega), show 19 + 7 * i - 2 = 17 + 7 * i by omega, if_pos c]; rfl
            · rw [if_neg (by omega)]
        rw [e]; exact h3
    · refine ⟨(nI (i + 1), sup w 42 (17 + 2 + 7 * i) (fv 2 (W (19 + 7 * i) + (if W (17 + 7 * i) = 0 then 0 else 1)))), ?_, rfl, h2.same FE_supC, ?_⟩
      · show fX11_pull_B79 v4 0 (nI i) w = _
        unfold fX11_pull_B79 fX11_pull_J135 fX11_pull_J161
        rw [gd_t i77_3, mk3 h3, e3, if_neg (by rw [nI_leI (by omega) (by omega)]; omega), of_3 h3 hi' (by omega), e17, of_5 h3 hi' (by omega), e19]
        simp only [Option.bind_some, if_true]
        rw [if_neg (fun z => c ((st_neg (by omega)).mp z)), bec5 (by omega)]
        simp only [Option.bind_some]
        rw [nI_1, nI_1, fv_2, if_neg c]
      · show MW (wearN W (i + 1)) _
        rw [wearN_s]
        exact h3.put hB' (by omega)
  · rintro ⟨x, w⟩ ⟨rfl, h2, h3⟩
    dsimp only at h3
    refine ⟨w, ?_, h2, h3⟩
    have e3 : wearN W (W 3) 3 = W 3 := wearN_out (by omega)
    show fX11_pull_B79 v4 0 (nI (W 3)) w = _
    unfold fX11_pull_B79
    rw [gd_t i77_3, mk3 h3, e3, if_pos (by rw [nI_leI (by omega) (by omega)]; omega)]
/-! a strand parts -/
def partN (W : Nat → Nat) (g i j : Nat) : Nat := if 17 ≤ j ∧ (j - 17) % 7 = 0 ∧ (j - 17) / 7 < i ∧ W j = g + 1 then 0 else if 19 ≤ j ∧ (j - 19) % 7 = 0 ∧ (j - 19) / 7 < i ∧ W (j - 2) = g + 1 then W j + 5 else W j
theorem partN_0 (W : Nat → Nat) (g : Nat) : partN W g 0 = W := funext fun j => (if_neg (by omega)).trans (if_neg (by omega))
theorem partN_out {W : Nat → Nat} {g i j : Nat} (h : ¬ (17 ≤ j ∧ (j - 17) % 7 = 0 ∧ (j - 17) / 7 < i)) (h2 : ¬ (19 ≤ j ∧ (j - 19) % 7 = 0 ∧ (j - 19) / 7 < i)) : partN W g i j = W j := (if_neg (by omega)).trans (if_neg (by omega))
theorem partN_s {W : Nat → Nat} {g i : Nat} (h : W (17 + 7 * i) = g + 1) : partN W g (i + 1) = updN (updN (partN W g i) (17 + 0 + 7 * i) 0) (17 + 2 + 7 * i) (W (19 + 7 * i) + 5) := by
  funext j
  unfold updN
  by_cases c : j = 17 + 2 + 7 * i
  · rw [if_pos c]
    subst c
    unfold partN
    rw [if_neg (by omega), if_pos ⟨by omega, by omega, by omega, by rw [show 17 + 2 + 7 * i - 2 = 17 + 7 * i by omega]; exact h⟩, show 17 + 2 + 7 * i = 19 + 7 * i by omega]
  · rw [if_neg c]
    by_cases d : j = 17 + 0 + 7 * i
    · rw [if_pos d]
      subst d
      unfold partN
      rw [if_pos ⟨by omega, by omega, by omega, by rw [show 17 + 0 + 7 * i = 17 + 7 * i by omega]; exact h⟩]
    · rw [if_neg d]
      unfold partN
      by_cases e : 17 ≤ j ∧ (j - 17) % 7 = 0 ∧ (j - 17) / 7 < i ∧ W j = g + 1
      · rw [if_pos e, if_pos (by omega)]
      · rw [if_neg e, if_neg (by omega)]
        by_cases f : 19 ≤ j ∧ (j - 19) % 7 = 0 ∧ (j - 19) / 7 < i ∧ W (j - 2) = g + 1
        · rw [if_pos f, if_pos (by omega)]
        · rw [if_neg f, if_neg (by omega)]
theorem partN_n {W : Nat → Nat} {g i : Nat} (h : ¬ W (17 + 7 * i) = g + 1) : partN W g (i + 1) = partN W g i := by
  funext j
  unfold partN
  by_cases e : 17 ≤ j ∧ (j - 17) % 7 = 0 ∧ (j - 17) / 7 < i ∧ W j = g + 1
  · rw [if_pos e, if_pos (by omega)]
  · rw [if_neg e]
    have e2 : ¬ (17 ≤ j ∧ (j - 17) % 7 = 0 ∧ (j - 17) / 7 < i + 1 ∧ W j = g + 1) := by
      rintro ⟨x1, x2, x3, x4⟩
      by_cases y : (j - 17) / 7 < i
      · exact e ⟨x1, x2, y, x4⟩
      · have : j = 17 + 7 * i := by omega
        rw [this] at x4; exact h x4
    rw [if_neg e2]
    by_cases f : 19 ≤ j ∧ (j - 19) % 7 = 0 ∧ (j - 19) / 7 < i ∧ W (j - 2) = g + 1
    · rw [if_pos f, if_pos (by omega)]
    · have f2 : ¬ (19 ≤ j ∧ (j - 19) % 7 = 0 ∧ (j - 19) / 7 < i + 1 ∧ W (j - 2) = g + 1) := by
        rintro ⟨x1, x2, x3, x4⟩
        by_cases y : (j - 19) / 7 < i
        · exact f ⟨x1, x2, y, x4⟩
        · have : j - 2 = 17 + 7 * i := by omega
          rw [this] at x4; exact h x4
      rw [if_neg f, if_neg f2]
theorem partN_same (W : Nat → Nat) (g : Nat) (h5 : W 2 ≤ 5) (i : Nat) : Same (partN W g i) W := by
  have e2 : partN W g i 2 = W 2 := partN_out (by omega) (by omega)
  refine ⟨partN_out (by omega) (by omega), partN_out (by omega) (by omega), e2, partN_out (by omega) (by omega), fun p hp => ?_, fun y _ => ⟨partN_out (by omega) (by omega), partN_out (by omega) (by omega), partN_out (by omega) (by omega)⟩⟩
  rw [e2] at hp
  exact ⟨partN_out (by omega) (by omega), partN_out (by omega) (by omega)⟩
theorem partN_bd {k : Nat} {W : Nat → Nat} (hB : WBd k W) (g i : Nat) : WBd (k + 1) (partN W g i) := by
  obtain ⟨e0, e1, e2, e3, e4, e5⟩ := partN_same W g hB.2.2.1 i
  obtain ⟨h0, h1, h2, h3, h4, h5⟩ := hB
  refine ⟨by omega, by omega, by omega, by omega, fun p hp => ?_, fun y hy => ?_⟩
  · rw [(e4 p hp).1, (e4 p hp).2]; exact h4 p (by omega)
  · obtain ⟨a1, a2, a3, a4, a5, a6, a7⟩ := h5 y (by omega)
    rw [(e5 y hy).1, (e5 y hy).2.1, (e5 y hy).2.2, e2]
    refine ⟨a1, a2, a3, ?_, ?_, ?_, ?_⟩
    · unfold partN
      split
      · omega
      · rw [if_neg (by omega)]; exact a4
    · rw [partN_out (by omega) (by omega)]; exact a5
    · unfold partN
      rw [if_neg (by omega)]
      split <;> omega
    · rw [partN_out (by omega) (by omega)]; exact a7
theorem part_c {k : Nat} {W : Nat → Nat} {σ : Sg} (hB : WBd k W) (hk : k < 512) (h : CW W σ) {g : Nat} (hg : g < 3) : ∃ τ, fX9_part (nI g) σ = some τ ∧ FE [14] [] σ τ ∧ CW (partN W g (W 3)) τ := by
  have h9 := hB.2.2.2.1
  unfold fX9_part
  have key := lp_for (f := fun w : Int32 × Sg => fX9_part_B2 (nI g) w.1 w.2) (P := fun i w => w.1 = nI i ∧ FE [14] [] σ w.2 ∧ CW (partN W g i) w.2) (Q := fun τ => FE [14] [] σ τ ∧ CW (partN W g (W 3)) τ) (W 3) (by omega) (s0 := (0, σ)) ⟨rfl, FE.refl _ _ _, by rw [partN_0]; exact h⟩ ?_ ?_
  · obtain ⟨τ, h1, h2, h3⟩ := key
    rw [h1]
    exact ⟨τ, rfl, h2, h3⟩
  · rintro i ⟨x, w⟩ hi ⟨rfl, h2, h3⟩
    dsimp only at h2 h3
    have hB' := partN_bd hB g i
    have hb := hB.2.2.2.2.2 i hi
    have e3 : partN W g i 3 = W 3 := partN_out (by omega) (by omega)
    have hi' : i < partN W g i 3 := by omega
    have e17 : partN W g i (17 + 7 * i) = W (17 + 7 * i) := partN_out (by omega) (by omega)
    have e19 : partN W g i (19 + 7 * i) = W (19 + 7 * i) := partN_out (by omega) (by omega)
    have pre : fX9_part_B2 (nI g) (nI i) w = if W (17 + 7 * i) = g + 1 then some (.inl (nI (i + 1), sup (sup w 14 (9 * 0 + i) (fv 0 0)) 14 (9 * 2 + i) (fv 2 (W (19 + 7 * i) + 5)))) else some (.inl (nI (i + 1), w)) := by
      unfold fX9_part_B2 fX9_part_J44
      rw [gf_eq, h3.1.2.2.2.1, e3, if_neg (by rw [nI_leI (by omega) (by omega)]; omega), gd_t (bst0 (by omega)), gd_t (bst0 (by omega)), gd_t (bst18 (by omega)), gd_t (bst18 (by omega)), cw_st h3 hi' (by omega), e17, sa14_0 (by omega), nI_1]
      by_cases c : W (17 + 7 * i) = g + 1
      · rw [if_pos ((st_eq (by omega) hg).mpr c), if_pos c]
        have e : ga (sup w 14 (9 * 0 + i) (-1)) 14 (18 + nI i) = nI (W (19 + 7 * i)) := by
          rw [show (18 : Int32) = nI 18 from rfl, nI_add, ga_nI _ _ _ (by omega), sup_at, if_neg (by omega)]
          have := cw_wn h3 hi' (by omega)
          rw [show (18 : Int32) = nI 18 from rfl, nI_add, ga_nI _ _ _ (by omega), e19] at this
          exact this
        rw [e, sa14_2 (by omega), fv_0, fv_2, st_0, show (5 : Int32) = nI 5 from rfl, nI_add]
      · rw [if_neg (fun z => c ((st_eq (by omega) hg).mp z)), if_neg c]
    by_cases c : W (17 + 7 * i) = g + 1
    · refine ⟨(nI (i + 1), sup (sup w 14 (9 * 0 + i) (fv 0 0)) 14 (9 * 2 + i) (fv 2 (W (19 + 7 * i) + 5))), ?_, rfl, (h2.same FE_supC).same FE_supC, ?_⟩
      · show fX9_part_B2 (nI g) (nI i) w = _
        rw [pre, if_pos c]
      · show CW (partN W g (i + 1)) _
        rw [partN_s c]
        have c1 := h3.put hB' (y := i) (c := 0) (v := 0) (by omega) (by omega)
        exact c1.put (hB'.put (y := i) (c := 0) (v := 0) (by omega) ⟨by omega, by omega, by omega, by omega⟩) (y := i) (c := 2) (v := W (19 + 7 * i) + 5) (by omega) (by omega)
    · refine ⟨(nI (i + 1), w), ?_, rfl, h2, ?_⟩
      · show fX9_part_B2 (nI g) (nI i) w = _
        rw [pre, if_neg c]
      · show CW (partN W g (i + 1)) w
        rw [partN_n c]; exact h3
  · rintro ⟨x, w⟩ ⟨rfl, h2, h3⟩
    dsimp only at h3
    refine ⟨w, ?_, h2, h3⟩
    have e3 : partN W g (W 3) 3 = W 3 := partN_out (by omega) (by omega)
    show fX9_part_B2 (nI g) (nI (W 3)) w = _
    unfold fX9_part_B2
    rw [gf_eq, h3.1.2.2.2.1, e3, if_pos (by rw [nI_leI (by omega) (by omega)]; omega)]
theorem part_m {k : Nat} {W : Nat → Nat} {σ : Sg} (hB : WBd k W) (hk : k < 512) (h : MW W σ) {g : Nat} (hg : g < 3) : ∃ τ, lpO (fun w : Int32 × Sg => fX11_pull_B79 (nI g) 1 w.1 w.2) FUEL (0, σ) = some τ ∧ FE [42] [] σ τ ∧ MW (partN W g (W 3)) τ := by
  have h9 := hB.2.2.2.1
  refine lp_for (P := fun i w => w.1 = nI i ∧ FE [42] [] σ w.2 ∧ MW (partN W g i) w.2) (W 3) (by omega) ⟨rfl, FE.refl _ _ _, by rw [partN_0]; exact h⟩ ?_ ?_
  · rintro i ⟨x, w⟩ hi ⟨rfl, h2, h3⟩
    dsimp only at h2 h3
    have hB' := partN_bd hB g i
    have hb := hB.2.2.2.2.2 i hi
    have e3 : partN W g i 3 = W 3 := partN_out (by omega) (by omega)
    have hi' : i < partN W g i 3 := by omega
    have e17 : partN W g i (17 + 7 * i) = W (17 + 7 * i) := partN_out (by omega) (by omega)
    have e19 : partN W g i (19 + 7 * i) = W (19 + 7 * i) := partN_out (by omega) (by omega)
    by_cases c : W (17 + 7 * i) = g + 1
    · have c1 := h3.put hB' (y := i) (c := 0) (v := 0) (by omega)
      have hB2 : WBd (k + 1) (updN (partN W g i) (17 + 0 + 7 * i) 0) := hB'.put (y := i) (c := 0) (v := 0) (by omega) ⟨by omega, by omega, by omega, by omega⟩
      have o5 := of_5 c1 (y := i) (by rw [updN_ne (by omega)]; exact hi') (by rw [updN_ne (by omega)]; omega)
      rw [updN_ne (by omega), e19] at o5
      refine ⟨(nI (i + 1), sup (sup w 42 (17 + 0 + 7 * i) (fv 0 0)) 42 (17 + 2 + 7 * i) (fv 2 (W (19 + 7 * i) + 5))), ?_, rfl, (h2.same FE_supC).same FE_supC, ?_⟩
      · show fX11_pull_B79 (nI g) 1 (nI i) w = _
        unfold fX11_pull_B79 fX11_pull_J135 fX11_pull_J161
        rw [gd_t i77_3, mk3 h3, e3, if_neg (by rw [nI_leI (by omega) (by omega)]; omega), of_3 h3 hi' (by omega), e17]
        simp only [Option.bind_some, one_ne, if_false]
        rw [if_pos ((st_eq (by omega) hg).mpr c), bec3 (by omega), show (-1 : Int32) = fv 0 0 by rw [fv_0, st_0]]
        simp only [Option.bind_some]
        rw [o5]
        simp only [Option.bind_some]
        rw [show (5 : Int32) = nI 5 from rfl, nI_add, show nI 5 = (5 : Int32) from rfl, bec5 (by omega)]
        simp only [Option.bind_some]
        rw [nI_1, fv_2]
      · show MW (partN W g (i + 1)) _
        rw [partN_s c]
        exact c1.put hB2 (y := i) (c := 2) (v := W (19 + 7 * i) + 5) (by omega)
    · refine ⟨(nI (i + 1), w), ?_, rfl, h2, ?_⟩
      · show fX11_pull_B79 (nI g) 1 (nI i) w = _
        unfold fX11_pull_B79 fX11_pull_J135 fX11_pull_J161
        rw [gd_t i77_3, mk3 h3, e3, if_neg (by rw [nI_leI (by omega) (by omega)]; omega), of_3 h3 hi' (by omega), e17]
        simp only [Option.bind_some, one_ne, if_false]
        rw [if_neg (fun z => c ((st_eq (by omega) hg).mp z)), nI_1]
      · show MW (partN W g (i + 1)) w
        rw [partN_n c]; exact h3
  · rintro ⟨x, w⟩ ⟨rfl, h2, h3⟩
    dsimp only at h3
    refine ⟨w, ?_, h2, h3⟩
    have e3 : partN W g (W 3) 3 = W 3 := partN_out (by omega) (by omega)
    show fX11_pull_B79 (nI g) 1 (nI (W 3)) w = _
    unfold fX11_pull_B79
    rw [gd_t i77_3, mk3 h3, e3, if_pos (by rw [nI_leI (by omega) (by omega)]; omega)]
/-- the end of an act that changes the walk as W' -/
theorem act_end {k t : Nat} {b : Nat → Bool} {W W' : Nat → Nat} {σ τ υ φ ψ : Sg} (hI : Inv k b σ) (hW : WRel k t W σ) (e : Same W' W) (hB : WBd (k + 1) W') (h1 : FE [24] [(23, 1), (23, 2)] σ τ) (h2 : FE [14] [] τ υ) (hC : CW W' υ) (h3 : FE [44] [(38, 9)] (sup υ 38 0 0) φ) {n s : Nat} {V : Nat → Nat → Nat} (hA : ARel k n s W V φ) (h4 : FE [42, 46] [] φ ψ) (hM : MW W' ψ) : Inv (k + 1) b ψ := by
  have f1 : FE [24, 14, 44, 42, 46] [(23, 1), (23, 2), (38, 0), (38, 9)] σ ψ := (((h1.trans h2).trans (FE_sup (c := 38) (j := 0) (v := 0))).trans h3).trans h4
  refine hI.acts (f1.up (by decide) (by decide)) ⟨t, W', ?_, n, s, V, ?_⟩
  · refine hW.act e hB ?_ hM (f1 8 0 (by decide) (by simp)) (f1 38 7 (by decide) (by simp))
    exact ((hC.fr (FE_sup (c := 38) (j := 0) (v := 0)) (by decide)).fr h3 (by decide)).fr h4 (by decide)
  · exact (hA.up.fr h4 (by decide)).same e
theorem ok_pull : OK_pull Inv := by
  intro k b σ a1 a2 hk hI
  obtain ⟨⟨t, W, hW, n, s, V, hA⟩, _⟩ := hI.2.2.2.2
  have hW0 := hW
  obtain ⟨t1, wt, wm, w0, hB, hT, hS, hM⟩ := hW
  have hC : CW W σ := ⟨hT, hS⟩
  have e1 : gf σ 8 0 = nI t := wt
  have e2 : gf (sup σ 38 0 0) 38 7 = nI t := wm
  by_cases ht : t = 0
  · subst ht
    refine ⟨(-1000002, σ), (-1000002, sup σ 38 0 0), ?_, ?_, rfl, hI.up.thr 0⟩
    · unfold fX10_pull; rw [e1, if_pos (show nI 0 = (0 : Int32) from rfl)]
    · show fX11_pull a1 a2 σ = _
      unfold fX11_pull; rw [e2, if_pos (show nI 0 = (0 : Int32) from rfl)]
  by_cases c1 : 0 ≤ a1 ∧ a1 ≤ 9999
  rotate_left
  · refine ⟨(-1000001, σ), (-1000001, sup σ 38 0 0), ?_, ?_, rfl, hI.up.thr 0⟩
    · unfold fX10_pull fX10_pull_J27; rw [e1, if_neg (q0 ht), isLoad_c, if_neg c1]; rfl
    · show fX11_pull a1 a2 σ = _
      unfold fX11_pull fX11_pull_J29; rw [e2, if_neg (q0 ht), isLoad_m, if_neg c1]; rfl
  by_cases c2 : 1 ≤ a2 ∧ a2 ≤ 999999
  rotate_left
  · refine ⟨(-1000001, σ), (-1000001, sup σ 38 0 0), ?_, ?_, rfl, hI.up.thr 0⟩
    · unfold fX10_pull fX10_pull_J27; rw [e1, if_neg (q0 ht), isLoad_c, if_pos c1, isSeed_c, if_neg c2]; rfl
    · show fX11_pull a1 a2 σ = _
      unfold fX11_pull fX11_pull_J29; rw [e2, if_neg (q0 ht), isLoad_m, if_pos c1, isSeed_m, if_neg c2]; rfl
  have hs := c2
  obtain ⟨x, hx, rfl⟩ := seed_of hs
  obtain ⟨τ, k1, k2, k3⟩ := keep_spec hW0 hA
  have hCτ : CW W τ := hC.fr k2 (by decide)
  have hx2 := nxN_lt x
  have irm10 : irm (nI (nxN x)) 10 = nI (nxN x % 10) := irm_nI (b := 10) (by omega) (by omega) (by omega)
  -- the reference, up to its loop
  have mid : ∀ υ, FE [14] [] τ υ → ∃ φ ρ, fX11_keep (sup υ 38 0 0) = some φ ∧ FE [44] [(38, 9)] (sup υ 38 0 0) φ ∧ (∃ n' s' V', ARel k n' s' W V' φ) ∧ FE [46] [] φ ρ ∧ MW W ρ ∧ fX11_pull a1 (nI x) υ = if a1 + nI (nxN x % 10) ≤ nI (RB W 9) then fX11_pull_J74 (nI (wkN (SB W 9))) 0 ρ else fX11_pull_J74 (nI (wkN (SB W 9))) 1 ρ := by
    intro υ fu
    have fu2 : FE [14] [(38, 0)] τ (sup υ 38 0 0) := fu.trans (FE_sup (c := 38) (j := 0) (v := 0))
    obtain ⟨φ, p1, p2, p3⟩ := k3 _ fu2
    have hMφ : MW W φ := (show MW W σ from hM).fr ((k2.trans fu2).trans p2) (by decide)
    have hMs : MW W (slg (slg φ (nI x).toInt64) (lN (nxN x))) := hMφ
    obtain ⟨ρ, r1, r2, r3⟩ := layStrands_spec hB (by omega) hMs
    refine ⟨φ, ρ, p1, p2, p3, r2, hMs.fr r2 (by decide), ?_⟩
    have g7 : gf (sup υ 38 0 0) 38 7 = nI t := by
      rw [gf_eq, fu2 38 7 (by decide) (by simp), k2 38 7 (by decide) (by simp)]; exact wm
    unfold fX11_pull
    rw [g7, if_neg (q0 ht), isLoad_m, if_pos c1, isSeed_m, if_pos c2]
    simp only [Option.bind_some, one_ne, if_false]
    rw [p1]
    simp only [Option.bind_some]
    rw [draw_spec hx (show (slg φ (nI x).toInt64).2 = lN x from nI_l hx)]
    simp only [Option.bind_some]
    rw [r1]
    simp only [Option.bind_some]
    rw [mweakest_spec (mlay_lt hB r3), mrope_spec (mlay_lt hB r3)]
    rfl
  by_cases c3 : a1 + nI (nxN x % 10) ≤ nI (RB W 9)
  · obtain ⟨υ, u1, u2, u3⟩ := wear_c hB hk hCτ
    obtain ⟨φ, ρ, m1, m2, ⟨n', s', V', m3⟩, m4, m5, m6⟩ := mid υ u2
    obtain ⟨ψ, y1, y2, y3⟩ := wear_m hB hk m5 (nI (wkN (SB W 9)))
    refine ⟨(-1000000, υ), (-1000000, ψ), ?_, ?_, rfl, act_end hI hW0 (wearN_same W hB.2.2.1 _) (wearN_bd hB _) k2 u2 u3 m2 m3 ((m4.trans y2).up (by decide) (by decide)) y3⟩
    · unfold fX10_pull
      rw [e1, if_neg (q0 ht), isLoad_c, if_pos c1, isSeed_c, if_pos c2]
      simp only [Option.bind_some, one_ne, if_false]
      rw [k1]
      simp only [Option.bind_some]
      rw [nextX_spec hx, ropeBears_spec hB (by omega) hCτ]
      simp only [Option.bind_some]
      rw [irm10, if_pos c3, u1]
      rfl
    · show fX11_pull a1 (nI x) υ = _
      rw [m6, if_pos c3]
      unfold fX11_pull_J74
      rw [y1]
      rfl
  · have hg := wkN_lt (SB W 9)
    obtain ⟨υ, u1, u2, u3⟩ := part_c hB hk hCτ hg
    obtain ⟨φ, ρ, m1, m2, ⟨n', s', V', m3⟩, m4, m5, m6⟩ := mid υ u2
    obtain ⟨ψ, y1, y2, y3⟩ := part_m hB hk m5 hg
    refine ⟨(nI (wkN (SB W 9)), υ), (nI (wkN (SB W 9)), ψ), ?_, ?_, rfl, act_end hI hW0 (partN_same W _ hB.2.2.1 _) (partN_bd hB _ _) k2 u2 u3 m2 m3 ((m4.trans y2).up (by decide) (by decide)) y3⟩
    · unfold fX10_pull
      rw [e1, if_neg (q0 ht), isLoad_c, if_pos c1, isSeed_c, if_pos c2]
      simp only [Option.bind_some, one_ne, if_false]
      rw [k1]
      simp only [Option.bind_some]
      rw [nextX_spec hx, ropeBears_spec hB (by omega) hCτ]
      simp only [Option.bind_some]
      rw [irm10, if_neg c3, weakest_spec hB (by omega) hCτ]
      simp only [Option.bind_some]
      rw [u1]
      rfl
    · show fX11_pull a1 (nI x) υ = _
      rw [m6, if_neg c3]
      unfold fX11_pull_J74
      rw [y1]
      rfl
