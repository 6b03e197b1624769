/-! calls that only look -/
theorem one_ne : ¬ (1 : Int32) = 0 := by decide
theorem i77_2 : inb 2 77 = true := by decide
theorem i77_3 : inb 3 77 = true := by decide
theorem i77_0 : inb 0 77 = true := by decide
theorem i77_1 : inb 1 77 = true := by decide
theorem ok_fault : OK_fault Inv := by
  intro k b σ _ hI
  exact ⟨_, _, rfl, rfl, hI.2.2.1.2, hI.up.thr 0⟩
theorem ok_status : OK_status Inv := by
  intro k b σ _ hI
  exact ⟨_, _, rfl, rfl, hI.2.2.1.1, hI.up.thr 0⟩
theorem ok_trace : OK_trace Inv := by
  intro k b σ a1 _ hI
  obtain ⟨n, hn, x1, x2, x3⟩ := hI.2.2.2.1
  unfold fX10_trace fX11_trace fX10_trace_J27
  have g1 : gf σ 36 1 = nI n := x1
  have g2 : gf (sup σ 38 0 0) 38 28 = nI n := x2
  simp only [in_spec, Option.bind_some, g1, g2, upto_iff a1 n (by omega)]
  rcases i32_split a1 n (by omega) with h | ⟨j, hj, rfl⟩ | ⟨j, hj, hj2, rfl⟩
  · simp only [h, true_or, not_true, if_true, if_false]
    exact ⟨_, _, rfl, rfl, rfl, hI.up.thr 0⟩
  · have e1 := nI_pos (n := j) (by omega)
    have e2 : ¬ nI n ≤ nI j := by rw [nI_leI (by omega) (by omega)]; omega
    simp only [e1, e2, false_or, not_false_iff, if_true, if_false, one_ne]
    rw [gd_t (b16 (by omega)), gd_t (b16 (by omega)), ga_nI _ _ _ (by omega), ga_nI _ _ _ (by omega)]
    exact ⟨_, _, rfl, rfl, x3 j hj, hI.up.thr 0⟩
  · have e1 := nI_pos (n := j) (by omega)
    have e2 : nI n ≤ nI j := by rw [nI_leI (by omega) (by omega)]; omega
    simp only [e1, e2, or_true, not_true, if_true, if_false]
    exact ⟨_, _, rfl, rfl, rfl, hI.up.thr 0⟩
theorem ok_kind : OK_kind Inv := by
  intro k b σ a1 _ hI
  obtain ⟨⟨t, W, ⟨t1, wt, wm, w0, hB, hT, hS, hM⟩, _⟩, _⟩ := hI.2.2.2.2
  have h9 := hB.2.2.2.1
  have hC : CW W σ := ⟨hT, hS⟩
  unfold fX10_kind fX11_kind
  rcases yarn_split a1 (W 3) h9 with ⟨y, hy, rfl⟩ | hn
  · rw [hasYarn_yes hT.2.2.2.1 h9 hy, isYarn_yes (σ := sup σ 38 0 0) hM.2.2.2.1 h9 hy]
    simp only [Option.bind_some, one_ne, if_false]
    rw [gd_t (b9 (by omega)), cw_11 hC hy h9, of_0 (σ := sup σ 38 0 0) hM hy h9]
    exact ⟨_, _, rfl, rfl, rfl, hI.up.thr 0⟩
  · rw [hasYarn_no hT.2.2.2.1 hn, isYarn_no (σ := sup σ 38 0 0) hM.2.2.2.1 h9 hn]
    exact ⟨_, _, rfl, rfl, rfl, hI.up.thr 0⟩
theorem small_in (a : Int32) (n : Nat) (hn : n < 1000) : ((0 : Int64) ≤ a.toInt64 ∧ a.toInt64 ≤ (nI n).toInt64) ↔ ∃ j, j ≤ n ∧ a = nI j := by
  rw [show (0 : Int64) = (0 : Int32).toInt64 from rfl, wide_in]
  constructor
  · rintro ⟨h1, h2⟩
    obtain ⟨j, hj, rfl⟩ := nI_of (x := a) (by rw [fa_lt]; rw [fa_le] at h1; omega)
    exact ⟨j, (nI_leI hj (by omega)).mp h2, rfl⟩
  · rintro ⟨j, hj, rfl⟩
    exact ⟨nI_pos' (by omega), (nI_leI (by omega) (by omega)).mpr hj⟩
theorem small_no {a : Int32} {n : Nat} (hn : n < 1000) (h : ¬ ∃ j, j ≤ n ∧ a = nI j) : a < 0 ∨ nI n < a := by
  rcases i32_split a (n + 1) (by omega) with h1 | ⟨j, hj, rfl⟩ | ⟨j, hj, hj2, rfl⟩
  · exact Or.inl h1
  · exact absurd ⟨j, by omega, rfl⟩ h
  · exact Or.inr ((nI_ltI (by omega) (by omega)).mpr (by omega))
theorem ok_yarn : OK_yarn Inv := by
  intro k b σ a1 a2 hk hI
  obtain ⟨⟨t, W, ⟨t1, wt, wm, w0, hB, hT, hS, hM⟩, _⟩, _⟩ := hI.2.2.2.2
  have h9 := hB.2.2.2.1
  have hC : CW W σ := ⟨hT, hS⟩
  have hM' : MW W (sup σ 38 0 0) := hM
  unfold fX10_yarn fX11_yarn fX11_yarn_J25
  rcases yarn_split a1 (W 3) h9 with ⟨y, hy, rfl⟩ | hn
  rotate_left
  · rw [hasYarn_no hT.2.2.2.1 hn, isYarn_no (σ := sup σ 38 0 0) hM.2.2.2.1 h9 hn]
    exact ⟨_, _, rfl, rfl, rfl, hI.up.thr 0⟩
  rw [hasYarn_yes hT.2.2.2.1 h9 hy, isYarn_yes (σ := sup σ 38 0 0) hM.2.2.2.1 h9 hy]
  have e := small_in a2 6 (by omega)
  rw [show (nI 6).toInt64 = (6 : Int64) from rfl] at e
  simp only [Option.bind_some, one_ne, if_false, in_spec, e]
  by_cases h : ∃ j, j ≤ 6 ∧ a2 = nI j
  · rw [if_pos h, if_neg one_ne]
    obtain ⟨j, hj, rfl⟩ := h
    have : j = 0 ∨ j = 1 ∨ j = 2 ∨ j = 3 ∨ j = 4 ∨ j = 5 ∨ j = 6 := by omega
    rcases this with rfl | rfl | rfl | rfl | rfl | rfl | rfl
    · simp (decide := true) only [if_true, if_false]
      rw [gd_t (b9 (by omega)), cw_12 hC hy h9, of_1 hM' hy h9]
      exact ⟨_, _, rfl, rfl, rfl, hI.up.thr 0⟩
    · simp (decide := true) only [if_true, if_false]
      rw [gd_t (b9 (by omega)), cw_13 hC hy h9, of_2 hM' hy h9]
      exact ⟨_, _, rfl, rfl, rfl, hI.up.thr 0⟩
    · simp (decide := true) only [if_true, if_false]
      rw [strength_spec hB (by omega) hC hy, mstrength_spec hB (by omega) hM' hy]
      exact ⟨_, _, rfl, rfl, rfl, hI.up.thr 0⟩
    · simp (decide := true) only [if_true, if_false]
      rw [gd_t (bst0 (by omega)), cw_st hC hy h9, show nI 3 = (3 : Int32) from rfl, of_3 hM' hy h9]
      exact ⟨_, _, rfl, rfl, rfl, hI.up.thr 0⟩
    · simp (decide := true) only [if_true, if_false]
      rw [gd_t (bst9 (by omega)), cw_vw hC hy h9, show nI 4 = (4 : Int32) from rfl, of_4 hM' hy h9]
      exact ⟨_, _, rfl, rfl, rfl, hI.up.thr 0⟩
    · simp (decide := true) only [if_true, if_false]
      rw [gd_t (bst18 (by omega)), cw_wn hC hy h9, show nI 5 = (5 : Int32) from rfl, of_5 hM' hy h9]
      exact ⟨_, _, rfl, rfl, rfl, hI.up.thr 0⟩
    · simp (decide := true) only [if_true, if_false]
      rw [gd_t (bst27 (by omega)), cw_pt hC hy h9, show nI 6 = (6 : Int32) from rfl, of_6 hM' hy h9]
      exact ⟨_, _, rfl, rfl, rfl, hI.up.thr 0⟩
  · rw [if_neg h, if_pos rfl]
    have ne : ∀ c, c ≤ 6 → ¬ a2 = nI c := fun c hc z => h ⟨c, hc, z⟩
    have n0 : ¬ a2 = (0 : Int32) := ne 0 (by omega)
    have n1 : ¬ a2 = (1 : Int32) := ne 1 (by omega)
    have n2 : ¬ a2 = (2 : Int32) := ne 2 (by omega)
    have n3 : ¬ a2 = (3 : Int32) := ne 3 (by omega)
    have n4 : ¬ a2 = (4 : Int32) := ne 4 (by omega)
    have n5 : ¬ a2 = (5 : Int32) := ne 5 (by omega)
    have n6 : ¬ a2 = (6 : Int32) := ne 6 (by omega)
    simp only [n0, n1, n2, n3, n4, n5, n6, if_false]
    exact ⟨_, _, rfl, rfl, rfl, hI.up.thr 0⟩
/-! fathoms -/
def fthW (W : Nat → Nat) (p y : Nat) : Nat := if W (15 + 7 * y) = p ∧ W (18 + 7 * y) = 1 then W (16 + 7 * y) else 0
theorem fathoms_c {k : Nat} {W : Nat → Nat} {σ : Sg} (hB : WBd k W) (h : CW W σ) {p : Nat} (hp : p < 5) : lpO (fun w : Int32 × Int32 => fX10_fathoms_B22 (nI p) w.1 w.2 σ) FUEL (0, 0) = some (nI (fb_sm (fthW W p) (W 3))) := by
  have h9 := hB.2.2.2.1
  refine lp_to (fun i => (nI (fb_sm (fthW W p) i), nI i)) (W 3) (by omega) ?_ ?_ rfl
  · intro i hi
    have hb := hB.2.2.2.2.2 i hi
    have h5 := hB.2.2.1
    show fX10_fathoms_B22 _ (nI (fb_sm (fthW W p) i)) (nI i) σ = _
    unfold fX10_fathoms_B22 fX10_fathoms_J74
    rw [gf_eq, h.1.2.2.2.1, if_neg (by rw [nI_leI (by omega) (by omega)]; omega), gd_t (b9 (by omega)), gd_t (bst9 (by omega)), gd_t (b9 (by omega)), cw_12 h hi h9, cw_vw h hi h9, cw_13 h hi h9, nI_1, fb_sm_succ, nI_add]
    unfold fthW
    by_cases c1 : W (15 + 7 * i) = p
    · rw [if_pos (by rw [c1])]
      by_cases c2 : W (18 + 7 * i) = 1
      · rw [if_pos (by rw [c2]; rfl), if_pos ⟨c1, c2⟩]
      · rw [if_neg (q1 c2), if_neg (fun z => c2 z.2)]; rfl
    · rw [if_neg (fun z => c1 ((nI_eq (by omega) (by omega)).mp z)), if_neg (fun z => c1 z.1)]; rfl
  · show fX10_fathoms_B22 _ _ (nI (W 3)) σ = _
    unfold fX10_fathoms_B22
    rw [gf_eq, h.1.2.2.2.1, if_pos (by rw [nI_leI (by omega) (by omega)]; omega)]
theorem mk3 {W : Nat → Nat} {σ : Sg} (h : MW W σ) : ga σ 42 3 = nI (W 3) := h.2.2.2.1
theorem mk2 {W : Nat → Nat} {σ : Sg} (h : MW W σ) : ga σ 42 2 = nI (W 2) := h.2.2.1
theorem mk0 {W : Nat → Nat} {σ : Sg} (h : MW W σ) : ga σ 42 0 = nI (W 0) := h.1
theorem fathoms_m {k : Nat} {W : Nat → Nat} {σ : Sg} (hB : WBd k W) (h : MW W σ) {p : Nat} (hp : p < 5) : lpO (fun w : Int32 × Int32 => fX11_fathoms_B20 (nI p) w.1 w.2 σ) FUEL (0, 0) = some (nI (fb_sm (fthW W p) (W 3))) := by
  have h9 := hB.2.2.2.1
  refine lp_to (fun i => (nI (fb_sm (fthW W p) i), nI i)) (W 3) (by omega) ?_ ?_ rfl
  · intro i hi
    have hb := hB.2.2.2.2.2 i hi
    have h5 := hB.2.2.1
    show fX11_fathoms_B20 _ (nI (fb_sm (fthW W p) i)) (nI i) σ = _
    unfold fX11_fathoms_B20 fX11_fathoms_J60 fX11_fathoms_J61
    rw [gd_t i77_3, mk3 h, if_neg (by rw [nI_leI (by omega) (by omega)]; omega), of_1 h hi h9, of_4 h hi h9, of_2 h hi h9]
    simp only [Option.bind_some]
    rw [nI_1, fb_sm_succ, nI_add]
    unfold fthW
    by_cases c1 : W (15 + 7 * i) = p
    · rw [if_pos (by rw [c1])]
      by_cases c2 : W (18 + 7 * i) = 1
      · rw [if_pos (by rw [c2]; rfl), if_pos ⟨c1, c2⟩]
      · rw [if_neg (q1 c2), if_neg (fun z => c2 z.2), show (0 : Int32) = nI 0 from rfl, nI_add]
    · rw [if_neg (fun z => c1 ((nI_eq (by omega) (by omega)).mp z)), if_neg (fun z => c1 z.1), show (0 : Int32) = nI 0 from rfl, nI_add]
  · show fX11_fathoms_B20 _ _ (nI (W 3)) σ = _
    unfold fX11_fathoms_B20
    rw [gd_t i77_3, mk3 h, if_pos (by rw [nI_leI (by omega) (by omega)]; omega)]
theorem isSpeaker_spec {W : Nat → Nat} {σ : Sg} (h : MW W σ) (h5 : W 2 ≤ 5) (a : Int32) : fX11_isSpeaker a σ = some (if ¬ (a < 0 ∨ nI (W 2) ≤ a) then 1 else 0) := by
  unfold fX11_isSpeaker
  rw [gd_t i77_2, mk2 h, in_spec]
  simp only [upto_iff a (W 2) (by omega), Option.bind_some]
  by_cases c : ¬ (a < 0 ∨ nI (W 2) ≤ a)
  · simp only [c, not_false_iff, if_true]; rfl
  · simp only [c, if_false]; rfl
theorem ok_fathoms : OK_fathoms Inv := by
  intro k b σ a1 hk hI
  obtain ⟨⟨t, W, ⟨t1, wt, wm, w0, hB, hT, hS, hM⟩, _⟩, _⟩ := hI.2.2.2.2
  have h9 := hB.2.2.2.1
  have h5 := hB.2.2.1
  have hC : CW W σ := ⟨hT, hS⟩
  have hM' : MW W (sup σ 38 0 0) := hM
  unfold fX10_fathoms fX11_fathoms fX10_fathoms_J15
  rw [isSpeaker_spec hM' h5, gf_eq, hT.2.2.1]
  simp only [Option.bind_some]
  rcases yarn_split a1 (W 2) (by omega) with ⟨p, hp, rfl⟩ | hn
  · have e1 := nI_pos (n := p) (by omega)
    have e2 : nI p < nI (W 2) := by rw [nI_ltI (by omega) (by omega)]; omega
    have e3 : ¬ nI (W 2) ≤ nI p := by rw [nI_leI (by omega) (by omega)]; omega
    simp only [e1, e2, e3, false_or, not_false_iff, if_true, if_false, one_ne]
    rw [fathoms_c hB hC (by omega), fathoms_m hB hM' (by omega)]
    exact ⟨_, _, rfl, rfl, rfl, hI.up.thr 0⟩
  · simp only [hn, not_true, if_false, if_true]
    by_cases e1 : a1 < 0
    · simp only [e1, if_true]
      exact ⟨_, _, rfl, rfl, rfl, hI.up.thr 0⟩
    · have e2 : ¬ a1 < nI (W 2) := by
        have := hn.resolve_left e1
        rw [fa_le] at this; rw [fa_lt]; omega
      simp only [e1, e2, if_false]
      exact ⟨_, _, rfl, rfl, rfl, hI.up.thr 0⟩
