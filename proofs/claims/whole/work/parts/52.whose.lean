/-! loads and seeds -/
theorem isLoad_c (a : Int32) (σ : Sg) : fX10_isLoad a σ = some (if 0 ≤ a ∧ a ≤ 9999 then 1 else 0) := by
  unfold fX10_isLoad fX10_isLoad_J15
  have z0 : (0 : Int32).toInt = 0 := rfl
  have z9 : (9999 : Int32).toInt = 9999 := rfl
  by_cases c1 : a < 0
  · rw [if_pos c1, if_neg]
    rintro ⟨h, _⟩
    rw [fa_lt] at c1; rw [fa_le] at h; omega
  · rw [if_neg c1]
    by_cases c2 : (9999 : Int32) < a
    · rw [if_pos c2, if_neg]
      rintro ⟨_, h⟩
      rw [fa_lt] at c2; rw [fa_le] at h; omega
    · rw [if_neg c2, if_pos]
      rw [fa_lt] at c1 c2; rw [fa_le, fa_le]; omega
theorem isLoad_m (a : Int32) (σ : Sg) : fX11_isLoad a σ = some (if 0 ≤ a ∧ a ≤ 9999 then 1 else 0) := by
  unfold fX11_isLoad
  rw [in_spec]
  have e : ((0 : Int64) ≤ a.toInt64 ∧ a.toInt64 ≤ (9999 : Int64)) ↔ (0 ≤ a ∧ a ≤ 9999) := wide_in a 0 9999
  simp only [e, Option.bind_some]
  by_cases h : 0 ≤ a ∧ a ≤ 9999
  · rw [if_pos h]; rfl
  · rw [if_neg h]; rfl
theorem isSeed_c (a : Int32) (σ : Sg) : fX10_isSeed a σ = some (if 1 ≤ a ∧ a ≤ 999999 then 1 else 0) := by
  unfold fX10_isSeed fX10_isSeed_J16
  have z0 : (1 : Int32).toInt = 1 := rfl
  have z9 : (999999 : Int32).toInt = 999999 := rfl
  by_cases c1 : a < 1
  · rw [if_pos c1, if_neg]
    rintro ⟨h, _⟩
    rw [fa_lt] at c1; rw [fa_le] at h; omega
  · rw [if_neg c1]
    by_cases c2 : (999999 : Int32) < a
    · rw [if_pos c2, if_neg]
      rintro ⟨_, h⟩
      rw [fa_lt] at c2; rw [fa_le] at h; omega
    · rw [if_neg c2, if_pos]
      rw [fa_lt] at c1 c2; rw [fa_le, fa_le]; omega
theorem isSeed_m (a : Int32) (σ : Sg) : fX11_isSeed a σ = some (if 1 ≤ a ∧ a ≤ 999999 then 1 else 0) := by
  unfold fX11_isSeed
  rw [in_spec]
  have e : ((1 : Int64) ≤ a.toInt64 ∧ a.toInt64 ≤ (999999 : Int64)) ↔ (1 ≤ a ∧ a ≤ 999999) := wide_in a 1 999999
  simp only [e, Option.bind_some]
  by_cases h : 1 ≤ a ∧ a ≤ 999999
  · rw [if_pos h]; rfl
  · rw [if_neg h]; rfl
/-! whose -/
theorem SB_without {W : Nat → Nat} (h9 : W 3 ≤ 9) {y : Nat} (hy : y < W 3) (g : Nat) : SB W y g + sw W 9 g y = SB W 9 g := by
  have h := fb_sm_upd (sw W 9 g) 0 (i := y) (n := W 3) hy
  have e : fb_sm (fun k => if k = y then 0 else sw W 9 g k) (W 3) = SB W y g := by
    unfold SB
    apply fb_sm_cong
    intro k hk
    unfold sw
    by_cases c : k = y
    · rw [if_pos c, if_neg (fun z => z.2 c)]
    · rw [if_neg c]
      by_cases d : W (17 + 7 * k) = g + 1
      · rw [if_pos ⟨d, by omega⟩, if_pos ⟨d, c⟩]
      · rw [if_neg (fun z => d z.1), if_neg (fun z => d z.1)]
  rw [e] at h
  unfold SB at h ⊢
  omega
def mkW (W : Nat → Nat) (a1 a2 : Int32) : Nat → Int32
  | 0 => 0
  | i + 1 => if W (17 + 7 * i) = 0 ∨ W (18 + 7 * i) = 2 then mkW W a1 a2 i else if nI (RB W i) < a1 ∨ a2 ≤ nI (RB W i) then mkW W a1 a2 i ||| 0 else mkW W a1 a2 i ||| jshl 1 (nI i)
theorem mkW_a {W : Nat → Nat} {a1 a2 : Int32} {i : Nat} (h : W (17 + 7 * i) = 0 ∨ W (18 + 7 * i) = 2) : mkW W a1 a2 (i + 1) = mkW W a1 a2 i := if_pos h
theorem mkW_b {W : Nat → Nat} {a1 a2 : Int32} {i : Nat} (h : ¬ (W (17 + 7 * i) = 0 ∨ W (18 + 7 * i) = 2)) (h2 : nI (RB W i) < a1 ∨ a2 ≤ nI (RB W i)) : mkW W a1 a2 (i + 1) = mkW W a1 a2 i ||| 0 := (if_neg h).trans (if_pos h2)
theorem mkW_c {W : Nat → Nat} {a1 a2 : Int32} {i : Nat} (h : ¬ (W (17 + 7 * i) = 0 ∨ W (18 + 7 * i) = 2)) (h2 : ¬ (nI (RB W i) < a1 ∨ a2 ≤ nI (RB W i))) : mkW W a1 a2 (i + 1) = mkW W a1 a2 i ||| jshl 1 (nI i) := (if_neg h).trans (if_neg h2)
theorem whose_c {k : Nat} {W : Nat → Nat} {σ : Sg} (hB : WBd k W) (hk : k ≤ 512) (h : CW W σ) (a1 a2 : Int32) : lpO (fun w : Int32 × Int32 => fX10_whose_B40 a1 a2 w.1 w.2 σ) FUEL (0, 0) = some (mkW W a1 a2 (W 3)) := by
  have h9 := hB.2.2.2.1
  refine lp_to (fun i => (mkW W a1 a2 i, nI i)) (W 3) (by omega) ?_ ?_ rfl
  · intro i hi
    have hb := hB.2.2.2.2.2 i hi
    show fX10_whose_B40 a1 a2 (mkW W a1 a2 i) (nI i) σ = _
    unfold fX10_whose_B40 fX10_whose_J112 fX10_whose_J113 fX10_whose_J115
    rw [gf_eq, h.1.2.2.2.1, if_neg (by rw [nI_leI (by omega) (by omega)]; omega), isLaid_spec hB h hi, gd_t (bst9 (by omega)), cw_vw h hi h9, rbw_spec hB hk h (some_X (by omega)), nI_1]
    simp only [Option.bind_some]
    by_cases c1 : W (17 + 7 * i) = 0
    · rw [if_pos c1, if_pos rfl, mkW_a (Or.inl c1)]
    · rw [if_neg c1, if_neg one_ne]
      by_cases c2 : W (18 + 7 * i) = 2
      · rw [if_pos (show nI (W (18 + 7 * i)) = (2 : Int32) by rw [c2]; rfl), mkW_a (Or.inr c2)]
      · rw [if_neg (q2 c2)]
        have cc : ¬ (W (17 + 7 * i) = 0 ∨ W (18 + 7 * i) = 2) := fun z => z.elim c1 c2
        by_cases c3 : nI (RB W i) < a1
        · rw [if_pos c3, mkW_b cc (Or.inl c3)]
        · rw [if_neg c3]
          by_cases c4 : a2 ≤ nI (RB W i)
          · rw [if_pos c4, mkW_b cc (Or.inr c4)]
          · rw [if_neg c4, mkW_c cc (fun z => z.elim c3 c4)]
  · show fX10_whose_B40 a1 a2 (mkW W a1 a2 (W 3)) (nI (W 3)) σ = _
    unfold fX10_whose_B40
    rw [gf_eq, h.1.2.2.2.1, if_pos (by rw [nI_leI (by omega) (by omega)]; omega)]
theorem whose_m {k : Nat} {W : Nat → Nat} {σ : Sg} (hB : WBd k W) (hk : k ≤ 512) (h : MW W σ) (a1 a2 : Int32) : ∃ q, lpO (fun w : Int32 × Int32 × Sg => fX11_whose_B42 a1 a2 w.1 w.2.1 w.2.2) FUEL (0, 0, σ) = some q ∧ q.1 = mkW W a1 a2 (W 3) ∧ FE [46] [] σ q.2 := by
  have h9 := hB.2.2.2.1
  refine lp_for (P := fun i w => w.1 = mkW W a1 a2 i ∧ w.2.1 = nI i ∧ FE [46] [] σ w.2.2) (W 3) (by omega) ⟨rfl, rfl, FE.refl _ _ _⟩ ?_ ?_
  · rintro i ⟨m, x, w⟩ hi ⟨h1, h2, h3⟩
    dsimp only at h1 h2 h3
    subst h1 h2
    have hb := hB.2.2.2.2.2 i hi
    have hw : MW W w := h.fr h3 (by decide)
    show ∃ s1, fX11_whose_B42 a1 a2 (mkW W a1 a2 i) (nI i) w = _ ∧ _
    unfold fX11_whose_B42 fX11_whose_J124 fX11_whose_J125 fX11_whose_J127
    rw [gd_t i77_3, mk3 hw, if_neg (by rw [nI_leI (by omega) (by omega)]; omega), of_3 hw hi h9, of_4 hw hi h9, nI_1]
    simp only [Option.bind_some]
    by_cases c1 : W (17 + 7 * i) = 0
    · rw [if_pos ((st_neg (by omega)).mpr c1)]
      refine ⟨_, rfl, ?_, rfl, h3⟩
      exact (mkW_a (Or.inl c1)).symm
    rw [if_neg (fun z => c1 ((st_neg (by omega)).mp z))]
    by_cases c2 : W (18 + 7 * i) = 2
    · rw [if_pos (show (2 : Int32) ≤ nI (W (18 + 7 * i)) by rw [c2]; decide)]
      refine ⟨_, rfl, ?_, rfl, h3⟩
      exact (mkW_a (Or.inr c2)).symm
    rw [if_neg (show ¬ (2 : Int32) ≤ nI (W (18 + 7 * i)) by rw [show (2 : Int32) = nI 2 from rfl, nI_leI (by omega) (by omega)]; omega)]
    obtain ⟨τ, p1, p2, p3⟩ := layStrands_spec hB hk hw
    have hτ : MW W τ := hw.fr p2 (by decide)
    rw [p1]
    simp only [Option.bind_some]
    rw [st_s (by omega), gd_t (b3 (by omega)), mstrength_spec hB hk hτ hi]
    simp only [Option.bind_some]
    have g1 := SB_without h9 hi (W (17 + 7 * i) - 1)
    have g2 : sw W 9 (W (17 + 7 * i) - 1) i = stW W i := if_pos ⟨by omega, by omega⟩
    have g3 := SB_le hB i (W (17 + 7 * i) - 1)
    rw [gd_t (b3 (by omega)), ga_nI _ _ _ (by omega), p3 _ (by omega), sa_nI _ _ _ _ (by omega), pk_sub (by omega), show SB W 9 (W (17 + 7 * i) - 1) - stW W i = SB W i (W (17 + 7 * i) - 1) by omega]
    generalize hρ : sup τ 46 (W (17 + 7 * i) - 1) (nI (SB W i (W (17 + 7 * i) - 1))) = ρ
    have fρ : FE [46] [] w ρ := by rw [← hρ]; exact p2.same FE_supC
    have rb : fX11_ropeBears ρ = some (nI (RB W i)) := by
      refine mrope_spec (f := SB W i) (fun g hg => ⟨?_, by have := SB_le hB i g; omega⟩)
      rw [← hρ, sup_at]
      by_cases e : g = W (17 + 7 * i) - 1
      · rw [if_pos ⟨rfl, e⟩, e]
      · rw [if_neg (fun z => e z.2), p3 g hg]
        have := SB_without h9 hi g
        have z : sw W 9 g i = 0 := if_neg (fun z => by omega)
        rw [show SB W 9 g = SB W i g by omega]
    rw [rb]
    simp only [Option.bind_some]
    have fin : ∀ m, m = mkW W a1 a2 (i + 1) → ∃ s1 : Int32 × Int32 × Sg, (some (Sum.inl (m, nI (i + 1), ρ)) : Option ((Int32 × Int32 × Sg) ⊕ (Int32 × Sg))) = some (.inl s1) ∧ s1.1 = mkW W a1 a2 (i + 1) ∧ s1.2.1 = nI (i + 1) ∧ FE [46] [] σ s1.2.2 := fun m hm => ⟨_, rfl, hm, rfl, h3.same fρ⟩
    by_cases c3 : nI (RB W i) < a1
    · rw [if_pos c3]
      exact fin _ (mkW_b (fun z => z.elim c1 c2) (Or.inl c3)).symm
    · rw [if_neg c3]
      by_cases c4 : a2 ≤ nI (RB W i)
      · rw [if_pos c4]
        exact fin _ (mkW_b (fun z => z.elim c1 c2) (Or.inr c4)).symm
      · rw [if_neg c4]
        exact fin _ (mkW_c (fun z => z.elim c1 c2) (fun z => z.elim c3 c4)).symm
  · rintro ⟨m, x, w⟩ ⟨h1, h2, h3⟩
    dsimp only at h1 h2 h3
    subst h1 h2
    have hw : MW W w := h.fr h3 (by decide)
    refine ⟨(mkW W a1 a2 (W 3), w), ?_, rfl, h3⟩
    show fX11_whose_B42 a1 a2 _ (nI (W 3)) w = _
    unfold fX11_whose_B42
    rw [gd_t i77_3, mk3 hw, if_pos (by rw [nI_leI (by omega) (by omega)]; omega)]
theorem ok_whose : OK_whose Inv := by
  intro k b σ a1 a2 hk hI
  obtain ⟨⟨t, W, ⟨t1, wt, wm, w0, hB, hT, hS, hM⟩, _⟩, _⟩ := hI.2.2.2.2
  have hC : CW W σ := ⟨hT, hS⟩
  have hM' : MW W (sup σ 38 0 0) := hM
  obtain ⟨q, p1, p2, p3⟩ := whose_m hB (by omega) hM' a1 a2
  unfold fX10_whose fX11_whose fX10_whose_J32 fX11_whose_J34
  have e1 : gf σ 8 0 = nI t := wt
  have e2 : gf (sup σ 38 0 0) 38 7 = nI t := wm
  rw [e1, e2, p1, whose_c hB (by omega) hC]
  simp only [isLoad_c, isLoad_m, Option.bind_some]
  by_cases ht : t = 0
  · subst ht
    exact ⟨_, _, rfl, rfl, rfl, hI.up.thr 0⟩
  rw [if_neg (q0 ht), if_neg (q0 ht)]
  by_cases c1 : 0 ≤ a1 ∧ a1 ≤ 9999
  rotate_left
  · simp only [c1, if_false, if_true]
    exact ⟨_, _, rfl, rfl, rfl, hI.up.thr 0⟩
  by_cases c2 : 0 ≤ a2 ∧ a2 ≤ 9999
  rotate_left
  · simp only [c1, c2, if_false, if_true, and_self, one_ne]
    exact ⟨_, _, rfl, rfl, rfl, hI.up.thr 0⟩
  simp only [c1, c2, if_false, if_true, and_self, one_ne]
  by_cases c3 : a1 < a2
  rotate_left
  · simp only [c3, if_false]
    exact ⟨_, _, rfl, rfl, rfl, hI.up.thr 0⟩
  simp only [c3, if_true]
  exact ⟨_, _, rfl, rfl, p2.symm, (hI.up.thr 0).fr p3 (by decide)⟩
