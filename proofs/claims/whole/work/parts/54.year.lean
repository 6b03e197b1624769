/-! year: the mask, the draw and the walk behind i yarns -/
def yrStep (i : Nat) (Y : Int32 × Nat × (Nat → Nat)) : Int32 × Nat × (Nat → Nat) :=
  if ¬ Y.2.2 (18 + 7 * i) = 0 then Y
  else if Y.2.2 (14 + 7 * i) = 2 then (Y.1 ||| 0, Y.2.1, updN Y.2.2 (17 + 1 + 7 * i) 1)
  else if Y.2.2 (14 + 7 * i) = 4 then (Y.1 ||| jshl 1 (nI i), Y.2.1, updN Y.2.2 (17 + 1 + 7 * i) 2)
  else if Y.2.2 (4 + 2 * Y.2.2 (15 + 7 * i)) ≤ nxN Y.2.1 % 10 then (Y.1 ||| jshl 1 (nI i), nxN Y.2.1, updN Y.2.2 (17 + 1 + 7 * i) 2)
  else (Y.1 ||| 0, nxN Y.2.1, updN Y.2.2 (17 + 1 + 7 * i) 1)
def yrS (W : Nat → Nat) (x0 : Nat) : Nat → Int32 × Nat × (Nat → Nat)
  | 0 => (0, x0, W)
  | i + 1 => yrStep i (yrS W x0 i)
theorem yrS_ok {k : Nat} {W : Nat → Nat} {x0 : Nat} (hB : WBd k W) (hx : x0 < 2 ^ 31) : ∀ i, WBd k (yrS W x0 i).2.2 ∧ Same (yrS W x0 i).2.2 W ∧ (yrS W x0 i).2.1 < 2 ^ 31
  | 0 => ⟨hB, Same.refl _, hx⟩
  | i + 1 => by
    obtain ⟨h1, h2, h3⟩ := yrS_ok hB hx i
    have h5 := h1.2.2.1
    have hn := nxN_lt (yrS W x0 i).2.1
    have p1 : WBd k (updN (yrS W x0 i).2.2 (17 + 1 + 7 * i) 1) := h1.put (by omega) ⟨by omega, by omega, by omega, by omega⟩
    have p2 : WBd k (updN (yrS W x0 i).2.2 (17 + 1 + 7 * i) 2) := h1.put (by omega) ⟨by omega, by omega, by omega, by omega⟩
    have s1 : Same (updN (yrS W x0 i).2.2 (17 + 1 + 7 * i) 1) W := (Same.put h5 (by omega)).trans h2
    have s2 : Same (updN (yrS W x0 i).2.2 (17 + 1 + 7 * i) 2) W := (Same.put h5 (by omega)).trans h2
    show WBd k (yrStep i (yrS W x0 i)).2.2 ∧ Same (yrStep i (yrS W x0 i)).2.2 W ∧ (yrStep i (yrS W x0 i)).2.1 < 2 ^ 31
    unfold yrStep
    split
    · exact ⟨h1, h2, h3⟩
    · split
      · exact ⟨p1, s1, h3⟩
      · split
        · exact ⟨p2, s2, h3⟩
        · split
          · exact ⟨p2, s2, by show nxN _ < _; omega⟩
          · exact ⟨p1, s1, by show nxN _ < _; omega⟩
theorem year_c {k : Nat} {W : Nat → Nat} {σ : Sg} (hB : WBd k W) (h : CW W σ) {x0 : Nat} (hx : x0 < 2 ^ 31) : ∃ q, lpO (fun w : Int32 × Int32 × Int32 × Sg => fX10_year_B41 w.1 w.2.1 w.2.2.1 w.2.2.2) FUEL (0, nI x0, 0, σ) = some q ∧ q.1 = (yrS W x0 (W 3)).1 ∧ FE [14] [] σ q.2 ∧ CW (yrS W x0 (W 3)).2.2 q.2 := by
  have h9 := hB.2.2.2.1
  refine lp_for (P := fun i (w : Int32 × Int32 × Int32 × Sg) => w.1 = (yrS W x0 i).1 ∧ w.2.1 = nI (yrS W x0 i).2.1 ∧ w.2.2.1 = nI i ∧ FE [14] [] σ w.2.2.2 ∧ CW (yrS W x0 i).2.2 w.2.2.2) (W 3) (by omega) ⟨rfl, rfl, rfl, FE.refl _ _ _, h⟩ ?_ ?_
  · rintro i ⟨m, x, v, w⟩ hi ⟨h1, h2, h3, h4, hU⟩
    dsimp only at h1 h2 h3 h4 hU
    subst h1 h2 h3
    obtain ⟨uB, uS, uX⟩ := yrS_ok hB hx i
    have hn := nxN_lt (yrS W x0 i).2.1
    have rec1 : yrS W x0 (i + 1) = yrStep i (yrS W x0 i) := rfl
    generalize hY : yrS W x0 i = Y at *
    obtain ⟨m, x, U⟩ := Y
    unfold yrStep at rec1
    dsimp only at *
    have u3 : U 3 = W 3 := uS.2.2.2.1
    have u5 := uB.2.2.1
    have hi' : i < U 3 := by omega
    have hb := uB.2.2.2.2.2 i hi'
    have hbt := (uB.2.2.2.2.1 _ hb.2.1).1
    have tr : ga w 9 (nI (U (15 + 7 * i))) = nI (U (4 + 2 * U (15 + 7 * i))) := by
      rw [ga_nI _ _ _ (by omega)]; exact (hU.1.2.2.2.2.1 _ hb.2.1).1
    show ∃ s1, fX10_year_B41 m (nI x) (nI i) w = _ ∧ _
    have pre : fX10_year_B41 m (nI x) (nI i) w = if U (18 + 7 * i) = 0 then (if U (14 + 7 * i) = 2 then fX10_year_J88 m (nI x) (nI i) 1 w else fX10_year_J88 m (nI x) (nI i) 0 w) else some (.inl (m, nI x, nI (i + 1), w)) := by
      unfold fX10_year_B41 fX10_year_J169
      rw [gf_eq, hU.1.2.2.2.1, u3, if_neg (by rw [nI_leI (by omega) (by omega)]; omega), gd_t (bst9 (by omega)), cw_vw hU hi' (by omega), gd_t (b9 (by omega)), cw_11 hU hi' (by omega), nI_1]
      by_cases c : U (18 + 7 * i) = 0
      · rw [if_pos (show nI (U (18 + 7 * i)) = (0 : Int32) by rw [c]; rfl), if_pos c]
        by_cases d : U (14 + 7 * i) = 2
        · rw [if_pos (show nI (U (14 + 7 * i)) = (2 : Int32) by rw [d]; rfl), if_pos d]
        · rw [if_neg (q2 d), if_neg d]
      · rw [if_neg (q0 c), if_neg c]
    have j130 : ∀ (z : Nat) (e : Int32), z ≤ 1 → e = nI z → fX10_year_J130 m (nI x) (nI i) e w = some (.inl (m ||| (if z = 0 then jshl 1 (nI i) else 0), nI x, nI (i + 1), sup w 14 (9 * 1 + i) (fv 1 (if z = 0 then 2 else 1)))) := by
      rintro z e hz rfl
      unfold fX10_year_J130 fX10_year_J152 fX10_year_J167 fX10_year_J169
      by_cases c : z = 0
      · subst c
        simp only [show (nI 0 = (0 : Int32)) = True from eq_true rfl, if_true]
        rw [gd_t (bst9 (by omega)), sa14_1 (by omega), nI_1, fv_1]
        rfl
      · have : z = 1 := by omega
        subst this
        simp only [show (nI 1 = (0 : Int32)) = False from eq_false (by decide), if_false, show ¬ (1 = 0) by decide]
        rw [gd_t (bst9 (by omega)), sa14_1 (by omega), nI_1, fv_1]
        rfl
    have j130' : ∀ (x : Nat) (z : Nat) (e : Int32), z ≤ 1 → e = nI z → fX10_year_J130 m (nI x) (nI i) e w = some (.inl (m ||| (if z = 0 then jshl 1 (nI i) else 0), nI x, nI (i + 1), sup w 14 (9 * 1 + i) (fv 1 (if z = 0 then 2 else 1)))) := by
      rintro x z e hz rfl
      unfold fX10_year_J130 fX10_year_J152 fX10_year_J167 fX10_year_J169
      by_cases c : z = 0
      · subst c
        simp only [show (nI 0 = (0 : Int32)) = True from eq_true rfl, if_true]
        rw [gd_t (bst9 (by omega)), sa14_1 (by omega), nI_1, fv_1]
        rfl
      · have : z = 1 := by omega
        subst this
        simp only [show (nI 1 = (0 : Int32)) = False from eq_false (by decide), if_false, show ¬ (1 = 0) by decide]
        rw [gd_t (bst9 (by omega)), sa14_1 (by omega), nI_1, fv_1]
        rfl
    have dr : fX9_isDrawn (nI i) w = some (if U (14 + 7 * i) = 2 ∨ U (14 + 7 * i) = 4 then 0 else 1) := by
      unfold fX9_isDrawn fX9_isDrawn_J24
      rw [gd_t (b9 (by omega)), gd_t (b9 (by omega)), cw_11 hU hi' (by omega)]
      by_cases d : U (14 + 7 * i) = 2
      · rw [if_pos (show nI (U (14 + 7 * i)) = (2 : Int32) by rw [d]; rfl), if_pos (Or.inl d)]
      · rw [if_neg (q2 d)]
        by_cases e : U (14 + 7 * i) = 4
        · rw [if_pos (show nI (U (14 + 7 * i)) = (4 : Int32) by rw [e]; rfl), if_pos (Or.inr e)]
        · rw [if_neg (q4 e), if_neg (fun z => z.elim d e)]
    by_cases c : U (18 + 7 * i) = 0
    rotate_left
    · rw [if_pos c] at rec1
      rw [pre, if_neg c]
      refine ⟨_, rfl, ?_⟩
      rw [rec1]
      exact ⟨rfl, rfl, rfl, h4, hU⟩
    rw [if_neg (fun z => z c)] at rec1
    rw [pre, if_pos c]
    have cput : ∀ v, CW (updN U (17 + 1 + 7 * i) v) (sup w 14 (9 * 1 + i) (fv 1 v)) := fun v => hU.put uB (by omega) (by omega)
    have fput : ∀ v, FE [14] [] σ (sup w 14 (9 * 1 + i) (fv 1 v)) := fun v => h4.same FE_supC
    by_cases d : U (14 + 7 * i) = 2
    · rw [if_pos d] at rec1
      rw [if_pos d]
      unfold fX10_year_J88
      rw [dr, if_pos (Or.inl d)]
      simp only [Option.bind_some, if_true]
      rw [j130 1 1 (by omega) rfl]
      refine ⟨_, rfl, ?_⟩
      rw [rec1]
      exact ⟨rfl, rfl, rfl, fput 1, cput 1⟩
    rw [if_neg d] at rec1
    rw [if_neg d]
    by_cases e : U (14 + 7 * i) = 4
    · rw [if_pos e] at rec1
      unfold fX10_year_J88
      rw [dr, if_pos (Or.inr e)]
      simp only [Option.bind_some, if_true]
      rw [j130 0 0 (by omega) rfl]
      refine ⟨_, rfl, ?_⟩
      rw [rec1]
      exact ⟨rfl, rfl, rfl, fput 2, cput 2⟩
    rw [if_neg e] at rec1
    unfold fX10_year_J88 fX10_year_J128
    rw [dr, if_neg (fun z => z.elim d e), nextX_spec uX]
    simp only [Option.bind_some, one_ne, if_false]
    have kt : fX9_keptInTen (nI i) w = some (nI (U (4 + 2 * U (15 + 7 * i)))) := by
      unfold fX9_keptInTen
      rw [gd_t (bst9 (by omega)), cw_vw hU hi' (by omega), if_pos (show nI (U (18 + 7 * i)) = (0 : Int32) by rw [c]; rfl), gd_t (b9 (by omega)), cw_11 hU hi' (by omega), if_neg (q2 d), gd_t (b9 (by omega)), if_neg (q4 e), gd_t (b9 (by omega)), cw_12 hU hi' (by omega), gd_t (b5 (by omega)), tr]
    rw [kt, show (10 : Int32) = nI 10 from rfl, irm_nI (by omega) (by omega) (by omega)]
    simp only [Option.bind_some]
    by_cases f : U (4 + 2 * U (15 + 7 * i)) ≤ nxN x % 10
    · rw [if_pos f] at rec1
      rw [if_pos ((nI_leI (by omega) (by omega)).mpr f), j130' _ 0 0 (by omega) rfl]
      refine ⟨_, rfl, ?_⟩
      rw [rec1]
      exact ⟨rfl, rfl, rfl, fput 2, cput 2⟩
    · rw [if_neg f] at rec1
      rw [if_neg (fun z => f ((nI_leI (by omega) (by omega)).mp z)), j130' _ 1 1 (by omega) rfl]
      refine ⟨_, rfl, ?_⟩
      rw [rec1]
      exact ⟨rfl, rfl, rfl, fput 1, cput 1⟩
  · rintro ⟨m, x, v, w⟩ ⟨h1, h2, h3, h4, hU⟩
    dsimp only at h1 h2 h3 h4 hU
    subst h1 h2 h3
    refine ⟨((yrS W x0 (W 3)).1, w), ?_, rfl, h4, hU⟩
    obtain ⟨uB, uS, uX⟩ := yrS_ok hB hx (W 3)
    show fX10_year_B41 _ _ (nI (W 3)) w = _
    unfold fX10_year_B41
    rw [gf_eq, hU.1.2.2.2.1, uS.2.2.2.1, if_pos (by rw [nI_leI (by omega) (by omega)]; omega)]
theorem year_m {k : Nat} {W : Nat → Nat} {σ : Sg} (hB : WBd k W) (h : MW W σ) {x0 : Nat} (hx : x0 < 2 ^ 31) (hl : σ.2 = lN x0) : ∃ q, lpO (fun w : Int32 × Int32 × Sg => fX11_year_B39 w.1 w.2.1 w.2.2) FUEL (0, 0, σ) = some q ∧ q.1 = (yrS W x0 (W 3)).1 ∧ FE [42] [] σ q.2 ∧ MW (yrS W x0 (W 3)).2.2 q.2 := by
  have h9 := hB.2.2.2.1
  refine lp_for (P := fun i (w : Int32 × Int32 × Sg) => w.1 = (yrS W x0 i).1 ∧ w.2.2.2 = lN (yrS W x0 i).2.1 ∧ w.2.1 = nI i ∧ FE [42] [] σ w.2.2 ∧ MW (yrS W x0 i).2.2 w.2.2) (W 3) (by omega) ⟨rfl, hl, rfl, FE.refl _ _ _, h⟩ ?_ ?_
  · rintro i ⟨m, v, w⟩ hi ⟨h1, h2, h3, h4, hU⟩
    dsimp only at h1 h2 h3 h4 hU
    subst h1 h3
    obtain ⟨uB, uS, uX⟩ := yrS_ok hB hx i
    have hn := nxN_lt (yrS W x0 i).2.1
    have rec1 : yrS W x0 (i + 1) = yrStep i (yrS W x0 i) := rfl
    generalize hY : yrS W x0 i = Y at *
    obtain ⟨m, x, U⟩ := Y
    unfold yrStep at rec1
    dsimp only at *
    have u3 : U 3 = W 3 := uS.2.2.2.1
    have u5 := uB.2.2.1
    have hi' : i < U 3 := by omega
    have hb := uB.2.2.2.2.2 i hi'
    have hbt := (uB.2.2.2.2.1 _ hb.2.1).1
    show ∃ s1, fX11_year_B39 m (nI i) w = _ ∧ _
    have j97 : ∀ (ρ : Sg) (z : Nat) (e : Int32), z ≤ 1 → e = nI z → fX11_year_J97 m (nI i) e ρ = some (.inl (m ||| (if z = 0 then jshl 1 (nI i) else 0), nI (i + 1), sup ρ 42 (17 + 1 + 7 * i) (fv 1 (if z = 0 then 2 else 1)))) := by
      rintro ρ z e hz rfl
      unfold fX11_year_J97 fX11_year_J112 fX11_year_J128 fX11_year_J130
      by_cases c : z = 0
      · subst c
        simp only [show (nI 0 = (0 : Int32)) = True from eq_true rfl, if_true]
        rw [bec4 (by omega)]
        simp only [Option.bind_some]
        rw [nI_1, fv_1]
        rfl
      · have : z = 1 := by omega
        subst this
        simp only [show (nI 1 = (0 : Int32)) = False from eq_false (by decide), if_false, show ¬ (1 = 0) by decide]
        rw [bec4 (by omega)]
        simp only [Option.bind_some]
        rw [nI_1, fv_1]
        rfl
    unfold fX11_year_B39 fX11_year_J92 fX11_year_J96 fX11_year_J130
    rw [gd_t i77_3, mk3 hU, u3, if_neg (by rw [nI_leI (by omega) (by omega)]; omega), of_4 hU hi' (by omega), of_0 hU hi' (by omega), nI_1]
    simp only [Option.bind_some]
    have cput : ∀ v, MW (updN U (17 + 1 + 7 * i) v) (sup w 42 (17 + 1 + 7 * i) (fv 1 v)) := fun v => hU.put uB (by omega)
    have fput : ∀ v, FE [42] [] σ (sup w 42 (17 + 1 + 7 * i) (fv 1 v)) := fun v => h4.same FE_supC
    by_cases c : U (18 + 7 * i) = 0
    rotate_left
    · rw [if_pos c] at rec1
      rw [if_neg (q0 c)]
      refine ⟨_, rfl, ?_⟩
      rw [rec1]
      exact ⟨rfl, h2, rfl, h4, hU⟩
    rw [if_neg (fun z => z c)] at rec1
    rw [if_pos (show nI (U (18 + 7 * i)) = (0 : Int32) by rw [c]; rfl)]
    by_cases d : U (14 + 7 * i) = 2
    · rw [if_pos d] at rec1
      rw [if_pos (show nI (U (14 + 7 * i)) = (2 : Int32) by rw [d]; rfl), j97 w 1 1 (by omega) rfl]
      refine ⟨_, rfl, ?_⟩
      rw [rec1]
      exact ⟨rfl, h2, rfl, fput 1, cput 1⟩
    rw [if_neg d] at rec1
    rw [if_neg (q2 d)]
    by_cases e : U (14 + 7 * i) = 4
    · rw [if_pos e] at rec1
      rw [if_pos (show nI (U (14 + 7 * i)) = (4 : Int32) by rw [e]; rfl), j97 w 0 0 (by omega) rfl]
      refine ⟨_, rfl, ?_⟩
      rw [rec1]
      exact ⟨rfl, h2, rfl, fput 2, cput 2⟩
    rw [if_neg e] at rec1
    rw [if_neg (q4 e), draw_spec uX h2]
    simp only [Option.bind_some]
    have hUs : MW U (slg w (lN (nxN x))) := hU
    have cput' : ∀ v, MW (updN U (17 + 1 + 7 * i) v) (sup (slg w (lN (nxN x))) 42 (17 + 1 + 7 * i) (fv 1 v)) := fun v => hUs.put uB (by omega)
    have fput' : ∀ v, FE [42] [] σ (sup (slg w (lN (nxN x))) 42 (17 + 1 + 7 * i) (fv 1 v)) := fun v => (h4.same (FE_slg (v := lN (nxN x)))).same FE_supC
    rw [truthOf_spec uB hUs hi']
    simp only [Option.bind_some]
    by_cases f : U (4 + 2 * U (15 + 7 * i)) ≤ nxN x % 10
    · rw [if_pos f] at rec1
      rw [if_pos ((nI_leI (by omega) (by omega)).mpr f), j97 _ 0 0 (by omega) rfl]
      refine ⟨_, rfl, ?_⟩
      rw [rec1]
      exact ⟨rfl, rfl, rfl, fput' 2, cput' 2⟩
    · rw [if_neg f] at rec1
      rw [if_neg (fun z => f ((nI_leI (by omega) (by omega)).mp z)), j97 _ 1 1 (by omega) rfl]
      refine ⟨_, rfl, ?_⟩
      rw [rec1]
      exact ⟨rfl, rfl, rfl, fput' 1, cput' 1⟩
  · rintro ⟨m, v, w⟩ ⟨h1, h2, h3, h4, hU⟩
    dsimp only at h1 h2 h3 h4 hU
    subst h1 h3
    refine ⟨((yrS W x0 (W 3)).1, w), ?_, rfl, h4, hU⟩
    obtain ⟨uB, uS, uX⟩ := yrS_ok hB hx (W 3)
    show fX11_year_B39 _ (nI (W 3)) w = _
    unfold fX11_year_B39
    rw [gd_t i77_3, mk3 hU, uS.2.2.2.1, if_pos (by rw [nI_leI (by omega) (by omega)]; omega)]
theorem ok_year : OK_year Inv := by
  intro k b σ a1 hk hI
  obtain ⟨⟨t, W, hW, n, s, V, hA⟩, _⟩ := hI.2.2.2.2
  have hW0 := hW
  obtain ⟨t1, wt, wm, w0, hB, hT, hS, hM⟩ := hW
  have hC : CW W σ := ⟨hT, hS⟩
  have e1 : gf σ 8 0 = nI t := wt
  have e2 : gf (sup σ 38 0 0) 38 7 = nI t := wm
  by_cases ht : t = 0
  · subst ht
    refine ⟨(-1000002, σ), (-1000002, sup σ 38 0 0), ?_, ?_, rfl, hI.up.thr 0⟩
    · unfold fX10_year; rw [e1, if_pos (show nI 0 = (0 : Int32) from rfl)]
    · show fX11_year a1 σ = _
      unfold fX11_year; rw [e2, if_pos (show nI 0 = (0 : Int32) from rfl)]
  by_cases c2 : 1 ≤ a1 ∧ a1 ≤ 999999
  rotate_left
  · refine ⟨(-1000001, σ), (-1000001, sup σ 38 0 0), ?_, ?_, rfl, hI.up.thr 0⟩
    · unfold fX10_year; rw [e1, if_neg (q0 ht), isSeed_c, if_neg c2]; rfl
    · show fX11_year a1 σ = _
      unfold fX11_year; rw [e2, if_neg (q0 ht), isSeed_m, if_neg c2]; rfl
  have hs := c2
  obtain ⟨x, hx, rfl⟩ := seed_of hs
  obtain ⟨τ, k1, k2, k3⟩ := keep_spec hW0 hA
  have hCτ : CW W τ := hC.fr k2 (by decide)
  obtain ⟨q, y1, y2, y3, y4⟩ := year_c hB hCτ hx
  have fu2 : FE [14] [(38, 0)] τ (sup q.2 38 0 0) := y3.trans (FE_sup (c := 38) (j := 0) (v := 0))
  obtain ⟨φ, p1, p2, n', s', V', p3⟩ := k3 _ fu2
  have hMφ : MW W (slg φ (nI x).toInt64) := (show MW W σ from hM).fr (((k2.trans fu2).trans p2).trans (FE_slg (ms := []) (es := []) (v := (nI x).toInt64))) (by decide)
  obtain ⟨r, z1, z2, z3, z4⟩ := year_m hB hMφ hx (show (nI x).toInt64 = lN x from nI_l hx)
  obtain ⟨uB, uS, uX⟩ := yrS_ok hB hx (W 3)
  refine ⟨(q.1, q.2), (r.1, r.2), ?_, ?_, y2.trans z2.symm, act_end hI hW0 uS uB.up k2 y3 y4 p2 p3 (((FE_slg (ms := []) (es := []) (v := (nI x).toInt64)).trans z3).up (by decide) (by decide)) z4⟩
  · unfold fX10_year
    rw [e1, if_neg (q0 ht), isSeed_c, if_pos c2]
    simp only [Option.bind_some, one_ne, if_false]
    rw [k1]
    simp only [Option.bind_some]
    rw [y1]
    rfl
  · show fX11_year (nI x) q.2 = _
    have g7 : gf (sup q.2 38 0 0) 38 7 = nI t := by
      rw [gf_eq, fu2 38 7 (by decide) (by simp), k2 38 7 (by decide) (by simp)]; exact wm
    unfold fX11_year
    rw [g7, if_neg (q0 ht), isSeed_m, if_pos c2]
    simp only [Option.bind_some, one_ne, if_false]
    rw [p1]
    simp only [Option.bind_some]
    rw [z1]
    rfl
