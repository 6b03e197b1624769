/-! risk -/
theorem Inv.find2 {k : Nat} {b : Nat → Bool} {σ : Sg} (h : Inv k b σ) (a v : Int32) : Inv k b (sup (sup (sup σ 0 11 a) 38 0 v) 38 1 a) := by
  have f1 : FE [] [(0, 11), (38, 0), (38, 1)] σ (sup (sup (sup σ 0 11 a) 38 0 v) 38 1 a) := (FE_sup.trans FE_sup).trans FE_sup
  refine ⟨h.1.fr f1 (by decide), h.2.1.fr f1 (by decide), ⟨?_, ?_⟩, h.2.2.2.1.fr f1 (by decide), h.2.2.2.2.fr f1 (by decide) (by decide) (by decide)⟩
  · rfl
  · exact h.2.2.1.2
theorem hbz_c {r i m L : Nat} (hr : r < 8) (hm : i + m ≤ 40) {σ : Sg} (hL : L ≤ m) (h : ∀ j, j < L → ¬ σ.1 4 (40 * r + i + j) < 0) (he : L = m ∨ σ.1 4 (40 * r + i + L) < 0) : fX7_hasBelowZero (nI r) (nI i) (nI m) σ = some (if L = m then 0 else 1) := by
  have ix : ∀ j, j < m → nI r * 40 + nI i + nI j = nI (40 * r + i + j) := fun j _ => by rw [show (40 : Int32) = nI 40 from rfl, pk_mul, nI_add, nI_add, show r * 40 = 40 * r by omega]
  unfold fX7_hasBelowZero
  rw [lp_to (o := if L = m then Sum.inr () else Sum.inl ()) (fun j => nI j) L (by omega)]
  · by_cases c : L = m
    · simp only [c, if_true]; rfl
    · simp only [c, if_false]; rfl
  · intro j hj
    show fX7_hasBelowZero_B3 (nI r) (nI i) (nI m) (nI j) σ = _
    unfold fX7_hasBelowZero_B3
    rw [if_neg (by rw [nI_leI (by omega) (by omega)]; omega), ix j (by omega), gd_t (b320 (by omega)), ga_nI _ _ _ (by omega), if_pos (lt_of_0 (h j hj)), nI_1]
  · show fX7_hasBelowZero_B3 (nI r) (nI i) (nI m) (nI L) σ = _
    unfold fX7_hasBelowZero_B3
    by_cases c : L = m
    · rw [if_pos (by rw [nI_leI (by omega) (by omega)]; omega), if_pos c]
    · rw [if_neg (by rw [nI_leI (by omega) (by omega)]; omega), ix L (by omega), gd_t (b320 (by omega)), ga_nI _ _ _ (by omega), if_neg, if_neg c]
      have := he.resolve_left c
      intro z
      rw [lt0_iff] at this
      have z0 : (0 : Int32).toInt = 0 := rfl
      rw [fa_le] at z; omega
  · rfl
theorem hbz_m {r i m L : Nat} (hr : r < 8) (hm : i + m ≤ 40) {σ : Sg} (hL : L ≤ m) (h : ∀ j, j < L → ¬ σ.1 41 (40 * r + i + j) < 0) (he : L = m ∨ σ.1 41 (40 * r + i + L) < 0) : lpO (fun w : Int32 => fX11_risk_B81 (nI r) (nI i) (nI m) w σ) FUEL 0 = some (if L = m then Sum.inr () else Sum.inl ()) := by
  have ix : ∀ j, j < m → 40 * nI r + nI i + nI j = nI (40 * r + i + j) := fun j _ => by rw [show (40 : Int32) = nI 40 from rfl, pk_mul, nI_add, nI_add]
  refine lp_to (fun j => nI j) L (by omega) ?_ ?_ rfl
  · intro j hj
    show fX11_risk_B81 (nI r) (nI i) (nI m) (nI j) σ = _
    unfold fX11_risk_B81
    rw [if_neg (by rw [nI_leI (by omega) (by omega)]; omega), ix j (by omega), gd_t (b320 (by omega)), ga_nI _ _ _ (by omega), if_pos (lt_of_0 (h j hj)), nI_1]
  · show fX11_risk_B81 (nI r) (nI i) (nI m) (nI L) σ = _
    unfold fX11_risk_B81
    by_cases c : L = m
    · rw [if_pos (by rw [nI_leI (by omega) (by omega)]; omega), if_pos c]
    · rw [if_neg (by rw [nI_leI (by omega) (by omega)]; omega), ix L (by omega), gd_t (b320 (by omega)), ga_nI _ _ _ (by omega), if_neg, if_neg c]
      have := he.resolve_left c
      intro z
      rw [lt0_iff] at this
      have z0 : (0 : Int32).toInt = 0 := rfl
      rw [fa_le] at z; omega
theorem cut_c {r i m L : Nat} (hr : r < 8) (hm : i + m ≤ 40) {σ : Sg} {v : Int32} (hL : L ≤ m) (h : ∀ j, j < L → σ.1 4 (40 * r + i + j) ≤ v) (he : L = m ∨ ¬ σ.1 4 (40 * r + i + L) ≤ v) : fX7_countUpTo (nI r) (nI i) (nI m) v σ = some (nI L) := by
  have ix : ∀ j, j < m → nI r * 40 + nI i + nI j = nI (40 * r + i + j) := fun j _ => by rw [show (40 : Int32) = nI 40 from rfl, pk_mul, nI_add, nI_add, show r * 40 = 40 * r by omega]
  unfold fX7_countUpTo
  rw [lp_to (o := if L = m then Sum.inr () else Sum.inl (nI L)) (fun j => nI j) L (by omega)]
  · by_cases c : L = m
    · simp only [c, if_true]; rfl
    · simp only [c, if_false]; rfl
  · intro j hj
    show fX7_countUpTo_B3 (nI r) (nI i) (nI m) v (nI j) σ = _
    unfold fX7_countUpTo_B3
    rw [if_neg (by rw [nI_leI (by omega) (by omega)]; omega), ix j (by omega), gd_t (b320 (by omega)), ga_nI _ _ _ (by omega), if_pos (h j hj), nI_1]
  · show fX7_countUpTo_B3 (nI r) (nI i) (nI m) v (nI L) σ = _
    unfold fX7_countUpTo_B3
    by_cases c : L = m
    · rw [if_pos (by rw [nI_leI (by omega) (by omega)]; omega), if_pos c]
    · rw [if_neg (by rw [nI_leI (by omega) (by omega)]; omega), ix L (by omega), gd_t (b320 (by omega)), ga_nI _ _ _ (by omega), if_neg (he.resolve_left c), if_neg c]
  · rfl
theorem cut_m {r i m L : Nat} (hr : r < 8) (hm : i + m ≤ 40) {σ : Sg} {v : Int32} (hL : L ≤ m) (h : ∀ j, j < L → σ.1 41 (40 * r + i + j) ≤ v) (he : L = m ∨ ¬ σ.1 41 (40 * r + i + L) ≤ v) : lpO (fun w : Int32 => fX11_risk_B131 (nI r) (nI i) (nI m) v w σ) FUEL 0 = some (nI L) := by
  have ix : ∀ j, j < m → 40 * nI r + nI i + nI j = nI (40 * r + i + j) := fun j _ => by rw [show (40 : Int32) = nI 40 from rfl, pk_mul, nI_add, nI_add]
  refine lp_to (fun j => nI j) L (by omega) ?_ ?_ rfl
  · intro j hj
    show fX11_risk_B131 (nI r) (nI i) (nI m) v (nI j) σ = _
    unfold fX11_risk_B131
    rw [if_neg (by rw [nI_leI (by omega) (by omega)]; omega), ix j (by omega), gd_t (b320 (by omega)), ga_nI _ _ _ (by omega), if_neg, nI_1]
    have := h j hj
    rw [fa_le] at this; rw [fa_lt]; omega
  · show fX11_risk_B131 (nI r) (nI i) (nI m) v (nI L) σ = _
    unfold fX11_risk_B131
    by_cases c : L = m
    · rw [if_pos (by rw [nI_leI (by omega) (by omega)]; omega)]
    · rw [if_neg (by rw [nI_leI (by omega) (by omega)]; omega), ix L (by omega), gd_t (b320 (by omega)), ga_nI _ _ _ (by omega), if_pos]
      have := he.resolve_left c
      rw [fa_le] at this; rw [fa_lt]; omega
/-- the first that is bad, or the end -/
theorem first_or (p : Nat → Prop) (m : Nat) : ∃ L, L ≤ m ∧ (∀ j, j < L → ¬ p j) ∧ (L = m ∨ p L) := by
  induction m with
  | zero => exact ⟨0, Nat.le_refl _, fun j hj => absurd hj (Nat.not_lt_zero _), Or.inl rfl⟩
  | succ m ih =>
    obtain ⟨L, h1, h2, h3⟩ := ih
    rcases h3 with h3 | h3
    · rcases Classical.em (p m) with h4 | h4
      · exact ⟨L, by omega, h2, Or.inr (by rw [h3]; exact h4)⟩
      · refine ⟨m + 1, Nat.le_refl _, fun j hj => ?_, Or.inl rfl⟩
        by_cases e : j = m
        · rw [e]; exact h4
        · exact h2 j (by omega)
    · exact ⟨L, by omega, h2, Or.inr h3⟩
theorem ok_risk : OK_risk Inv := by
  intro k b σ a1 a2 a3 hk hI
  obtain ⟨⟨t, W, ⟨t1, wt, wm, w0, hB, hT, hS, hM⟩, _⟩, _⟩ := hI.2.2.2.2
  have hC : CW W σ := ⟨hT, hS⟩
  have e1 : gf σ 8 0 = nI t := wt
  by_cases ht : t = 0
  · subst ht
    refine ⟨(-1000002, σ), (-1000002, sup σ 38 0 0), ?_, ?_, rfl, hI.up.thr 0⟩
    · unfold fX10_risk; rw [e1, if_pos (show nI 0 = (0 : Int32) from rfl)]
    · show fX11_risk a1 a2 a3 σ = _
      have e2 : gf (sup σ 38 0 0) 38 7 = nI 0 := wm
      unfold fX11_risk; rw [e2, if_pos (show nI 0 = (0 : Int32) from rfl)]
  by_cases h1 : 0 ≤ a1 ∧ a1 ≤ 7
  rotate_left
  · refine ⟨(-1000001, σ), (-1000001, sup σ 38 0 0), ?_, ?_, rfl, hI.up.thr 0⟩
    · unfold fX10_risk fX10_risk_J35; rw [e1, if_neg (q0 ht), isNumber_spec, if_neg h1]; rfl
    · show fX11_risk a1 a2 a3 σ = _
      have e2 : gf (sup σ 38 0 0) 38 7 = nI t := wm
      unfold fX11_risk fX11_risk_J34; rw [e2, if_neg (q0 ht), isRow_spec, if_neg h1]; rfl
  have e3 : ((1 : Int64) ≤ a3.toInt64 ∧ a3.toInt64 ≤ (40 : Int64)) ↔ (1 ≤ a3 ∧ a3 ≤ 40) := wide_in a3 1 40
  have z1 : (1 : Int32).toInt = 1 := rfl
  have z40 : (40 : Int32).toInt = 40 := rfl
  obtain ⟨r, hr, rfl⟩ := row_of h1
  by_cases h3 : 1 ≤ a3 ∧ a3 ≤ 40
  rotate_left
  · refine ⟨(-1000001, σ), (-1000001, sup σ 38 0 0), ?_, ?_, rfl, hI.up.thr 0⟩
    · unfold fX10_risk fX10_risk_J35; rw [e1, if_neg (q0 ht), isNumber_spec, if_pos h1]
      simp only [Option.bind_some, one_ne, if_false]
      by_cases c : a3 < 1
      · rw [if_pos c]
      · rw [if_neg c, if_neg]
        intro z
        exact h3 ⟨by rw [fa_lt] at c; rw [fa_le]; omega, z⟩
    · show fX11_risk (nI r) a2 a3 σ = _
      have e2 : gf (sup σ 38 0 0) 38 7 = nI t := wm
      unfold fX11_risk fX11_risk_J34; rw [e2, if_neg (q0 ht), isRow_spec, if_pos h1]
      simp only [Option.bind_some, one_ne, if_false, in_spec, e3]
      rw [if_neg h3, if_pos rfl]
  have h3a : ¬ a3 < 1 := by have := h3.1; rw [fa_le] at this; rw [fa_lt]; omega
  obtain ⟨m, hm31, rfl⟩ := nI_of (x := a3) (by rw [lt0_iff]; rw [fa_lt] at h3a; omega)
  have hm : 1 ≤ m ∧ m ≤ 40 := ⟨(nI_leI (a := 1) (by omega) hm31).mp h3.1, (nI_leI (b := 40) hm31 (by omega)).mp h3.2⟩
  -- the reference, behind its first tests
  have mpre : ∀ τ : Sg, gf (sup τ 38 0 0) 38 7 = nI t → fX11_risk (nI r) a2 (nI m) τ = gd (inb (nI r) 8) (if (0 : Int32) ≤ ga (sup τ 38 0 0) 39 (nI r) then (if a2 < 0 then fX11_risk_J72 (sup τ 38 0 0) else gd (inb (nI r) 8) (if lg_cmp (a2.toInt64 + (nI m).toInt64) ((ga (sup τ 38 0 0) 40 (nI r)).toInt64) ≤ 0 then ((lpO (fun w => fX11_risk_B81 (nI r) a2 (nI m) w (sup τ 38 0 0)) FUEL 0).bind (fun o20 => match o20 with
  | .inl z21 => some ((-1000001), sup τ 38 0 0)
  | .inr z22 => (fX11_layStrands (sup (sup τ 38 0 0) 38 1 0)).bind (fun q23 => (fX11_ropeBears q23).bind (fun q25 => (lpO (fun w => fX11_risk_B131 (nI r) a2 (nI m) q25 w q23) FUEL 0).bind (fun o30 => some (o30, q23)))))) else fX11_risk_J72 (sup τ 38 0 0))) else ((fX11_finding 1 (sup τ 38 0 0)).bind (fun q33 => some (q33.1, q33.2)))) := by
    intro τ e2
    unfold fX11_risk
    rw [e2, if_neg (q0 ht), isRow_spec, if_pos h1]
    simp only [Option.bind_some, one_ne, if_false, in_spec, e3]
    rw [if_pos h3, if_neg one_ne]
    rfl
  have cpre : fX10_risk (nI r) a2 (nI m) σ = (fX7_isMissing (nI r) σ).bind (fun q7 =>
  if q7 = 0 then ((fX7_hasPlaces (nI r) a2 (nI m) σ).bind (fun q10 =>
  if q10 = 0 then some ((-1000010) - 2, sup σ 0 11 2) else ((fX7_hasBelowZero (nI r) a2 (nI m) σ).bind (fun q13 =>
  if q13 = 0 then ((fX9_ropeBears σ).bind (fun q16 => (fX7_countUpTo (nI r) a2 (nI m) q16 σ).bind (fun q18 => some (q18, sup σ 0 11 0)))) else (some ((-1000001), σ)))))) else some ((-1000010) - 1, sup σ 0 11 1)) := by
    unfold fX10_risk
    rw [e1, if_neg (q0 ht), isNumber_spec, if_pos h1]
    simp only [Option.bind_some, one_ne, if_false]
    rw [if_neg h3a, if_pos h3.2]
    rfl
  rcases hI.1 r hr with ⟨m1, m2⟩ | ⟨n, ln, b1, b2, b3, b4, b5, b6, b7⟩
  · refine ⟨(-1000010 - 1, sup σ 0 11 1), (-1000010 - 1, sup (sup (sup σ 0 11 1) 38 0 0) 38 1 1), ?_, ?_, rfl, hI.up.find2 1 0⟩
    · rw [cpre, isMissing_spec hr, if_pos m1]; rfl
    · show fX11_risk (nI r) a2 (nI m) (sup σ 0 11 1) = _
      rw [mpre (sup σ 0 11 1) wm, gd_t (b8 hr), ga_nI _ _ _ (by omega), if_neg (show ¬ (0 : Int32) ≤ (sup (sup σ 0 11 1) 38 0 0).1 39 r by show ¬ (0 : Int32) ≤ σ.1 39 r; rw [m2]; decide)]
      rfl
  have hne : ¬ σ.1 3 r = -1 := by rw [b3]; exact nI_m1 (by omega)
  have g39 : ∀ τ : Sg, τ.1 39 r = nI ln → (0 : Int32) ≤ ga τ 39 (nI r) := fun τ h => by rw [ga_nI _ _ _ (by omega), h]; exact nI_pos' (by omega)
  rcases plc_dec a2 (nI m) n with hp | hp
  rotate_left
  · refine ⟨(-1000010 - 2, sup σ 0 11 2), (-1000010 - 2, sup (sup (sup σ 0 11 2) 38 0 0) 38 1 2), ?_, ?_, rfl, hI.up.find2 2 0⟩
    · rw [cpre, isMissing_spec hr, if_neg hne]
      simp only [Option.bind_some, if_true]
      rw [hasPlaces_no hr b1 b3 hp]
      rfl
    · show fX11_risk (nI r) a2 (nI m) (sup σ 0 11 2) = _
      rw [mpre (sup σ 0 11 2) wm, gd_t (b8 hr), if_pos (g39 (sup (sup σ 0 11 2) 38 0 0) b6)]
      by_cases c : a2 < 0
      · rw [if_pos c]; rfl
      · have g40 : ga (sup (sup σ 0 11 2) 38 0 0) 40 (nI r) = nI n := by rw [ga_nI _ _ _ (by omega)]; exact b4
        rw [if_neg c, gd_t (b8 hr), g40, if_neg]
        · rfl
        rw [lg_cmp_le, fa_le64]
        rw [lt0_iff] at c
        have := wide_sum a2 (nI m) n b1 (by omega) (by rw [nI_toInt hm31]; omega)
        unfold plc at hp
        rw [nI_toInt hm31] at hp
        rw [fa_lt64, nI_toInt hm31] at this
        omega
  obtain ⟨p1, p2, p3⟩ := hp
  obtain ⟨i, hi31, rfl⟩ := nI_of (x := a2) (by rw [lt0_iff]; omega)
  have hp' : plc (nI i) (nI m) n := ⟨p1, p2, p3⟩
  rw [nI_toInt hi31, nI_toInt hm31] at p3
  have g40 : ∀ τ : Sg, τ.1 40 r = nI n → lg_cmp ((nI i).toInt64 + (nI m).toInt64) ((ga τ 40 (nI r)).toInt64) ≤ 0 := by
    intro τ h
    have := wide_sum (nI i) (nI m) n b1 p1 p2
    rw [ga_nI _ _ _ (by omega), h, lg_cmp_le, fa_le64]
    rw [fa_lt64, nI_toInt hi31, nI_toInt hm31] at this
    omega
  have it : ∀ j, j < m → σ.1 4 (40 * r + i + j) = σ.1 41 (40 * r + i + j) := fun j hj => by
    have := b7 (i + j) (by omega)
    rw [show 40 * r + (i + j) = 40 * r + i + j by omega] at this
    exact this
  obtain ⟨L, l1, l2, l3⟩ := first_or (fun j => σ.1 4 (40 * r + i + j) < 0) m
  have hz := hbz_c (σ := σ) hr (by omega) l1 l2 l3
  have hzm : ∀ τ : Sg, (∀ j, τ.1 41 j = σ.1 41 j) → lpO (fun w : Int32 => fX11_risk_B81 (nI r) (nI i) (nI m) w τ) FUEL 0 = some (if L = m then Sum.inr () else Sum.inl ()) := by
    intro τ h
    refine hbz_m hr (by omega) l1 (fun j hj => ?_) ?_
    · rw [h, ← it j (by omega)]; exact l2 j hj
    · by_cases c : L = m
      · exact Or.inl c
      · right; rw [h, ← it L (by omega)]; exact l3.resolve_left c
  by_cases cL : L = m
  rotate_left
  · refine ⟨(-1000001, σ), (-1000001, sup σ 38 0 0), ?_, ?_, rfl, hI.up.thr 0⟩
    · rw [cpre, isMissing_spec hr, if_neg hne]
      simp only [Option.bind_some, if_true]
      rw [hasPlaces_yes hr b1 b3 hp']
      simp only [Option.bind_some, one_ne, if_false]
      rw [hz, if_neg cL]
      rfl
    · show fX11_risk (nI r) (nI i) (nI m) σ = _
      rw [mpre σ wm, gd_t (b8 hr), if_pos (g39 (sup σ 38 0 0) b6), if_neg (nI_pos hi31), gd_t (b8 hr), if_pos (g40 (sup σ 38 0 0) b4), hzm (sup σ 38 0 0) (fun j => rfl), if_neg cL]
      rfl
  obtain ⟨Z, d1, d2, d3⟩ := first_or (fun j => ¬ σ.1 4 (40 * r + i + j) ≤ nI (RB W 9)) m
  have d2' : ∀ j, j < Z → σ.1 4 (40 * r + i + j) ≤ nI (RB W 9) := fun j hj => Classical.not_not.mp (d2 j hj)
  have hM2 : MW W (sup (sup (sup σ 0 11 0) 38 0 0) 38 1 0) := hM
  obtain ⟨ρ, y1, y2, y3⟩ := layStrands_spec hB (by omega) hM2
  refine ⟨(nI Z, sup σ 0 11 0), (nI Z, ρ), ?_, ?_, rfl, (hI.up.fnot 0).fr y2 (by decide)⟩
  · rw [cpre, isMissing_spec hr, if_neg hne]
    simp only [Option.bind_some, if_true]
    rw [hasPlaces_yes hr b1 b3 hp']
    simp only [Option.bind_some, one_ne, if_false]
    rw [hz, if_pos cL]
    simp only [Option.bind_some, if_true]
    rw [ropeBears_spec hB (by omega) hC]
    simp only [Option.bind_some]
    rw [cut_c hr (by omega) d1 d2' d3]
    rfl
  · show fX11_risk (nI r) (nI i) (nI m) (sup σ 0 11 0) = _
    have hcm : lpO (fun w : Int32 => fX11_risk_B131 (nI r) (nI i) (nI m) (nI (RB W 9)) w ρ) FUEL 0 = some (nI Z) := by
      have e41 : ∀ j, ρ.1 41 j = σ.1 41 j := fun j => by rw [y2 41 j (by decide) (by simp)]; rfl
      refine cut_m hr (by omega) d1 (fun j hj => ?_) ?_
      · rw [e41, ← it j (by omega)]; exact d2' j hj
      · by_cases c : Z = m
        · exact Or.inl c
        · right; rw [e41, ← it Z (by omega)]; exact d3.resolve_left c
    rw [mpre (sup σ 0 11 0) wm, gd_t (b8 hr), if_pos (g39 (sup (sup σ 0 11 0) 38 0 0) b6), if_neg (nI_pos hi31), gd_t (b8 hr), if_pos (g40 (sup (sup σ 0 11 0) 38 0 0) b4), hzm (sup (sup σ 0 11 0) 38 0 0) (fun j => rfl), if_pos cL]
    simp only [Option.bind_some]
    rw [y1]
    simp only [Option.bind_some]
    rw [mrope_spec (mlay_lt hB y3)]
    simp only [Option.bind_some]
    have hcm' : lpO (fun w : Int32 => fX11_risk_B131 (nI r) (nI i) (nI m) (nI (3 * min (min (SB W 9 0) (SB W 9 1)) (SB W 9 2))) w ρ) FUEL 0 = some (nI Z) := hcm
    rw [hcm']
    rfl
