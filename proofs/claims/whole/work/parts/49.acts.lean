/-! acts on one yarn -/
theorem Inv.acts {k : Nat} {b : Nat → Bool} {σ υ : Sg} (hI : Inv k b σ) (f : FE [14, 42, 24, 44, 46] [(38, 0), (38, 9), (23, 1), (23, 2)] σ υ) (hv : ∃ t W, WRel (k + 1) t W υ ∧ ∃ n s V, ARel (k + 1) n s W V υ) : Inv (k + 1) b υ :=
  ⟨hI.1.fr f (by decide), hI.2.1.fr f (by decide), hI.2.2.1.fr f (by decide), hI.2.2.2.1.fr f (by decide), ⟨hv, hI.2.2.2.2.2.up.fr f (by decide)⟩⟩
theorem CW.fr {W : Nat → Nat} {ms : List Nat} {es : List (Nat × Nat)} {σ τ : Sg} (h : CW W σ) (f : FE ms es σ τ) (hf : ffr [8, 9, 10, 11, 12, 13, 14] [] ms es = true) : CW W τ := by
  unfold CW TRep
  show (_ ∧ _ ∧ _ ∧ _ ∧ (∀ p, p < W 2 → τ.1 9 p = _ ∧ τ.1 10 p = _) ∧ ∀ y, y < W 3 → τ.1 11 y = _ ∧ τ.1 12 y = _ ∧ τ.1 13 y = _) ∧ _
  rw [ffr_c f hf (d := 8) (by decide), ffr_c f hf (d := 9) (by decide), ffr_c f hf (d := 10) (by decide), ffr_c f hf (d := 11) (by decide), ffr_c f hf (d := 12) (by decide), ffr_c f hf (d := 13) (by decide), ffr_c f hf (d := 14) (by decide)]
  exact h
theorem TRep.fr' {W : Nat → Nat} {σ τ : Sg} (h : TRep σ 8 W) (f : FE [14, 42] [(23, 1), (23, 2), (38, 0), (38, 9)] σ τ) : TRep τ 8 W := by
  unfold TRep
  show _ ∧ _ ∧ _ ∧ _ ∧ (∀ p, p < W 2 → τ.1 9 p = _ ∧ τ.1 10 p = _) ∧ ∀ y, y < W 3 → τ.1 11 y = _ ∧ τ.1 12 y = _ ∧ τ.1 13 y = _
  have hf : ffr [8, 9, 10, 11, 12, 13] [] [14, 42] [(23, 1), (23, 2), (38, 0), (38, 9)] = true := by decide
  rw [ffr_c f hf (d := 8) (by decide), ffr_c f hf (d := 9) (by decide), ffr_c f hf (d := 10) (by decide), ffr_c f hf (d := 11) (by decide), ffr_c f hf (d := 12) (by decide), ffr_c f hf (d := 13) (by decide)]
  exact h
theorem MW.fr {W : Nat → Nat} {ms : List Nat} {es : List (Nat × Nat)} {σ τ : Sg} (h : MW W σ) (f : FE ms es σ τ) (hf : ffr [42] [] ms es = true) : MW W τ := by
  unfold MW
  rw [ffr_c f hf (d := 42) (by decide)]
  exact h
/-- a new walk of the same text -/
theorem WRel.act {k t : Nat} {W W' : Nat → Nat} {σ υ : Sg} (h : WRel k t W σ) (e : Same W' W) (hB : WBd (k + 1) W') (hC : CW W' υ) (hM : MW W' υ) (h1 : υ.1 8 0 = σ.1 8 0) (h2 : υ.1 38 7 = σ.1 38 7) : WRel (k + 1) t W' υ := by
  obtain ⟨t1, wt, wm, w0, _⟩ := h
  refine ⟨t1, h1.trans wt, h2.trans wm, fun z => ?_, hB, hC.1, hC.2, hM⟩
  rw [e.2.2.1, e.2.2.2.1]
  exact w0 z
theorem act_spec {k t n s : Nat} {b : Nat → Bool} {W : Nat → Nat} {V : Nat → Nat → Nat} {σ : Sg} (hI : Inv k b σ) (hW : WRel k t W σ) (hA : ARel k n s W V σ) {y c v : Nat} (hy : y < W 3) (hc : c < 4) (hv : (c = 0 → v ≤ 3) ∧ (c = 1 → v ≤ 2) ∧ (c = 2 → v ≤ 5 * k) ∧ (c = 3 → v ≤ 1)) : ∃ τ, fX0_keep σ = some τ ∧ CW W τ ∧ ∃ φ, fX11_keep (sup (sup τ 14 (9 * c + y) (fv c v)) 38 0 0) = some φ ∧ MW W φ ∧ Inv (k + 1) b (sup φ 42 (17 + c + 7 * y) (fv c v)) := by
  obtain ⟨τ, h1, h2, h3⟩ := keep_spec hW hA
  have hW0 := hW
  obtain ⟨t1, wt, wm, w0, hB, hT, hS, hM⟩ := hW
  have h9 := hB.2.2.2.1
  have hCτ : CW W τ := (show CW W σ from ⟨hT, hS⟩).fr h2 (by decide)
  have fu : FE [14] [(38, 0)] τ (sup (sup τ 14 (9 * c + y) (fv c v)) 38 0 0) := FE_supC.trans FE_sup
  obtain ⟨φ, p1, p2, n', s', V', p3⟩ := h3 _ fu
  have fφ : FE [24, 14, 44] [(23, 1), (23, 2), (38, 0), (38, 9)] σ φ := (h2.trans fu).trans p2
  have hMφ : MW W φ := MW.fr hM fφ (by decide)
  refine ⟨τ, h1, hCτ, φ, p1, hMφ, hI.acts ?_ ⟨t, updN W (17 + c + 7 * y) v, ?_, n', s', V', ?_⟩⟩
  · exact (fφ.trans FE_supC).up (by decide) (by decide)
  · refine hW0.act (Same.put hB.2.2.1 hc) (hB.put hc hv).up ?_ (hMφ.put hB hc) ?_ ?_
    · have c1 : CW (updN W (17 + c + 7 * y) v) (sup τ 14 (9 * c + y) (fv c v)) := hCτ.put hB (by omega) hc
      exact (c1.fr (FE_sup (c := 38) (j := 0) (v := 0)) (by decide)).fr (p2.trans (FE_supC (c := 42) (j := 17 + c + 7 * y) (v := fv c v))) (by decide)
    · rw [sup_ne (by decide), fφ 8 0 (by decide) (by simp)]
    · rw [sup_ne (by decide), fφ 38 7 (by decide) (by simp)]
  · exact (p3.up.fr (FE_supC (c := 42) (j := 17 + c + 7 * y) (v := fv c v)) (by decide)).same (Same.put hB.2.2.1 hc)
theorem fv_0 (v : Nat) : fv 0 v = nI v - 1 := if_pos rfl
theorem fv_1 (v : Nat) : fv 1 v = nI v := if_neg (by decide)
theorem fv_2 (v : Nat) : fv 2 v = nI v := if_neg (by decide)
theorem fv_3 (v : Nat) : fv 3 v = nI v := if_neg (by decide)
theorem sa14_0 {y : Nat} (hy : y < 9) (σ : Sg) (v : Int32) : sa σ 14 (0 + nI y) v = sup σ 14 (9 * 0 + y) v := by
  rw [show (0 : Int32) = nI (9 * 0) from rfl, nI_add, sa_nI _ _ _ _ (by omega)]
theorem sa14_1 {y : Nat} (hy : y < 9) (σ : Sg) (v : Int32) : sa σ 14 (9 + nI y) v = sup σ 14 (9 * 1 + y) v := by
  rw [show (9 : Int32) = nI (9 * 1) from rfl, nI_add, sa_nI _ _ _ _ (by omega)]
theorem sa14_2 {y : Nat} (hy : y < 9) (σ : Sg) (v : Int32) : sa σ 14 (18 + nI y) v = sup σ 14 (9 * 2 + y) v := by
  rw [show (18 : Int32) = nI (9 * 2) from rfl, nI_add, sa_nI _ _ _ _ (by omega)]
theorem sa14_3 {y : Nat} (hy : y < 9) (σ : Sg) (v : Int32) : sa σ 14 (27 + nI y) v = sup σ 14 (9 * 3 + y) v := by
  rw [show (27 : Int32) = nI (9 * 3) from rfl, nI_add, sa_nI _ _ _ _ (by omega)]
theorem bec {y : Nat} (hy : y < 9) (c : Nat) (hc : c < 4) (v : Int32) (σ : Sg) : fX11_becomes (nI y) (nI (3 + c)) v σ = some (sup σ 42 (17 + c + 7 * y) v) := by
  rw [becomes_at hy (by omega), show 14 + 7 * y + (3 + c) = 17 + c + 7 * y by omega]
theorem bec3 {y : Nat} (hy : y < 9) (v : Int32) (σ : Sg) : fX11_becomes (nI y) 3 v σ = some (sup σ 42 (17 + 0 + 7 * y) v) := bec hy 0 (by omega) v σ
theorem bec4 {y : Nat} (hy : y < 9) (v : Int32) (σ : Sg) : fX11_becomes (nI y) 4 v σ = some (sup σ 42 (17 + 1 + 7 * y) v) := bec hy 1 (by omega) v σ
theorem bec5 {y : Nat} (hy : y < 9) (v : Int32) (σ : Sg) : fX11_becomes (nI y) 5 v σ = some (sup σ 42 (17 + 2 + 7 * y) v) := bec hy 2 (by omega) v σ
theorem bec6 {y : Nat} (hy : y < 9) (v : Int32) (σ : Sg) : fX11_becomes (nI y) 6 v σ = some (sup σ 42 (17 + 3 + 7 * y) v) := bec hy 3 (by omega) v σ
theorem lay_split (a : Int32) : (∃ v, v ≤ 3 ∧ a = nI v - 1) ∨ (a < -1 ∨ 3 ≤ a) := by
  have zm : (-1 : Int32).toInt = -1 := rfl
  have z3 : (3 : Int32).toInt = 3 := rfl
  by_cases h : a < -1 ∨ 3 ≤ a
  · exact Or.inr h
  · have h1 := (not_or.mp h).1
    have h2 := (not_or.mp h).2
    rw [fa_lt, zm] at h1
    rw [fa_le, z3] at h2
    refine Or.inl ⟨(a.toInt + 1).toNat, by omega, ?_⟩
    rw [fa_eq, show (1 : Int32) = nI 1 from rfl, pk_sub_toInt (by omega) (by omega)]
    omega
theorem ok_lay : OK_lay Inv := by
  intro k b σ a1 a2 hk hI
  obtain ⟨⟨t, W, hW, n, s, V, hA⟩, _⟩ := hI.2.2.2.2
  have hW0 := hW
  obtain ⟨t1, wt, wm, w0, hB, hT, hS, hM⟩ := hW
  have h9 := hB.2.2.2.1
  rcases yarn_split a1 (W 3) h9 with ⟨y, hy, rfl⟩ | hn
  rotate_left
  · refine ⟨(-1000001, σ), (-1000001, sup σ 38 0 0), ?_, ?_, rfl, hI.up.thr 0⟩
    · unfold fX10_lay; rw [hasYarn_no hT.2.2.2.1 hn]; rfl
    · unfold fX11_lay; rw [isYarn_no (σ := sup σ 38 0 0) hM.2.2.2.1 h9 hn]; rfl
  have zm : (-1 : Int32).toInt = -1 := rfl
  have z2 : (2 : Int32).toInt = 2 := rfl
  have z3 : (3 : Int32).toInt = 3 := rfl
  have e : ((-1 : Int64) ≤ a2.toInt64 ∧ a2.toInt64 ≤ (2 : Int64)) ↔ ¬ (a2 < -1 ∨ 3 ≤ a2) := by
    rw [show (-1 : Int64) = (-1 : Int32).toInt64 from rfl, show (2 : Int64) = (2 : Int32).toInt64 from rfl, wide_in, fa_le, fa_le, fa_lt, fa_le]
    omega
  rcases lay_split a2 with ⟨v, hv, rfl⟩ | h
  rotate_left
  · refine ⟨(-1000001, σ), (-1000001, sup σ 38 0 0), ?_, ?_, rfl, hI.up.thr 0⟩
    · unfold fX10_lay fX10_lay_J21; rw [hasYarn_yes hT.2.2.2.1 h9 hy]
      simp only [Option.bind_some, one_ne, if_false]
      by_cases c1 : a2 < -1
      · rw [if_pos c1]
      · rw [if_neg c1, if_neg]
        have := h.resolve_left c1
        rw [fa_le] at this; rw [fa_lt]; omega
    · unfold fX11_lay; rw [isYarn_yes (σ := sup σ 38 0 0) hM.2.2.2.1 h9 hy]
      simp only [Option.bind_some, one_ne, if_false, in_spec, e]
      rw [if_neg (show ¬ ¬ (a2 < -1 ∨ 3 ≤ a2) from fun z => z h), if_pos rfl]; rfl
  have hvI : (nI v - (1 : Int32)).toInt = (v : Int) - 1 := pk_sub_toInt (b := 1) (by omega) (by omega)
  have g : ¬ (nI v - 1 < (-1 : Int32) ∨ 3 ≤ nI v - (1 : Int32)) := by
    rw [fa_lt, fa_le, hvI, zm, z3]
    omega
  obtain ⟨τ, p1, p2, φ, p3, p4, p5⟩ := act_spec hI hW0 hA (c := 0) (v := v) hy (by omega) ⟨fun _ => hv, by omega, by omega, by omega⟩
  rw [fv_0] at p3 p5
  refine ⟨(nI (W (17 + 7 * y)) - 1, sup τ 14 (9 * 0 + y) (nI v - 1)), (nI (W (17 + 7 * y)) - 1, sup φ 42 (17 + 0 + 7 * y) (nI v - 1)), ?_, ?_, rfl, p5⟩
  · unfold fX10_lay; rw [hasYarn_yes hT.2.2.2.1 h9 hy]
    simp only [Option.bind_some, one_ne, if_false]
    rw [if_neg (fun z => g (Or.inl z)), if_pos (by rw [fa_lt, hvI, z3]; omega), p1]
    simp only [Option.bind_some]
    rw [gd_t (bst0 (by omega)), gd_t (bst0 (by omega)), cw_st p2 hy h9, sa14_0 (by omega)]
  · show fX11_lay _ _ (sup τ 14 (9 * 0 + y) (nI v - 1)) = _
    have hMτ : MW W (sup (sup τ 14 (9 * 0 + y) (nI v - 1)) 38 0 0) := by
      obtain ⟨τ', k1, k2, _⟩ := keep_spec hW0 hA
      have : τ' = τ := Option.some.inj (k1.symm.trans p1)
      subst this
      exact (show MW W σ from hM).fr (k2.trans ((FE_supC (c := 14) (j := 9 * 0 + y) (v := nI v - 1)).trans (FE_sup (c := 38) (j := 0) (v := 0)))) (by decide)
    unfold fX11_lay; rw [isYarn_yes hMτ.2.2.2.1 h9 hy]
    simp only [Option.bind_some, one_ne, if_false, in_spec, e]
    have p3' : fX11_keep (sup (sup τ 14 (9 * 0 + y) (nI v - 1)) 38 0 0) = some φ := p3
    rw [if_pos g, if_neg one_ne, p3']
    simp only [Option.bind_some]
    rw [of_3 p4 hy h9, bec3 (by omega)]
    rfl
theorem ok_vow : OK_vow Inv := by
  intro k b σ a1 a2 hk hI
  obtain ⟨⟨t, W, hW, n, s, V, hA⟩, _⟩ := hI.2.2.2.2
  have hW0 := hW
  obtain ⟨t1, wt, wm, w0, hB, hT, hS, hM⟩ := hW
  have h9 := hB.2.2.2.1
  rcases yarn_split a1 (W 3) h9 with ⟨y, hy, rfl⟩ | hn
  rotate_left
  · refine ⟨(-1000001, σ), (-1000001, sup σ 38 0 0), ?_, ?_, rfl, hI.up.thr 0⟩
    · unfold fX10_vow; rw [hasYarn_no hT.2.2.2.1 hn]; rfl
    · unfold fX11_vow; rw [isYarn_no (σ := sup σ 38 0 0) hM.2.2.2.1 h9 hn]; rfl
  have e := small_in a2 2 (by omega)
  rw [show (nI 2).toInt64 = (2 : Int64) from rfl] at e
  by_cases h : ∃ j, j ≤ 2 ∧ a2 = nI j
  rotate_left
  · refine ⟨(-1000001, σ), (-1000001, sup σ 38 0 0), ?_, ?_, rfl, hI.up.thr 0⟩
    · unfold fX10_vow fX10_vow_J20; rw [hasYarn_yes hT.2.2.2.1 h9 hy]
      simp only [Option.bind_some, one_ne, if_false]
      by_cases c1 : a2 < 0
      · rw [if_pos c1]
      · rw [if_neg c1, if_neg]
        have := (small_no (by omega) h).resolve_left c1
        rw [fa_le]; rw [fa_lt] at this; exact Int.not_le.mpr this
    · unfold fX11_vow; rw [isYarn_yes (σ := sup σ 38 0 0) hM.2.2.2.1 h9 hy]
      simp only [Option.bind_some, one_ne, if_false, in_spec, e]
      rw [if_neg h, if_pos rfl]; rfl
  obtain ⟨v, hv, rfl⟩ := h
  obtain ⟨τ, p1, p2, φ, p3, p4, p5⟩ := act_spec hI hW0 hA (c := 1) (v := v) hy (by omega) ⟨by omega, fun _ => hv, by omega, by omega⟩
  rw [fv_1] at p3 p5
  refine ⟨(nI (W (18 + 7 * y)), sup τ 14 (9 * 1 + y) (nI v)), (nI (W (18 + 7 * y)), sup φ 42 (17 + 1 + 7 * y) (nI v)), ?_, ?_, rfl, p5⟩
  · unfold fX10_vow; rw [hasYarn_yes hT.2.2.2.1 h9 hy]
    simp only [Option.bind_some, one_ne, if_false]
    rw [if_neg (nI_pos (by omega)), if_pos (by rw [show (2 : Int32) = nI 2 from rfl, nI_leI (by omega) (by omega)]; omega), p1]
    simp only [Option.bind_some]
    rw [gd_t (bst9 (by omega)), gd_t (bst9 (by omega)), cw_vw p2 hy h9, sa14_1 (by omega)]
  · show fX11_vow _ _ (sup τ 14 (9 * 1 + y) (nI v)) = _
    have hMτ : MW W (sup (sup τ 14 (9 * 1 + y) (nI v)) 38 0 0) := by
      obtain ⟨τ', k1, k2, _⟩ := keep_spec hW0 hA
      have : τ' = τ := Option.some.inj (k1.symm.trans p1)
      subst this
      exact (show MW W σ from hM).fr (k2.trans ((FE_supC (c := 14) (j := 9 * 1 + y) (v := nI v)).trans (FE_sup (c := 38) (j := 0) (v := 0)))) (by decide)
    unfold fX11_vow; rw [isYarn_yes hMτ.2.2.2.1 h9 hy]
    simp only [Option.bind_some, one_ne, if_false, in_spec, e]
    have p3' : fX11_keep (sup (sup τ 14 (9 * 1 + y) (nI v)) 38 0 0) = some φ := p3
    rw [if_pos (show ∃ i, i ≤ 2 ∧ nI v = nI i from ⟨v, hv, rfl⟩), if_neg one_ne, p3']
    simp only [Option.bind_some]
    rw [of_4 p4 hy h9, bec4 (by omega)]
    rfl
theorem ok_splice : OK_splice Inv := by
  intro k b σ a1 hk hI
  obtain ⟨⟨t, W, hW, n, s, V, hA⟩, _⟩ := hI.2.2.2.2
  have hW0 := hW
  obtain ⟨t1, wt, wm, w0, hB, hT, hS, hM⟩ := hW
  have h9 := hB.2.2.2.1
  rcases yarn_split a1 (W 3) h9 with ⟨y, hy, rfl⟩ | hn
  rotate_left
  · refine ⟨(-1000001, σ), (-1000001, sup σ 38 0 0), ?_, ?_, rfl, hI.up.thr 0⟩
    · unfold fX10_splice; rw [hasYarn_no hT.2.2.2.1 hn]; rfl
    · unfold fX11_splice; rw [isYarn_no (σ := sup σ 38 0 0) hM.2.2.2.1 h9 hn]; rfl
  obtain ⟨τ, p1, p2, φ, p3, p4, p5⟩ := act_spec hI hW0 hA (c := 2) (v := 0) hy (by omega) ⟨by omega, by omega, by omega, by omega⟩
  rw [fv_2] at p3 p5
  refine ⟨(nI (W (19 + 7 * y)), sup τ 14 (9 * 2 + y) 0), (nI (W (19 + 7 * y)), sup φ 42 (17 + 2 + 7 * y) 0), ?_, ?_, rfl, p5⟩
  · unfold fX10_splice; rw [hasYarn_yes hT.2.2.2.1 h9 hy]
    simp only [Option.bind_some, one_ne, if_false]
    rw [p1]
    simp only [Option.bind_some]
    rw [gd_t (bst18 (by omega)), gd_t (bst18 (by omega)), cw_wn p2 hy h9, sa14_2 (by omega)]
  · show fX11_splice _ (sup τ 14 (9 * 2 + y) 0) = _
    have hMτ : MW W (sup (sup τ 14 (9 * 2 + y) 0) 38 0 0) := by
      obtain ⟨τ', k1, k2, _⟩ := keep_spec hW0 hA
      have : τ' = τ := Option.some.inj (k1.symm.trans p1)
      subst this
      exact (show MW W σ from hM).fr (k2.trans ((FE_supC (c := 14) (j := 9 * 2 + y) (v := 0)).trans (FE_sup (c := 38) (j := 0) (v := 0)))) (by decide)
    unfold fX11_splice; rw [isYarn_yes hMτ.2.2.2.1 h9 hy]
    simp only [Option.bind_some, one_ne, if_false]
    have p3' : fX11_keep (sup (sup τ 14 (9 * 2 + y) 0) 38 0 0) = some φ := p3
    rw [p3']
    simp only [Option.bind_some]
    rw [of_5 p4 hy h9, bec5 (by omega)]
    rfl
theorem ok_pitch : OK_pitch Inv := by
  intro k b σ a1 hk hI
  obtain ⟨⟨t, W, hW, n, s, V, hA⟩, _⟩ := hI.2.2.2.2
  have hW0 := hW
  obtain ⟨t1, wt, wm, w0, hB, hT, hS, hM⟩ := hW
  have h9 := hB.2.2.2.1
  have hC : CW W σ := ⟨hT, hS⟩
  rcases yarn_split a1 (W 3) h9 with ⟨y, hy, rfl⟩ | hn
  rotate_left
  · refine ⟨(-1000001, σ), (-1000001, sup σ 38 0 0), ?_, ?_, rfl, hI.up.thr 0⟩
    · unfold fX10_pitch; rw [hasYarn_no hT.2.2.2.1 hn]; rfl
    · unfold fX11_pitch; rw [isYarn_no (σ := sup σ 38 0 0) hM.2.2.2.1 h9 hn]; rfl
  have hb := hB.2.2.2.2.2 y hy
  by_cases hp : W (20 + 7 * y) = 1
  · refine ⟨(-1000002, σ), (-1000002, sup σ 38 0 0), ?_, ?_, rfl, hI.up.thr 0⟩
    · unfold fX10_pitch; rw [hasYarn_yes hT.2.2.2.1 h9 hy]
      simp only [Option.bind_some, one_ne, if_false]
      rw [gd_t (bst27 (by omega)), cw_pt hC hy h9, hp, if_neg (by decide)]
    · unfold fX11_pitch; rw [isYarn_yes (σ := sup σ 38 0 0) hM.2.2.2.1 h9 hy]
      simp only [Option.bind_some, one_ne, if_false]
      rw [of_6 (σ := sup σ 38 0 0) hM hy h9, hp]
      simp only [Option.bind_some]
      rw [if_pos (by decide)]
  have hp0 : W (20 + 7 * y) = 0 := by omega
  obtain ⟨τ, p1, p2, φ, p3, p4, p5⟩ := act_spec hI hW0 hA (c := 3) (v := 1) hy (by omega) ⟨by omega, by omega, by omega, by omega⟩
  rw [fv_3] at p3 p5
  have hB' : WBd k (updN W (17 + 3 + 7 * y) 1) := hB.put (by omega) ⟨by omega, by omega, by omega, by omega⟩
  have hy' : y < updN W (17 + 3 + 7 * y) 1 3 := by rw [updN_ne (by omega)]; exact hy
  have s1 := strength_spec hB' (by omega) (p2.put hB (y := y) (c := 3) (v := 1) (by omega) (by omega)) hy'
  have s2 := mstrength_spec hB' (by omega) (p4.put hB (y := y) (c := 3) (v := 1) (by omega)) hy'
  refine ⟨(nI (stW (updN W (17 + 3 + 7 * y) 1) y), sup τ 14 (9 * 3 + y) 1), (nI (stW (updN W (17 + 3 + 7 * y) 1) y), sup φ 42 (17 + 3 + 7 * y) 1), ?_, ?_, rfl, p5⟩
  · unfold fX10_pitch; rw [hasYarn_yes hT.2.2.2.1 h9 hy]
    simp only [Option.bind_some, one_ne, if_false]
    rw [gd_t (bst27 (by omega)), cw_pt hC hy h9, hp0, if_pos (by decide), p1]
    simp only [Option.bind_some]
    rw [gd_t (bst27 (by omega)), sa14_3 (by omega)]
    rw [show sup τ 14 (9 * 3 + y) 1 = sup τ 14 (9 * 3 + y) (fv 3 1) from rfl, s1]
    rfl
  · show fX11_pitch _ (sup τ 14 (9 * 3 + y) 1) = _
    have hMτ : MW W (sup (sup τ 14 (9 * 3 + y) 1) 38 0 0) := by
      obtain ⟨τ', k1, k2, _⟩ := keep_spec hW0 hA
      have : τ' = τ := Option.some.inj (k1.symm.trans p1)
      subst this
      exact (show MW W σ from hM).fr (k2.trans ((FE_supC (c := 14) (j := 9 * 3 + y) (v := 1)).trans (FE_sup (c := 38) (j := 0) (v := 0)))) (by decide)
    unfold fX11_pitch; rw [isYarn_yes hMτ.2.2.2.1 h9 hy]
    simp only [Option.bind_some, one_ne, if_false]
    have p3' : fX11_keep (sup (sup τ 14 (9 * 3 + y) 1) 38 0 0) = some φ := p3
    rw [of_6 hMτ hy h9, hp0]
    simp only [Option.bind_some]
    rw [if_neg (by decide), p3']
    simp only [Option.bind_some]
    rw [bec6 (by omega)]
    simp only [Option.bind_some]
    rw [show sup φ 42 (17 + 3 + 7 * y) 1 = sup φ 42 (17 + 3 + 7 * y) (fv 3 1) from rfl, s2]
    rfl
