/-! undo -/
theorem undo_m {n : Nat} {σ : Sg} (hn : n < 24) (e : σ.1 38 9 = nI n) : ∃ τ, lpO (fun w : Int32 × Sg => fX11_undo_B27 w.1 w.2) FUEL (0, σ) = some τ ∧ FE [42] [] σ τ ∧ ∀ j, j < 77 → τ.1 42 j = σ.1 44 (77 * n + j) := by
  refine lp_for (P := fun i w => w.1 = nI i ∧ FE [42] [] σ w.2 ∧ ∀ j, j < i → w.2.1 42 j = σ.1 44 (77 * n + j)) 77 (by omega) ⟨rfl, FE.refl _ _ _, fun j hj => absurd hj (Nat.not_lt_zero _)⟩ ?_ ?_
  · rintro i ⟨x, w⟩ hi ⟨rfl, h2, h3⟩
    dsimp only at h2 h3
    have e9 : gf w 38 9 = nI n := (h2 38 9 (by decide) (by simp)).trans e
    refine ⟨(nI (i + 1), sup w 42 i (σ.1 44 (77 * n + i))), ?_, rfl, h2.same FE_supC, ?_⟩
    · show fX11_undo_B27 (nI i) w = _
      unfold fX11_undo_B27
      rw [show (77 : Int32) = nI 77 from rfl, if_neg (by rw [nI_leI (by omega) (by omega)]; omega), e9, pk_mul, nI_add, gd_t (b1848 (by omega)), gd_t (b77 hi), sa_nI _ _ _ _ (by omega), ga_nI _ _ _ (by omega), h2 44 _ (by decide) (by simp), nI_1]
    · intro j hj
      show (sup w 42 i (σ.1 44 (77 * n + i))).1 42 j = _
      rw [sup_at]
      by_cases hj2 : j = i
      · subst hj2; rw [if_pos ⟨rfl, rfl⟩]
      · rw [if_neg (fun z => hj2 z.2)]; exact h3 j (by omega)
  · rintro ⟨x, w⟩ ⟨rfl, h2, h3⟩
    refine ⟨w, ?_, h2, h3⟩
    show fX11_undo_B27 (nI 77) w = _
    unfold fX11_undo_B27
    rw [if_pos (by decide)]
theorem takeBack_c {n s : Nat} {σ : Sg} (hn : n ≤ 24) (hn0 : 1 ≤ n) (hs : s < 24) (e1 : σ.1 23 1 = nI s) (e2 : σ.1 23 2 = nI n) : ∃ τ, fX0_takeBack σ = some τ ∧ FE [14] [(23, 1), (23, 2)] σ τ ∧ τ.1 23 1 = nI ((s + 23) % 24) ∧ τ.1 23 2 = nI (n - 1) ∧ ∀ j, j < 36 → τ.1 14 j = σ.1 24 (36 * ((s + 23) % 24) + j) := by
  have main : ∀ r, r < 24 → r = (s + 23) % 24 → ∃ τ, fX0_takeBack_J19 (nI r) σ = some τ ∧ FE [14] [(23, 1), (23, 2)] σ τ ∧ τ.1 23 1 = nI ((s + 23) % 24) ∧ τ.1 23 2 = nI (n - 1) ∧ ∀ j, j < 36 → τ.1 14 j = σ.1 24 (36 * ((s + 23) % 24) + j) := by
    intro r hr hrs
    unfold fX0_takeBack_J19
    have g1 : gf (sup (sup σ 23 1 (nI r)) 23 2 (gf (sup σ 23 1 (nI r)) 23 2 - 1)) 23 1 = nI r := by
      rw [gf_eq, sup_at, if_neg (by decide), sup_at, if_pos ⟨rfl, rfl⟩]
    have g2 : gf (sup σ 23 1 (nI r)) 23 2 - 1 = nI (n - 1) := by
      have : gf (sup σ 23 1 (nI r)) 23 2 = nI n := e2
      rw [this, show (1 : Int32) = nI 1 from rfl, pk_sub hn0]
    rw [g1, g2, show (36 : Int32) = nI 36 from rfl, pk_mul, gd_t (show cpk (nI (r * 36)) 0 (nI 36) 864 36 = true from cpk_ok (dp := 0) (by omega) (by omega) (by omega) (by omega))]
    have ea : ∀ d j, (scp (sup (sup σ 23 1 (nI r)) 23 2 (nI (n - 1))) 24 14 (nI (r * 36)) 0 (nI 36)).1 d j = if d = 14 ∧ 0 ≤ j ∧ j < 0 + 36 then (sup (sup σ 23 1 (nI r)) 23 2 (nI (n - 1))).1 24 (r * 36 + (j - 0)) else (sup (sup σ 23 1 (nI r)) 23 2 (nI (n - 1))).1 d j := fun d j => scp_at _ _ _ (dp := 0) (by omega) (by omega) (by omega) d j
    refine ⟨_, rfl, ((FE_sup.trans FE_sup).trans FE_scp), ?_, ?_, fun j hj => ?_⟩
    · rw [ea, if_neg (by omega), sup_at, if_neg (by decide), sup_at, if_pos ⟨rfl, rfl⟩, hrs]
    · rw [ea, if_neg (by omega), sup_at, if_pos ⟨rfl, rfl⟩]
    · rw [ea, if_pos ⟨rfl, by omega, by omega⟩, sup_ne (by decide), sup_ne (by decide), ← hrs, show r * 36 + (j - 0) = 36 * r + j by omega]
  unfold fX0_takeBack
  rw [gf_eq, e1]
  by_cases c : s = 0
  · subst c
    rw [if_pos (show nI 0 = (0 : Int32) from rfl)]
    exact main 23 (by omega) (by omega)
  · rw [if_neg (q0 c), show (1 : Int32) = nI 1 from rfl, pk_sub (by omega)]
    exact main (s - 1) (by omega) (by omega)
theorem ok_undo : OK_undo Inv := by
  intro k b σ hk hI
  obtain ⟨⟨t, W, hW, n, s, V, hA⟩, _⟩ := hI.2.2.2.2
  have hW0 := hW
  have hA0 := hA
  obtain ⟨t1, wt, wm, w0, hB, hT, hS, hM⟩ := hW
  obtain ⟨hn, hs, a1, a2, a3, a4⟩ := hA
  by_cases c0 : n = 0
  · subst c0
    refine ⟨(-1000002, σ), (-1000002, sup σ 38 0 0), ?_, ?_, rfl, hI.up.thr 0⟩
    · unfold fX10_undo; rw [gf_eq, a1, if_pos (show nI 0 = (0 : Int32) from rfl)]
    · have : gf (sup σ 38 0 0) 38 9 = nI 0 := a3
      show fX11_undo σ = _
      unfold fX11_undo
      rw [this, if_pos (show nI 0 = (0 : Int32) from rfl)]
  obtain ⟨τ, c1, c2, c3, c4, c5⟩ := takeBack_c hn (by omega) hs a2 a1
  have u9 : gf (sup τ 38 0 0) 38 9 = nI n := (c2 38 9 (by decide) (by simp)).trans a3
  obtain ⟨φ, f1, f2, f3⟩ := undo_m (n := n - 1) (σ := sup (sup τ 38 0 0) 38 9 (nI (n - 1))) (by omega) (by rw [sup_at]; simp)
  have f9 : φ.1 38 9 = nI (n - 1) := by rw [f2 38 9 (by decide) (by simp), sup_at, if_pos ⟨rfl, rfl⟩]
  refine ⟨(nI (n - 1), τ), (nI (n - 1), φ), ?_, ?_, rfl, ?_⟩
  · unfold fX10_undo; rw [gf_eq, a1, if_neg (q0 c0), c1]
    simp only [Option.bind_some]
    rw [gf_eq, c4]
  · show fX11_undo τ = _
    unfold fX11_undo
    rw [u9, if_neg (q0 c0), show (1 : Int32) = nI 1 from rfl, pk_sub (by omega), f1]
    simp only [Option.bind_some]
    rw [gf_eq, f9]
  have fe : FE [14, 42] [(23, 1), (23, 2), (38, 0), (38, 9)] σ φ := ((c2.trans (FE_sup.trans FE_sup)).trans f2).up (by decide) (by decide)
  obtain ⟨v1, v2, v3, v4⟩ := a4 (n - 1) (by omega)
  refine hI.acts (fe.up (by decide) (by decide)) ⟨t, V (n - 1), ?_, n - 1, (s + 23) % 24, V, ?_⟩
  · refine hW0.act v1.symm v2.up ⟨?_, ?_⟩ ?_ ?_ ?_
    · have : TRep φ 8 W := ((show CW W σ from ⟨hT, hS⟩).1.fr' fe)
      exact this.same v1
    · have e14 : ∀ j, j < 36 → φ.1 14 (0 + j) = σ.1 24 (36 * ((s + 24 - n + (n - 1)) % 24) + j) := by
        intro j hj
        rw [show 0 + j = j by omega, f2 14 j (by decide) (by simp), sup_ne (by decide), sup_ne (by decide), c5 j hj, show (s + 24 - n + (n - 1)) % 24 = (s + 23) % 24 by omega]
      exact v4.cong v2.2.2.2.1 e14
    · refine v3.cong v2.2.2.1 v2.2.2.2.1 (fun j hj => ?_)
      rw [f3 j hj, sup_ne (by decide), sup_ne (by decide), c2 44 _ (by decide) (by simp)]
    · exact fe 8 0 (by decide) (by simp)
    · exact fe 38 7 (by decide) (by simp)
  · refine ⟨by omega, Nat.mod_lt _ (by omega), ?_, ?_, f9, fun i hi => ?_⟩
    · rw [f2 23 2 (by decide) (by simp), sup_ne (by decide), sup_ne (by decide), c4]
    · rw [f2 23 1 (by decide) (by simp), sup_ne (by decide), sup_ne (by decide), c3]
    · obtain ⟨x1, x2, x3, x4⟩ := a4 i (by omega)
      refine ⟨v1.symm.trans x1, x2.up, ?_, ?_⟩
      · refine x3.cong x2.2.2.1 x2.2.2.2.1 (fun j hj => ?_)
        rw [fe 44 _ (by decide) (by simp)]
      · refine x4.cong x2.2.2.2.1 (fun j hj => ?_)
        rw [fe 24 _ (by decide) (by simp), show ((s + 23) % 24 + 24 - (n - 1) + i) % 24 = (s + 24 - n + i) % 24 by omega]
