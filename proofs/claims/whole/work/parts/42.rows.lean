/-! rows: row, set, copy, drop -/
theorem lt_of_0 {x : Int32} (h : ¬ x < 0) : 0 ≤ x := by
  rw [fa_lt] at h; rw [fa_le]; omega
/-- Rows.make -/
theorem make_spec {r ln n : Nat} (hr : r < 8) (hn : n ≤ 40) (σ : Sg) : ∃ τ, fX7_make (nI r) (nI ln) (nI n) σ = some τ ∧ FE [4] [(2, r), (3, r)] σ τ ∧ τ.1 2 r = nI ln ∧ τ.1 3 r = nI n ∧ ∀ j, τ.1 4 j = if 40 * r ≤ j ∧ j < 40 * r + n then 0 else σ.1 4 j := by
  unfold fX7_make
  rw [gd_t (by rw [inb_nI _ _ (by omega)]; exact decide_eq_true hr), gd_t (by rw [inb_nI _ _ (by omega)]; exact decide_eq_true hr), sa_nI _ _ _ _ (by omega), sa_nI _ _ _ _ (by omega)]
  have key := lp_for (f := fun w : Int32 × Sg => fX7_make_B17 (nI r) (nI n) w.1 w.2) (P := fun i w => w.1 = nI i ∧ FE [4] [] (sup (sup σ 2 r (nI ln)) 3 r (nI n)) w.2 ∧ ∀ j, w.2.1 4 j = if 40 * r ≤ j ∧ j < 40 * r + i then 0 else σ.1 4 j) (Q := fun τ => FE [4] [] (sup (sup σ 2 r (nI ln)) 3 r (nI n)) τ ∧ ∀ j, τ.1 4 j = if 40 * r ≤ j ∧ j < 40 * r + n then 0 else σ.1 4 j) n (by omega) (s0 := (0, sup (sup σ 2 r (nI ln)) 3 r (nI n))) ⟨rfl, FE.refl _ _ _, fun j => by rw [if_neg (by omega)]; rfl⟩ ?_ ?_
  · obtain ⟨τ, h1, h2, h3⟩ := key
    rw [h1]
    refine ⟨τ, rfl, fun d j hd he => ?_, ?_, ?_, h3⟩
    · rw [h2 d j hd (by simp), sup_at, sup_at]
      have a1 : (d, j) ≠ (2, r) := fun z => he (by rw [z]; simp)
      have a2 : (d, j) ≠ (3, r) := fun z => he (by rw [z]; simp)
      rw [if_neg (fun z => a2 (by rw [z.1, z.2])), if_neg (fun z => a1 (by rw [z.1, z.2]))]
    · rw [h2 2 r (by simp) (by simp), sup_at, sup_at]; simp
    · rw [h2 3 r (by simp) (by simp), sup_at]; simp
  · rintro i ⟨x, w⟩ hi ⟨rfl, h2, h3⟩
    dsimp only at h2 h3
    refine ⟨(nI (i + 1), sup w 4 (r * 40 + i) 0), ?_, rfl, ?_, ?_⟩
    · show fX7_make_B17 (nI r) (nI n) (nI i) w = _
      unfold fX7_make_B17
      rw [if_neg (by rw [nI_leI (by omega) (by omega)]; omega), show (40 : Int32) = nI 40 from rfl, pk_mul, nI_add, gd_t (by rw [inb_nI _ _ (by omega)]; exact decide_eq_true (by omega)), sa_nI _ _ _ _ (by omega), nI_1]
    · exact h2.same FE_supC
    · intro j
      show (sup w 4 (r * 40 + i) 0).1 4 j = _
      rw [sup_at, h3 j]
      by_cases hj : j = r * 40 + i
      · rw [if_pos ⟨rfl, hj⟩, if_pos (by omega)]
      · rw [if_neg (fun z => hj z.2)]
        by_cases hj2 : 40 * r ≤ j ∧ j < 40 * r + i
        · rw [if_pos hj2, if_pos (by omega)]
        · rw [if_neg hj2, if_neg (by omega)]
  · rintro ⟨x, w⟩ ⟨rfl, h2, h3⟩
    refine ⟨w, ?_, h2, h3⟩
    show fX7_make_B17 (nI r) (nI n) (nI n) w = _
    unfold fX7_make_B17
    rw [if_pos (by rw [nI_leI (by omega) (by omega)]; omega)]
/-- the reference's row, behind its tests -/
theorem mrow_loop {r n : Nat} (hr : r < 8) (σ : Sg) : ∃ τ, lpO (fun w : Int32 × Sg => fX11_row_B65 (nI r) (nI n) w.1 w.2) FUEL (0, σ) = some τ ∧ FE [41] [] σ τ ∧ ∀ j, τ.1 41 j = if 40 * r ≤ j ∧ j < 40 * r + 40 then 0 else σ.1 41 j := by
  refine lp_for (P := fun i w => w.1 = nI i ∧ FE [41] [] σ w.2 ∧ ∀ j, w.2.1 41 j = if 40 * r ≤ j ∧ j < 40 * r + i then 0 else σ.1 41 j) 40 (by omega) ⟨rfl, FE.refl _ _ _, fun j => by rw [if_neg (by omega)]⟩ ?_ ?_
  · rintro i ⟨x, w⟩ hi ⟨rfl, h2, h3⟩
    dsimp only at h2 h3
    refine ⟨(nI (i + 1), sup w 41 (40 * r + i) 0), ?_, rfl, h2.same FE_supC, ?_⟩
    · show fX11_row_B65 (nI r) (nI n) (nI i) w = _
      unfold fX11_row_B65
      rw [show (40 : Int32) = nI 40 from rfl, if_neg (by rw [nI_leI (by omega) (by omega)]; omega), pk_mul, nI_add, gd_t (by rw [inb_nI _ _ (by omega)]; exact decide_eq_true (by omega)), sa_nI _ _ _ _ (by omega), nI_1]
    · intro j
      show (sup w 41 (40 * r + i) 0).1 41 j = _
      rw [sup_at, h3 j]
      by_cases hj : j = 40 * r + i
      · rw [if_pos ⟨rfl, hj⟩, if_pos (by omega)]
      · rw [if_neg (fun z => hj z.2)]
        by_cases hj2 : 40 * r ≤ j ∧ j < 40 * r + i
        · rw [if_pos hj2, if_pos (by omega)]
        · rw [if_neg hj2, if_neg (by omega)]
  · rintro ⟨x, w⟩ ⟨rfl, h2, h3⟩
    refine ⟨w, ?_, h2, h3⟩
    show fX11_row_B65 (nI r) (nI n) (nI 40) w = _
    unfold fX11_row_B65
    rw [show (40 : Int32) = nI 40 from rfl, if_pos (by rw [nI_leI (by omega) (by omega)]; omega)]
theorem found_spec (a : Int32) (σ : Sg) : fX10_found a σ = some ((-1000010) - a, sup σ 0 11 a) := rfl
theorem foundN_spec (a : Int32) (σ : Sg) : fX10_foundNothing a σ = some (a, sup σ 0 11 0) := rfl
theorem finding_spec (a : Int32) (σ : Sg) : fX11_finding a σ = some ((-1000010) - a, sup σ 38 1 a) := rfl
/-- both sides tell a finding -/
theorem Inv.find {k : Nat} {b : Nat → Bool} {σ : Sg} (h : Inv k b σ) (a v : Int32) : Inv k b (sup (sup (sup (sup σ 0 11 a) 38 0 v) 38 1 0) 38 1 a) := by
  have f1 : FE [] [(0, 11), (38, 0), (38, 1), (38, 1)] σ (sup (sup (sup (sup σ 0 11 a) 38 0 v) 38 1 0) 38 1 a) := ((FE_sup.trans FE_sup).trans FE_sup).trans FE_sup
  refine ⟨h.1.fr f1 (by decide), h.2.1.fr f1 (by decide), ⟨?_, ?_⟩, h.2.2.2.1.fr f1 (by decide), h.2.2.2.2.fr f1 (by decide) (by decide) (by decide)⟩
  · rfl
  · exact h.2.2.1.2
theorem Inv.thr {k : Nat} {b : Nat → Bool} {σ : Sg} (h : Inv k b σ) (v : Int32) : Inv k b (sup σ 38 0 v) := h.fr FE_sup (by decide)
theorem ok_row : OK_row Inv := by
  intro k b σ a1 a2 a3 _ hI
  unfold fX10_row fX11_row fX10_row_J26 fX11_row_J30
  simp only [isNumber_spec, isRow_spec, Option.bind_some]
  by_cases h1 : 0 ≤ a1 ∧ a1 ≤ 7
  rotate_left
  · simp only [h1, if_false]
    exact ⟨_, _, rfl, rfl, rfl, hI.up.thr 0⟩
  obtain ⟨r, hr, rfl⟩ := row_of h1
  simp only [h1, and_self, if_true, in_spec, Option.bind_some, show ¬ (1 : Int32) = 0 by decide, if_false]
  have e2 : ((0 : Int64) ≤ a2.toInt64 ∧ a2.toInt64 ≤ (2 : Int64)) ↔ (0 ≤ a2 ∧ a2 ≤ 2) := wide_in a2 0 2
  simp only [e2]
  have z0 : (0 : Int32).toInt = 0 := rfl
  have z2 : (2 : Int32).toInt = 2 := rfl
  by_cases h2 : 0 ≤ a2 ∧ a2 ≤ 2
  rotate_left
  · simp only [h2, if_false]
    by_cases h3 : a2 < 0
    · simp only [h3, if_true]
      exact ⟨_, _, rfl, rfl, rfl, hI.up.thr 0⟩
    · have h4 : (2 : Int32) < a2 := by
        simp only [fa_le, fa_lt, z0, z2] at h2 h3 ⊢
        omega
      simp only [h3, h4, if_true, if_false]
      exact ⟨_, _, rfl, rfl, rfl, hI.up.thr 0⟩
  have h3 : ¬ a2 < 0 := by simp only [fa_le, fa_lt, z0, z2] at h2 ⊢; omega
  have h4 : ¬ (2 : Int32) < a2 := by simp only [fa_le, fa_lt, z0, z2] at h2 ⊢; omega
  simp only [h2, h3, h4, and_self, if_true, if_false, show ¬ (1 : Int32) = 0 by decide]
  by_cases h5 : a3 ≤ 40
  rotate_left
  · simp only [h5, if_false]
    exact ⟨_, _, rfl, rfl, rfl, hI.up.thr 0⟩
  simp only [h5, if_true]
  by_cases h6 : 0 ≤ a3
  rotate_left
  · simp only [h6, if_false, found_spec, finding_spec, Option.bind_some]
    exact ⟨_, _, rfl, rfl, rfl, hI.up.find 4 0⟩
  simp only [h6, if_true]
  have hn0 : ¬ a3 < 0 := by simp only [fa_le, fa_lt, z0] at h6 ⊢; omega
  obtain ⟨n, hn, rfl⟩ := nI_of hn0
  have hn40 : n ≤ 40 := (nI_leI hn (by decide)).mp (show nI n ≤ nI 40 from h5)
  obtain ⟨ln, hl2, rfl⟩ := nI_of h3
  have hln : ln < 3 := by
    have := (nI_leI hl2 (by decide)).mp (show nI ln ≤ nI 2 from h2.2)
    omega
  obtain ⟨τ, t1, t2, t3, t4, t5⟩ := make_spec (ln := ln) hr hn40 σ
  rw [t1]
  simp only [Option.bind_some, foundN_spec]
  have hb8 : inb (nI r) 8 = true := by rw [inb_nI _ _ (by omega)]; exact decide_eq_true hr
  obtain ⟨υ, u1, u2, u3⟩ := mrow_loop (r := r) (n := n) hr (sup (sup (sup (sup (sup τ 0 11 0) 38 0 0) 38 1 0) 39 r (nI ln)) 40 r (nI n))
  refine ⟨(nI n, sup τ 0 11 0), (nI n, υ), rfl, ?_, rfl, ?_⟩
  · dsimp only
    rw [gd_t hb8, gd_t hb8, sa_nI _ _ _ _ (by omega), sa_nI _ _ _ _ (by omega), u1]
    rfl
  have f1 : FE [4, 41] [(2, r), (3, r), (0, 11), (38, 0), (38, 1), (39, r), (40, r)] σ υ := ((((((t2.trans FE_sup).trans FE_sup).trans FE_sup).trans FE_sup).trans FE_sup).trans u2)
  have hU := hI.up
  refine ⟨?_, ?_, ?_, ?_, ?_⟩
  · intro r2 hr2
    have g2 : υ.1 2 r2 = if r2 = r then nI ln else σ.1 2 r2 := by
      rw [u2 2 r2 (by decide) (by simp), sup_ne (by decide), sup_ne (by decide), sup_ne (by decide), sup_ne (by decide), sup_ne (by decide)]
      by_cases h : r2 = r
      · subst h; rw [if_pos rfl]; exact t3
      · rw [if_neg h]; exact t2 2 r2 (by decide) (by simp [h])
    have g3 : υ.1 3 r2 = if r2 = r then nI n else σ.1 3 r2 := by
      rw [u2 3 r2 (by decide) (by simp), sup_ne (by decide), sup_ne (by decide), sup_ne (by decide), sup_ne (by decide), sup_ne (by decide)]
      by_cases h : r2 = r
      · subst h; rw [if_pos rfl]; exact t4
      · rw [if_neg h]; exact t2 3 r2 (by decide) (by simp [h])
    have g4 : ∀ j, υ.1 4 j = if 40 * r ≤ j ∧ j < 40 * r + n then 0 else σ.1 4 j := by
      intro j
      rw [u2 4 j (by decide) (by simp), sup_ne (by decide), sup_ne (by decide), sup_ne (by decide), sup_ne (by decide), sup_ne (by decide)]
      exact t5 j
    have g39 : υ.1 39 r2 = if r2 = r then nI ln else σ.1 39 r2 := by
      rw [u2 39 r2 (by decide) (by simp), sup_ne (by decide), sup_at, sup_ne (by decide), sup_ne (by decide), sup_ne (by decide)]
      by_cases h : r2 = r
      · subst h; simp
      · rw [if_neg (fun z => h z.2), if_neg h]; exact t2 39 r2 (by decide) (by simp)
    have g40 : υ.1 40 r2 = if r2 = r then nI n else σ.1 40 r2 := by
      rw [u2 40 r2 (by decide) (by simp), sup_at, sup_ne (by decide), sup_ne (by decide), sup_ne (by decide), sup_ne (by decide)]
      by_cases h : r2 = r
      · subst h; simp
      · rw [if_neg (fun z => h z.2), if_neg h]; exact t2 40 r2 (by decide) (by simp)
    have g41 : ∀ j, υ.1 41 j = if 40 * r ≤ j ∧ j < 40 * r + 40 then 0 else σ.1 41 j := by
      intro j
      rw [u3 j, sup_ne (by decide), sup_ne (by decide), sup_ne (by decide), sup_ne (by decide), sup_ne (by decide), t2 41 j (by decide) (by simp)]
    by_cases h : r2 = r
    · subst h
      rw [if_pos rfl] at g2 g3 g39 g40
      refine Or.inr ⟨n, ln, hn40, hln, g3, g40, g2, g39, fun j hj => ?_⟩
      rw [g4, g41, if_pos (by omega), if_pos (by omega)]
    · rw [if_neg h] at g2 g3 g39 g40
      rcases hI.1 r2 hr2 with ⟨a, c⟩ | ⟨n2, l2, b1, b2, b3, b4, b5, b6, b7⟩
      · exact Or.inl ⟨by rw [g3]; exact a, by rw [g39]; exact c⟩
      · refine Or.inr ⟨n2, l2, b1, b2, by rw [g3]; exact b3, by rw [g40]; exact b4, by rw [g2]; exact b5, by rw [g39]; exact b6, fun j hj => ?_⟩
        rw [g4, g41, if_neg (by omega), if_neg (by omega)]
        exact b7 j hj
  · exact hU.2.1.fr f1 (by simp [ffr])
  · have e0 : υ.1 0 11 = 0 := by
      rw [u2 0 11 (by decide) (by simp), sup_ne (by decide), sup_ne (by decide), sup_ne (by decide), sup_ne (by decide), sup_at]; simp
    have e1 : υ.1 38 1 = 0 := by
      rw [u2 38 1 (by decide) (by simp), sup_ne (by decide), sup_ne (by decide), sup_at]; simp
    refine ⟨e0.trans e1.symm, ?_⟩
    rw [f1 0 10 (by decide) (by simp), f1 38 12 (by decide) (by simp)]
    exact hI.2.2.1.2
  · exact hU.2.2.2.1.fr f1 (by simp [ffr])
  · exact hU.2.2.2.2.fr f1 (by simp [ffr]) (by simp [ffr]) (by simp [ffr])
