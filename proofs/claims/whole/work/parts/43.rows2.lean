theorem b8 {r : Nat} (hr : r < 8) : inb (nI r) 8 = true := by rw [inb_nI _ _ (by omega)]; exact decide_eq_true hr
theorem b320 {r : Nat} (hr : r < 320) : inb (nI r) 320 = true := by rw [inb_nI _ _ (by omega)]; exact decide_eq_true hr
theorem nI_m1 {n : Nat} (h : n < 2 ^ 31) : ¬ nI n = -1 := fun z => by
  have := nI_pos h
  rw [z] at this
  exact this (by decide)
theorem isMissing_spec {r : Nat} (hr : r < 8) (σ : Sg) : fX7_isMissing (nI r) σ = some (if σ.1 3 r = -1 then 1 else 0) := by
  unfold fX7_isMissing
  rw [gd_t (b8 hr), ga_nI _ _ _ (by omega)]
  by_cases h : σ.1 3 r = -1
  · rw [if_pos h, if_pos h]
  · rw [if_neg h, if_neg h]
/-- whether places i .. i + m - 1 are there -/
def plc (i m : Int32) (n : Nat) : Prop := 0 ≤ i.toInt ∧ 0 ≤ m.toInt ∧ i.toInt + m.toInt ≤ n
theorem plc_dec (i m : Int32) (n : Nat) : plc i m n ∨ ¬ plc i m n := Classical.em _
theorem hasPlaces_yes {r n : Nat} (hr : r < 8) (hn : n ≤ 40) {σ : Sg} (hs : σ.1 3 r = nI n) {i m : Int32} (h : plc i m n) : fX7_hasPlaces (nI r) i m σ = some 1 := by
  obtain ⟨h1, h2, h3⟩ := h
  unfold fX7_hasPlaces
  rw [if_neg (by rw [lt0_iff]; omega), if_neg (by rw [lt0_iff]; omega), gd_t (b8 hr), ga_nI _ _ _ (by omega), hs, if_neg]
  rw [fa_lt, fb_subI (by rw [nI_toInt (by omega)]; omega) (by rw [nI_toInt (by omega)]; omega), nI_toInt (by omega)]
  omega
theorem hasPlaces_no {r n : Nat} (hr : r < 8) (hn : n ≤ 40) {σ : Sg} (hs : σ.1 3 r = nI n) {i m : Int32} (h : ¬ plc i m n) : fX7_hasPlaces (nI r) i m σ = some 0 := by
  unfold fX7_hasPlaces fX7_hasPlaces_J24
  by_cases h1 : i < 0
  · rw [if_pos h1]
  rw [if_neg h1]
  by_cases h2 : m < 0
  · rw [if_pos h2]
  rw [if_neg h2, gd_t (b8 hr), ga_nI _ _ _ (by omega), hs, if_pos]
  rw [lt0_iff] at h1 h2
  have hmr := fb_rng m
  rw [fa_lt, fb_subI (by rw [nI_toInt (by omega)]; omega) (by rw [nI_toInt (by omega)]; omega), nI_toInt (by omega)]
  have := fb_rng m
  unfold plc at h
  omega
theorem ok_drop : OK_drop Inv := by
  intro k b σ a1 _ hI
  unfold fX10_drop fX11_drop
  simp only [isNumber_spec, isRow_spec, Option.bind_some]
  by_cases h1 : 0 ≤ a1 ∧ a1 ≤ 7
  rotate_left
  · simp only [h1, if_false]
    exact ⟨_, _, rfl, rfl, rfl, hI.up.thr 0⟩
  obtain ⟨r, hr, rfl⟩ := row_of h1
  simp only [h1, and_self, if_true, Option.bind_some, show ¬ (1 : Int32) = 0 by decide, if_false, isMissing_spec hr]
  rcases hI.1 r hr with ⟨m1, m2⟩ | ⟨n, ln, b1, b2, b3, b4, b5, b6, b7⟩
  · simp only [m1, if_true, show ¬ (1 : Int32) = 0 by decide, if_false, found_spec, Option.bind_some]
    refine ⟨_, (-1000010 - 1, sup (sup (sup (sup σ 0 11 1) 38 0 0) 38 1 0) 38 1 1), rfl, ?_, rfl, hI.up.find 1 0⟩
    rw [gd_t (b8 hr), ga_nI _ _ _ (by omega), if_neg (show ¬ (0 : Int32) ≤ (sup (sup (sup σ 0 11 1) 38 0 0) 38 1 0).1 39 r by show ¬ (0 : Int32) ≤ σ.1 39 r; rw [m2]; decide)]
    rfl
  · have hne : ¬ σ.1 3 r = -1 := by rw [b3]; exact nI_m1 (by omega)
    have hx : fX7_sizeOf (nI r) σ = some (nI n) := by
      unfold fX7_sizeOf
      rw [gd_t (b8 hr), ga_nI _ _ _ (by omega), b3]
    have hy : fX7_remove (nI r) σ = some (sup σ 3 r (-1)) := by
      unfold fX7_remove
      rw [gd_t (b8 hr), sa_nI _ _ _ _ (by omega)]
    simp only [hne, if_false, if_true, hx, hy, foundN_spec, Option.bind_some]
    refine ⟨_, (nI n, sup (sup (sup (sup (sup σ 3 r (-1)) 0 11 0) 38 0 0) 38 1 0) 39 r (-1)), rfl, ?_, rfl, ?_⟩
    · rw [gd_t (b8 hr), ga_nI _ _ _ (by omega), if_pos (show (0 : Int32) ≤ (sup (sup (sup (sup σ 3 r (-1)) 0 11 0) 38 0 0) 38 1 0).1 39 r by show (0 : Int32) ≤ σ.1 39 r; rw [b6]; exact nI_pos' (by omega)), gd_t (b8 hr), gd_t (b8 hr), sa_nI _ _ _ _ (by omega), ga_nI _ _ _ (by omega)]
      show some (σ.1 40 r, _) = _
      rw [b4]
    · have f1 : FE [] [(3, r), (0, 11), (38, 0), (38, 1), (39, r)] σ (sup (sup (sup (sup (sup σ 3 r (-1)) 0 11 0) 38 0 0) 38 1 0) 39 r (-1)) := (((FE_sup.trans FE_sup).trans FE_sup).trans FE_sup).trans FE_sup
      have hU := hI.up
      refine ⟨?_, hU.2.1.fr f1 (by simp [ffr]), ⟨rfl, hI.2.2.1.2⟩, hU.2.2.2.1.fr f1 (by simp [ffr]), hU.2.2.2.2.fr f1 (by simp [ffr]) (by simp [ffr]) (by simp [ffr])⟩
      intro r2 hr2
      by_cases h : r2 = r
      · subst h
        refine Or.inl ⟨?_, ?_⟩
        · rw [sup_ne (by decide), sup_ne (by decide), sup_ne (by decide), sup_ne (by decide), sup_at]; simp
        · rw [sup_at]; simp
      · have g : ∀ d j, (d, j) ≠ (3, r) → (d, j) ≠ (39, r) → d ≠ 0 → d ≠ 38 → (sup (sup (sup (sup (sup σ 3 r (-1)) 0 11 0) 38 0 0) 38 1 0) 39 r (-1)).1 d j = σ.1 d j := by
          intro d j h1 h2 h3 h4
          refine f1 d j (by simp) ?_
          simp only [List.mem_cons, List.not_mem_nil, or_false, not_or]
          exact ⟨h1, fun z => h3 (by cases z; rfl), fun z => h4 (by cases z; rfl), fun z => h4 (by cases z; rfl), h2⟩
        rcases hI.1 r2 hr2 with ⟨c1, c2⟩ | ⟨n2, l2, c1, c2, c3, c4, c5, c6, c7⟩
        · exact Or.inl ⟨by rw [g 3 r2 (by simp [h]) (by simp) (by decide) (by decide)]; exact c1, by rw [g 39 r2 (by simp) (by simp [h]) (by decide) (by decide)]; exact c2⟩
        · refine Or.inr ⟨n2, l2, c1, c2, by rw [g 3 r2 (by simp [h]) (by simp) (by decide) (by decide)]; exact c3, by rw [g 40 r2 (by simp) (by simp) (by decide) (by decide)]; exact c4, by rw [g 2 r2 (by simp) (by simp) (by decide) (by decide)]; exact c5, by rw [g 39 r2 (by simp) (by simp [h]) (by decide) (by decide)]; exact c6, fun j hj => ?_⟩
          rw [g 4 _ (by simp) (by simp) (by decide) (by decide), g 41 _ (by simp) (by simp) (by decide) (by decide)]
          exact c7 j hj
theorem put_spec {r i ln : Nat} (hr : r < 8) (hi : i < 40) (hl : ln < 3) {σ : Sg} (hs : σ.1 2 r = nI ln) (v : Int32) : fX7_put (nI r) (nI i) v σ = some (if ln = 0 then i2b v else if ln = 1 then i2s v else v, sup σ 4 (40 * r + i) (if ln = 0 then i2b v else if ln = 1 then i2s v else v)) := by
  unfold fX7_put
  have hj : ∀ x : Int32, fX7_put_J30 (nI r) (nI i) x σ = some (x, sup σ 4 (40 * r + i) x) := by
    intro x
    unfold fX7_put_J30
    rw [show (40 : Int32) = nI 40 from rfl, pk_mul, nI_add, gd_t (b320 (by omega)), sa_nI _ _ _ _ (by omega), show r * 40 + i = 40 * r + i by omega]
  rw [gd_t (b8 hr), ga_nI _ _ _ (by omega), hs, gd_t (b8 hr), hj, hj, hj]
  rcases (by omega : ln = 0 ∨ ln = 1 ∨ ln = 2) with rfl | rfl | rfl
  · rfl
  · rfl
  · rfl
theorem mset_spec {r i ln : Nat} (hr : r < 8) (hi : i < 40) (x : Int32) (σ : Sg) : fX11_set_J99 (nI r) (nI i) x ((40 * nI r) + nI i) σ = some (x, sup σ 41 (40 * r + i) x) := by
  unfold fX11_set_J99
  rw [show (40 : Int32) = nI 40 from rfl, pk_mul, nI_add, gd_t (b320 (by omega)), gd_t (b320 (by omega)), sa_nI _ _ _ _ (by omega), ga_nI _ _ _ (by omega), sup_at]
  simp
theorem ok_set : OK_set Inv := by
  intro k b σ a1 a2 a3 _ hI
  unfold fX10_set fX11_set
  simp only [isNumber_spec, isRow_spec, Option.bind_some]
  by_cases h1 : 0 ≤ a1 ∧ a1 ≤ 7
  rotate_left
  · simp only [h1, if_false]
    exact ⟨_, _, rfl, rfl, rfl, hI.up.thr 0⟩
  obtain ⟨r, hr, rfl⟩ := row_of h1
  simp only [h1, and_self, if_true, Option.bind_some, show ¬ (1 : Int32) = 0 by decide, if_false, isMissing_spec hr]
  rcases hI.1 r hr with ⟨m1, m2⟩ | ⟨n, ln, b1, b2, b3, b4, b5, b6, b7⟩
  · simp only [m1, if_true, show ¬ (1 : Int32) = 0 by decide, if_false, found_spec, Option.bind_some]
    refine ⟨_, (-1000010 - 1, sup (sup (sup (sup σ 0 11 1) 38 0 0) 38 1 0) 38 1 1), rfl, ?_, rfl, hI.up.find 1 0⟩
    rw [gd_t (b8 hr), ga_nI _ _ _ (by omega), if_neg (show ¬ (0 : Int32) ≤ (sup (sup (sup σ 0 11 1) 38 0 0) 38 1 0).1 39 r by show ¬ (0 : Int32) ≤ σ.1 39 r; rw [m2]; decide)]
    rfl
  have hne : ¬ σ.1 3 r = -1 := by rw [b3]; exact nI_m1 (by omega)
  simp only [hne, if_false, if_true]
  have h39 : ∀ τ : Sg, τ.1 39 r = nI ln → (0 : Int32) ≤ τ.1 39 r := fun τ h => by rw [h]; exact nI_pos' (by omega)
  have e9 : ∀ τ : Sg, τ.1 40 r = nI n → (((0 : Int64) ≤ a2.toInt64 ∧ a2.toInt64 ≤ (ga τ 40 (nI r) - 1).toInt64) ↔ plc a2 1 n) := by
    intro τ h
    rw [ga_nI _ _ _ (by omega), h, show (0 : Int64) = (0 : Int32).toInt64 from rfl, wide_in, fa_le, fa_le, show (1 : Int32) = nI 1 from rfl, pk_sub_toInt (by omega) (by omega)]
    unfold plc
    rw [nI_toInt (by decide : 1 < 2 ^ 31)]
    have z0 : (0 : Int32).toInt = 0 := rfl
    omega
  have hin1 : ∀ τ : Sg, τ.1 40 r = nI n → plc a2 1 n → fX11_in a2.toInt64 0 ((ga τ 40 (nI r) - 1).toInt64) τ = some 1 := fun τ h hp => by rw [in_spec, if_pos ((e9 τ h).mpr hp)]
  have hin0 : ∀ τ : Sg, τ.1 40 r = nI n → ¬ plc a2 1 n → fX11_in a2.toInt64 0 ((ga τ 40 (nI r) - 1).toInt64) τ = some 0 := fun τ h hp => by rw [in_spec, if_neg (fun z => hp ((e9 τ h).mp z))]
  rcases plc_dec a2 1 n with hp | hp
  rotate_left
  · rw [hasPlaces_no hr b1 b3 hp]
    simp only [Option.bind_some, if_true, found_spec]
    refine ⟨_, (-1000010 - 2, sup (sup (sup (sup σ 0 11 2) 38 0 0) 38 1 0) 38 1 2), rfl, ?_, rfl, hI.up.find 2 0⟩
    dsimp only
    have e39 : (sup (sup (sup σ 0 11 2) 38 0 0) 38 1 0).1 39 r = nI ln := b6
    have e40 : (sup (sup (sup σ 0 11 2) 38 0 0) 38 1 0).1 40 r = nI n := b4
    generalize sup (sup (sup σ 0 11 2) 38 0 0) 38 1 0 = τ at e39 e40 ⊢
    rw [gd_t (b8 hr), ga_nI _ _ _ (by omega), if_pos (h39 _ e39), gd_t (b8 hr), hin0 _ e40 hp]
    rfl
  · rw [hasPlaces_yes hr b1 b3 hp]
    have hp0 := hp
    obtain ⟨p1, p2, p3⟩ := hp
    obtain ⟨i, hi31, rfl⟩ := nI_of (x := a2) (by rw [lt0_iff]; omega)
    rw [nI_toInt hi31] at p1 p3
    have z1 : (1 : Int32).toInt = 1 := rfl
    have hi : i < n := by omega
    simp only [Option.bind_some, show ¬ (1 : Int32) = 0 by decide, if_false, put_spec hr (by omega : i < 40) b2 b5, foundN_spec]
    generalize hx : (if ln = 0 then i2b a3 else if ln = 1 then i2s a3 else a3) = x
    refine ⟨_, (x, sup (sup (sup (sup (sup σ 4 (40 * r + i) x) 0 11 0) 38 0 0) 38 1 0) 41 (40 * r + i) x), rfl, ?_, rfl, ?_⟩
    · dsimp only
      have e39 : (sup (sup (sup (sup σ 4 (40 * r + i) x) 0 11 0) 38 0 0) 38 1 0).1 39 r = nI ln := b6
      have e40 : (sup (sup (sup (sup σ 4 (40 * r + i) x) 0 11 0) 38 0 0) 38 1 0).1 40 r = nI n := b4
      generalize sup (sup (sup (sup σ 4 (40 * r + i) x) 0 11 0) 38 0 0) 38 1 0 = τ at e39 e40 ⊢
      rw [gd_t (b8 hr), ga_nI _ _ _ (by omega), if_pos (h39 _ e39), gd_t (b8 hr), hin1 _ e40 hp0]
      simp only [Option.bind_some, show ¬ (1 : Int32) = 0 by decide, if_false]
      rw [gd_t (b8 hr), e39, gd_t (b8 hr)]
      simp only [mset_spec (ln := ln) hr (by omega : i < 40)]
      subst hx
      rcases (by omega : ln = 0 ∨ ln = 1 ∨ ln = 2) with rfl | rfl | rfl <;> rfl
    · have f1 : FE [] [(4, 40 * r + i), (0, 11), (38, 0), (38, 1), (41, 40 * r + i)] σ (sup (sup (sup (sup (sup σ 4 (40 * r + i) x) 0 11 0) 38 0 0) 38 1 0) 41 (40 * r + i) x) := (((FE_sup.trans FE_sup).trans FE_sup).trans FE_sup).trans FE_sup
      have hU := hI.up
      refine ⟨?_, hU.2.1.fr f1 (by simp [ffr]), ⟨rfl, hI.2.2.1.2⟩, hU.2.2.2.1.fr f1 (by simp [ffr]), hU.2.2.2.2.fr f1 (by simp [ffr]) (by simp [ffr]) (by simp [ffr])⟩
      intro r2 hr2
      rcases hI.1 r2 hr2 with ⟨c1, c2⟩ | ⟨n2, l2, c1, c2, c3, c4, c5, c6, c7⟩
      · exact Or.inl ⟨c1, c2⟩
      · refine Or.inr ⟨n2, l2, c1, c2, c3, c4, c5, c6, fun j hj => ?_⟩
        rw [sup_ne (by decide), sup_ne (by decide), sup_ne (by decide), sup_ne (by decide), sup_at, sup_at, sup_ne (by decide), sup_ne (by decide), sup_ne (by decide), sup_ne (by decide)]
        by_cases h : 40 * r2 + j = 40 * r + i
        · rw [if_pos ⟨rfl, h⟩, if_pos ⟨rfl, h⟩]
        · rw [if_neg (fun z => h z.2), if_neg (fun z => h z.2)]
          exact c7 j hj
