theorem b154 {y : Nat} (h : y < 154) : inb (nI y) 154 = true := by rw [inb_nI _ _ (by omega)]; exact decide_eq_true h
theorem b2 {y : Nat} (h : y < 2) : inb (nI y) 2 = true := by rw [inb_nI _ _ (by omega)]; exact decide_eq_true h
theorem image_m {a : Nat} (ha : a < 2) (σ : Sg) : ∃ τ, lpO (fun w : Int32 × Sg => fX11_image_B30 (nI a) w.1 w.2) FUEL (0, σ) = some τ ∧ FE [50] [] σ τ ∧ ∀ j, τ.1 50 j = if 77 * a ≤ j ∧ j < 77 * a + 77 then σ.1 42 (j - 77 * a) else σ.1 50 j := by
  refine lp_for (P := fun i (w : Int32 × Sg) => w.1 = nI i ∧ FE [50] [] σ w.2 ∧ ∀ j, w.2.1 50 j = if 77 * a ≤ j ∧ j < 77 * a + i then σ.1 42 (j - 77 * a) else σ.1 50 j) 77 (by omega) ⟨rfl, FE.refl _ _ _, fun j => by rw [if_neg (by omega)]⟩ ?_ ?_
  · rintro i ⟨x, w⟩ hi ⟨rfl, h2, h3⟩
    dsimp only at h2 h3
    refine ⟨(nI (i + 1), sup w 50 (77 * a + i) (σ.1 42 i)), ?_, rfl, h2.same FE_supC, ?_⟩
    · show fX11_image_B30 (nI a) (nI i) w = _
      unfold fX11_image_B30
      rw [show (77 : Int32) = nI 77 from rfl, if_neg (by rw [nI_leI (by omega) (by omega)]; omega), gd_t (b77 hi), pk_mul, nI_add, gd_t (b154 (by omega)), sa_nI _ _ _ _ (by omega), ga_nI _ _ _ (by omega), h2 42 i (by decide) (by simp), nI_1]
    · intro j
      show (sup w 50 (77 * a + i) (σ.1 42 i)).1 50 j = _
      rw [sup_at, h3 j]
      by_cases hj : j = 77 * a + i
      · rw [if_pos ⟨rfl, hj⟩, if_pos (by omega), show j - 77 * a = i by omega]
      · rw [if_neg (fun z => hj z.2)]
        by_cases hj2 : 77 * a ≤ j ∧ j < 77 * a + i
        · rw [if_pos hj2, if_pos (by omega)]
        · rw [if_neg hj2, if_neg (by omega)]
  · rintro ⟨x, w⟩ ⟨rfl, h2, h3⟩
    refine ⟨w, ?_, h2, h3⟩
    show fX11_image_B30 (nI a) (nI 77) w = _
    unfold fX11_image_B30
    rw [if_pos (by decide)]
theorem restore_m {a : Nat} (ha : a < 2) (σ : Sg) : ∃ τ, lpO (fun w : Int32 × Sg => fX11_restore_B32 (nI a) w.1 w.2) FUEL (0, σ) = some τ ∧ FE [42] [] σ τ ∧ ∀ j, j < 77 → τ.1 42 j = σ.1 50 (77 * a + j) := by
  refine lp_for (P := fun i (w : Int32 × Sg) => w.1 = nI i ∧ FE [42] [] σ w.2 ∧ ∀ j, j < i → w.2.1 42 j = σ.1 50 (77 * a + j)) 77 (by omega) ⟨rfl, FE.refl _ _ _, fun j hj => absurd hj (Nat.not_lt_zero _)⟩ ?_ ?_
  · rintro i ⟨x, w⟩ hi ⟨rfl, h2, h3⟩
    dsimp only at h2 h3
    refine ⟨(nI (i + 1), sup w 42 i (σ.1 50 (77 * a + i))), ?_, rfl, h2.same FE_supC, ?_⟩
    · show fX11_restore_B32 (nI a) (nI i) w = _
      unfold fX11_restore_B32
      rw [show (77 : Int32) = nI 77 from rfl, if_neg (by rw [nI_leI (by omega) (by omega)]; omega), pk_mul, nI_add, gd_t (b154 (by omega)), gd_t (b77 hi), sa_nI _ _ _ _ (by omega), ga_nI _ _ _ (by omega), h2 50 _ (by decide) (by simp), nI_1]
    · intro j hj
      show (sup w 42 i (σ.1 50 (77 * a + i))).1 42 j = _
      rw [sup_at]
      by_cases hj2 : j = i
      · subst hj2; rw [if_pos ⟨rfl, rfl⟩]
      · rw [if_neg (fun z => hj2 z.2)]; exact h3 j (by omega)
  · rintro ⟨x, w⟩ ⟨rfl, h2, h3⟩
    refine ⟨w, ?_, h2, h3⟩
    show fX11_restore_B32 (nI a) (nI 77) w = _
    unfold fX11_restore_B32
    rw [if_pos (by decide)]
theorem FE_img {b : Nat → Bool} {σ : Sg} (a : Nat) (ha : a < 2) : FE [52 + 7 * a, 53 + 7 * a, 54 + 7 * a, 55 + 7 * a, 56 + 7 * a, 57 + 7 * a, 58 + 7 * a] [] σ (img b a σ) := by
  intro d j hd _
  unfold img
  by_cases c : b a = true
  · rw [if_pos c]
  · rw [if_neg c]
    unfold zer
    show (if 52 + 7 * a ≤ d ∧ d < 59 + 7 * a then fun _ => (0 : Int32) else σ.1 d) j = _
    rw [if_neg]
    intro z
    apply hd
    simp
    omega
/-- an image taken -/
theorem image_fin {k : Nat} {b : Nat → Bool} {W : Nat → Nat} {a : Nat} (ha : a < 2) {σ υ : Sg} (hI : Inv k b σ) (hB : WBd k W) (h7 : σ.1 38 7 = 1) (h80 : σ.1 8 0 = 1) (hT : TRep σ 8 W) (hS : SRep (σ.1 14) 0 W) (hM : MRep (σ.1 42) W) (f : FE [52 + 7 * a, 53 + 7 * a, 54 + 7 * a, 55 + 7 * a, 56 + 7 * a, 57 + 7 * a, 58 + 7 * a, 50, 49] [(38, 0)] σ υ) (hc : Cpy (52 + 7 * a) 8 σ υ) (h50 : ∀ j, υ.1 50 j = if 77 * a ≤ j ∧ j < 77 * a + 77 then σ.1 42 (j - 77 * a) else σ.1 50 j) (h49 : ∀ j, υ.1 49 j = if j = a then 1 else σ.1 49 j) : Inv (k + 1) (fun i => decide (i = a) || b i) υ := by
  have h5 := hB.2.2.1
  have h9 := hB.2.2.2.1
  have hU := hI.up
  have f' : FE [52, 53, 54, 55, 56, 57, 58, 59, 60, 61, 62, 63, 64, 65, 50, 49] [(38, 0)] σ υ := by
    refine f.up (fun d hd => ?_) (fun q hq => Or.inl hq)
    simp only [List.mem_cons, List.mem_nil_iff, or_false] at hd ⊢
    omega
  have e7 : υ.1 38 7 = 1 := (f' 38 7 (by decide) (by simp)).trans h7
  refine ⟨hU.1.fr f' (by decide), hU.2.1.fr f' (by decide), hU.2.2.1.fr f' (by decide), hU.2.2.2.1.fr f' (by decide), ?_, ?_⟩
  · obtain ⟨⟨t, W', w1, n, s, V, w2⟩, _⟩ := hU.2.2.2.2
    exact ⟨t, W', w1.fr f' (by decide), n, s, V, w2.fr f' (by decide)⟩
  · intro j hj
    by_cases c : j = a
    · subst c
      refine ⟨by rw [h49, if_pos rfl]; simp, fun _ => ⟨e7, W, hB.up, ?_, hc.trep h5 h9 hT, ?_, ?_⟩⟩
      · rw [hc.1 0 (by omega)]; exact h80
      · have := hc.srep h9 hS
        rw [show 52 + 7 * j + 6 = 58 + 7 * j by omega] at this
        exact this
      · refine hM.cong h5 h9 (fun i hi => ?_)
        rw [h50, if_pos (by omega), show 77 * j + i - 77 * j = i by omega]
    · obtain ⟨i1, i2⟩ := hU.2.2.2.2.2 j hj
      have eb : (decide (j = a) || b j) = b j := by simp [c]
      refine ⟨by rw [h49, if_neg c]; simp only [eb]; exact i1, fun hb => ?_⟩
      dsimp only at hb
      rw [eb] at hb
      obtain ⟨_, W', v1, v2, v3, v4, v5⟩ := i2 hb
      have key : ∀ i, i < 7 → υ.1 (52 + 7 * j + i) = σ.1 (52 + 7 * j + i) := fun i hi => funext fun z => f _ z (by simp; omega) (by simp; omega)
      refine ⟨e7, W', v1, ?_, ?_, ?_, ?_⟩
      · have := key 0 (by omega)
        rw [Nat.add_zero] at this
        rw [this]; exact v2
      · unfold TRep at v3 ⊢
        have k0 := key 0 (by omega)
        rw [Nat.add_zero] at k0
        rw [k0, key 1 (by omega), key 2 (by omega), key 3 (by omega), key 4 (by omega), key 5 (by omega)]
        exact v3
      · have := key 6 (by omega)
        rw [show 52 + 7 * j + 6 = 58 + 7 * j by omega] at this
        rw [this]; exact v4
      · refine v5.cong v1.2.2.1 v1.2.2.2.1 (fun i hi => ?_)
        rw [h50, if_neg (by omega)]
theorem ok_image : OK_image Inv := by
  intro k b σ a1 hk hI
  obtain ⟨⟨t, W, ⟨t1, wt, wm, w0, hB, hT, hS, hM⟩, _⟩, _⟩ := hI.2.2.2.2
  have e := small_in a1 1 (by omega)
  rw [show (nI 1).toInt64 = (1 : Int64) from rfl] at e
  by_cases h : ∃ j, j ≤ 1 ∧ a1 = nI j
  rotate_left
  · have hb : imgB b a1 σ = b := by
      unfold imgB
      by_cases c : a1 < 0
      · rw [if_pos c]
      · rw [if_neg c, if_neg]
        have := (small_no (by omega) h).resolve_left c
        have z1 : (nI 1).toInt = 1 := rfl
        have z2 : (2 : Int32).toInt = 2 := rfl
        rw [fa_lt] at this ⊢; omega
    rw [hb]
    refine ⟨(-1000001, σ), (-1000001, sup σ 38 0 0), ?_, ?_, rfl, hI.up.thr 0⟩
    · unfold fX10_image
      by_cases c : a1 < 0
      · rw [if_pos c]
      · rw [if_neg c, if_neg]
        have := (small_no (by omega) h).resolve_left c
        have z1 : (nI 1).toInt = 1 := rfl
        have z2 : (2 : Int32).toInt = 2 := rfl
        rw [fa_lt] at this ⊢; omega
    · show fX11_image a1 σ = _
      unfold fX11_image
      simp only [in_spec, e, Option.bind_some]
      rw [if_neg h, if_pos rfl]
  obtain ⟨a, ha, rfl⟩ := h
  have c0 : ¬ nI a < 0 := nI_pos (by omega)
  have c2 : nI a < (2 : Int32) := (nI_ltI (b := 2) (by omega) (by omega)).mpr (by omega)
  by_cases ht : t = 0
  · subst ht
    have hb : imgB b (nI a) σ = b := by
      unfold imgB
      rw [if_neg c0, if_pos c2, if_pos (show gf σ 8 0 = 0 from wt)]
    rw [hb]
    refine ⟨(-1000002, σ), (-1000002, sup σ 38 0 0), ?_, ?_, rfl, hI.up.thr 0⟩
    · unfold fX10_image
      rw [if_neg c0, if_pos c2, if_pos (show gf σ 8 0 = 0 from wt)]
    · show fX11_image (nI a) σ = _
      unfold fX11_image
      simp only [in_spec, e, Option.bind_some]
      rw [if_pos (show ∃ j, j ≤ 1 ∧ nI a = nI j from ⟨a, ha, rfl⟩), if_neg one_ne, if_pos (show gf (sup σ 38 0 0) 38 7 = 0 from wm)]
  have t1' : t = 1 := by omega
  subst t1'
  have n80 : ¬ gf σ 8 0 = 0 := by rw [gf_eq, wt]; decide
  have hb : imgB b (nI a) σ = fun i => decide (i = a) || b i := by
    unfold imgB
    rw [if_neg c0, if_pos c2, if_neg n80, nI_clamp (by omega)]
  rw [hb]
  have main : ∀ τ : Sg, FE [52 + 7 * a, 53 + 7 * a, 54 + 7 * a, 55 + 7 * a, 56 + 7 * a, 57 + 7 * a, 58 + 7 * a] [] σ τ → Cpy (52 + 7 * a) 8 σ τ → ∃ q2, fX11_image (nI a) τ = some q2 ∧ 1 = q2.1 ∧ Inv (k + 1) (fun i => decide (i = a) || b i) q2.2 := by
    intro τ f1 f2
    obtain ⟨ρ, r1, r2, r3⟩ := image_m (a := a) (by omega) (sup τ 38 0 0)
    have m7 : gf (sup τ 38 0 0) 38 7 = nI 1 := by rw [gf_eq, sup_at, if_neg (by decide), f1 38 7 (by simp; omega) (by simp)]; exact wm
    have fF : FE [52 + 7 * a, 53 + 7 * a, 54 + 7 * a, 55 + 7 * a, 56 + 7 * a, 57 + 7 * a, 58 + 7 * a, 50, 49] [(38, 0)] σ (sup ρ 49 a (vp_nar .boolean 1)) := ((f1.trans (FE_sup (c := 38) (j := 0) (v := 0))).trans r2).trans FE_supC
    refine ⟨(1, sup ρ 49 a (vp_nar .boolean 1)), ?_, rfl, image_fin (by omega) hI hB wm wt hT hS hM fF ?_ ?_ ?_⟩
    · unfold fX11_image
      simp only [in_spec, e, Option.bind_some]
      rw [if_pos (show ∃ j, j ≤ 1 ∧ nI a = nI j from ⟨a, ha, rfl⟩), if_neg one_ne, m7, if_neg (by decide), r1]
      simp only [Option.bind_some]
      rw [gd_t (b2 (by omega)), sa_nI _ _ _ _ (by omega)]
    · have g : ∀ i, i < 7 → ∀ j, (sup ρ 49 a (vp_nar .boolean 1)).1 (52 + 7 * a + i) j = τ.1 (52 + 7 * a + i) j := by
        intro i hi j
        rw [sup_ne (by omega), r2 _ j (by simp; omega) (by simp), sup_ne (by omega)]
      obtain ⟨x0, x1, x2, x3, x4, x5, x6⟩ := f2
      exact ⟨fun j hj => (g 0 (by omega) j).trans (x0 j hj), fun j hj => (g 1 (by omega) j).trans (x1 j hj), fun j hj => (g 2 (by omega) j).trans (x2 j hj), fun j hj => (g 3 (by omega) j).trans (x3 j hj), fun j hj => (g 4 (by omega) j).trans (x4 j hj), fun j hj => (g 5 (by omega) j).trans (x5 j hj), fun j hj => (g 6 (by omega) j).trans (x6 j hj)⟩
    · intro j
      have e50 : (sup τ 38 0 0).1 50 j = σ.1 50 j := f1 50 j (by simp; omega) (by simp)
      have e42 : ∀ j, (sup τ 38 0 0).1 42 j = σ.1 42 j := fun j => f1 42 j (by simp; omega) (by simp)
      rw [sup_ne (by omega), r3, e50, e42]
    · intro j
      have e49 : ρ.1 49 j = σ.1 49 j := (r2 49 j (by decide) (by simp)).trans (f1 49 j (by simp; omega) (by simp))
      rw [sup_at, e49]
      by_cases c : j = a
      · rw [if_pos ⟨rfl, c⟩, if_pos c]; rfl
      · rw [if_neg (fun z => c z.2), if_neg c]
  have cpyI : ∀ (τ : Sg), Cpy (52 + 7 * a) 8 (img b a σ) τ → Cpy (52 + 7 * a) 8 σ τ := by
    intro τ h
    have g : ∀ c, c < 50 → ∀ j, (img b a σ).1 c j = σ.1 c j := fun c hc j => FE_img a (by omega) c j (by simp; omega) (by simp)
    obtain ⟨x0, x1, x2, x3, x4, x5, x6⟩ := h
    exact ⟨fun j hj => (x0 j hj).trans (g _ (by omega) _), fun j hj => (x1 j hj).trans (g _ (by omega) _), fun j hj => (x2 j hj).trans (g _ (by omega) _), fun j hj => (x3 j hj).trans (g _ (by omega) _), fun j hj => (x4 j hj).trans (g _ (by omega) _), fun j hj => (x5 j hj).trans (g _ (by omega) _), fun j hj => (x6 j hj).trans (g _ (by omega) _)⟩
  have i80 : (img b a σ).1 8 0 = 0 ∨ (img b a σ).1 8 0 = 1 := Or.inr ((FE_img a (by omega) 8 0 (by simp; omega) (by simp)).trans wt)
  have : a = 0 ∨ a = 1 := by omega
  rcases this with rfl | rfl
  · obtain ⟨τ, p1, p2, p3⟩ := becomeAs_52_8_spec i80
    obtain ⟨q2, y1, y2, y3⟩ := main τ ((FE_img 0 (by omega)).same p2) (cpyI τ p3)
    refine ⟨(1, τ), q2, ?_, y1, y2, y3⟩
    unfold fX10_image
    rw [if_neg c0, if_pos c2, if_neg n80, if_pos (show nI 0 = (0 : Int32) from rfl), p1]
    rfl
  · obtain ⟨τ, p1, p2, p3⟩ := becomeAs_59_8_spec i80
    obtain ⟨q2, y1, y2, y3⟩ := main τ ((FE_img 1 (by omega)).same p2) (cpyI τ p3)
    refine ⟨(1, τ), q2, ?_, y1, y2, y3⟩
    unfold fX10_image
    rw [if_neg c0, if_pos c2, if_neg n80, if_neg (show ¬ nI 1 = (0 : Int32) by decide), p1]
    rfl
/-- a walk taken anew: the acts are forgotten -/
theorem fresh_fin {k : Nat} {b : Nat → Bool} {W : Nat → Nat} {σ υ : Sg} (hI : Inv k b σ) {ms : List Nat} {es : List (Nat × Nat)} (f : FE ms es σ υ) (f1 : ffr [2, 3, 4, 39, 40, 41] [] ms es = true) (f2 : ffr [7, 45] [(6, 1), (38, 11)] ms es = true ∨ TRel υ) (f3 : FRel υ) (f4 : ffr [37, 51] [(36, 1), (38, 28)] ms es = true) (f5 : ffr [49, 50, 52, 53, 54, 55, 56, 57, 58, 59, 60, 61, 62, 63, 64, 65] [] ms es = true) (e7 : υ.1 38 7 = 1) (e8 : υ.1 8 0 = 1) (hB : WBd (k + 1) W) (hT : TRep υ 8 W) (hS : SRep (υ.1 14) 0 W) (hM : MRep (υ.1 42) W) (a1 : υ.1 23 2 = 0) (a2 : υ.1 38 9 = 0) (a3 : υ.1 23 1 = σ.1 23 1) : Inv (k + 1) b υ := by
  have hU := hI.up
  refine ⟨hU.1.fr f f1, ?_, f3, hU.2.2.2.1.fr f f4, ⟨1, W, ⟨Nat.le_refl _, e8, e7, fun z => by omega, hB, hT, hS, hM⟩, ?_⟩, ?_⟩
  · rcases f2 with g | g
    · exact hU.2.1.fr f g
    · exact g
  · obtain ⟨⟨t, W', w1, n, s, V, w2⟩, _⟩ := hU.2.2.2.2
    exact ⟨0, s, V, by omega, w2.2.1, a1, a3.trans w2.2.2.2.1, a2, fun i hi => absurd hi (Nat.not_lt_zero _)⟩
  · -- the images stay
    intro j hj
    obtain ⟨h1, h2⟩ := hU.2.2.2.2.2 j hj
    have e49 := ffr_c f f5 (d := 49) (by decide)
    have e50 := ffr_c f f5 (d := 50) (by decide)
    refine ⟨by rw [e49]; exact h1, fun hb => ?_⟩
    obtain ⟨w0, W', v1, v2, v3, v4, v5⟩ := h2 hb
    have key : ∀ i, i < 7 → υ.1 (52 + 7 * j + i) = σ.1 (52 + 7 * j + i) := by
      intro i hi
      have hm : 52 + 7 * j + i ∈ [49, 50, 52, 53, 54, 55, 56, 57, 58, 59, 60, 61, 62, 63, 64, 65] := by
        have key2 : ∀ j, j < 2 → ∀ i, i < 7 → 52 + 7 * j + i ∈ [49, 50, 52, 53, 54, 55, 56, 57, 58, 59, 60, 61, 62, 63, 64, 65] := by decide
        exact key2 j hj i hi
      exact ffr_c f f5 hm
    refine ⟨e7, W', v1, ?_, ?_, ?_, ?_⟩
    · have := key 0 (by omega)
      rw [Nat.add_zero] at this
      rw [this]; exact v2
    · unfold TRep at v3 ⊢
      have k0 := key 0 (by omega)
      rw [Nat.add_zero] at k0
      rw [k0, key 1 (by omega), key 2 (by omega), key 3 (by omega), key 4 (by omega), key 5 (by omega)]
      exact v3
    · have := key 6 (by omega)
      rw [show 52 + 7 * j + 6 = 58 + 7 * j by omega] at this
      rw [this]; exact v4
    · rw [e50]; exact v5
theorem ok_restore : OK_restore Inv := by
  intro k b σ a1 hk hI
  have e := small_in a1 1 (by omega)
  rw [show (nI 1).toInt64 = (1 : Int64) from rfl] at e
  by_cases h : ∃ j, j ≤ 1 ∧ a1 = nI j
  rotate_left
  · refine ⟨(-1000001, σ), (-1000001, sup σ 38 0 0), ?_, ?_, rfl, hI.up.thr 0⟩
    · unfold fX10_restore
      by_cases c : a1 < 0
      · rw [if_pos c]
      · rw [if_neg c, if_neg]
        have := (small_no (by omega) h).resolve_left c
        have z1 : (nI 1).toInt = 1 := rfl
        have z2 : (2 : Int32).toInt = 2 := rfl
        rw [fa_lt] at this ⊢; omega
    · show fX11_restore a1 σ = _
      unfold fX11_restore
      simp only [in_spec, e, Option.bind_some]
      rw [if_neg h, if_pos rfl]
  obtain ⟨a, ha, rfl⟩ := h
  have c0 : ¬ nI a < 0 := nI_pos (by omega)
  have c2 : nI a < (2 : Int32) := (nI_ltI (b := 2) (by omega) (by omega)).mpr (by omega)
  obtain ⟨i1, i2⟩ := hI.2.2.2.2.2 a (by omega)
  have mpre : ∀ τ : Sg, fX11_restore (nI a) τ = if τ.1 49 a = 0 then some (-1000002, sup τ 38 0 0) else (lpO (fun w => fX11_restore_B32 (nI a) w.1 w.2) FUEL (0, sup τ 38 0 0)).bind (fun o9 => some (1, sup o9 38 9 0)) := by
    intro τ
    unfold fX11_restore
    simp only [in_spec, e, Option.bind_some]
    rw [if_pos (show ∃ j, j ≤ 1 ∧ nI a = nI j from ⟨a, ha, rfl⟩), if_neg one_ne, gd_t (b2 (by omega)), ga_nI _ _ _ (by omega)]
    rfl
  by_cases hb : b a = true
  rotate_left
  · rw [if_neg hb] at i1
    refine ⟨(-1000002, σ), (-1000002, sup σ 38 0 0), ?_, ?_, rfl, hI.up.thr 0⟩
    · unfold fX10_restore
      rw [if_neg c0, if_pos c2]
      have : a = 0 ∨ a = 1 := by omega
      rcases this with rfl | rfl
      · rw [if_pos (show nI 0 = (0 : Int32) from rfl), if_neg hb]
      · rw [if_neg (show ¬ nI 1 = (0 : Int32) by decide), if_neg hb]
    · show fX11_restore (nI a) σ = _
      rw [mpre, if_pos i1]
  rw [if_pos hb] at i1
  obtain ⟨w0, W, v1, v2, v3, v4, v5⟩ := i2 hb
  have h5 := v1.2.2.1
  have h9 := v1.2.2.2.1
  have main : ∀ τ : Sg, FE [8, 9, 10, 11, 12, 13, 14] [] σ τ → Cpy 8 (52 + 7 * a) σ τ → ∃ q2, fX11_restore (nI a) (sup τ 23 2 0) = some q2 ∧ 1 = q2.1 ∧ Inv (k + 1) b q2.2 := by
    intro τ f1 f2
    obtain ⟨ρ, r1, r2, r3⟩ := restore_m (a := a) (by omega) (sup (sup τ 23 2 0) 38 0 0)
    have fF : FE [8, 9, 10, 11, 12, 13, 14, 42] [(23, 2), (38, 0), (38, 9)] σ (sup ρ 38 9 0) := (((f1.trans (FE_sup (c := 23) (j := 2) (v := 0))).trans (FE_sup (c := 38) (j := 0) (v := 0))).trans r2).trans FE_sup
    have g : ∀ c j, 8 ≤ c → c ≤ 14 → (sup ρ 38 9 0).1 c j = τ.1 c j := fun c j h1 h2 => by
      rw [sup_ne (by omega), r2 c j (by simp; omega) (by simp), sup_ne (by omega), sup_ne (by omega)]
    refine ⟨(1, sup ρ 38 9 0), ?_, rfl, fresh_fin (W := W) hI fF (by decide) (Or.inl (by decide)) (hI.2.2.1.fr fF (by decide)) (by decide) (by decide) ?_ ?_ v1.up ?_ ?_ ?_ ?_ ?_ ?_⟩
    · rw [mpre, show (sup τ 23 2 0).1 49 a = σ.1 49 a from f1 49 a (by decide) (by simp), i1, if_neg (by decide), r1]
      rfl
    · rw [fF 38 7 (by decide) (by simp)]; exact w0
    · rw [g 8 0 (by omega) (by omega), f2.1 0 (by omega)]; exact v2
    · have t := f2.trep h5 h9 v3
      unfold TRep at t ⊢
      show _ ∧ _ ∧ _ ∧ _ ∧ (∀ p, p < W 2 → (sup ρ 38 9 0).1 9 p = _ ∧ (sup ρ 38 9 0).1 10 p = _) ∧ ∀ y, y < W 3 → (sup ρ 38 9 0).1 11 y = _ ∧ (sup ρ 38 9 0).1 12 y = _ ∧ (sup ρ 38 9 0).1 13 y = _
      simp only [g 8 _ (by omega) (by omega), g 9 _ (by omega) (by omega), g 10 _ (by omega) (by omega), g 11 _ (by omega) (by omega), g 12 _ (by omega) (by omega), g 13 _ (by omega) (by omega)]
      exact t
    · rw [show (sup ρ 38 9 0).1 14 = τ.1 14 from funext fun j => g 14 j (by omega) (by omega)]
      have v4' : SRep (σ.1 (52 + 7 * a + 6)) 0 W := by rw [show 52 + 7 * a + 6 = 58 + 7 * a by omega]; exact v4
      exact f2.srep h9 v4'
    · refine v5.cong h5 h9 (fun j hj => ?_)
      rw [sup_ne (by decide), r3 j hj, sup_ne (by decide), sup_ne (by decide), f1 50 _ (by decide) (by simp)]
    · rw [sup_ne (by decide), r2 23 2 (by decide) (by simp), sup_ne (by decide), sup_at, if_pos ⟨rfl, rfl⟩]
    · rw [sup_at, if_pos ⟨rfl, rfl⟩]
    · rw [fF 23 1 (by decide) (by simp)]
  have : a = 0 ∨ a = 1 := by omega
  rcases this with rfl | rfl
  · obtain ⟨τ, p1, p2, p3⟩ := becomeAs_8_52_spec (Or.inr v2)
    obtain ⟨q2, y1, y2, y3⟩ := main τ p2 p3
    refine ⟨(1, sup τ 23 2 0), q2, ?_, y1, y2, y3⟩
    unfold fX10_restore
    rw [if_neg c0, if_pos c2, if_pos (show nI 0 = (0 : Int32) from rfl), if_pos hb, p1]
    rfl
  · obtain ⟨τ, p1, p2, p3⟩ := becomeAs_8_59_spec (Or.inr v2)
    obtain ⟨q2, y1, y2, y3⟩ := main τ p2 p3
    refine ⟨(1, sup τ 23 2 0), q2, ?_, y1, y2, y3⟩
    unfold fX10_restore
    rw [if_neg c0, if_pos c2, if_neg (show ¬ nI 1 = (0 : Int32) by decide), if_pos hb, p1]
    rfl
