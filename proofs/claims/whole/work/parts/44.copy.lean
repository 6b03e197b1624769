theorem laneOf_spec {r : Nat} (hr : r < 8) (σ : Sg) : fX7_laneOf (nI r) σ = some (σ.1 2 r) := by
  unfold fX7_laneOf
  rw [gd_t (b8 hr), ga_nI _ _ _ (by omega)]
theorem cp_step {a i b j n at_ q : Nat} (ha : 40 * a + i + at_ < 320) (hb : 40 * b + j + at_ < 320) (v6 : Int32) (σ : Sg) : fX11_copy_J167 (nI a) (nI i) (nI b) (nI j) (nI n) v6 (nI q) (nI at_) σ = some (.inl (nI (q + 1), sup σ 41 (40 * b + j + at_) (σ.1 41 (40 * a + i + at_)))) := by
  unfold fX11_copy_J167
  rw [show (40 : Int32) = nI 40 from rfl, pk_mul, pk_mul, nI_add, nI_add, nI_add, nI_add, gd_t (b320 ha), gd_t (b320 hb), sa_nI _ _ _ _ (by omega), ga_nI _ _ _ (by omega), nI_1]
/-- up: the places are filled from the first on -/
theorem cp_up {a i b j n : Nat} (ha : 40 * a + i + n ≤ 320) (hb : 40 * b + j + n ≤ 320) (hne : ∀ s t, s < t → t < n → 40 * b + j + s ≠ 40 * a + i + t) (σ : Sg) : ∃ τ, lpO (fun w : Int32 × Sg => fX11_copy_B143 (nI a) (nI i) (nI b) (nI j) (nI n) 1 w.1 w.2) FUEL (0, σ) = some τ ∧ FE [41] [] σ τ ∧ ∀ z, τ.1 41 z = if 40 * b + j ≤ z ∧ z < 40 * b + j + n then σ.1 41 (40 * a + i + (z - (40 * b + j))) else σ.1 41 z := by
  refine lp_for (P := fun q w => w.1 = nI q ∧ FE [41] [] σ w.2 ∧ ∀ z, w.2.1 41 z = if 40 * b + j ≤ z ∧ z < 40 * b + j + q then σ.1 41 (40 * a + i + (z - (40 * b + j))) else σ.1 41 z) n (by omega) ⟨rfl, FE.refl _ _ _, fun z => by rw [if_neg (by omega)]⟩ ?_ ?_
  · rintro q ⟨x, w⟩ hq ⟨rfl, h2, h3⟩
    dsimp only at h2 h3
    refine ⟨(nI (q + 1), sup w 41 (40 * b + j + q) (w.1 41 (40 * a + i + q))), ?_, rfl, h2.same FE_supC, ?_⟩
    · show fX11_copy_B143 (nI a) (nI i) (nI b) (nI j) (nI n) 1 (nI q) w = _
      unfold fX11_copy_B143
      rw [if_neg (by rw [nI_leI (by omega) (by omega)]; omega), if_neg (by decide), cp_step (by omega) (by omega)]
    · intro z
      show (sup w 41 (40 * b + j + q) (w.1 41 (40 * a + i + q))).1 41 z = _
      rw [sup_at]
      by_cases hz : z = 40 * b + j + q
      · rw [if_pos ⟨rfl, hz⟩, if_pos (by omega), h3, if_neg]
        · rw [show 40 * a + i + (z - (40 * b + j)) = 40 * a + i + q by omega]
        · rintro ⟨g1, g2⟩
          exact hne (40 * a + i + q - (40 * b + j)) q (by omega) hq (by omega)
      · rw [if_neg (fun y => hz y.2), h3]
        by_cases h9 : 40 * b + j ≤ z ∧ z < 40 * b + j + q
        · rw [if_pos h9, if_pos (by omega)]
        · rw [if_neg h9, if_neg (by omega)]
  · rintro ⟨x, w⟩ ⟨rfl, h2, h3⟩
    refine ⟨w, ?_, h2, h3⟩
    show fX11_copy_B143 (nI a) (nI i) (nI b) (nI j) (nI n) 1 (nI n) w = _
    unfold fX11_copy_B143
    rw [if_pos (by rw [nI_leI (by omega) (by omega)]; omega)]
theorem cp_down {a i b j n : Nat} (ha : 40 * a + i + n ≤ 320) (hb : 40 * b + j + n ≤ 320) (hne : ∀ s t, s < t → t < n → 40 * b + j + t ≠ 40 * a + i + s) (σ : Sg) : ∃ τ, lpO (fun w : Int32 × Sg => fX11_copy_B143 (nI a) (nI i) (nI b) (nI j) (nI n) 0 w.1 w.2) FUEL (0, σ) = some τ ∧ FE [41] [] σ τ ∧ ∀ z, τ.1 41 z = if 40 * b + j ≤ z ∧ z < 40 * b + j + n then σ.1 41 (40 * a + i + (z - (40 * b + j))) else σ.1 41 z := by
  refine lp_for (P := fun q w => w.1 = nI q ∧ FE [41] [] σ w.2 ∧ ∀ z, w.2.1 41 z = if 40 * b + j + (n - q) ≤ z ∧ z < 40 * b + j + n then σ.1 41 (40 * a + i + (z - (40 * b + j))) else σ.1 41 z) n (by omega) ⟨rfl, FE.refl _ _ _, fun z => by rw [if_neg (by omega)]⟩ ?_ ?_
  · rintro q ⟨x, w⟩ hq ⟨rfl, h2, h3⟩
    dsimp only at h2 h3
    refine ⟨(nI (q + 1), sup w 41 (40 * b + j + (n - 1 - q)) (w.1 41 (40 * a + i + (n - 1 - q)))), ?_, rfl, h2.same FE_supC, ?_⟩
    · show fX11_copy_B143 (nI a) (nI i) (nI b) (nI j) (nI n) 0 (nI q) w = _
      unfold fX11_copy_B143
      rw [if_neg (by rw [nI_leI (by omega) (by omega)]; omega), if_pos rfl, show (1 : Int32) = nI 1 from rfl, pk_sub (by omega), pk_sub (by omega), cp_step (by omega) (by omega)]
    · intro z
      show (sup w 41 (40 * b + j + (n - 1 - q)) (w.1 41 (40 * a + i + (n - 1 - q)))).1 41 z = _
      rw [sup_at]
      by_cases hz : z = 40 * b + j + (n - 1 - q)
      · rw [if_pos ⟨rfl, hz⟩, if_pos (by omega), h3, if_neg]
        · rw [show 40 * a + i + (z - (40 * b + j)) = 40 * a + i + (n - 1 - q) by omega]
        · rintro ⟨g1, g2⟩
          exact hne (n - 1 - q) (40 * a + i + (n - 1 - q) - (40 * b + j)) (by omega) (by omega) (by omega)
      · rw [if_neg (fun y => hz y.2), h3]
        by_cases h9 : 40 * b + j + (n - q) ≤ z ∧ z < 40 * b + j + n
        · rw [if_pos h9, if_pos (by omega)]
        · rw [if_neg h9, if_neg (by omega)]
  · rintro ⟨x, w⟩ ⟨rfl, h2, h3⟩
    refine ⟨w, ?_, h2, fun z => by rw [h3 z, Nat.sub_self, Nat.add_zero]⟩
    show fX11_copy_B143 (nI a) (nI i) (nI b) (nI j) (nI n) 0 (nI n) w = _
    unfold fX11_copy_B143
    rw [if_pos (by rw [nI_leI (by omega) (by omega)]; omega)]
theorem wide_sum (x y : Int32) (n : Nat) (hn : n ≤ 40) (hx : 0 ≤ x.toInt) (hy : 0 ≤ y.toInt) : (nI n).toInt64 < x.toInt64 + y.toInt64 ↔ (n : Int) < x.toInt + y.toInt := by
  have h1 := fb_rng x
  have h2 := fb_rng y
  rw [fa_lt64, fb_addL (by rw [Int32.toInt_toInt64, Int32.toInt_toInt64]; omega) (by rw [Int32.toInt_toInt64, Int32.toInt_toInt64]; omega), Int32.toInt_toInt64, Int32.toInt_toInt64, Int32.toInt_toInt64, nI_toInt (by omega)]
theorem mcopy_no {a b na nb ln lm : Nat} (ha : a < 8) (hb : b < 8) (hna : na ≤ 40) (hnb : nb ≤ 40) {i j n : Int32} (hp : ¬ (plc i n na ∧ plc j n nb)) {τ : Sg} (h40a : τ.1 40 a = nI na) (h40b : τ.1 40 b = nI nb) (hl : ln = lm) (g1 g2 : Option (Int32 × Sg)) : (if i < 0 then fX11_copy_J121 τ else if j < 0 then fX11_copy_J121 τ else if n < 0 then fX11_copy_J121 τ else gd (inb (nI a) 8) (if (0 : Int32) < lg_cmp (i.toInt64 + n.toInt64) ((ga τ 40 (nI a)).toInt64) then fX11_copy_J121 τ else gd (inb (nI b) 8) (if lg_cmp (j.toInt64 + n.toInt64) ((ga τ 40 (nI b)).toInt64) ≤ 0 then (if i < j then g1 else g2) else fX11_copy_J121 τ))) = fX11_copy_J121 τ := by
  by_cases h1 : i < 0
  · rw [if_pos h1]
  rw [if_neg h1]
  by_cases h2 : j < 0
  · rw [if_pos h2]
  rw [if_neg h2]
  by_cases h3 : n < 0
  · rw [if_pos h3]
  rw [if_neg h3, gd_t (b8 ha), gd_t (b8 hb), ga_nI _ _ _ (by omega), ga_nI _ _ _ (by omega), h40a, h40b]
  rw [lt0_iff] at h1 h2 h3
  by_cases h4 : (0 : Int32) < lg_cmp (i.toInt64 + n.toInt64) (nI na).toInt64
  · rw [if_pos h4]
  rw [if_neg h4, if_neg]
  rw [lg_cmp_gt, wide_sum _ _ _ hna (by omega) (by omega)] at h4
  rw [lg_cmp_le, fa_le64]
  intro h5
  have : ¬ (nb : Int) < j.toInt + n.toInt := fun z => by
    have := (wide_sum j n nb hnb (by omega) (by omega)).mpr z
    rw [fa_lt64] at this
    omega
  unfold plc at hp
  omega
theorem ok_copy : OK_copy Inv := by
  intro k bb σ a1 a2 a3 a4 a5 _ hI
  unfold fX10_copy fX11_copy fX10_copy_J22 fX11_copy_J19
  simp only [isNumber_spec, isRow_spec, Option.bind_some]
  by_cases h1 : 0 ≤ a1 ∧ a1 ≤ 7
  rotate_left
  · simp only [h1, if_false]
    exact ⟨_, _, rfl, rfl, rfl, hI.up.thr 0⟩
  by_cases h2 : 0 ≤ a3 ∧ a3 ≤ 7
  rotate_left
  · simp only [h1, h2, and_self, if_true, show ¬ (1 : Int32) = 0 by decide, if_false]
    exact ⟨_, _, rfl, rfl, rfl, hI.up.thr 0⟩
  obtain ⟨a, ha, rfl⟩ := row_of h1
  obtain ⟨b, hb, rfl⟩ := row_of h2
  simp only [h1, h2, and_self, if_true, Option.bind_some, show ¬ (1 : Int32) = 0 by decide, if_false, isMissing_spec ha, isMissing_spec hb]
  have fnd : ∀ (x : Int32), (fX10_found x σ).bind (fun q => some (q.1, q.2)) = some ((-1000010) - x, sup σ 0 11 x) := fun _ => rfl
  have mfnd : ∀ (x : Int32) (τ : Sg), (fX11_finding x τ).bind (fun q => some (q.1, q.2)) = some ((-1000010) - x, sup τ 38 1 x) := fun _ _ => rfl
  unfold fX10_copy_J47 fX10_copy_J107
  simp only [fnd]
  have neg : ∀ τ : Sg, ∀ r, τ.1 39 r = -1 → τ.1 39 r < 0 := fun τ r h => by rw [h]; decide
  rcases hI.1 a ha with ⟨m1, m2⟩ | ⟨na, la, b1, b2, b3, b4, b5, b6, b7⟩
  · simp only [m1, if_true, show ¬ (1 : Int32) = 0 by decide, if_false]
    refine ⟨_, (-1000010 - 1, sup (sup (sup (sup σ 0 11 1) 38 0 0) 38 1 0) 38 1 1), rfl, ?_, rfl, hI.up.find 1 0⟩
    rw [gd_t (b8 ha), ga_nI _ _ _ (by omega), if_pos (neg (sup (sup (sup σ 0 11 1) 38 0 0) 38 1 0) a m2)]
    rfl
  have hne : ¬ σ.1 3 a = -1 := by rw [b3]; exact nI_m1 (by omega)
  simp only [hne, if_false, if_true]
  rcases hI.1 b hb with ⟨m1, m2⟩ | ⟨nb, lb, c1, c2, c3, c4, c5, c6, c7⟩
  · simp only [m1, if_true, show ¬ (1 : Int32) = 0 by decide, if_false]
    refine ⟨_, (-1000010 - 1, sup (sup (sup (sup σ 0 11 1) 38 0 0) 38 1 0) 38 1 1), rfl, ?_, rfl, hI.up.find 1 0⟩
    dsimp only
    have e39 : (sup (sup (sup σ 0 11 1) 38 0 0) 38 1 0).1 39 a = nI la := b6
    have f39 : (sup (sup (sup σ 0 11 1) 38 0 0) 38 1 0).1 39 b = -1 := m2
    generalize sup (sup (sup σ 0 11 1) 38 0 0) 38 1 0 = τ at e39 f39 ⊢
    rw [gd_t (b8 ha), ga_nI _ _ _ (by omega), e39, if_neg (nI_pos (by omega)), gd_t (b8 hb), ga_nI _ _ _ (by omega), f39, if_neg (by decide)]
    rfl
  have hne2 : ¬ σ.1 3 b = -1 := by rw [c3]; exact nI_m1 (by omega)
  simp only [hne2, if_false, if_true, laneOf_spec ha, laneOf_spec hb, Option.bind_some]
  have mid : ∀ (τ : Sg) (X : Option (Int32 × Sg)), τ.1 39 a = nI la → τ.1 39 b = nI lb → (gd (inb (nI a) 8) (if ga τ 39 (nI a) < 0 then fX11_copy_J45 τ else gd (inb (nI b) 8) (if (0 : Int32) ≤ ga τ 39 (nI b) then gd (inb (nI a) 8) (gd (inb (nI b) 8) (if ga τ 39 (nI a) = ga τ 39 (nI b) then X else (fX11_finding 5 τ).bind fun q => some (q.1, q.2))) else fX11_copy_J45 τ))) = if la = lb then X else some ((-1000010) - 5, sup τ 38 1 5) := by
    intro τ X e f
    rw [gd_t (b8 ha), ga_nI _ _ _ (by omega), e, if_neg (nI_pos (by omega)), gd_t (b8 hb), ga_nI _ _ _ (by omega), f, if_pos (nI_pos' (by omega)), gd_t (b8 ha), gd_t (b8 hb)]
    by_cases h : la = lb
    · subst h; rw [if_pos rfl, if_pos rfl]
    · rw [if_neg h, if_neg (fun z => h ((nI_eq (by omega) (by omega)).mp z))]
      rfl
  by_cases hl : la = lb
  rotate_left
  · have hl2 : ¬ σ.1 2 a = σ.1 2 b := by rw [b5, c5]; exact fun z => hl ((nI_eq (by omega) (by omega)).mp z)
    simp only [hl2, if_false]
    refine ⟨_, (-1000010 - 5, sup (sup (sup (sup σ 0 11 5) 38 0 0) 38 1 0) 38 1 5), rfl, ?_, rfl, hI.up.find 5 0⟩
    dsimp only
    rw [mid (sup (sup (sup σ 0 11 5) 38 0 0) 38 1 0) _ b6 c6, if_neg hl]
  have hl2 : σ.1 2 a = σ.1 2 b := by rw [b5, c5, hl]
  simp only [hl2, if_true]
  by_cases hp : plc a2 a5 na ∧ plc a4 a5 nb
  rotate_left
  · have hcl : ((fX7_hasPlaces (nI a) a2 a5 σ).bind fun q20 => if q20 = 0 then some ((-1000010 : Int32) - 2, sup σ 0 11 2) else (fX7_hasPlaces (nI b) a4 a5 σ).bind fun q25 => if q25 = 0 then some ((-1000010 : Int32) - 2, sup σ 0 11 2) else (fX7_move (nI a) a2 (nI b) a4 a5 σ).bind fun q28 => (fX10_foundNothing a5 q28).bind fun q30 => some (q30.1, q30.2)) = some ((-1000010 : Int32) - 2, sup σ 0 11 2) := by
      rcases plc_dec a2 a5 na with h | h
      · rw [hasPlaces_yes ha b1 b3 h]
        simp only [Option.bind_some, show ¬ (1 : Int32) = 0 by decide, if_false]
        rw [hasPlaces_no hb c1 c3 (fun z => hp ⟨h, z⟩)]
        rfl
      · rw [hasPlaces_no ha b1 b3 h]
        rfl
    rw [hcl]
    refine ⟨_, (-1000010 - 2, sup (sup (sup (sup σ 0 11 2) 38 0 0) 38 1 0) 38 1 2), rfl, ?_, rfl, hI.up.find 2 0⟩
    dsimp only
    rw [mid (sup (sup (sup σ 0 11 2) 38 0 0) 38 1 0) _ b6 c6, if_pos hl]
    have e40 : (sup (sup (sup σ 0 11 2) 38 0 0) 38 1 0).1 40 a = nI na := b4
    have f40 : (sup (sup (sup σ 0 11 2) 38 0 0) 38 1 0).1 40 b = nI nb := c4
    generalize sup (sup (sup σ 0 11 2) 38 0 0) 38 1 0 = τ at e40 f40 ⊢
    rw [mcopy_no ha hb b1 c1 hp e40 f40 hl]
    rfl
  obtain ⟨p1, p2⟩ := hp
  rw [hasPlaces_yes ha b1 b3 p1, hasPlaces_yes hb c1 c3 p2]
  obtain ⟨p11, p12, p13⟩ := p1
  obtain ⟨p21, p22, p23⟩ := p2
  obtain ⟨i, hi31, rfl⟩ := nI_of (x := a2) (by rw [lt0_iff]; omega)
  obtain ⟨j, hj31, rfl⟩ := nI_of (x := a4) (by rw [lt0_iff]; omega)
  obtain ⟨n, hn31, rfl⟩ := nI_of (x := a5) (by rw [lt0_iff]; omega)
  rw [nI_toInt hi31, nI_toInt hn31] at p13
  rw [nI_toInt hj31, nI_toInt hn31] at p23
  have hmv : fX7_move (nI a) (nI i) (nI b) (nI j) (nI n) σ = some (scel σ 4 (va_cpy (σ.1 4) (σ.1 4) (40 * a + i) (40 * b + j) n)) := by
    unfold fX7_move
    rw [show (40 : Int32) = nI 40 from rfl, pk_mul, pk_mul, nI_add, nI_add, gd_t]
    · unfold scp
      rw [nI_clamp (by omega), nI_clamp (by omega), nI_clamp (by omega), show a * 40 + i = 40 * a + i by omega, show b * 40 + j = 40 * b + j by omega]
    · unfold cpk
      apply decide_eq_true
      rw [nI_clamp (by omega), nI_clamp (by omega), nI_clamp (by omega)]
      exact ⟨nI_pos (by omega), nI_pos (by omega), nI_pos (by omega), by omega, by omega⟩
  simp only [Option.bind_some, show ¬ (1 : Int32) = 0 by decide, if_false, hmv, foundN_spec]
  have hloop : ∀ τ : Sg, ∃ υ, (if nI i < nI j then fX11_copy_J138 (nI a) (nI i) (nI b) (nI j) (nI n) 0 τ else fX11_copy_J138 (nI a) (nI i) (nI b) (nI j) (nI n) 1 τ) = some (nI n, υ) ∧ FE [41] [] τ υ ∧ ∀ z, υ.1 41 z = if 40 * b + j ≤ z ∧ z < 40 * b + j + n then τ.1 41 (40 * a + i + (z - (40 * b + j))) else τ.1 41 z := by
    intro τ
    unfold fX11_copy_J138
    by_cases hij : i < j
    · rw [if_pos ((nI_ltI hi31 hj31).mpr hij)]
      obtain ⟨υ, u1, u2, u3⟩ := cp_down (a := a) (i := i) (b := b) (j := j) (n := n) (by omega) (by omega) (by intro s t h3 h4 h5; rcases (by omega : a < b ∨ a = b ∨ b < a) with h | h | h <;> omega) τ
      exact ⟨υ, by rw [u1]; rfl, u2, u3⟩
    · rw [if_neg (fun z => hij ((nI_ltI hi31 hj31).mp z))]
      obtain ⟨υ, u1, u2, u3⟩ := cp_up (a := a) (i := i) (b := b) (j := j) (n := n) (by omega) (by omega) (by intro s t h3 h4 h5; rcases (by omega : a < b ∨ a = b ∨ b < a) with h | h | h <;> omega) τ
      exact ⟨υ, by rw [u1]; rfl, u2, u3⟩
  obtain ⟨υ, u1, u2, u3⟩ := hloop (sup (sup (sup (scel σ 4 (va_cpy (σ.1 4) (σ.1 4) (40 * a + i) (40 * b + j) n)) 0 11 0) 38 0 0) 38 1 0)
  refine ⟨_, (nI n, υ), rfl, ?_, rfl, ?_⟩
  · dsimp only
    rw [mid (sup (sup (sup (scel σ 4 (va_cpy (σ.1 4) (σ.1 4) (40 * a + i) (40 * b + j) n)) 0 11 0) 38 0 0) 38 1 0) _ b6 c6, if_pos hl]
    have e40 : (sup (sup (sup (scel σ 4 (va_cpy (σ.1 4) (σ.1 4) (40 * a + i) (40 * b + j) n)) 0 11 0) 38 0 0) 38 1 0).1 40 a = nI na := b4
    have f40 : (sup (sup (sup (scel σ 4 (va_cpy (σ.1 4) (σ.1 4) (40 * a + i) (40 * b + j) n)) 0 11 0) 38 0 0) 38 1 0).1 40 b = nI nb := c4
    generalize sup (sup (sup (scel σ 4 (va_cpy (σ.1 4) (σ.1 4) (40 * a + i) (40 * b + j) n)) 0 11 0) 38 0 0) 38 1 0 = τ at e40 f40 u1 ⊢
    rw [if_neg (nI_pos hi31), if_neg (nI_pos hj31), if_neg (nI_pos hn31), gd_t (b8 ha), ga_nI _ _ _ (by omega), e40, if_neg, gd_t (b8 hb), ga_nI _ _ _ (by omega), f40, if_pos]
    · exact u1
    · rw [lg_cmp_le, fa_le64]
      have h9 : ¬ (nI nb).toInt64 < (nI j).toInt64 + (nI n).toInt64 := fun z => by
        have := (wide_sum (nI j) (nI n) nb c1 p21 p22).mp z
        rw [nI_toInt hj31, nI_toInt hn31] at this
        omega
      rw [fa_lt64] at h9
      omega
    · rw [lg_cmp_gt, wide_sum _ _ _ b1 p11 p12, nI_toInt hi31, nI_toInt hn31]
      omega
  · have fsc : FE [4] [] σ (scel σ 4 (va_cpy (σ.1 4) (σ.1 4) (40 * a + i) (40 * b + j) n)) := fun d q hd _ => by rw [scel_ne (fun z => hd (by rw [z]; exact List.mem_singleton.mpr rfl))]
    have f1 : FE [4, 41] [(0, 11), (38, 0), (38, 1)] σ υ := (((fsc.trans FE_sup).trans FE_sup).trans FE_sup).trans u2
    have hU := hI.up
    refine ⟨?_, hU.2.1.fr f1 (by decide), ⟨?_, ?_⟩, hU.2.2.2.1.fr f1 (by decide), hU.2.2.2.2.fr f1 (by decide) (by decide) (by decide)⟩
    · have g2 := ffr_c (cs := [2, 3, 39, 40]) (en := []) f1 (by decide) (d := 2) (by decide)
      have g3 := ffr_c (cs := [2, 3, 39, 40]) (en := []) f1 (by decide) (d := 3) (by decide)
      have g39 := ffr_c (cs := [2, 3, 39, 40]) (en := []) f1 (by decide) (d := 39) (by decide)
      have g40 := ffr_c (cs := [2, 3, 39, 40]) (en := []) f1 (by decide) (d := 40) (by decide)
      have g4 : ∀ z, υ.1 4 z = va_cpy (σ.1 4) (σ.1 4) (40 * a + i) (40 * b + j) n z := by
        intro z
        rw [u2 4 z (by decide) (by simp), sup_ne (by decide), sup_ne (by decide), sup_ne (by decide), scel_same]
      have g41 : ∀ z, υ.1 41 z = if 40 * b + j ≤ z ∧ z < 40 * b + j + n then σ.1 41 (40 * a + i + (z - (40 * b + j))) else σ.1 41 z := by
        intro z
        rw [u3 z, sup_ne (by decide), sup_ne (by decide), sup_ne (by decide), scel_ne (by decide)]
      intro r2 hr2
      rw [g2, g3, g39, g40]
      rcases hI.1 r2 hr2 with h | ⟨n2, l2, d1, d2, d3, d4, d5, d6, d7⟩
      · exact Or.inl h
      · refine Or.inr ⟨n2, l2, d1, d2, d3, d4, d5, d6, fun q hq => ?_⟩
        rw [g4, g41]
        unfold va_cpy
        by_cases h : 40 * b + j ≤ 40 * r2 + q ∧ 40 * r2 + q < 40 * b + j + n
        · rw [if_pos h, if_pos h, Nat.add_assoc]
          exact b7 _ (by omega)
        · rw [if_neg h, if_neg h]
          exact d7 q hq
    · have e0 : υ.1 0 11 = 0 := by
        rw [u2 0 11 (by decide) (by simp), sup_ne (by decide), sup_ne (by decide), sup_at]; simp
      have e1 : υ.1 38 1 = 0 := by
        rw [u2 38 1 (by decide) (by simp), sup_at]; simp
      exact e0.trans e1.symm
    · rw [f1 0 10 (by decide) (by decide), f1 38 12 (by decide) (by decide)]
      exact hI.2.2.1.2
