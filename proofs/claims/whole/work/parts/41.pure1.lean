/-! which cells (ms) and places (es) a step may change -/
def FE (ms : List Nat) (es : List (Nat × Nat)) (σ τ : Sg) : Prop := ∀ d j, d ∉ ms → (d, j) ∉ es → τ.1 d j = σ.1 d j
theorem FE.refl (ms : List Nat) (es : List (Nat × Nat)) (σ : Sg) : FE ms es σ σ := fun _ _ _ _ => rfl
theorem FE.trans {ms ns : List Nat} {es fs : List (Nat × Nat)} {σ τ υ : Sg} (h : FE ms es σ τ) (h2 : FE ns fs τ υ) : FE (ms ++ ns) (es ++ fs) σ υ := fun d j hd he => by
  rw [h2 d j (fun z => hd (List.mem_append_right _ z)) (fun z => he (List.mem_append_right _ z)), h d j (fun z => hd (List.mem_append_left _ z)) (fun z => he (List.mem_append_left _ z))]
theorem FE.same {ms : List Nat} {es : List (Nat × Nat)} {σ τ υ : Sg} (h : FE ms es σ τ) (h2 : FE ms es τ υ) : FE ms es σ υ := fun d j hd he => (h2 d j hd he).trans (h d j hd he)
theorem FE.up {ms ns : List Nat} {es fs : List (Nat × Nat)} {σ τ : Sg} (h : FE ms es σ τ) (hs : ∀ d, d ∈ ms → d ∈ ns) (he : ∀ q, q ∈ es → q ∈ fs ∨ q.1 ∈ ns) : FE ns fs σ τ := fun d j hd hj => h d j (fun z => hd (hs d z)) (fun z => (he _ z).elim hj hd)
theorem FE_sup {σ : Sg} {c j : Nat} {v : Int32} : FE [] [(c, j)] σ (sup σ c j v) := fun d k _ he => by
  rw [sup_at, if_neg]
  rintro ⟨rfl, rfl⟩
  exact he (List.mem_singleton.mpr rfl)
theorem FE_supC {σ : Sg} {c j : Nat} {v : Int32} : FE [c] [] σ (sup σ c j v) := fun d k hd _ => by
  rw [sup_at, if_neg]
  rintro ⟨rfl, rfl⟩
  exact hd (List.mem_singleton.mpr rfl)
theorem FE_slg {ms : List Nat} {es : List (Nat × Nat)} {σ : Sg} {v : Int64} : FE ms es σ (slg σ v) := fun _ _ _ _ => rfl
def ffr (cs : List Nat) (en : List (Nat × Nat)) (ms : List Nat) (es : List (Nat × Nat)) : Bool := cs.all (fun d => decide (d ∉ ms) && decide (d ∉ es.map Prod.fst)) && en.all (fun q => decide (q.1 ∉ ms) && decide (q ∉ es))
theorem ffr_c {cs : List Nat} {en : List (Nat × Nat)} {ms : List Nat} {es : List (Nat × Nat)} {σ τ : Sg} (f : FE ms es σ τ) (h : ffr cs en ms es = true) {d : Nat} (hd : d ∈ cs) : τ.1 d = σ.1 d := by
  have h1 := List.all_eq_true.mp ((Bool.and_eq_true _ _).mp h).1 d hd
  simp only [Bool.and_eq_true, decide_eq_true_eq] at h1
  funext j
  exact f d j h1.1 (fun z => h1.2 (List.mem_map.mpr ⟨_, z, rfl⟩))
theorem ffr_e {cs : List Nat} {en : List (Nat × Nat)} {ms : List Nat} {es : List (Nat × Nat)} {σ τ : Sg} (f : FE ms es σ τ) (h : ffr cs en ms es = true) {d j : Nat} (hd : (d, j) ∈ en) : τ.1 d j = σ.1 d j := by
  have h1 := List.all_eq_true.mp ((Bool.and_eq_true _ _).mp h).2 _ hd
  simp only [Bool.and_eq_true, decide_eq_true_eq] at h1
  exact f d j h1.1 h1.2
/-! tests of numbers -/
theorem in_spec (a lo hi : Int64) (σ : Sg) : fX11_in a lo hi σ = some (if lo ≤ a ∧ a ≤ hi then 1 else 0) := by
  unfold fX11_in fX11_in_J17
  simp only [lg_cmp_lt, lg_cmp_gt]
  by_cases h1 : a < lo
  · rw [if_pos h1, if_neg]
    intro h
    rw [fa_lt64] at h1
    have := (fa_le64 _ _).mp h.1
    omega
  · rw [if_neg h1]
    by_cases h2 : hi < a
    · rw [if_pos h2, if_neg]
      intro h
      rw [fa_lt64] at h2
      have := (fa_le64 _ _).mp h.2
      omega
    · rw [if_neg h2, if_pos]
      rw [fa_lt64] at h1 h2
      rw [fa_le64, fa_le64]
      omega
theorem wide_in (x : Int32) (lo hi : Int32) : (lo.toInt64 ≤ x.toInt64 ∧ x.toInt64 ≤ hi.toInt64) ↔ (lo ≤ x ∧ x ≤ hi) := by rw [fa_wide_le, fa_wide_le]
theorem isRow_spec (a : Int32) (σ : Sg) : fX11_isRow a σ = some (if 0 ≤ a ∧ a ≤ 7 then 1 else 0) := by
  unfold fX11_isRow
  rw [in_spec]
  have e : ((0 : Int64) ≤ a.toInt64 ∧ a.toInt64 ≤ (7 : Int64)) ↔ (0 ≤ a ∧ a ≤ 7) := wide_in a 0 7
  simp only [e]
  by_cases h : 0 ≤ a ∧ a ≤ 7
  · simp only [h, and_self, if_true]; rfl
  · simp only [h, if_false]; rfl
theorem isNumber_spec (a : Int32) (σ : Sg) : fX7_isNumber a σ = some (if 0 ≤ a ∧ a ≤ 7 then 1 else 0) := by
  unfold fX7_isNumber fX7_isNumber_J14
  have z0 : (0 : Int32).toInt = 0 := rfl
  have z7 : (7 : Int32).toInt = 7 := rfl
  have z8 : (8 : Int32).toInt = 8 := rfl
  by_cases h : 0 ≤ a ∧ a ≤ 7
  · rw [if_pos h]
    simp only [fa_le, z0, z7] at h
    rw [if_neg (by rw [fa_lt]; omega), if_neg (by rw [fa_le]; omega)]
  · rw [if_neg h]
    simp only [fa_le, z0, z7] at h
    by_cases h1 : a < 0
    · rw [if_pos h1]
    · rw [if_neg h1]
      rw [fa_lt] at h1
      rw [if_pos (by rw [fa_le]; omega)]
theorem row_of {a : Int32} (h : 0 ≤ a ∧ a ≤ 7) : ∃ r, r < 8 ∧ a = nI r := by
  have z0 : (0 : Int32).toInt = 0 := rfl
  have z7 : (7 : Int32).toInt = 7 := rfl
  simp only [fa_le, z0, z7] at h
  obtain ⟨j, hj, rfl⟩ := nI_of (x := a) (by rw [fa_lt]; omega)
  rw [nI_toInt hj] at h
  exact ⟨j, by omega, rfl⟩
/-- the rows of both sides -/
def RRel (σ : Sg) : Prop := ∀ r, r < 8 → (σ.1 3 r = -1 ∧ σ.1 39 r = -1) ∨ ∃ n ln : Nat, n ≤ 40 ∧ ln < 3 ∧ σ.1 3 r = nI n ∧ σ.1 40 r = nI n ∧ σ.1 2 r = nI ln ∧ σ.1 39 r = nI ln ∧ ∀ j, j < n → σ.1 4 (40 * r + j) = σ.1 41 (40 * r + j)
/-- bytes told, and not read -/
def TRel (σ : Sg) : Prop := ∃ n, n ≤ 400 ∧ σ.1 6 1 = nI n ∧ σ.1 38 11 = nI n ∧ ∀ j, j < n → ∃ v, v < 256 ∧ σ.1 45 j = nI v ∧ σ.1 7 j = i2b (nI v)
def FRel (σ : Sg) : Prop := σ.1 0 11 = σ.1 38 1 ∧ σ.1 0 10 = σ.1 38 12
def XRel (σ : Sg) : Prop := ∃ n, n ≤ 16 ∧ σ.1 36 1 = nI n ∧ σ.1 38 28 = nI n ∧ ∀ j, j < n → σ.1 37 j = σ.1 51 j
/-- a walk in Nats: 0 hemp, 1 tar, 2 speakers, 3 yarns, 4 + 2p truth, 5 + 2p price; of yarn y at 14 + 7y: kind, who, length, strand and 1 (0 loose), how, worn, pitched -/
def WBd (k : Nat) (W : Nat → Nat) : Prop := W 0 ≤ 50 ∧ W 1 ≤ 20 ∧ W 2 ≤ 5 ∧ W 3 ≤ 9 ∧ (∀ p, p < W 2 → W (4 + 2 * p) ≤ 10 ∧ W (5 + 2 * p) ≤ 99) ∧ ∀ y, y < W 3 → (1 ≤ W (14 + 7 * y) ∧ W (14 + 7 * y) ≤ 5) ∧ W (15 + 7 * y) < W 2 ∧ (1 ≤ W (16 + 7 * y) ∧ W (16 + 7 * y) ≤ 9) ∧ W (17 + 7 * y) ≤ 3 ∧ W (18 + 7 * y) ≤ 2 ∧ W (19 + 7 * y) ≤ 5 * k ∧ W (20 + 7 * y) ≤ 1
/-- how the reference holds it -/
def MRep (w : Nat → Int32) (W : Nat → Nat) : Prop := w 0 = nI (W 0) ∧ w 1 = nI (W 1) ∧ w 2 = nI (W 2) ∧ w 3 = nI (W 3) ∧ (∀ p, p < W 2 → w (4 + 2 * p) = nI (W (4 + 2 * p)) ∧ w (5 + 2 * p) = nI (W (5 + 2 * p))) ∧ ∀ y, y < W 3 → w (14 + 7 * y) = nI (W (14 + 7 * y)) ∧ w (15 + 7 * y) = nI (W (15 + 7 * y)) ∧ w (16 + 7 * y) = nI (W (16 + 7 * y)) ∧ w (17 + 7 * y) = nI (W (17 + 7 * y)) - 1 ∧ w (18 + 7 * y) = nI (W (18 + 7 * y)) ∧ w (19 + 7 * y) = nI (W (19 + 7 * y)) ∧ w (20 + 7 * y) = nI (W (20 + 7 * y))
/-- what acts change, as the class holds it in a row from o on -/
def SRep (s : Nat → Int32) (o : Nat) (W : Nat → Nat) : Prop := ∀ y, y < W 3 → s (o + y) = nI (W (17 + 7 * y)) - 1 ∧ s (o + 9 + y) = nI (W (18 + 7 * y)) ∧ s (o + 18 + y) = nI (W (19 + 7 * y)) ∧ s (o + 27 + y) = nI (W (20 + 7 * y))
/-- what the text told, as the class holds it -/
def TRep (σ : Sg) (b : Nat) (W : Nat → Nat) : Prop := σ.1 b 1 = nI (W 0) ∧ σ.1 b 2 = nI (W 1) ∧ σ.1 b 3 = nI (W 2) ∧ σ.1 b 4 = nI (W 3) ∧ (∀ p, p < W 2 → σ.1 (b + 1) p = nI (W (4 + 2 * p)) ∧ σ.1 (b + 2) p = nI (W (5 + 2 * p))) ∧ ∀ y, y < W 3 → σ.1 (b + 3) y = nI (W (14 + 7 * y)) ∧ σ.1 (b + 4) y = nI (W (15 + 7 * y)) ∧ σ.1 (b + 5) y = nI (W (16 + 7 * y))
/-- the same told: W and V differ in what acts change alone -/
def Same (W V : Nat → Nat) : Prop := W 0 = V 0 ∧ W 1 = V 1 ∧ W 2 = V 2 ∧ W 3 = V 3 ∧ (∀ p, p < W 2 → W (4 + 2 * p) = V (4 + 2 * p) ∧ W (5 + 2 * p) = V (5 + 2 * p)) ∧ ∀ y, y < W 3 → W (14 + 7 * y) = V (14 + 7 * y) ∧ W (15 + 7 * y) = V (15 + 7 * y) ∧ W (16 + 7 * y) = V (16 + 7 * y)
/-- the walk of both sides, told or not -/
def WRel (k : Nat) (t : Nat) (W : Nat → Nat) (σ : Sg) : Prop := t ≤ 1 ∧ σ.1 8 0 = nI t ∧ σ.1 38 7 = nI t ∧ (t = 0 → W 2 = 0 ∧ W 3 = 0) ∧ WBd k W ∧ TRep σ 8 W ∧ SRep (σ.1 14) 0 W ∧ MRep (σ.1 42) W
/-- the acts of both sides: V i is the walk ahead of act i, the oldest first; the class has a ring -/
def ARel (k : Nat) (n s : Nat) (W : Nat → Nat) (V : Nat → Nat → Nat) (σ : Sg) : Prop := n ≤ 24 ∧ s < 24 ∧ σ.1 23 2 = nI n ∧ σ.1 23 1 = nI s ∧ σ.1 38 9 = nI n ∧ ∀ i, i < n → Same W (V i) ∧ WBd k (V i) ∧ MRep (fun j => σ.1 44 (77 * i + j)) (V i) ∧ SRep (σ.1 24) (36 * ((s + 24 - n + i) % 24)) (V i)
/-- images of both sides -/
def IRel (k : Nat) (b : Nat → Bool) (σ : Sg) : Prop := ∀ j, j < 2 → σ.1 49 j = (if b j = true then 1 else 0) ∧ (b j = true → σ.1 38 7 = 1 ∧ ∃ W, WBd k W ∧ σ.1 (52 + 7 * j) 0 = 1 ∧ TRep σ (52 + 7 * j) W ∧ SRep (σ.1 (58 + 7 * j)) 0 W ∧ MRep (fun i => σ.1 50 (77 * j + i)) W)
def VRel (k : Nat) (b : Nat → Bool) (σ : Sg) : Prop := (∃ t W, WRel k t W σ ∧ ∃ n s V, ARel k n s W V σ) ∧ IRel k b σ
def Inv (k : Nat) (b : Nat → Bool) (σ : Sg) : Prop := RRel σ ∧ TRel σ ∧ FRel σ ∧ XRel σ ∧ VRel k b σ

theorem RRel.fr {ms : List Nat} {es : List (Nat × Nat)} {σ τ : Sg} (h : RRel σ) (f : FE ms es σ τ) (hf : ffr [2, 3, 4, 39, 40, 41] [] ms es = true) : RRel τ := by
  unfold RRel
  rw [ffr_c f hf (d := 2) (by decide), ffr_c f hf (d := 3) (by decide), ffr_c f hf (d := 4) (by decide), ffr_c f hf (d := 39) (by decide), ffr_c f hf (d := 40) (by decide), ffr_c f hf (d := 41) (by decide)]
  exact h
theorem TRel.fr {ms : List Nat} {es : List (Nat × Nat)} {σ τ : Sg} (h : TRel σ) (f : FE ms es σ τ) (hf : ffr [7, 45] [(6, 1), (38, 11)] ms es = true) : TRel τ := by
  unfold TRel
  rw [ffr_c f hf (d := 7) (by decide), ffr_c f hf (d := 45) (by decide), ffr_e f hf (d := 6) (j := 1) (by decide), ffr_e f hf (d := 38) (j := 11) (by decide)]
  exact h
theorem FRel.fr {ms : List Nat} {es : List (Nat × Nat)} {σ τ : Sg} (h : FRel σ) (f : FE ms es σ τ) (hf : ffr [] [(0, 11), (38, 1), (0, 10), (38, 12)] ms es = true) : FRel τ := by
  unfold FRel
  rw [ffr_e f hf (d := 0) (j := 11) (by decide), ffr_e f hf (d := 38) (j := 1) (by decide), ffr_e f hf (d := 0) (j := 10) (by decide), ffr_e f hf (d := 38) (j := 12) (by decide)]
  exact h
theorem XRel.fr {ms : List Nat} {es : List (Nat × Nat)} {σ τ : Sg} (h : XRel σ) (f : FE ms es σ τ) (hf : ffr [37, 51] [(36, 1), (38, 28)] ms es = true) : XRel τ := by
  unfold XRel
  rw [ffr_c f hf (d := 37) (by decide), ffr_c f hf (d := 51) (by decide), ffr_e f hf (d := 36) (j := 1) (by decide), ffr_e f hf (d := 38) (j := 28) (by decide)]
  exact h
theorem WRel.fr {k t : Nat} {W : Nat → Nat} {ms : List Nat} {es : List (Nat × Nat)} {σ τ : Sg} (h : WRel k t W σ) (f : FE ms es σ τ) (hf : ffr [8, 9, 10, 11, 12, 13, 14, 42] [(38, 7)] ms es = true) : WRel k t W τ := by
  unfold WRel TRep
  show _ ∧ _ ∧ _ ∧ _ ∧ _ ∧ (_ ∧ _ ∧ _ ∧ _ ∧ (∀ p, p < W 2 → τ.1 9 p = _ ∧ τ.1 10 p = _) ∧ ∀ y, y < W 3 → τ.1 11 y = _ ∧ τ.1 12 y = _ ∧ τ.1 13 y = _) ∧ _ ∧ _
  rw [ffr_c f hf (d := 8) (by decide), ffr_c f hf (d := 9) (by decide), ffr_c f hf (d := 10) (by decide), ffr_c f hf (d := 11) (by decide), ffr_c f hf (d := 12) (by decide), ffr_c f hf (d := 13) (by decide), ffr_c f hf (d := 14) (by decide), ffr_c f hf (d := 42) (by decide), ffr_e f hf (d := 38) (j := 7) (by decide)]
  exact h
theorem ARel.fr {k n s : Nat} {W : Nat → Nat} {V : Nat → Nat → Nat} {ms : List Nat} {es : List (Nat × Nat)} {σ τ : Sg} (h : ARel k n s W V σ) (f : FE ms es σ τ) (hf : ffr [24, 44] [(23, 1), (23, 2), (38, 9)] ms es = true) : ARel k n s W V τ := by
  unfold ARel
  rw [ffr_c f hf (d := 24) (by decide), ffr_c f hf (d := 44) (by decide), ffr_e f hf (d := 23) (j := 1) (by decide), ffr_e f hf (d := 23) (j := 2) (by decide), ffr_e f hf (d := 38) (j := 9) (by decide)]
  exact h
theorem IRel.fr {k : Nat} {b : Nat → Bool} {ms : List Nat} {es : List (Nat × Nat)} {σ τ : Sg} (h : IRel k b σ) (f : FE ms es σ τ) (hf : ffr [49, 50, 52, 53, 54, 55, 56, 57, 58, 59, 60, 61, 62, 63, 64, 65] [(38, 7)] ms es = true) : IRel k b τ := by
  intro j hj
  obtain ⟨h1, h2⟩ := h j hj
  have e49 := ffr_c f hf (d := 49) (by decide)
  have e50 := ffr_c f hf (d := 50) (by decide)
  refine ⟨by rw [e49]; exact h1, fun hb => ?_⟩
  obtain ⟨w0, W, w1, w2, w3, w4, w5⟩ := h2 hb
  have key : ∀ i, i < 7 → τ.1 (52 + 7 * j + i) = σ.1 (52 + 7 * j + i) := by
    intro i hi
    have hm : 52 + 7 * j + i ∈ [49, 50, 52, 53, 54, 55, 56, 57, 58, 59, 60, 61, 62, 63, 64, 65] := by
      have key2 : ∀ j, j < 2 → ∀ i, i < 7 → 52 + 7 * j + i ∈ [49, 50, 52, 53, 54, 55, 56, 57, 58, 59, 60, 61, 62, 63, 64, 65] := by decide
      exact key2 j hj i hi
    exact ffr_c f hf hm
  refine ⟨by rw [ffr_e f hf (d := 38) (j := 7) (by decide)]; exact w0, W, w1, ?_, ?_, ?_, ?_⟩
  · have := key 0 (by omega)
    rw [Nat.add_zero] at this
    rw [this]; exact w2
  · unfold TRep at w3 ⊢
    have k0 := key 0 (by omega)
    rw [Nat.add_zero] at k0
    rw [k0, key 1 (by omega), key 2 (by omega), key 3 (by omega), key 4 (by omega), key 5 (by omega)]
    exact w3
  · have := key 6 (by omega)
    rw [show 52 + 7 * j + 6 = 58 + 7 * j by omega] at this
    rw [this]; exact w4
  · rw [e50]; exact w5
theorem WBd.up {k : Nat} {W : Nat → Nat} (h : WBd k W) : WBd (k + 1) W := by
  obtain ⟨h0, h1, h2, h3, h4, h5⟩ := h
  refine ⟨h0, h1, h2, h3, h4, fun y hy => ?_⟩
  obtain ⟨a1, a2, a3, a4, a5, a6, a7⟩ := h5 y hy
  exact ⟨a1, a2, a3, a4, a5, by omega, a7⟩
theorem WRel.up {k t : Nat} {W : Nat → Nat} {σ : Sg} (h : WRel k t W σ) : WRel (k + 1) t W σ := by
  obtain ⟨h0, h1, h2, h3, h4, h5⟩ := h
  exact ⟨h0, h1, h2, h3, h4.up, h5⟩
theorem ARel.up {k n s : Nat} {W : Nat → Nat} {V : Nat → Nat → Nat} {σ : Sg} (h : ARel k n s W V σ) : ARel (k + 1) n s W V σ := by
  obtain ⟨h0, h1, h2, h3, h4, h5⟩ := h
  exact ⟨h0, h1, h2, h3, h4, fun i hi => ⟨(h5 i hi).1, (h5 i hi).2.1.up, (h5 i hi).2.2⟩⟩
theorem IRel.up {k : Nat} {b : Nat → Bool} {σ : Sg} (h : IRel k b σ) : IRel (k + 1) b σ := fun j hj => ⟨(h j hj).1, fun hb => by
  obtain ⟨w0, W, w1, w2⟩ := (h j hj).2 hb
  exact ⟨w0, W, w1.up, w2⟩⟩
theorem VRel.up {k : Nat} {b : Nat → Bool} {σ : Sg} (h : VRel k b σ) : VRel (k + 1) b σ := by
  obtain ⟨⟨t, W, h1, n, s, V, h2⟩, h3⟩ := h
  exact ⟨⟨t, W, h1.up, n, s, V, h2.up⟩, h3.up⟩
theorem VRel.fr {k : Nat} {b : Nat → Bool} {ms : List Nat} {es : List (Nat × Nat)} {σ τ : Sg} (h : VRel k b σ) (f : FE ms es σ τ) (hf : ffr [8, 9, 10, 11, 12, 13, 14, 42] [(38, 7)] ms es = true) (hg : ffr [24, 44] [(23, 1), (23, 2), (38, 9)] ms es = true) (hh : ffr [49, 50, 52, 53, 54, 55, 56, 57, 58, 59, 60, 61, 62, 63, 64, 65] [(38, 7)] ms es = true) : VRel k b τ := by
  obtain ⟨⟨t, W, h1, n, s, V, h2⟩, h3⟩ := h
  exact ⟨⟨t, W, h1.fr f hf, n, s, V, h2.fr f hg⟩, h3.fr f hh⟩
theorem Inv.up {k : Nat} {b : Nat → Bool} {σ : Sg} (h : Inv k b σ) : Inv (k + 1) b σ := ⟨h.1, h.2.1, h.2.2.1, h.2.2.2.1, h.2.2.2.2.up⟩
/-- a step that touches nothing of both sides' -/
theorem Inv.fr {k : Nat} {b : Nat → Bool} {ms : List Nat} {es : List (Nat × Nat)} {σ τ : Sg} (h : Inv k b σ) (f : FE ms es σ τ) (hf : ffr [2, 3, 4, 39, 40, 41, 7, 45, 37, 51, 8, 9, 10, 11, 12, 13, 14, 42, 24, 44, 49, 50, 52, 53, 54, 55, 56, 57, 58, 59, 60, 61, 62, 63, 64, 65] [(6, 1), (38, 11), (0, 11), (38, 1), (0, 10), (38, 12), (36, 1), (38, 28), (38, 7), (23, 1), (23, 2), (38, 9)] ms es = true) : Inv k b τ := by
  have sub : ∀ {cs : List Nat} {en : List (Nat × Nat)}, (∀ d, d ∈ cs → d ∈ [2, 3, 4, 39, 40, 41, 7, 45, 37, 51, 8, 9, 10, 11, 12, 13, 14, 42, 24, 44, 49, 50, 52, 53, 54, 55, 56, 57, 58, 59, 60, 61, 62, 63, 64, 65]) → (∀ q, q ∈ en → q ∈ [(6, 1), (38, 11), (0, 11), (38, 1), (0, 10), (38, 12), (36, 1), (38, 28), (38, 7), (23, 1), (23, 2), (38, 9)]) → ffr cs en ms es = true := by
    intro cs en h1 h2
    unfold ffr at hf ⊢
    rw [Bool.and_eq_true] at hf ⊢
    exact ⟨List.all_eq_true.mpr (fun d hd => List.all_eq_true.mp hf.1 d (h1 d hd)), List.all_eq_true.mpr (fun d hd => List.all_eq_true.mp hf.2 d (h2 d hd))⟩
  exact ⟨h.1.fr f (sub (by decide) (by decide)), h.2.1.fr f (sub (by decide) (by decide)), h.2.2.1.fr f (sub (by decide) (by decide)), h.2.2.2.1.fr f (sub (by decide) (by decide)), h.2.2.2.2.fr f (sub (by decide) (by decide)) (sub (by decide) (by decide)) (sub (by decide) (by decide))⟩
theorem Inv_start : Inv 0 (fun _ => false) sg0 := by
  have z : nI 0 = 0 := rfl
  refine ⟨fun r hr => Or.inl ?_, ⟨0, by omega, rfl, rfl, fun j hj => absurd hj (Nat.not_lt_zero _)⟩, ⟨rfl, rfl⟩, ⟨0, by omega, rfl, rfl, fun j hj => absurd hj (Nat.not_lt_zero _)⟩, ⟨⟨0, fun _ => 0, ?_, 0, 0, fun _ _ => 0, ?_⟩, ?_⟩⟩
  · have key : ∀ r, r < 8 → sg0.1 3 r = -1 ∧ sg0.1 39 r = -1 := by decide
    exact key r hr
  · refine ⟨by omega, rfl, rfl, fun _ => ⟨rfl, rfl⟩, ⟨Nat.zero_le _, Nat.zero_le _, Nat.zero_le _, Nat.zero_le _, fun p hp => absurd hp (Nat.not_lt_zero _), fun y hy => absurd hy (Nat.not_lt_zero _)⟩, ⟨rfl, rfl, rfl, rfl, fun p hp => absurd hp (Nat.not_lt_zero _), fun y hy => absurd hy (Nat.not_lt_zero _)⟩, fun y hy => absurd hy (Nat.not_lt_zero _), ⟨rfl, rfl, rfl, rfl, fun p hp => absurd hp (Nat.not_lt_zero _), fun y hy => absurd hy (Nat.not_lt_zero _)⟩⟩
  · exact ⟨by omega, by omega, rfl, rfl, rfl, fun i hi => absurd hi (Nat.not_lt_zero _)⟩
  · intro j hj
    refine ⟨?_, fun h => by cases h⟩
    rfl
