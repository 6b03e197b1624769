/-! walk: speakers and yarns are read -/
theorem numR_in {B : Nat → Nat} {n : Nat} {lo hi : Int32} {r : (Nat × Nat) ⊕ (Nat × Nat × Nat)} {T' : Nat × Nat × Nat} (h : numR B n lo hi r = .inr T') : (∃ T, r = .inr T) ∧ lo ≤ valR B r ∧ valR B r ≤ hi := by
  cases r with
  | inl p => cases h
  | inr T =>
    refine ⟨⟨T, rfl⟩, ?_⟩
    rw [numR_T] at h
    by_cases c1 : T.1 = 2
    · rw [if_pos c1] at h
      by_cases c2 : lo ≤ valR B (.inr T) ∧ valR B (.inr T) ≤ hi
      · exact c2
      · rw [if_neg c2] at h; cases h
    · rw [if_neg c1] at h; cases h
theorem sgnR_in {B : Nat → Nat} {n : Nat} {r : (Nat × Nat) ⊕ (Nat × Nat × Nat)} {T' : Nat × Nat × Nat} (h : sgnR B n r = .inr T') : ∃ T, r = .inr T := by
  cases r with
  | inl p => cases h
  | inr T => exact ⟨T, rfl⟩
theorem srtR_in {B : Nat → Nat} {n : Nat} {T T' : Nat × Nat × Nat} (h : srtR B n (.inr T) = .inr T') : ¬ kd B T = 0 := by
  intro c
  have h : (if kd B T = 0 then (.inl (1, T.2.1) : (Nat × Nat) ⊕ (Nat × Nat × Nat)) else .inr (tkn B n T.2.2)) = .inr T' := h
  rw [if_pos c] at h
  cases h
theorem vnat {v : Int32} {l h : Nat} (hl : l < 2 ^ 31) (hh : h < 2 ^ 31) (h1 : nI l ≤ v) (h2 : v ≤ nI h) : v = nI v.toNatClampNeg ∧ l ≤ v.toNatClampNeg ∧ v.toNatClampNeg ≤ h := by
  rw [fa_le, nI_toInt hl] at h1
  obtain ⟨j, hj, rfl⟩ := nI_of (x := v) (by rw [lt0_iff]; omega)
  rw [nI_toInt hj] at h1
  rw [nI_leI hj hh] at h2
  rw [nI_clamp hj]
  exact ⟨rfl, by omega, h2⟩
/-- what is told so far -/
def VW (W : Nat → Nat) : Prop := WBd 0 W ∧ ∀ y, W (17 + 7 * y) = 0 ∧ W (18 + 7 * y) = 0 ∧ W (19 + 7 * y) = 0 ∧ W (20 + 7 * y) = 0
def CD (W : Nat → Nat) (σ : Sg) : Prop := σ.1 15 0 = 1 ∧ TRep σ 15 W ∧ ∀ j, j < 36 → σ.1 21 j = if j < 9 then -1 else 0
def MD (W : Nat → Nat) (σ : Sg) : Prop := MRep (σ.1 43) W ∧ ∀ j, 14 + 7 * W 3 ≤ j → j < 77 → σ.1 43 j = 0
def spW (W : Nat → Nat) (v1 v2 : Int32) : Nat → Nat := fun j => if j = 2 then W 2 + 1 else if j = 4 + 2 * W 2 then v1.toNatClampNeg else if j = 5 + 2 * W 2 then v2.toNatClampNeg else W j
def yrW (W : Nat → Nat) (k : Nat) (v1 v2 : Int32) : Nat → Nat := fun j => if j = 3 then W 3 + 1 else if j = 14 + 7 * W 3 then k else if j = 15 + 7 * W 3 then v1.toNatClampNeg else if j = 16 + 7 * W 3 then v2.toNatClampNeg else W j
def spR (B : Nat → Nat) (n : Nat) (W : Nat → Nat) (T : Nat × Nat × Nat) : (Nat × Nat) ⊕ (Nat × Nat × Nat) := if W 2 < 5 then sgnR B n (numR B n 0 99 (numR B n 0 10 (nxR B n (.inr T)))) else .inl (3, T.2.1)
def yrR (B : Nat → Nat) (n : Nat) (W : Nat → Nat) (T : Nat × Nat × Nat) : (Nat × Nat) ⊕ (Nat × Nat × Nat) := if W 3 < 9 then sgnR B n (numR B n 1 9 (numR B n 0 (nI (W 2) - 1) (srtR B n (nxR B n (.inr T))))) else .inl (3, T.2.1)
def spV (B : Nat → Nat) (n : Nat) (W : Nat → Nat) (T : Nat × Nat × Nat) : Nat → Nat := spW W (valR B (nxR B n (.inr T))) (valR B (numR B n 0 10 (nxR B n (.inr T))))
def yrV (B : Nat → Nat) (n : Nat) (W : Nat → Nat) (T : Nat × Nat × Nat) : Nat → Nat := yrW W (srtV B (nxR B n (.inr T))) (valR B (srtR B n (nxR B n (.inr T)))) (valR B (numR B n 0 (nI (W 2) - 1) (srtR B n (nxR B n (.inr T)))))
theorem spR_in {B : Nat → Nat} {n : Nat} {W : Nat → Nat} {T T' : Nat × Nat × Nat} (h : spR B n W T = .inr T') : W 2 < 5 ∧ (∃ a, a ≤ 10 ∧ valR B (nxR B n (.inr T)) = nI a ∧ (nI a).toNatClampNeg = a) ∧ (∃ b, b ≤ 99 ∧ valR B (numR B n 0 10 (nxR B n (.inr T))) = nI b ∧ (nI b).toNatClampNeg = b) ∧ (∃ T1, numR B n 0 10 (nxR B n (.inr T)) = .inr T1) ∧ ∃ T2, numR B n 0 99 (numR B n 0 10 (nxR B n (.inr T))) = .inr T2 := by
  unfold spR at h
  by_cases c : W 2 < 5
  · rw [if_pos c] at h
    obtain ⟨T2, h2⟩ := sgnR_in h
    obtain ⟨⟨T1, h1⟩, b1, b2⟩ := numR_in h2
    obtain ⟨_, a1, a2⟩ := numR_in h1
    obtain ⟨x1, x2, x3⟩ := vnat (l := 0) (h := 10) (by omega) (by omega) a1 a2
    obtain ⟨y1, y2, y3⟩ := vnat (l := 0) (h := 99) (by omega) (by omega) b1 b2
    exact ⟨c, ⟨_, x3, x1, nI_clamp (by omega)⟩, ⟨_, y3, y1, nI_clamp (by omega)⟩, ⟨T1, h1⟩, T2, h2⟩
  · rw [if_neg c] at h; cases h
theorem yrR_in {B : Nat → Nat} {n : Nat} {W : Nat → Nat} {T T' : Nat × Nat × Nat} (h5 : W 2 ≤ 5) (h : yrR B n W T = .inr T') : W 3 < 9 ∧ (1 ≤ srtV B (nxR B n (.inr T)) ∧ srtV B (nxR B n (.inr T)) ≤ 5) ∧ (∃ a, a < W 2 ∧ valR B (srtR B n (nxR B n (.inr T))) = nI a ∧ (nI a).toNatClampNeg = a) ∧ (∃ b, 1 ≤ b ∧ b ≤ 9 ∧ valR B (numR B n 0 (nI (W 2) - 1) (srtR B n (nxR B n (.inr T)))) = nI b ∧ (nI b).toNatClampNeg = b) ∧ (∃ T1, srtR B n (nxR B n (.inr T)) = .inr T1) ∧ (∃ T2, numR B n 0 (nI (W 2) - 1) (srtR B n (nxR B n (.inr T))) = .inr T2) ∧ ∃ T3, numR B n 1 9 (numR B n 0 (nI (W 2) - 1) (srtR B n (nxR B n (.inr T)))) = .inr T3 := by
  unfold yrR at h
  by_cases c : W 3 < 9
  · rw [if_pos c] at h
    obtain ⟨T3, h3⟩ := sgnR_in h
    obtain ⟨⟨T2, h2⟩, b1, b2⟩ := numR_in h3
    obtain ⟨⟨T1, h1⟩, a1, a2⟩ := numR_in h2
    have k1 : ¬ kd B (tkn B n T.2.2) = 0 := srtR_in h1
    have k2 := kd_le B (tkn B n T.2.2)
    have w0 : 1 ≤ W 2 := by
      rcases Nat.eq_zero_or_pos (W 2) with z | z
      · rw [z] at a2
        rw [fa_le] at a1 a2
        have z1 : (0 : Int32).toInt = 0 := rfl
        have z2 : (nI 0 - 1 : Int32).toInt = -1 := by decide
        omega
      · exact z
    rw [st_s w0] at a2
    obtain ⟨x1, x2, x3⟩ := vnat (l := 0) (h := W 2 - 1) (by omega) (by omega) a1 a2
    obtain ⟨y1, y2, y3⟩ := vnat (l := 1) (h := 9) (by omega) (by omega) b1 b2
    refine ⟨c, ⟨?_, k2⟩, ⟨_, ?_, x1, nI_clamp (by omega)⟩, ⟨_, y2, y3, y1, nI_clamp (by omega)⟩, ⟨T1, h1⟩, ⟨T2, h2⟩, T3, h3⟩
    · show 1 ≤ kd B (tkn B n T.2.2); omega
    · omega
  · rw [if_neg c] at h; cases h
theorem spW_ok {W : Nat → Nat} (h : VW W) (h2 : W 2 < 5) (h3 : W 3 = 0) {a b : Nat} (ha : a ≤ 10) (hb : b ≤ 99) : VW (spW W (nI a) (nI b)) ∧ spW W (nI a) (nI b) 2 = W 2 + 1 ∧ spW W (nI a) (nI b) 3 = 0 := by
  obtain ⟨⟨b0, b1, b2, b3, b4, b5⟩, hz⟩ := h
  have e : ∀ j, spW W (nI a) (nI b) j = if j = 2 then W 2 + 1 else if j = 4 + 2 * W 2 then a else if j = 5 + 2 * W 2 then b else W j := fun j => by
    unfold spW
    rw [nI_clamp (by omega), nI_clamp (by omega)]
  have e2 : spW W (nI a) (nI b) 2 = W 2 + 1 := by rw [e, if_pos rfl]
  have e3 : spW W (nI a) (nI b) 3 = 0 := by rw [e, if_neg (by omega), if_neg (by omega), if_neg (by omega)]; exact h3
  refine ⟨⟨⟨?_, ?_, ?_, ?_, ?_, ?_⟩, ?_⟩, e2, e3⟩
  · rw [e, if_neg (by omega), if_neg (by omega), if_neg (by omega)]; exact b0
  · rw [e, if_neg (by omega), if_neg (by omega), if_neg (by omega)]; exact b1
  · rw [e2]; omega
  · rw [e3]; omega
  · intro p hp
    rw [e2] at hp
    by_cases c : p = W 2
    · rw [c, e, e, if_neg (by omega), if_pos rfl, if_neg (by omega), if_neg (by omega), if_pos rfl]
      exact ⟨ha, hb⟩
    · rw [e, e, if_neg (by omega), if_neg (by omega), if_neg (by omega), if_neg (by omega), if_neg (by omega), if_neg (by omega)]
      exact b4 p (by omega)
  · intro y hy
    rw [e3] at hy
    omega
  · intro y
    rw [e, e, e, e, if_neg (by omega), if_neg (by omega), if_neg (by omega), if_neg (by omega), if_neg (by omega), if_neg (by omega), if_neg (by omega), if_neg (by omega), if_neg (by omega), if_neg (by omega), if_neg (by omega), if_neg (by omega)]
    exact hz y
theorem yrW_ok {W : Nat → Nat} (h : VW W) (h3 : W 3 < 9) {k a b : Nat} (hk : 1 ≤ k ∧ k ≤ 5) (ha : a < W 2) (hb : 1 ≤ b ∧ b ≤ 9) : VW (yrW W k (nI a) (nI b)) ∧ yrW W k (nI a) (nI b) 2 = W 2 ∧ yrW W k (nI a) (nI b) 3 = W 3 + 1 := by
  obtain ⟨⟨b0, b1, b2, b3, b4, b5⟩, hz⟩ := h
  have e : ∀ j, yrW W k (nI a) (nI b) j = if j = 3 then W 3 + 1 else if j = 14 + 7 * W 3 then k else if j = 15 + 7 * W 3 then a else if j = 16 + 7 * W 3 then b else W j := fun j => by
    unfold yrW
    rw [nI_clamp (by omega), nI_clamp (by omega)]
  have lo : ∀ j, j < 14 → j ≠ 3 → yrW W k (nI a) (nI b) j = W j := fun j h1 h2 => by
    rw [e, if_neg h2, if_neg (by omega), if_neg (by omega), if_neg (by omega)]
  have hi : ∀ j y, y < 100 → (j = 17 + 7 * y ∨ j = 18 + 7 * y ∨ j = 19 + 7 * y ∨ j = 20 + 7 * y) → yrW W k (nI a) (nI b) j = W j := fun j y _ h2 => by
    rw [e, if_neg (by omega), if_neg (by omega), if_neg (by omega), if_neg (by omega)]
  have e3 : yrW W k (nI a) (nI b) 3 = W 3 + 1 := by rw [e, if_pos rfl]
  have e2 : yrW W k (nI a) (nI b) 2 = W 2 := lo 2 (by omega) (by omega)
  have hz' : ∀ y, yrW W k (nI a) (nI b) (17 + 7 * y) = 0 ∧ yrW W k (nI a) (nI b) (18 + 7 * y) = 0 ∧ yrW W k (nI a) (nI b) (19 + 7 * y) = 0 ∧ yrW W k (nI a) (nI b) (20 + 7 * y) = 0 := by
    intro y
    rw [e, e, e, e, if_neg (by omega), if_neg (by omega), if_neg (by omega), if_neg (by omega), if_neg (by omega), if_neg (by omega), if_neg (by omega), if_neg (by omega), if_neg (by omega), if_neg (by omega), if_neg (by omega), if_neg (by omega), if_neg (by omega), if_neg (by omega), if_neg (by omega), if_neg (by omega)]
    exact hz y
  refine ⟨⟨⟨?_, ?_, ?_, ?_, ?_, ?_⟩, hz'⟩, e2, e3⟩
  · rw [lo 0 (by omega) (by omega)]; exact b0
  · rw [lo 1 (by omega) (by omega)]; exact b1
  · rw [e2]; exact b2
  · rw [e3]; omega
  · intro p hp
    rw [e2] at hp
    rw [lo _ (by omega) (by omega), lo _ (by omega) (by omega)]
    exact b4 p hp
  · intro y hy
    rw [e3] at hy
    obtain ⟨z1, z2, z3, z4⟩ := hz' y
    rw [e2, z1, z2, z3, z4]
    by_cases c : y = W 3
    · rw [c, e, e, e, if_neg (by omega), if_pos rfl, if_neg (by omega), if_neg (by omega), if_pos rfl, if_neg (by omega), if_neg (by omega), if_neg (by omega), if_pos rfl]
      exact ⟨hk, ha, hb, by omega, by omega, by omega, by omega⟩
    · rw [e, e, e, if_neg (by omega), if_neg (by omega), if_neg (by omega), if_neg (by omega), if_neg (by omega), if_neg (by omega), if_neg (by omega), if_neg (by omega), if_neg (by omega), if_neg (by omega), if_neg (by omega), if_neg (by omega)]
      have := b5 y (by omega)
      exact ⟨this.1, this.2.1, this.2.2.1, by omega, by omega, by omega, by omega⟩
/-! the class reads a speaker -/
theorem c_speaker {B : Nat → Nat} {n : Nat} {W : Nat → Nat} {T : Nat × Nat × Nat} {σ : Sg} (h : CSt B n (.inr T) σ) (hd : CD W σ) (hv : VW W) : ∃ τ, fX6_readSpeaker σ = some τ ∧ FE [15, 16, 17, 18, 19, 20, 21] [(5, 1), (6, 2), (6, 3), (6, 4), (6, 5)] σ τ ∧ CSt B n (spR B n W T) τ ∧ ∀ T', spR B n W T = .inr T' → CD (spV B n W T) τ := by
  obtain ⟨d0, ⟨t1, t2, t3, t4, t5, t6⟩, d2⟩ := hd
  have hW2 := hv.1.2.2.1
  have t3' : gf σ 15 3 = nI (W 2) := t3
  by_cases c : W 2 < 5
  rotate_left
  · have er : spR B n W T = .inl (3, T.2.1) := if_neg c
    rw [er]
    obtain ⟨hb, h0, hT⟩ := h
    unfold fX6_readSpeaker
    rw [t3', if_neg (by rw [show (5 : Int32) = nI 5 from rfl, nI_ltI (by omega) (by omega)]; omega)]
    exact ⟨_, rfl, FE_sup.up (by decide) (by decide), CSt.l (hb.fr FE_sup (by decide)) (by rw [sup_at, if_pos ⟨rfl, rfl⟩]; rfl) (by omega) (by omega) (by rw [sup_at, if_neg (by decide)]; exact hT.2.2.2.1), fun T' z => by cases z⟩
  obtain ⟨α, a1, a2, a3⟩ := c_next h
  have a3' : CSt B n (nxR B n (.inr T)) α := a3
  obtain ⟨v1, β, b1, b2', b3', b4⟩ := c_num a3' 0 10
  have b5' : CSt B n (numR B n 0 10 (nxR B n (.inr T))) (sup β 16 (W 2) v1) := b3'.fr (FE_supC (c := 16) (j := W 2) (v := v1)) (by decide)
  obtain ⟨v2, γ, g1, g2, g3, g4⟩ := c_num b5' 0 99
  have g5 : CSt B n (numR B n 0 99 (numR B n 0 10 (nxR B n (.inr T)))) (sup γ 17 (W 2) v2) := g3.fr (FE_supC (c := 17) (j := W 2) (v := v2)) (by decide)
  obtain ⟨δ, e1, e2, e3⟩ := c_sign g5
  have er : spR B n W T = sgnR B n (numR B n 0 99 (numR B n 0 10 (nxR B n (.inr T)))) := if_pos c
  have A : ∀ d j, 15 ≤ d → α.1 d j = σ.1 d j := fun d j hd => a2 d j (by simp) (by simp; omega)
  have Bb : ∀ d j, 15 ≤ d → β.1 d j = α.1 d j := fun d j hd => b2' d j (by simp) (by simp; omega)
  have G : ∀ d j, 15 ≤ d → γ.1 d j = (sup β 16 (W 2) v1).1 d j := fun d j hd => g2 d j (by simp) (by simp; omega)
  have D : ∀ d j, 15 ≤ d → δ.1 d j = (sup γ 17 (W 2) v2).1 d j := fun d j hd => e2 d j (by simp) (by simp; omega)
  have D2 : ∀ d j, 15 ≤ d → δ.1 d j = if d = 17 ∧ j = W 2 then v2 else if d = 16 ∧ j = W 2 then v1 else σ.1 d j := fun d j hd => by
    rw [D d j hd, sup_at, G d j hd, sup_at, Bb d j hd, A d j hd]
  have fe : FE [15, 16, 17, 18, 19, 20, 21] [(5, 1), (6, 2), (6, 3), (6, 4), (6, 5)] σ (sup δ 15 3 (nI (W 2 + 1))) := ((a2.trans (b2'.trans ((FE_supC (c := 16) (j := W 2) (v := v1)).trans (g2.trans ((FE_supC (c := 17) (j := W 2) (v := v2)).trans (e2.trans (FE_supC (c := 15) (j := 3) (v := nI (W 2 + 1))))))))).up (by decide) (by decide))
  refine ⟨sup δ 15 3 (nI (W 2 + 1)), ?_, fe, ?_, ?_⟩
  · have x1 : gf α 15 3 = nI (W 2) := (A 15 3 (by omega)).trans t3
    have x2 : gf (sup β 16 (W 2) v1) 15 3 = nI (W 2) := by rw [gf_eq, sup_ne (by decide), Bb 15 3 (by omega)]; exact x1
    have x3 : gf δ 15 3 = nI (W 2) := by rw [gf_eq, D2 15 3 (by omega), if_neg (by omega), if_neg (by omega)]; exact t3
    unfold fX6_readSpeaker
    rw [t3', if_pos (by rw [show (5 : Int32) = nI 5 from rfl, nI_ltI (by omega) (by omega)]; omega), a1, Option.bind_some, b1, Option.bind_some, x1, gd_t (b5 c)]
    dsimp only
    rw [sa_nI _ _ _ _ (by omega), g1, Option.bind_some, x2, gd_t (b5 c)]
    dsimp only
    rw [sa_nI _ _ _ _ (by omega), e1, Option.bind_some, x3, nI_1]
  · rw [er]; exact e3.fr (FE_supC (c := 15) (j := 3) (v := nI (W 2 + 1))) (by decide)
  · intro T' hT'
    obtain ⟨_, ⟨a, ha, ha1, ha2⟩, ⟨b, hb, hb1, hb2⟩, ⟨T1, hT1⟩, T2, hT2⟩ := spR_in hT'
    have ev1 : v1 = nI a := ((b4 _ hT1).1).trans ha1
    have ev2 : v2 = nI b := ((g4 _ hT2).1).trans hb1
    have ew : ∀ j, spV B n W T j = if j = 2 then W 2 + 1 else if j = 4 + 2 * W 2 then a else if j = 5 + 2 * W 2 then b else W j := fun j => by
      unfold spV spW
      rw [ha1, hb1, ha2, hb2]
    have S : ∀ d j, 15 ≤ d → (sup δ 15 3 (nI (W 2 + 1))).1 d j = if d = 15 ∧ j = 3 then nI (W 2 + 1) else if d = 17 ∧ j = W 2 then nI b else if d = 16 ∧ j = W 2 then nI a else σ.1 d j := fun d j hd => by
      rw [sup_at, D2 d j hd, ev1, ev2]
    refine ⟨?_, ⟨?_, ?_, ?_, ?_, fun p hp => ⟨?_, ?_⟩, fun y hy => ⟨?_, ?_, ?_⟩⟩, fun j hj => ?_⟩
    · rw [S 15 0 (by omega), if_neg (by omega), if_neg (by omega), if_neg (by omega)]; exact d0
    · rw [S 15 1 (by omega), if_neg (by omega), if_neg (by omega), if_neg (by omega), ew, if_neg (by omega), if_neg (by omega), if_neg (by omega)]; exact t1
    · rw [S 15 2 (by omega), if_neg (by omega), if_neg (by omega), if_neg (by omega), ew, if_neg (by omega), if_neg (by omega), if_neg (by omega)]; exact t2
    · rw [S 15 3 (by omega), if_pos ⟨rfl, rfl⟩, ew, if_pos rfl]
    · rw [S 15 4 (by omega), if_neg (by omega), if_neg (by omega), if_neg (by omega), ew, if_neg (by omega), if_neg (by omega), if_neg (by omega)]; exact t4
    · rw [ew, if_pos rfl] at hp
      show (sup δ 15 3 (nI (W 2 + 1))).1 16 p = _
      rw [S 16 p (by omega), if_neg (by omega), if_neg (by omega)]
      by_cases cp : p = W 2
      · rw [if_pos ⟨rfl, cp⟩, ew, if_neg (by omega), if_pos (by omega)]
      · rw [if_neg (fun z => cp z.2), ew, if_neg (by omega), if_neg (by omega), if_neg (by omega)]; exact (t5 p (by omega)).1
    · rw [ew, if_pos rfl] at hp
      show (sup δ 15 3 (nI (W 2 + 1))).1 17 p = _
      rw [S 17 p (by omega), if_neg (by omega)]
      by_cases cp : p = W 2
      · rw [if_pos ⟨rfl, cp⟩, ew, if_neg (by omega), if_neg (by omega), if_pos (by omega)]
      · rw [if_neg (fun z => cp z.2), if_neg (by omega), ew, if_neg (by omega), if_neg (by omega), if_neg (by omega)]; exact (t5 p (by omega)).2
    · rw [ew, if_neg (by omega), if_neg (by omega), if_neg (by omega)] at hy
      show (sup δ 15 3 (nI (W 2 + 1))).1 18 y = _
      rw [S 18 y (by omega), if_neg (by omega), if_neg (by omega), if_neg (by omega), ew, if_neg (by omega), if_neg (by omega), if_neg (by omega)]; exact (t6 y hy).1
    · rw [ew, if_neg (by omega), if_neg (by omega), if_neg (by omega)] at hy
      show (sup δ 15 3 (nI (W 2 + 1))).1 19 y = _
      rw [S 19 y (by omega), if_neg (by omega), if_neg (by omega), if_neg (by omega), ew, if_neg (by omega), if_neg (by omega), if_neg (by omega)]; exact (t6 y hy).2.1
    · rw [ew, if_neg (by omega), if_neg (by omega), if_neg (by omega)] at hy
      show (sup δ 15 3 (nI (W 2 + 1))).1 20 y = _
      rw [S 20 y (by omega), if_neg (by omega), if_neg (by omega), if_neg (by omega), ew, if_neg (by omega), if_neg (by omega), if_neg (by omega)]; exact (t6 y hy).2.2
    · rw [S 21 j (by omega), if_neg (by omega), if_neg (by omega), if_neg (by omega)]; exact d2 j hj
/-! the class reads a yarn -/
theorem c_yarn {B : Nat → Nat} {n : Nat} {W : Nat → Nat} {T : Nat × Nat × Nat} {σ : Sg} (h : CSt B n (.inr T) σ) (hd : CD W σ) (hv : VW W) : ∃ τ, fX6_readYarn σ = some τ ∧ FE [15, 16, 17, 18, 19, 20, 21] [(5, 1), (6, 2), (6, 3), (6, 4), (6, 5)] σ τ ∧ CSt B n (yrR B n W T) τ ∧ ∀ T', yrR B n W T = .inr T' → CD (yrV B n W T) τ := by
  obtain ⟨d0, ⟨t1, t2, t3, t4, t5, t6⟩, d2⟩ := hd
  have hW2 := hv.1.2.2.1
  have hW3 := hv.1.2.2.2.1
  have t4' : gf σ 15 4 = nI (W 3) := t4
  by_cases c : W 3 < 9
  rotate_left
  · have er : yrR B n W T = .inl (3, T.2.1) := if_neg c
    rw [er]
    obtain ⟨hb, h0, hT⟩ := h
    unfold fX6_readYarn
    rw [t4', if_neg (by rw [show (9 : Int32) = nI 9 from rfl, nI_ltI (by omega) (by omega)]; omega)]
    exact ⟨_, rfl, FE_sup.up (by decide) (by decide), CSt.l (hb.fr FE_sup (by decide)) (by rw [sup_at, if_pos ⟨rfl, rfl⟩]; rfl) (by omega) (by omega) (by rw [sup_at, if_neg (by decide)]; exact hT.2.2.2.1), fun T' z => by cases z⟩
  obtain ⟨α, a1, a2, a3⟩ := c_next h
  obtain ⟨v0, κ, k1, k2, k3, k4⟩ := c_sort a3
  have k5 : CSt B n (srtR B n (nxR B n (.inr T))) (sup κ 18 (W 3) v0) := k3.fr (FE_supC (c := 18) (j := W 3) (v := v0)) (by decide)
  obtain ⟨v1, β, b1, b2', b3', b4⟩ := c_num k5 0 (nI (W 2) - 1)
  have b5' : CSt B n (numR B n 0 (nI (W 2) - 1) (srtR B n (nxR B n (.inr T)))) (sup β 19 (W 3) v1) := b3'.fr (FE_supC (c := 19) (j := W 3) (v := v1)) (by decide)
  obtain ⟨v2, γ, g1, g2, g3, g4⟩ := c_num b5' 1 9
  have g5 : CSt B n (numR B n 1 9 (numR B n 0 (nI (W 2) - 1) (srtR B n (nxR B n (.inr T))))) (sup γ 20 (W 3) v2) := g3.fr (FE_supC (c := 20) (j := W 3) (v := v2)) (by decide)
  obtain ⟨δ, e1, e2, e3⟩ := c_sign g5
  have er : yrR B n W T = sgnR B n (numR B n 1 9 (numR B n 0 (nI (W 2) - 1) (srtR B n (nxR B n (.inr T))))) := if_pos c
  have A : ∀ d j, 15 ≤ d → α.1 d j = σ.1 d j := fun d j hd => a2 d j (by simp) (by simp; omega)
  have Kk : ∀ d j, 15 ≤ d → κ.1 d j = α.1 d j := fun d j hd => k2 d j (by simp) (by simp; omega)
  have Bb : ∀ d j, 15 ≤ d → β.1 d j = (sup κ 18 (W 3) v0).1 d j := fun d j hd => b2' d j (by simp) (by simp; omega)
  have G : ∀ d j, 15 ≤ d → γ.1 d j = (sup β 19 (W 3) v1).1 d j := fun d j hd => g2 d j (by simp) (by simp; omega)
  have D : ∀ d j, 15 ≤ d → δ.1 d j = (sup γ 20 (W 3) v2).1 d j := fun d j hd => e2 d j (by simp) (by simp; omega)
  have D2 : ∀ d j, 15 ≤ d → δ.1 d j = if d = 20 ∧ j = W 3 then v2 else if d = 19 ∧ j = W 3 then v1 else if d = 18 ∧ j = W 3 then v0 else σ.1 d j := fun d j hd => by
    rw [D d j hd, sup_at, G d j hd, sup_at, Bb d j hd, sup_at, Kk d j hd, A d j hd]
  have fe : FE [15, 16, 17, 18, 19, 20, 21] [(5, 1), (6, 2), (6, 3), (6, 4), (6, 5)] σ (sup δ 15 4 (nI (W 3 + 1))) := ((a2.trans (k2.trans ((FE_supC (c := 18) (j := W 3) (v := v0)).trans (b2'.trans ((FE_supC (c := 19) (j := W 3) (v := v1)).trans (g2.trans ((FE_supC (c := 20) (j := W 3) (v := v2)).trans (e2.trans (FE_supC (c := 15) (j := 4) (v := nI (W 3 + 1))))))))))).up (by decide) (by decide))
  refine ⟨sup δ 15 4 (nI (W 3 + 1)), ?_, fe, ?_, ?_⟩
  · have x1 : gf α 15 4 = nI (W 3) := (A 15 4 (by omega)).trans t4
    have y1 : gf (sup κ 18 (W 3) v0) 15 3 = nI (W 2) := by rw [gf_eq, sup_ne (by decide), Kk 15 3 (by omega), A 15 3 (by omega)]; exact t3
    have y2 : gf (sup κ 18 (W 3) v0) 15 4 = nI (W 3) := by rw [gf_eq, sup_ne (by decide), Kk 15 4 (by omega)]; exact x1
    have x2 : gf (sup β 19 (W 3) v1) 15 4 = nI (W 3) := by rw [gf_eq, sup_ne (by decide), Bb 15 4 (by omega)]; exact y2
    have x3 : gf δ 15 4 = nI (W 3) := by rw [gf_eq, D2 15 4 (by omega), if_neg (by omega), if_neg (by omega), if_neg (by omega)]; exact t4
    unfold fX6_readYarn
    rw [t4', if_pos (by rw [show (9 : Int32) = nI 9 from rfl, nI_ltI (by omega) (by omega)]; omega), a1, Option.bind_some, k1, Option.bind_some, x1, gd_t (b9 c)]
    dsimp only
    rw [sa_nI _ _ _ _ (by omega), y1, b1, Option.bind_some, y2, gd_t (b9 c)]
    dsimp only
    rw [sa_nI _ _ _ _ (by omega), g1, Option.bind_some, x2, gd_t (b9 c)]
    dsimp only
    rw [sa_nI _ _ _ _ (by omega), e1, Option.bind_some, x3, nI_1]
  · rw [er]; exact e3.fr (FE_supC (c := 15) (j := 4) (v := nI (W 3 + 1))) (by decide)
  · intro T' hT'
    obtain ⟨_, hkd, ⟨a, ha, ha1, ha2⟩, ⟨b, hb0, hb, hb1, hb2⟩, ⟨T1, hT1⟩, ⟨T2, hT2⟩, T3, hT3⟩ := yrR_in hW2 hT'
    have ev0 : v0 = nI (srtV B (nxR B n (.inr T))) := k4
    have ev1 : v1 = nI a := ((b4 _ hT2).1).trans ha1
    have ev2 : v2 = nI b := ((g4 _ hT3).1).trans hb1
    have ew : ∀ j, yrV B n W T j = if j = 3 then W 3 + 1 else if j = 14 + 7 * W 3 then srtV B (nxR B n (.inr T)) else if j = 15 + 7 * W 3 then a else if j = 16 + 7 * W 3 then b else W j := fun j => by
      unfold yrV yrW
      rw [ha1, hb1, ha2, hb2]
    generalize srtV B (nxR B n (.inr T)) = kk at ev0 ew
    have lo : ∀ j, j < 14 → j ≠ 3 → yrV B n W T j = W j := fun j h1 h2 => by
      rw [ew, if_neg h2, if_neg (by omega), if_neg (by omega), if_neg (by omega)]
    have S : ∀ d j, 15 ≤ d → (sup δ 15 4 (nI (W 3 + 1))).1 d j = if d = 15 ∧ j = 4 then nI (W 3 + 1) else if d = 20 ∧ j = W 3 then nI b else if d = 19 ∧ j = W 3 then nI a else if d = 18 ∧ j = W 3 then nI kk else σ.1 d j := fun d j hd => by
      rw [sup_at, D2 d j hd, ev0, ev1, ev2]
    refine ⟨?_, ⟨?_, ?_, ?_, ?_, fun p hp => ⟨?_, ?_⟩, fun y hy => ⟨?_, ?_, ?_⟩⟩, fun j hj => ?_⟩
    · rw [S 15 0 (by omega), if_neg (by omega), if_neg (by omega), if_neg (by omega), if_neg (by omega)]; exact d0
    · rw [S 15 1 (by omega), if_neg (by omega), if_neg (by omega), if_neg (by omega), if_neg (by omega), lo 0 (by omega) (by omega)]; exact t1
    · rw [S 15 2 (by omega), if_neg (by omega), if_neg (by omega), if_neg (by omega), if_neg (by omega), lo 1 (by omega) (by omega)]; exact t2
    · rw [S 15 3 (by omega), if_neg (by omega), if_neg (by omega), if_neg (by omega), if_neg (by omega), lo 2 (by omega) (by omega)]; exact t3
    · rw [S 15 4 (by omega), if_pos ⟨rfl, rfl⟩, ew, if_pos rfl]
    · rw [lo 2 (by omega) (by omega)] at hp
      show (sup δ 15 4 (nI (W 3 + 1))).1 16 p = _
      rw [S 16 p (by omega), if_neg (by omega), if_neg (by omega), if_neg (by omega), if_neg (by omega), lo _ (by omega) (by omega)]; exact (t5 p hp).1
    · rw [lo 2 (by omega) (by omega)] at hp
      show (sup δ 15 4 (nI (W 3 + 1))).1 17 p = _
      rw [S 17 p (by omega), if_neg (by omega), if_neg (by omega), if_neg (by omega), if_neg (by omega), lo _ (by omega) (by omega)]; exact (t5 p hp).2
    · rw [ew, if_pos rfl] at hy
      show (sup δ 15 4 (nI (W 3 + 1))).1 18 y = _
      rw [S 18 y (by omega), if_neg (by omega), if_neg (by omega), if_neg (by omega)]
      by_cases cy : y = W 3
      · rw [if_pos ⟨rfl, cy⟩, ew, if_neg (by omega), if_pos (by omega)]
      · rw [if_neg (fun z => cy z.2), ew, if_neg (by omega), if_neg (by omega), if_neg (by omega), if_neg (by omega)]; exact (t6 y (by omega)).1
    · rw [ew, if_pos rfl] at hy
      show (sup δ 15 4 (nI (W 3 + 1))).1 19 y = _
      rw [S 19 y (by omega), if_neg (by omega), if_neg (by omega)]
      by_cases cy : y = W 3
      · rw [if_pos ⟨rfl, cy⟩, ew, if_neg (by omega), if_neg (by omega), if_pos (by omega)]
      · rw [if_neg (fun z => cy z.2), if_neg (by omega), ew, if_neg (by omega), if_neg (by omega), if_neg (by omega), if_neg (by omega)]; exact (t6 y (by omega)).2.1
    · rw [ew, if_pos rfl] at hy
      show (sup δ 15 4 (nI (W 3 + 1))).1 20 y = _
      rw [S 20 y (by omega), if_neg (by omega)]
      by_cases cy : y = W 3
      · rw [if_pos ⟨rfl, cy⟩, ew, if_neg (by omega), if_neg (by omega), if_neg (by omega), if_pos (by omega)]
      · rw [if_neg (fun z => cy z.2), if_neg (by omega), if_neg (by omega), ew, if_neg (by omega), if_neg (by omega), if_neg (by omega), if_neg (by omega)]; exact (t6 y (by omega)).2.2
    · rw [S 21 j (by omega), if_neg (by omega), if_neg (by omega), if_neg (by omega), if_neg (by omega)]; exact d2 j hj
