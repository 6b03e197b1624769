/-! walk: the law, the whole text -/
def lawR (B : Nat → Nat) (n : Nat) (T : Nat × Nat × Nat) : (Nat × Nat) ⊕ (Nat × Nat × Nat) := if isW B 0 T = true then sgnR B n (numR B n 0 20 (numR B n 1 50 (nxR B n (.inr T)))) else .inl (1, T.2.1)
def lawV (B : Nat → Nat) (n : Nat) (T : Nat × Nat × Nat) : Nat → Nat := fun j => if j = 0 then (valR B (nxR B n (.inr T))).toNatClampNeg else if j = 1 then (valR B (numR B n 1 50 (nxR B n (.inr T)))).toNatClampNeg else 0
theorem lawR_in {B : Nat → Nat} {n : Nat} {T T' : Nat × Nat × Nat} (h : lawR B n T = .inr T') : isW B 0 T = true ∧ (∃ a, a ≤ 50 ∧ valR B (nxR B n (.inr T)) = nI a ∧ (nI a).toNatClampNeg = a) ∧ (∃ b, b ≤ 20 ∧ valR B (numR B n 1 50 (nxR B n (.inr T))) = nI b ∧ (nI b).toNatClampNeg = b) ∧ (∃ T1, numR B n 1 50 (nxR B n (.inr T)) = .inr T1) ∧ ∃ T2, numR B n 0 20 (numR B n 1 50 (nxR B n (.inr T))) = .inr T2 := by
  unfold lawR at h
  by_cases c : isW B 0 T = true
  · rw [if_pos c] at h
    obtain ⟨T2, h2⟩ := sgnR_in h
    obtain ⟨⟨T1, h1⟩, b1, b2⟩ := numR_in h2
    obtain ⟨_, a1, a2⟩ := numR_in h1
    obtain ⟨x1, x2, x3⟩ := vnat (l := 1) (h := 50) (by omega) (by omega) a1 a2
    obtain ⟨y1, y2, y3⟩ := vnat (l := 0) (h := 20) (by omega) (by omega) b1 b2
    exact ⟨c, ⟨_, x3, x1, nI_clamp (by omega)⟩, ⟨_, y3, y1, nI_clamp (by omega)⟩, ⟨T1, h1⟩, T2, h2⟩
  · rw [if_neg c] at h; cases h
theorem lawV_at {B : Nat → Nat} {n : Nat} {T T' : Nat × Nat × Nat} (h : lawR B n T = .inr T') : ∃ a b, a ≤ 50 ∧ b ≤ 20 ∧ valR B (nxR B n (.inr T)) = nI a ∧ valR B (numR B n 1 50 (nxR B n (.inr T))) = nI b ∧ ∀ j, lawV B n T j = if j = 0 then a else if j = 1 then b else 0 := by
  obtain ⟨_, ⟨a, ha, ha1, ha2⟩, ⟨b, hb, hb1, hb2⟩, _⟩ := lawR_in h
  refine ⟨a, b, ha, hb, ha1, hb1, fun j => ?_⟩
  unfold lawV
  rw [ha1, hb1, ha2, hb2]
theorem lawV_G (B : Nat → Nat) (n : Nat) (T : Nat × Nat × Nat) : GS 6 (lawV B n T) (lawR B n T) := by
  intro T' h
  obtain ⟨a, b, ha, hb, _, _, e⟩ := lawV_at h
  have z : ∀ j, 2 ≤ j → lawV B n T j = 0 := fun j hj => by rw [e, if_neg (by omega), if_neg (by omega)]
  refine ⟨⟨⟨?_, ?_, ?_, ?_, ?_, ?_⟩, fun y => ⟨z _ (by omega), z _ (by omega), z _ (by omega), z _ (by omega)⟩⟩, z 3 (by omega), by rw [z 2 (by omega)]⟩
  · rw [e, if_pos rfl]; exact ha
  · rw [e, if_neg (by omega), if_pos rfl]; exact hb
  · rw [z 2 (by omega)]; omega
  · rw [z 3 (by omega)]; omega
  · intro p hp
    rw [z 2 (by omega)] at hp; omega
  · intro y hy
    rw [z 3 (by omega)] at hy; omega
/-! the class -/
theorem c_law {B : Nat → Nat} {n : Nat} {T : Nat × Nat × Nat} {σ : Sg} (h : CSt B n (.inr T) σ) (h0 : σ.1 15 0 = 1) (h3 : σ.1 15 3 = 0) (h4 : σ.1 15 4 = 0) (hz : ∀ j, j < 36 → σ.1 21 j = if j < 9 then -1 else 0) : ∃ τ, fX6_readLaw σ = some τ ∧ FE [15, 16, 17, 18, 19, 20, 21] [(5, 1), (6, 2), (6, 3), (6, 4), (6, 5)] σ τ ∧ CSt B n (lawR B n T) τ ∧ ∀ T', lawR B n T = .inr T' → CD (lawV B n T) τ := by
  obtain ⟨hb, e0, hT⟩ := id h
  unfold fX6_readLaw
  rw [isWord_K0 hb hT, Option.bind_some]
  dsimp only
  by_cases c : isW B 0 T = true
  rotate_left
  · have er : lawR B n T = .inl (1, T.2.1) := if_neg c
    rw [if_neg c, if_pos rfl, er]
    exact ⟨_, rfl, FE_sup.up (by decide) (by decide), CSt.l (hb.fr FE_sup (by decide)) (by rw [sup_at, if_pos ⟨rfl, rfl⟩]; rfl) (by omega) (by omega) (by rw [sup_at, if_neg (by decide)]; exact hT.2.2.2.1), fun T' z => by cases z⟩
  have er : lawR B n T = sgnR B n (numR B n 0 20 (numR B n 1 50 (nxR B n (.inr T)))) := if_pos c
  rw [if_pos c, if_neg one_ne]
  obtain ⟨α, a1, a2, a3⟩ := c_next h
  have a3' : CSt B n (nxR B n (.inr T)) α := a3
  obtain ⟨v1, β, b1, b2, b3, b4⟩ := c_num a3' 1 50
  have b5 : CSt B n (numR B n 1 50 (nxR B n (.inr T))) (sup β 15 1 v1) := b3.fr (FE_supC (c := 15) (j := 1) (v := v1)) (by decide)
  obtain ⟨v2, γ, g1, g2, g3, g4⟩ := c_num b5 0 20
  have g5 : CSt B n (numR B n 0 20 (numR B n 1 50 (nxR B n (.inr T)))) (sup γ 15 2 v2) := g3.fr (FE_supC (c := 15) (j := 2) (v := v2)) (by decide)
  obtain ⟨δ, e1, e2, e3⟩ := c_sign g5
  have D : ∀ d j, 15 ≤ d → δ.1 d j = if d = 15 ∧ j = 2 then v2 else if d = 15 ∧ j = 1 then v1 else σ.1 d j := fun d j hd => by
    rw [e2 d j (by simp) (by simp; omega), sup_at, g2 d j (by simp) (by simp; omega), sup_at, b2 d j (by simp) (by simp; omega), a2 d j (by simp) (by simp; omega)]
  have fe : FE [15, 16, 17, 18, 19, 20, 21] [(5, 1), (6, 2), (6, 3), (6, 4), (6, 5)] σ δ := (a2.trans (b2.trans ((FE_supC (c := 15) (j := 1) (v := v1)).trans (g2.trans ((FE_supC (c := 15) (j := 2) (v := v2)).trans e2))))).up (by decide) (by decide)
  rw [← er] at e3
  refine ⟨δ, ?_, fe, e3, ?_⟩
  · rw [a1, Option.bind_some, b1, Option.bind_some]
    dsimp only
    rw [g1, Option.bind_some]
    dsimp only
    rw [e1, Option.bind_some]
  · intro T' hT'
    obtain ⟨_, _, _, ⟨T1, hT1⟩, T2, hT2⟩ := lawR_in hT'
    obtain ⟨a, b, ha, hb', ea, eb, ew⟩ := lawV_at hT'
    have ev1 : v1 = nI a := ((b4 _ hT1).1).trans ea
    have ev2 : v2 = nI b := ((g4 _ hT2).1).trans eb
    have z2 : lawV B n T 2 = 0 := by rw [ew, if_neg (by omega), if_neg (by omega)]
    have z3 : lawV B n T 3 = 0 := by rw [ew, if_neg (by omega), if_neg (by omega)]
    refine ⟨?_, ⟨?_, ?_, ?_, ?_, fun p hp => ?_, fun y hy => ?_⟩, fun j hj => ?_⟩
    · rw [D 15 0 (by omega), if_neg (by omega), if_neg (by omega)]; exact h0
    · rw [D 15 1 (by omega), if_neg (by omega), if_pos ⟨rfl, rfl⟩, ew, if_pos rfl]; exact ev1
    · rw [D 15 2 (by omega), if_pos ⟨rfl, rfl⟩, ew, if_neg (by omega), if_pos rfl]; exact ev2
    · rw [D 15 3 (by omega), if_neg (by omega), if_neg (by omega), z2]; exact h3
    · rw [D 15 4 (by omega), if_neg (by omega), if_neg (by omega), z3]; exact h4
    · rw [z2] at hp; omega
    · rw [z3] at hy; omega
    · rw [D 21 j (by omega), if_neg (by omega), if_neg (by omega)]; exact hz j hj
theorem c_begin (σ : Sg) : ∃ τ, fX9_begin_15 σ = some τ ∧ FE [15, 16, 17, 18, 19, 20, 21] [] σ τ ∧ τ.1 15 0 = 1 ∧ τ.1 15 3 = 0 ∧ τ.1 15 4 = 0 ∧ ∀ j, j < 36 → τ.1 21 j = if j < 9 then -1 else 0 := by
  have lp : ∀ σ' : Sg, ∃ τ, lpO (fun w : Int32 × Sg => fX9_begin_15_B17 w.1 w.2) FUEL (0, σ') = some τ ∧ FE [21] [] σ' τ ∧ ∀ j, j < 36 → τ.1 21 j = if j < 9 then -1 else 0 := by
    intro σ'
    refine lp_for (P := fun i (w : Int32 × Sg) => w.1 = nI i ∧ FE [21] [] σ' w.2 ∧ ∀ j, j < 36 → j % 9 < i → w.2.1 21 j = if j < 9 then -1 else 0) 9 (by omega) ⟨rfl, FE.refl _ _ _, fun j _ hj => absurd hj (Nat.not_lt_zero _)⟩ ?_ ?_
    · rintro i ⟨x, w⟩ hi ⟨rfl, h2, h3⟩
      dsimp only at h2 h3
      refine ⟨(nI (i + 1), sup (sup (sup (sup w 21 i (-1)) 21 (9 + i) 0) 21 (18 + i) 0) 21 (27 + i) 0), ?_, rfl, h2.same ((FE_supC (c := 21) (j := i) (v := -1)).same ((FE_supC (c := 21) (j := 9 + i) (v := 0)).same ((FE_supC (c := 21) (j := 18 + i) (v := 0)).same FE_supC))), ?_⟩
      · show fX9_begin_15_B17 (nI i) w = _
        have i0 : (0 : Int32) + nI i = nI i := by rw [show (0 : Int32) = nI 0 from rfl, nI_add, Nat.zero_add]
        have i9 : (9 : Int32) + nI i = nI (9 + i) := by rw [show (9 : Int32) = nI 9 from rfl, nI_add]
        have i18 : (18 : Int32) + nI i = nI (18 + i) := by rw [show (18 : Int32) = nI 18 from rfl, nI_add]
        have i27 : (27 : Int32) + nI i = nI (27 + i) := by rw [show (27 : Int32) = nI 27 from rfl, nI_add]
        have b36 : ∀ y, y < 36 → inb (nI y) 36 = true := fun y h => by rw [inb_nI _ _ (by omega)]; exact decide_eq_true h
        unfold fX9_begin_15_B17
        rw [if_neg (by rw [show (9 : Int32) = nI 9 from rfl, nI_leI (by omega) (by omega)]; omega), i0, i9, i18, i27, gd_t (b36 i (by omega)), gd_t (b36 (9 + i) (by omega)), gd_t (b36 (18 + i) (by omega)), gd_t (b36 (27 + i) (by omega)), sa_nI _ _ _ _ (show i < 2 ^ 31 by omega), sa_nI _ _ _ _ (show 9 + i < 2 ^ 31 by omega), sa_nI _ _ _ _ (show 18 + i < 2 ^ 31 by omega), sa_nI _ _ _ _ (show 27 + i < 2 ^ 31 by omega), nI_1]
      · intro j hj hm
        show (sup (sup (sup (sup w 21 i (-1)) 21 (9 + i) 0) 21 (18 + i) 0) 21 (27 + i) 0).1 21 j = _
        rw [sup_at, sup_at, sup_at, sup_at]
        simp only [true_and]
        by_cases c1 : j = 27 + i
        · rw [if_pos c1, if_neg (by omega)]
        rw [if_neg c1]
        by_cases c2 : j = 18 + i
        · rw [if_pos c2, if_neg (by omega)]
        rw [if_neg c2]
        by_cases c3 : j = 9 + i
        · rw [if_pos c3, if_neg (by omega)]
        rw [if_neg c3]
        by_cases c4 : j = i
        · rw [if_pos c4, if_pos (by omega)]
        rw [if_neg c4]
        exact h3 j hj (by omega)
    · rintro ⟨x, w⟩ ⟨rfl, h2, h3⟩
      refine ⟨w, ?_, h2, fun j hj => h3 j hj (by omega)⟩
      show fX9_begin_15_B17 (nI 9) w = _
      unfold fX9_begin_15_B17
      rw [if_pos (by decide)]
  obtain ⟨τ, t1, t2, t3⟩ := lp (sup (sup (sup σ 15 0 1) 15 3 0) 15 4 0)
  unfold fX9_begin_15
  rw [t1, Option.bind_some]
  refine ⟨τ, rfl, ((FE_supC (c := 15) (j := 0) (v := 1)).trans ((FE_supC (c := 15) (j := 3) (v := 0)).trans ((FE_supC (c := 15) (j := 4) (v := 0)).trans t2))).up (by decide) (by decide), ?_, ?_, ?_, t3⟩
  · rw [t2 15 0 (by decide) (by simp)]; rfl
  · rw [t2 15 3 (by decide) (by simp)]; rfl
  · rw [t2 15 4 (by decide) (by simp)]; rfl
/-! the whole text -/
def endR (r : (Nat × Nat) ⊕ (Nat × Nat × Nat)) : (Nat × Nat) ⊕ (Nat × Nat × Nat) := match r with
  | .inl p => .inl p
  | .inr T => if T.1 = 0 then .inr T else .inl (1, T.2.1)
def allS (B : Nat → Nat) (n : Nat) : (Nat → Nat) × ((Nat × Nat) ⊕ (Nat × Nat × Nat)) := rdS B n 6 (lawV B n (tkn B n 0)) (lawR B n (tkn B n 0))
def allY (B : Nat → Nat) (n : Nat) : (Nat → Nat) × ((Nat × Nat) ⊕ (Nat × Nat × Nat)) := rdY B n 10 (allS B n).1 (allS B n).2
theorem allS_G (B : Nat → Nat) (n : Nat) : GY 10 (allS B n).1 (allS B n).2 := fun T hT => by
  have := rdS_G 6 _ _ (lawV_G B n (tkn B n 0)) T hT
  exact ⟨this.1, by rw [show (allS B n).1 3 = 0 from this.2]⟩
theorem endR_in {r : (Nat × Nat) ⊕ (Nat × Nat × Nat)} {T : Nat × Nat × Nat} (h : endR r = .inr T) : r = .inr T := by
  cases r with
  | inl p => cases h
  | inr T0 =>
    have h : (if T0.1 = 0 then (.inr T0 : (Nat × Nat) ⊕ (Nat × Nat × Nat)) else .inl (1, T0.2.1)) = .inr T := h
    by_cases c : T0.1 = 0
    · rw [if_pos c] at h; exact h
    · rw [if_neg c] at h; cases h
theorem c_read {B : Nat → Nat} {n : Nat} {σ : Sg} (hb : BT n B σ) (h1 : σ.1 6 1 = nI n) : ∃ τ, fX6_readInto σ = some τ ∧ FE [15, 16, 17, 18, 19, 20, 21] [(5, 1), (6, 2), (6, 3), (6, 4), (6, 5)] σ τ ∧ CSt B n (endR (allY B n).2) τ ∧ ∀ T, endR (allY B n).2 = .inr T → CD (allY B n).1 τ := by
  obtain ⟨α, a1, a2, a3, a4, a5, a6⟩ := c_begin (sup σ 5 1 0)
  have fa : FE [15, 16, 17, 18, 19, 20, 21] [(5, 1), (6, 5)] σ (sup α 6 5 0) := (((FE_sup (c := 5) (j := 1) (v := 0)).trans a2).trans (FE_sup (c := 6) (j := 5) (v := 0))).up (by decide) (by decide)
  obtain ⟨β, b1, b2, b3⟩ := next_c (B := B) (n := n) (a := 0) (σ := sup α 6 5 0) (hb.fr fa (by decide)) ((fa 6 1 (by decide) (by simp)).trans h1) (by rw [sup_at, if_pos ⟨rfl, rfl⟩]; rfl) (Nat.zero_le _)
  have B15 : ∀ d j, 15 ≤ d → β.1 d j = α.1 d j := fun d j hd => by
    rw [b2 d j (by simp) (by simp; omega), sup_ne (by omega)]
  have cb : CSt B n (.inr (tkn B n 0)) β := by
    refine ⟨(hb.fr fa (by decide)).fr b2 (by decide), ?_, b3⟩
    rw [b2 5 1 (by simp) (by simp), sup_ne (by decide), a2 5 1 (by decide) (by simp), sup_at, if_pos ⟨rfl, rfl⟩]
  obtain ⟨γ, g1, g2, g3, g4⟩ := c_law cb ((B15 15 0 (by omega)).trans a3) ((B15 15 3 (by omega)).trans a4) ((B15 15 4 (by omega)).trans a5) (fun j hj => (B15 21 j (by omega)).trans (a6 j hj))
  obtain ⟨δ, d1, d2, d3, d4⟩ := c_rdS 6 _ _ γ FUEL (by unfold FUEL; omega) (by omega) (lawV_G B n (tkn B n 0)) g4 g3
  obtain ⟨ε, e1, e2, e3, e4⟩ := c_rdY 10 _ _ δ FUEL (by unfold FUEL; omega) (by omega) (allS_G B n) d4 d3
  have d1' : lpO (fun w : Int32 × Sg => fX6_readInto_B23 w.1 w.2) FUEL (0, γ) = some δ := d1
  have e1' : lpO (fun w : Int32 × Sg => fX6_readInto_B60 w.1 w.2) FUEL (0, δ) = some ε := e1
  have e3' : CSt B n (allY B n).2 ε := e3
  have e4' : ∀ T, (allY B n).2 = .inr T → CD (allY B n).1 ε := e4
  have fe : FE [15, 16, 17, 18, 19, 20, 21] [(5, 1), (6, 2), (6, 3), (6, 4), (6, 5)] σ ε := (fa.trans (b2.trans (g2.trans (d2.trans e2)))).up (by decide) (by decide)
  have rw1 : fX8_rewind α = some β := by
    unfold fX8_rewind
    rw [b1]; rfl
  unfold fX6_readInto
  rw [a1, Option.bind_some, rw1, Option.bind_some, g1, Option.bind_some, d1', Option.bind_some, e1', Option.bind_some]
  cases hr : (allY B n).2 with
  | inl p =>
    rw [hr] at e3'
    obtain ⟨x0, x1, x2, x3, x4⟩ := id e3'
    have x1' : gf ε 5 1 = nI p.1 := x1
    rw [x1', if_neg (show ¬ nI p.1 = (0 : Int32) from q0 (by omega))]
    exact ⟨ε, rfl, fe, e3', fun T z => by cases z⟩
  | inr T =>
    rw [hr] at e3'
    obtain ⟨hbε, x0, hT⟩ := id e3'
    have x0' : gf ε 5 1 = 0 := x0
    have x2 : gf ε 6 2 = nI T.1 := hT.2.2.1
    have p1 := hT.1.1
    rw [x0', if_pos rfl, x2]
    show ∃ τ, _ ∧ _ ∧ CSt B n (if T.1 = 0 then .inr T else .inl (1, T.2.1)) τ ∧ ∀ T', (if T.1 = 0 then (.inr T : (Nat × Nat) ⊕ (Nat × Nat × Nat)) else .inl (1, T.2.1)) = .inr T' → CD (allY B n).1 τ
    by_cases c : T.1 = 0
    · rw [if_pos (by rw [c]; rfl), if_pos c]
      exact ⟨ε, rfl, fe, e3', fun _ _ => e4' T hr⟩
    · rw [if_neg (show ¬ nI T.1 = (0 : Int32) from q0 c), if_neg c]
      exact ⟨_, rfl, (fe.trans FE_sup).up (by decide) (by decide), CSt.l (hbε.fr FE_sup (by decide)) (by rw [sup_at, if_pos ⟨rfl, rfl⟩]; rfl) (by omega) (by omega) (by rw [sup_at, if_neg (by decide)]; exact hT.2.2.2.1), fun T' z => by cases z⟩
