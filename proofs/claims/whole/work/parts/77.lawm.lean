/-! walk: the reference reads the whole text -/
theorem m_clear (σ : Sg) : ∃ τ, lpO (fun w : Int32 × Sg => fX11_walk_B11 w.1 w.2) FUEL (0, σ) = some τ ∧ FE [43] [] σ τ ∧ ∀ j, j < 77 → τ.1 43 j = 0 := by
  refine lp_for (P := fun i (w : Int32 × Sg) => w.1 = nI i ∧ FE [43] [] σ w.2 ∧ ∀ j, j < i → w.2.1 43 j = 0) 77 (by omega) ⟨rfl, FE.refl _ _ _, fun j hj => absurd hj (Nat.not_lt_zero _)⟩ ?_ ?_
  · rintro i ⟨x, w⟩ hi ⟨rfl, h2, h3⟩
    dsimp only at h2 h3
    refine ⟨(nI (i + 1), sup w 43 i 0), ?_, rfl, h2.same FE_supC, ?_⟩
    · show fX11_walk_B11 (nI i) w = _
      unfold fX11_walk_B11
      rw [show (77 : Int32) = nI 77 from rfl, if_neg (by rw [nI_leI (by omega) (by omega)]; omega), gd_t (b77 hi), sa_nI _ _ _ _ (by omega), nI_1]
    · intro j hj
      show (sup w 43 i 0).1 43 j = _
      rw [sup_at]
      by_cases hj2 : j = i
      · rw [if_pos ⟨rfl, hj2⟩]
      · rw [if_neg (fun z => hj2 z.2)]; exact h3 j (by omega)
  · rintro ⟨x, w⟩ ⟨rfl, h2, h3⟩
    refine ⟨w, ?_, h2, h3⟩
    show fX11_walk_B11 (nI 77) w = _
    unfold fX11_walk_B11
    rw [if_pos (by decide)]
theorem m_copy (σ : Sg) : ∃ τ, lpO (fun w : Int32 × Sg => fX11_walk_B171 w.1 w.2) FUEL (0, σ) = some τ ∧ FE [42] [] σ τ ∧ ∀ j, j < 77 → τ.1 42 j = σ.1 43 j := by
  refine lp_for (P := fun i (w : Int32 × Sg) => w.1 = nI i ∧ FE [42] [] σ w.2 ∧ ∀ j, j < i → w.2.1 42 j = σ.1 43 j) 77 (by omega) ⟨rfl, FE.refl _ _ _, fun j hj => absurd hj (Nat.not_lt_zero _)⟩ ?_ ?_
  · rintro i ⟨x, w⟩ hi ⟨rfl, h2, h3⟩
    dsimp only at h2 h3
    refine ⟨(nI (i + 1), sup w 42 i (σ.1 43 i)), ?_, rfl, h2.same FE_supC, ?_⟩
    · show fX11_walk_B171 (nI i) w = _
      unfold fX11_walk_B171
      rw [show (77 : Int32) = nI 77 from rfl, if_neg (by rw [nI_leI (by omega) (by omega)]; omega), gd_t (b77 hi), gd_t (b77 hi), sa_nI _ _ _ _ (by omega), ga_nI _ _ _ (by omega), h2 43 i (by decide) (by simp), nI_1]
    · intro j hj
      show (sup w 42 i (σ.1 43 i)).1 42 j = _
      rw [sup_at]
      by_cases hj2 : j = i
      · subst hj2; rw [if_pos ⟨rfl, rfl⟩]
      · rw [if_neg (fun z => hj2 z.2)]; exact h3 j (by omega)
  · rintro ⟨x, w⟩ ⟨rfl, h2, h3⟩
    refine ⟨w, ?_, h2, h3⟩
    show fX11_walk_B171 (nI 77) w = _
    unfold fX11_walk_B171
    rw [if_pos (by decide)]
theorem m_J47 {B : Nat → Nat} {n : Nat} {σ : Sg} (h : MSt B n (.inr (tkn B n 0)) σ) (hz : ∀ j, j < 77 → σ.1 43 j = 0) : ∃ τ, fX11_walk_J47 (if isW B 0 (tkn B n 0) = true then 1 else 0) σ = fX11_walk_J136 τ ∧ FE [43] [(38, 14), (38, 15), (38, 16), (38, 17), (38, 18), (38, 19)] σ τ ∧ MSt B n (endR (allY B n).2) τ ∧ ∀ T, endR (allY B n).2 = .inr T → MD (allY B n).1 τ := by
  obtain ⟨α, a1, a2, a3⟩ := m_must h (isW B 0 (tkn B n 0))
  obtain ⟨v1, β, b1, b2, b3, b4⟩ := m_num a3 1 50
  have b5 := b3.fr (FE_supC (c := 43) (j := 0) (v := v1)) (by decide)
  obtain ⟨v2, γ, g1, g2, g3, g4⟩ := m_num b5 0 20
  have g5 := g3.fr (FE_supC (c := 43) (j := 1) (v := v2)) (by decide)
  obtain ⟨δ, e1, e2, e3⟩ := m_sign g5
  have er : sgnR B n (numR B n 0 20 (numR B n 1 50 (mustR B n (isW B 0 (tkn B n 0)) (.inr (tkn B n 0))))) = lawR B n (tkn B n 0) := by
    unfold lawR
    by_cases c : isW B 0 (tkn B n 0) = true
    · rw [if_pos c, c]; rfl
    · rw [if_neg c, Bool.eq_false_iff.mpr c]; rfl
  rw [er] at e3
  have fe : FE [43] [(38, 14), (38, 15), (38, 16), (38, 17), (38, 18), (38, 19)] σ δ := (a2.trans (b2.trans ((FE_supC (c := 43) (j := 0) (v := v1)).trans (g2.trans ((FE_supC (c := 43) (j := 1) (v := v2)).trans e2))))).up (by decide) (by decide)
  have D : ∀ j, δ.1 43 j = if j = 1 then v2 else if j = 0 then v1 else σ.1 43 j := fun j => by
    rw [e2 43 j (by simp) (by simp), sup_at, g2 43 j (by simp) (by simp), sup_at, b2 43 j (by simp) (by simp), a2 43 j (by simp) (by simp)]
    simp only [true_and]
  have md : ∀ T, lawR B n (tkn B n 0) = .inr T → MD (lawV B n (tkn B n 0)) δ := by
    intro T' hT'
    obtain ⟨c, _, _, ⟨T1, hT1⟩, T2, hT2⟩ := lawR_in hT'
    obtain ⟨a, b, ha, hb', ea, eb, ew⟩ := lawV_at hT'
    rw [c] at b4 g4
    have ev1 : v1 = nI a := (b4 T1 hT1).trans ea
    have ev2 : v2 = nI b := (g4 T2 hT2).trans eb
    have z : ∀ j, 2 ≤ j → lawV B n (tkn B n 0) j = 0 := fun j hj => by rw [ew, if_neg (by omega), if_neg (by omega)]
    have D2 : ∀ j, 2 ≤ j → j < 77 → δ.1 43 j = 0 := fun j h1 h2 => by rw [D, if_neg (by omega), if_neg (by omega)]; exact hz j h2
    refine ⟨⟨?_, ?_, ?_, ?_, fun p hp => ?_, fun y hy => ?_⟩, fun j h1 h2 => ?_⟩
    · rw [D, if_neg (by omega), if_pos rfl, ew, if_pos rfl]; exact ev1
    · rw [D, if_pos rfl, ew, if_neg (by omega), if_pos rfl]; exact ev2
    · rw [z 2 (by omega)]; exact D2 2 (by omega) (by omega)
    · rw [z 3 (by omega)]; exact D2 3 (by omega) (by omega)
    · rw [z 2 (by omega)] at hp; omega
    · rw [z 3 (by omega)] at hy; omega
    · rw [z 3 (by omega)] at h1; exact D2 j (by omega) h2
  obtain ⟨ε, s1, s2, s3, s4⟩ := m_rdS 6 _ _ δ FUEL (by unfold FUEL; omega) (lawV_G B n (tkn B n 0)) md e3
  obtain ⟨ζ, y1, y2, y3, y4⟩ := m_rdY 10 _ _ ε FUEL (by unfold FUEL; omega) (allS_G B n) s4 s3
  have y3' : MSt B n (allY B n).2 ζ := y3
  have y4' : ∀ T, (allY B n).2 = .inr T → MD (allY B n).1 ζ := y4
  have fz : FE [43] [(38, 14), (38, 15), (38, 16), (38, 17), (38, 18), (38, 19)] σ ζ := fe.same (s2.same y2)
  have k0 : inb 0 77 = true := by decide
  have k1 : inb 1 77 = true := by decide
  have sa0 : sa β 43 0 v1 = sup β 43 0 v1 := rfl
  have sa1 : sa γ 43 1 v2 = sup γ 43 1 v2 := rfl
  unfold fX11_walk_J47
  rw [a1, Option.bind_some, b1, Option.bind_some]
  dsimp only
  rw [gd_t k0, sa0, g1, Option.bind_some]
  dsimp only
  rw [gd_t k1, sa1, e1, Option.bind_some, s1, Option.bind_some, y1, Option.bind_some]
  cases hr : (allY B n).2 with
  | inl p =>
    rw [hr] at y3'
    obtain ⟨z1, z2, z3⟩ := y3'.f0
    rw [z1, if_neg (show ¬ nI p.1 = (0 : Int32) from q0 (by omega))]
    exact ⟨ζ, rfl, fz, y3', fun T z => by cases z⟩
  | inr T =>
    rw [hr] at y3'
    have z0 := y3'.z
    obtain ⟨hbζ, T', hT, hTT, _⟩ := id y3'
    subst hTT
    have p1 := hT.1.1
    have x5 : gf ζ 38 15 = nI ((T.1 + 1) % 5) := hT.2.2.1
    have k4 : nI ((T.1 + 1) % 5) = (1 : Int32) ↔ T.1 = 0 := by
      rw [show (1 : Int32) = nI 1 from rfl, nI_eq (by omega) (by omega)]; omega
    rw [z0, if_pos rfl, x5]
    show ∃ τ, _ ∧ _ ∧ MSt B n (if T.1 = 0 then .inr T else .inl (1, T.2.1)) τ ∧ ∀ T', (if T.1 = 0 then (.inr T : (Nat × Nat) ⊕ (Nat × Nat × Nat)) else .inl (1, T.2.1)) = .inr T' → MD (allY B n).1 τ
    by_cases c : T.1 = 0
    · rw [if_pos (k4.mpr c), if_pos c]
      exact ⟨ζ, rfl, fz, y3', fun _ _ => y4' T hr⟩
    · obtain ⟨τ, t1, t2, t3, _⟩ := m_bad y3' (f := 1) (by omega) (by omega)
      have t1' : fX11_bad 1 ζ = some τ := t1
      rw [if_neg (fun z => c (k4.mp z)), if_neg c, t1', Option.bind_some]
      exact ⟨τ, rfl, (fz.trans t2).up (by decide) (by decide), t3, fun T' z => by cases z⟩
theorem m_read {B : Nat → Nat} {n : Nat} {σ : Sg} (hb : BT n B σ) (h1 : σ.1 38 11 = nI n) : ∃ τ, fX11_walk σ = fX11_walk_J136 τ ∧ FE [43] [(38, 0), (38, 11), (38, 13), (38, 14), (38, 15), (38, 16), (38, 17), (38, 18), (38, 19)] σ τ ∧ τ.1 38 11 = 0 ∧ MSt B n (endR (allY B n).2) τ ∧ ∀ T, endR (allY B n).2 = .inr T → MD (allY B n).1 τ := by
  have fa : FE [] [(38, 0), (38, 13), (38, 11), (38, 14), (38, 18)] σ (sup (sup (sup (sup (sup σ 38 0 0) 38 13 (gf (sup σ 38 0 0) 38 11)) 38 11 0) 38 14 0) 38 18 0) := ((((FE_sup (c := 38) (j := 0) (v := 0)).trans (FE_sup (c := 38) (j := 13) (v := gf (sup σ 38 0 0) 38 11))).trans (FE_sup (c := 38) (j := 11) (v := 0))).trans (FE_sup (c := 38) (j := 14) (v := 0))).trans (FE_sup (c := 38) (j := 18) (v := 0))
  have x13 : gf (sup σ 38 0 0) 38 11 = nI n := by rw [gf_eq, sup_at, if_neg (by decide)]; exact h1
  rw [x13] at fa
  obtain ⟨α, a1, a2, a3⟩ := next_m (B := B) (n := n) (a := 0) (σ := sup (sup (sup (sup (sup σ 38 0 0) 38 13 (nI n)) 38 11 0) 38 14 0) 38 18 0) (hb.fr fa (by decide)) (by rw [sup_at, if_neg (by decide), sup_at, if_neg (by decide), sup_at, if_neg (by decide), sup_at, if_pos ⟨rfl, rfl⟩]) (by rw [sup_at, if_neg (by decide), sup_at, if_pos ⟨rfl, rfl⟩]; rfl) (Nat.zero_le _)
  have ma : MSt B n (.inr (tkn B n 0)) α := by
    refine ⟨(hb.fr fa (by decide)).fr a2 (by decide), _, a3, rfl, ?_⟩
    rw [a2 38 18 (by simp) (by simp), sup_at, if_pos ⟨rfl, rfl⟩]
  have bg : fX11_begin (sup σ 38 0 0) = some α := by
    unfold fX11_begin
    rw [x13, a1]; rfl
  obtain ⟨β, b1, b2, b3⟩ := m_clear α
  have mb := ma.fr b2 (by decide)
  obtain ⟨q, n1, n2⟩ := m_nm mb (K := 0) (by omega) (c := 7102839) (by decide +kernel) (by decide)
  obtain ⟨τ, t1, t2, t3, t4⟩ := m_J47 mb b3
  have ft : FE [43] [(38, 0), (38, 11), (38, 13), (38, 14), (38, 15), (38, 16), (38, 17), (38, 18), (38, 19)] σ τ := (fa.trans (a2.trans (b2.trans t2))).up (by decide) (by decide)
  refine ⟨τ, ?_, ft, ?_, t3, t4⟩
  · unfold fX11_walk
    rw [bg, Option.bind_some, b1, Option.bind_some, n1, Option.bind_some, ← t1]
    by_cases c : isW B 0 (tkn B n 0) = true
    · rw [if_pos (n2.mpr ⟨_, rfl, c⟩), if_pos c]
    · rw [if_neg (fun z => by obtain ⟨T', z1, z2⟩ := n2.mp z; cases z1; exact c z2), if_neg c]
  · rw [t2 38 11 (by decide) (by simp), b2 38 11 (by decide) (by simp), a2 38 11 (by simp) (by simp), sup_at, if_neg (by decide), sup_at, if_neg (by decide), sup_at, if_pos ⟨rfl, rfl⟩]
