/-! walk: the reference reads speakers and yarns -/
theorem m_begins {B : Nat → Nat} {n : Nat} {T : Nat × Nat × Nat} {σ : Sg} (h : MSt B n (.inr T) σ) {a rm w : Nat} (ha : a < 77) (hr : rm < 2 ^ 31) (hw : w < 2 ^ 31) (e : σ.1 43 a = nI w) : ∃ τ, fX11_begins (nI a) (nI rm) σ = some τ ∧ FE [] [(38, 14), (38, 15), (38, 16), (38, 17), (38, 18), (38, 19)] σ τ ∧ MSt B n (if w = rm then .inl (3, T.2.1) else nxR B n (.inr T)) τ := by
  unfold fX11_begins fX11_begins_J15
  rw [gd_t (b77 ha), ga_nI _ _ _ (by omega), e]
  by_cases c : w = rm
  · rw [if_pos (by rw [c]), if_pos c]
    obtain ⟨τ, t1, t2, t3, _⟩ := m_bad h (f := 3) (by omega) (by omega)
    have t1' : fX11_bad 3 σ = some τ := t1
    obtain ⟨υ, u1, u2, u3⟩ := m_must t3 true
    have u1' : fX11_must 1 τ = some υ := u1
    rw [t1', Option.bind_some, u1']
    exact ⟨υ, rfl, t2.same u2, u3⟩
  · rw [if_neg (fun z => c ((nI_eq hw hr).mp z)), if_neg c]
    obtain ⟨υ, u1, u2, u3⟩ := m_must h true
    have u1' : fX11_must 1 σ = some υ := u1
    rw [u1']
    exact ⟨υ, rfl, u2, u3⟩
theorem MSt.z {B : Nat → Nat} {n : Nat} {T : Nat × Nat × Nat} {σ : Sg} (h : MSt B n (.inr T) σ) : gf σ 38 18 = 0 := by
  obtain ⟨_, T, _, _, h1⟩ := h
  exact h1
theorem m_speaker {B : Nat → Nat} {n : Nat} {W : Nat → Nat} {T : Nat × Nat × Nat} {σ : Sg} (h : MSt B n (.inr T) σ) (hd : MD W σ) (hv : VW W) : ∃ τ, fX11_readSpeaker σ = some τ ∧ FE [43] [(38, 14), (38, 15), (38, 16), (38, 17), (38, 18), (38, 19)] σ τ ∧ MSt B n (spR B n W T) τ ∧ ∀ T', spR B n W T = .inr T' → MD (spV B n W T) τ := by
  obtain ⟨⟨t1, t2, t3, t4, t5, t6⟩, tz⟩ := hd
  have hW2 := hv.1.2.2.1
  have hW3 := hv.1.2.2.2.1
  obtain ⟨α, a1, a2, a3⟩ := m_begins h (a := 2) (rm := 5) (w := W 2) (by omega) (by omega) (by omega) t3
  obtain ⟨v1, β, b1, b2, b3, b4⟩ := m_num a3 0 10
  obtain ⟨v2, γ, g1, g2, g3, g4⟩ := m_num b3 0 99
  obtain ⟨δ, e1, e2, e3⟩ := m_sign g3
  have fe : FE [] [(38, 14), (38, 15), (38, 16), (38, 17), (38, 18), (38, 19)] σ δ := a2.same (b2.same (g2.same e2))
  have a1' : fX11_begins 2 5 σ = some α := a1
  have er : sgnR B n (numR B n 0 99 (numR B n 0 10 (if W 2 = 5 then .inl (3, T.2.1) else nxR B n (.inr T)))) = spR B n W T := by
    unfold spR
    by_cases c : W 2 < 5
    · rw [if_pos c, if_neg (by omega)]
    · rw [if_neg c, if_pos (by omega)]; rfl
  rw [er] at e3
  unfold fX11_readSpeaker
  rw [a1', Option.bind_some, b1, Option.bind_some]
  dsimp only
  rw [g1, Option.bind_some]
  dsimp only
  rw [e1, Option.bind_some]
  cases hr : spR B n W T with
  | inl p =>
    rw [hr] at e3
    obtain ⟨z1, z2, z3⟩ := e3.f0
    rw [if_neg (by rw [z1]; exact q0 (by omega))]
    exact ⟨δ, rfl, fe.up (by decide) (by decide), e3, fun T' z => by cases z⟩
  | inr T' =>
    rw [hr] at e3
    obtain ⟨c, ⟨a, ha, ha1, ha2⟩, ⟨b, hb, hb1, hb2⟩, ⟨T1, hT1⟩, T2, hT2⟩ := spR_in hr
    rw [if_neg (show ¬ W 2 = 5 by omega)] at b4 g4
    have ev1 : v1 = nI a := (b4 _ hT1).trans ha1
    have ev2 : v2 = nI b := (g4 _ hT2).trans hb1
    have D : ∀ j, δ.1 43 j = σ.1 43 j := fun j => fe 43 j (by simp) (by simp)
    have x2 : ga δ 43 2 = nI (W 2) := (D 2).trans t3
    have i1 : (4 : Int32) + 2 * nI (W 2) = nI (4 + 2 * W 2) := by
      rw [show (4 : Int32) = nI 4 from rfl, show (2 : Int32) = nI 2 from rfl, pk_mul, nI_add]
    have x3 : ga (sup δ 43 (4 + 2 * W 2) v1) 43 2 = nI (W 2) := by
      show (sup δ 43 (4 + 2 * W 2) v1).1 43 2 = _
      rw [sup_at, if_neg (by omega)]; exact (D 2).trans t3
    have x4 : ga (sup (sup δ 43 (4 + 2 * W 2) v1) 43 (4 + 2 * W 2 + 1) v2) 43 2 = nI (W 2) := by
      show (sup (sup δ 43 (4 + 2 * W 2) v1) 43 (4 + 2 * W 2 + 1) v2).1 43 2 = _
      rw [sup_at, if_neg (by omega)]; exact x3
    have k2 : inb 2 77 = true := by decide
    rw [if_pos e3.z, gd_t k2, x2, i1, gd_t (b77 (by omega)), gd_t k2, sa_nI _ _ _ _ (by omega), x3, i1, nI_1, gd_t (b77 (by omega)), gd_t k2, gd_t k2, sa_nI _ _ _ _ (by omega), x4, nI_1]
    have f2 : FE [43] [] δ (sup (sup (sup δ 43 (4 + 2 * W 2) v1) 43 (4 + 2 * W 2 + 1) v2) 43 2 (nI (W 2 + 1))) := (FE_supC (c := 43) (j := 4 + 2 * W 2) (v := v1)).same ((FE_supC (c := 43) (j := 4 + 2 * W 2 + 1) (v := v2)).same FE_supC)
    refine ⟨sup (sup (sup δ 43 (4 + 2 * W 2) v1) 43 (4 + 2 * W 2 + 1) v2) 43 2 (nI (W 2 + 1)), rfl, (fe.trans f2).up (by decide) (by decide), e3.fr f2 (by decide), ?_⟩
    intro T'' _
    have S : ∀ j, (sup (sup (sup δ 43 (4 + 2 * W 2) v1) 43 (4 + 2 * W 2 + 1) v2) 43 2 (nI (W 2 + 1))).1 43 j = if j = 2 then nI (W 2 + 1) else if j = 5 + 2 * W 2 then nI b else if j = 4 + 2 * W 2 then nI a else σ.1 43 j := fun j => by
      rw [sup_at, sup_at, sup_at, D j, ev1, ev2]
      simp only [true_and]
      rw [show 4 + 2 * W 2 + 1 = 5 + 2 * W 2 by omega]
    have ew : ∀ j, spV B n W T j = if j = 2 then W 2 + 1 else if j = 4 + 2 * W 2 then a else if j = 5 + 2 * W 2 then b else W j := fun j => by
      unfold spV spW
      rw [ha1, hb1, ha2, hb2]
    have E : ∀ j, σ.1 43 j = nI (W j) → (sup (sup (sup δ 43 (4 + 2 * W 2) v1) 43 (4 + 2 * W 2 + 1) v2) 43 2 (nI (W 2 + 1))).1 43 j = nI (spV B n W T j) := fun j hj => by
      rw [S, ew]
      by_cases c1 : j = 2
      · rw [if_pos c1, if_pos c1]
      · rw [if_neg c1, if_neg c1]
        by_cases c2 : j = 4 + 2 * W 2
        · rw [if_neg (by omega), if_pos c2, if_pos c2]
        · rw [if_neg c2]
          by_cases c3 : j = 5 + 2 * W 2
          · rw [if_pos c3, if_neg c2, if_pos c3]
          · rw [if_neg c3, if_neg c2, if_neg c3]; exact hj
    have hi : ∀ j, 14 ≤ j → (sup (sup (sup δ 43 (4 + 2 * W 2) v1) 43 (4 + 2 * W 2 + 1) v2) 43 2 (nI (W 2 + 1))).1 43 j = σ.1 43 j ∧ spV B n W T j = W j := fun j hj => by
      rw [S, ew, if_neg (by omega), if_neg (by omega), if_neg (by omega), if_neg (by omega), if_neg (by omega), if_neg (by omega)]
      exact ⟨rfl, rfl⟩
    have w2 : spV B n W T 2 = W 2 + 1 := by rw [ew, if_pos rfl]
    have w3 : spV B n W T 3 = W 3 := by rw [ew, if_neg (by omega), if_neg (by omega), if_neg (by omega)]
    refine ⟨⟨E 0 t1, E 1 t2, E 2 t3, E 3 t4, fun p hp => ?_, fun y hy => ?_⟩, fun j h1 h2 => ?_⟩
    · rw [w2] at hp
      by_cases cp : p = W 2
      · rw [S, S, ew, ew, cp, if_neg (by omega), if_neg (by omega), if_pos rfl, if_neg (by omega), if_pos rfl, if_neg (by omega), if_pos rfl, if_neg (by omega), if_neg (by omega), if_pos rfl]
        exact ⟨rfl, rfl⟩
      · exact ⟨E _ (t5 p (by omega)).1, E _ (t5 p (by omega)).2⟩
    · rw [w3] at hy
      rw [(hi _ (show 14 ≤ 14 + 7 * y by omega)).1, (hi _ (show 14 ≤ 15 + 7 * y by omega)).1, (hi _ (show 14 ≤ 16 + 7 * y by omega)).1, (hi _ (show 14 ≤ 17 + 7 * y by omega)).1, (hi _ (show 14 ≤ 18 + 7 * y by omega)).1, (hi _ (show 14 ≤ 19 + 7 * y by omega)).1, (hi _ (show 14 ≤ 20 + 7 * y by omega)).1, (hi _ (show 14 ≤ 14 + 7 * y by omega)).2, (hi _ (show 14 ≤ 15 + 7 * y by omega)).2, (hi _ (show 14 ≤ 16 + 7 * y by omega)).2, (hi _ (show 14 ≤ 17 + 7 * y by omega)).2, (hi _ (show 14 ≤ 18 + 7 * y by omega)).2, (hi _ (show 14 ≤ 19 + 7 * y by omega)).2, (hi _ (show 14 ≤ 20 + 7 * y by omega)).2]
      exact t6 y hy
    · rw [w3] at h1
      rw [(hi j (by omega)).1]
      exact tz j h1 h2
/-! a yarn -/
theorem m_y37 {B : Nat → Nat} {n : Nat} {W : Nat → Nat} {r : (Nat × Nat) ⊕ (Nat × Nat × Nat)} {σ : Sg} (h : MSt B n r σ) (h2 : σ.1 43 2 = nI (W 2)) (h3 : σ.1 43 3 = nI (W 3)) (h9 : ∀ T, r = .inr T → W 3 < 9) (v : Int32) : ∃ τ, fX11_readYarn_J37 v σ = some τ ∧ FE [43] [(38, 14), (38, 15), (38, 16), (38, 17), (38, 18), (38, 19)] σ τ ∧ MSt B n (sgnR B n (numR B n 1 9 (numR B n 0 (nI (W 2) - 1) r))) τ ∧ ∀ T', sgnR B n (numR B n 1 9 (numR B n 0 (nI (W 2) - 1) r)) = .inr T' → ∀ j, τ.1 43 j = if j = 3 then nI (W 3 + 1) else if j = 14 + 7 * W 3 then v else if j = 15 + 7 * W 3 then valR B r else if j = 16 + 7 * W 3 then valR B (numR B n 0 (nI (W 2) - 1) r) else if j = 17 + 7 * W 3 then -1 else σ.1 43 j := by
  obtain ⟨v1, β, b1, b2, b3, b4⟩ := m_num h 0 (nI (W 2) - 1)
  obtain ⟨v2, γ, g1, g2, g3, g4⟩ := m_num b3 1 9
  obtain ⟨δ, e1, e2, e3⟩ := m_sign g3
  have fe : FE [] [(38, 14), (38, 15), (38, 16), (38, 17), (38, 18), (38, 19)] σ δ := b2.same (g2.same e2)
  have D : ∀ j, δ.1 43 j = σ.1 43 j := fun j => fe 43 j (by simp) (by simp)
  have x0 : ga σ 43 2 = nI (W 2) := h2
  unfold fX11_readYarn_J37
  rw [gd_t (show inb 2 77 = true by decide), x0, b1, Option.bind_some]
  dsimp only
  rw [g1, Option.bind_some]
  dsimp only
  rw [e1, Option.bind_some]
  cases hr : sgnR B n (numR B n 1 9 (numR B n 0 (nI (W 2) - 1) r)) with
  | inl p =>
    rw [hr] at e3
    obtain ⟨z1, z2, z3⟩ := e3.f0
    rw [if_neg (by rw [z1]; exact q0 (by omega))]
    exact ⟨δ, rfl, fe.up (by decide) (by decide), e3, fun T' z => by cases z⟩
  | inr T' =>
    rw [hr] at e3
    obtain ⟨T3, hT3⟩ := sgnR_in hr
    obtain ⟨⟨T2, hT2⟩, _⟩ := numR_in hT3
    obtain ⟨⟨T1, hT1⟩, _⟩ := numR_in hT2
    have c := h9 T1 hT1
    have ev1 : v1 = valR B r := b4 _ hT2
    have ev2 : v2 = valR B (numR B n 0 (nI (W 2) - 1) r) := g4 _ hT3
    have x3 : ga δ 43 3 = nI (W 3) := (D 3).trans h3
    have i1 : (14 : Int32) + 7 * nI (W 3) = nI (14 + 7 * W 3) := by
      rw [show (14 : Int32) = nI 14 from rfl, show (7 : Int32) = nI 7 from rfl, pk_mul, nI_add]
    have i2 : nI (14 + 7 * W 3) + 1 = nI (15 + 7 * W 3) := by rw [nI_1]; congr 1; omega
    have i3 : nI (14 + 7 * W 3) + 2 = nI (16 + 7 * W 3) := by rw [show (2 : Int32) = nI 2 from rfl, nI_add]; congr 1; omega
    have i4 : nI (14 + 7 * W 3) + 3 = nI (17 + 7 * W 3) := by rw [show (3 : Int32) = nI 3 from rfl, nI_add]; congr 1; omega
    have k3 : inb 3 77 = true := by decide
    rw [if_pos e3.z, gd_t k3, x3, i1, i2, i3, i4, gd_t (b77 (by omega)), gd_t (b77 (by omega)), gd_t (b77 (by omega)), gd_t (b77 (by omega)), gd_t k3, gd_t k3]
    rw [sa_nI _ _ _ _ (show 14 + 7 * W 3 < 2 ^ 31 by omega), sa_nI _ _ _ _ (show 15 + 7 * W 3 < 2 ^ 31 by omega), sa_nI _ _ _ _ (show 16 + 7 * W 3 < 2 ^ 31 by omega), sa_nI _ _ _ _ (show 17 + 7 * W 3 < 2 ^ 31 by omega)]
    generalize hκ : sup (sup (sup (sup δ 43 (14 + 7 * W 3) v) 43 (15 + 7 * W 3) v1) 43 (16 + 7 * W 3) v2) 43 (17 + 7 * W 3) (-1) = κ
    have fk : FE [43] [] δ κ := by
      rw [← hκ]
      exact (FE_supC (c := 43) (j := 14 + 7 * W 3) (v := v)).same ((FE_supC (c := 43) (j := 15 + 7 * W 3) (v := v1)).same ((FE_supC (c := 43) (j := 16 + 7 * W 3) (v := v2)).same FE_supC))
    have S : ∀ j, κ.1 43 j = if j = 17 + 7 * W 3 then -1 else if j = 16 + 7 * W 3 then v2 else if j = 15 + 7 * W 3 then v1 else if j = 14 + 7 * W 3 then v else σ.1 43 j := fun j => by
      rw [← hκ, sup_at, sup_at, sup_at, sup_at, D j]
      simp only [true_and]
    have x4 : ga κ 43 3 = nI (W 3) := by
      show κ.1 43 3 = _
      rw [S, if_neg (by omega), if_neg (by omega), if_neg (by omega), if_neg (by omega)]; exact h3
    rw [x4, nI_1]
    have f2 : FE [43] [] δ (sup κ 43 3 (nI (W 3 + 1))) := fk.same FE_supC
    refine ⟨sup κ 43 3 (nI (W 3 + 1)), rfl, (fe.trans f2).up (by decide) (by decide), e3.fr f2 (by decide), ?_⟩
    intro T'' _ j
    rw [sup_at, S j, ev1, ev2]
    simp only [true_and]
    by_cases c0 : j = 3
    · rw [if_pos c0, if_pos c0]
    rw [if_neg c0, if_neg c0]
    by_cases c1 : j = 14 + 7 * W 3
    · rw [if_neg (by omega), if_neg (by omega), if_neg (by omega), if_pos c1, if_pos c1]
    rw [if_neg c1, if_neg c1]
    by_cases c2 : j = 15 + 7 * W 3
    · rw [if_neg (by omega), if_neg (by omega), if_pos c2, if_pos c2]
    rw [if_neg c2, if_neg c2]
    by_cases c3 : j = 16 + 7 * W 3
    · rw [if_neg (by omega), if_pos c3, if_pos c3]
    rw [if_neg c3, if_neg c3]
theorem m_yarn {B : Nat → Nat} {n : Nat} {W : Nat → Nat} {T : Nat × Nat × Nat} {σ : Sg} (h : MSt B n (.inr T) σ) (hd : MD W σ) (hv : VW W) : ∃ τ, fX11_readYarn σ = some τ ∧ FE [43] [(38, 14), (38, 15), (38, 16), (38, 17), (38, 18), (38, 19)] σ τ ∧ MSt B n (yrR B n W T) τ ∧ ∀ T', yrR B n W T = .inr T' → MD (yrV B n W T) τ := by
  obtain ⟨⟨t1, t2, t3, t4, t5, t6⟩, tz⟩ := hd
  have hW2 := hv.1.2.2.1
  have hW3 := hv.1.2.2.2.1
  obtain ⟨α, a1, a2, a3⟩ := m_begins h (a := 3) (rm := 9) (w := W 3) (by omega) (by omega) (by omega) t4
  have a1' : fX11_begins 3 9 σ = some α := a1
  have A : ∀ j, α.1 43 j = σ.1 43 j := fun j => a2 43 j (by simp) (by simp)
  unfold fX11_readYarn
  rw [a1', Option.bind_some]
  by_cases c : W 3 < 9
  rotate_left
  · have er : yrR B n W T = .inl (3, T.2.1) := if_neg c
    rw [if_pos (show W 3 = 9 by omega)] at a3
    obtain ⟨z1, z2, z3⟩ := a3.f0
    have z1' : gf α 38 18 = 3 := z1
    obtain ⟨hb, T0, hT0, _⟩ := id a3
    have nm : fX11_name α = some 0 := by
      rw [name_m hb hT0, if_neg]
      rw [show α.1 38 18 = 3 from z1']; decide
    rw [nm, Option.bind_some, show fX11_kindBy 0 α = some (-1000000) from rfl, Option.bind_some, if_neg (by rw [z1']; decide)]
    obtain ⟨τ, p1, p2, p3, _⟩ := m_y37 (W := W) a3 ((A 2).trans t3) ((A 3).trans t4) (fun T z => by cases z) (-1000000)
    rw [er]
    exact ⟨τ, p1, (a2.trans p2).up (by decide) (by decide), p3, fun T' z => by cases z⟩
  have er : yrR B n W T = sgnR B n (numR B n 1 9 (numR B n 0 (nI (W 2) - 1) (srtR B n (nxR B n (.inr T))))) := if_pos c
  rw [if_neg (show ¬ W 3 = 9 by omega)] at a3
  obtain ⟨hb, T0, hT0, hTT, h0⟩ := id a3
  have hTT : tkn B n T.2.2 = T0 := hTT
  have z0 : gf α 38 18 = 0 := h0
  have nm : fX11_name α = some (nmV B (tkn B n T.2.2)) := by
    rw [name_m hb hT0, if_pos h0, hTT]
  have hP : TokP B n (tkn B n T.2.2) := by rw [hTT]; exact hT0.1
  have hk := kd_le B (tkn B n T.2.2)
  rw [nm, Option.bind_some, kindBy_m hb hP, Option.bind_some, if_pos z0]
  have key : ∀ (r : (Nat × Nat) ⊕ (Nat × Nat × Nat)) (κ : Sg) (v : Int32), r = srtR B n (nxR B n (.inr T)) → FE [] [(38, 14), (38, 15), (38, 16), (38, 17), (38, 18), (38, 19)] α κ → MSt B n r κ → ((∃ T1, r = .inr T1) → v = nI (kd B (tkn B n T.2.2))) → ∃ τ, fX11_readYarn_J37 v κ = some τ ∧ FE [43] [(38, 14), (38, 15), (38, 16), (38, 17), (38, 18), (38, 19)] σ τ ∧ MSt B n (yrR B n W T) τ ∧ ∀ T', yrR B n W T = .inr T' → MD (yrV B n W T) τ := by
    intro r κ v hr fk hκ hv0
    have K : ∀ j, κ.1 43 j = σ.1 43 j := fun j => (fk 43 j (by simp) (by simp)).trans (A j)
    obtain ⟨τ, p1, p2, p3, p4⟩ := m_y37 (W := W) hκ ((K 2).trans t3) ((K 3).trans t4) (fun _ _ => c) v
    rw [hr, ← er] at p3
    refine ⟨τ, p1, ((a2.trans fk).trans p2).up (by decide) (by decide), p3, fun T' hT' => ?_⟩
    obtain ⟨_, hkd, ⟨a, ha, ha1, ha2⟩, ⟨b, hb0, hb, hb1, hb2⟩, ⟨T1, hT1⟩, ⟨T2, hT2⟩, T3, hT3⟩ := yrR_in hW2 hT'
    have ev0 : v = nI (srtV B (nxR B n (.inr T))) := hv0 ⟨T1, hr.trans hT1⟩
    have S := p4 T' (by rw [hr, ← er]; exact hT')
    rw [hr, ha1, hb1, ev0] at S
    have ew : ∀ j, yrV B n W T j = if j = 3 then W 3 + 1 else if j = 14 + 7 * W 3 then srtV B (nxR B n (.inr T)) else if j = 15 + 7 * W 3 then a else if j = 16 + 7 * W 3 then b else W j := fun j => by
      unfold yrV yrW
      rw [ha1, hb1, ha2, hb2]
    generalize srtV B (nxR B n (.inr T)) = kk at S ew
    have lo : ∀ j, j < 14 → j ≠ 3 → τ.1 43 j = σ.1 43 j ∧ yrV B n W T j = W j := fun j h1 h2 => by
      rw [ew, S, if_neg h2, if_neg (by omega), if_neg (by omega), if_neg (by omega), if_neg (by omega), if_neg h2, if_neg (by omega), if_neg (by omega), if_neg (by omega)]
      exact ⟨K j, rfl⟩
    have w3 : yrV B n W T 3 = W 3 + 1 := by rw [ew, if_pos rfl]
    have w2 : yrV B n W T 2 = W 2 := (lo 2 (by omega) (by omega)).2
    refine ⟨⟨?_, ?_, ?_, ?_, fun p hp => ?_, fun y hy => ?_⟩, fun j h1 h2 => ?_⟩
    · rw [(lo 0 (by omega) (by omega)).1, (lo 0 (by omega) (by omega)).2]; exact t1
    · rw [(lo 1 (by omega) (by omega)).1, (lo 1 (by omega) (by omega)).2]; exact t2
    · rw [(lo 2 (by omega) (by omega)).1, (lo 2 (by omega) (by omega)).2]; exact t3
    · rw [S, if_pos rfl, w3]
    · rw [w2] at hp
      rw [(lo (4 + 2 * p) (by omega) (by omega)).1, (lo (4 + 2 * p) (by omega) (by omega)).2, (lo (5 + 2 * p) (by omega) (by omega)).1, (lo (5 + 2 * p) (by omega) (by omega)).2]
      exact t5 p hp
    · rw [w3] at hy
      by_cases cy : y = W 3
      · obtain ⟨z1, z2, z3, z4⟩ := hv.2 y
        have q1 : yrV B n W T (17 + 7 * y) = 0 := by rw [ew, if_neg (by omega), if_neg (by omega), if_neg (by omega), if_neg (by omega)]; exact z1
        have q2 : yrV B n W T (18 + 7 * y) = 0 := by rw [ew, if_neg (by omega), if_neg (by omega), if_neg (by omega), if_neg (by omega)]; exact z2
        have q3 : yrV B n W T (19 + 7 * y) = 0 := by rw [ew, if_neg (by omega), if_neg (by omega), if_neg (by omega), if_neg (by omega)]; exact z3
        have q4 : yrV B n W T (20 + 7 * y) = 0 := by rw [ew, if_neg (by omega), if_neg (by omega), if_neg (by omega), if_neg (by omega)]; exact z4
        rw [q1, q2, q3, q4]
        refine ⟨?_, ?_, ?_, ?_, ?_, ?_, ?_⟩
        · rw [S, ew, if_neg (by omega), if_pos (by omega), if_neg (by omega), if_pos (by omega)]
        · rw [S, ew, if_neg (by omega), if_neg (by omega), if_pos (by omega), if_neg (by omega), if_neg (by omega), if_pos (by omega)]
        · rw [S, ew, if_neg (by omega), if_neg (by omega), if_neg (by omega), if_pos (by omega), if_neg (by omega), if_neg (by omega), if_neg (by omega), if_pos (by omega)]
        · rw [S, if_neg (by omega), if_neg (by omega), if_neg (by omega), if_neg (by omega), if_pos (by omega)]; rfl
        · rw [S, if_neg (by omega), if_neg (by omega), if_neg (by omega), if_neg (by omega), if_neg (by omega), K]; exact tz _ (by omega) (by omega)
        · rw [S, if_neg (by omega), if_neg (by omega), if_neg (by omega), if_neg (by omega), if_neg (by omega), K]; exact tz _ (by omega) (by omega)
        · rw [S, if_neg (by omega), if_neg (by omega), if_neg (by omega), if_neg (by omega), if_neg (by omega), K]; exact tz _ (by omega) (by omega)
      · have hi : ∀ i, i < 7 → τ.1 43 (14 + i + 7 * y) = σ.1 43 (14 + i + 7 * y) ∧ yrV B n W T (14 + i + 7 * y) = W (14 + i + 7 * y) := fun i hi => by
          rw [ew, S, if_neg (by omega), if_neg (by omega), if_neg (by omega), if_neg (by omega), if_neg (by omega), if_neg (by omega), if_neg (by omega), if_neg (by omega), if_neg (by omega)]
          exact ⟨K _, rfl⟩
        have g0 := hi 0 (by omega)
        have g1 := hi 1 (by omega)
        have g2 := hi 2 (by omega)
        have g3 := hi 3 (by omega)
        have g4 := hi 4 (by omega)
        have g5 := hi 5 (by omega)
        have g6 := hi 6 (by omega)
        simp only [Nat.reduceAdd, Nat.add_zero] at g0 g1 g2 g3 g4 g5 g6
        rw [g0.1, g1.1, g2.1, g3.1, g4.1, g5.1, g6.1, g0.2, g1.2, g2.2, g3.2, g4.2, g5.2, g6.2]
        exact t6 y (by omega)
    · rw [w3] at h1
      rw [S, if_neg (by omega), if_neg (by omega), if_neg (by omega), if_neg (by omega), if_neg (by omega), K]
      exact tz j (by omega) h2
  by_cases ck : kd B (tkn B n T.2.2) = 0
  · rw [if_pos ck, if_pos rfl]
    unfold fX11_readYarn_J34
    obtain ⟨κ, u1, u2, u3⟩ := m_must a3 false
    have u1' : fX11_must 0 α = some κ := u1
    rw [u1', Option.bind_some]
    have hs : mustR B n false (nxR B n (.inr T)) = srtR B n (nxR B n (.inr T)) := by
      show (.inl (1, (tkn B n T.2.2).2.1) : (Nat × Nat) ⊕ (Nat × Nat × Nat)) = if kd B (tkn B n T.2.2) = 0 then _ else _
      rw [if_pos ck]
    refine key _ κ (-1000000) hs u2 u3 ?_
    rintro ⟨T1, z⟩
    cases z
  · rw [if_neg ck, if_neg (show ¬ nI (kd B (tkn B n T.2.2)) = (-1000000 : Int32) by
      have e : ∀ k, k ≤ 5 → ¬ nI k = (-1000000 : Int32) := by decide
      exact e _ hk)]
    unfold fX11_readYarn_J34
    obtain ⟨κ, u1, u2, u3⟩ := m_must a3 true
    have u1' : fX11_must 1 α = some κ := u1
    rw [u1', Option.bind_some]
    have hs : mustR B n true (nxR B n (.inr T)) = srtR B n (nxR B n (.inr T)) := by
      show (.inr (tkn B n (tkn B n T.2.2).2.2) : (Nat × Nat) ⊕ (Nat × Nat × Nat)) = if kd B (tkn B n T.2.2) = 0 then _ else _
      rw [if_neg ck]
    exact key _ κ _ hs u2 u3 (fun _ => rfl)
