/-! walk: all speakers, then all yarns -/
def rdS (B : Nat → Nat) (n : Nat) : Nat → (Nat → Nat) → ((Nat × Nat) ⊕ (Nat × Nat × Nat)) → (Nat → Nat) × ((Nat × Nat) ⊕ (Nat × Nat × Nat))
  | 0, W, r => (W, r)
  | _ + 1, W, .inl p => (W, .inl p)
  | k + 1, W, .inr T => if isW B 1 T = true then rdS B n k (spV B n W T) (spR B n W T) else (W, .inr T)
def rdY (B : Nat → Nat) (n : Nat) : Nat → (Nat → Nat) → ((Nat × Nat) ⊕ (Nat × Nat × Nat)) → (Nat → Nat) × ((Nat × Nat) ⊕ (Nat × Nat × Nat))
  | 0, W, r => (W, r)
  | _ + 1, W, .inl p => (W, .inl p)
  | k + 1, W, .inr T => if isW B 2 T = true then rdY B n k (yrV B n W T) (yrR B n W T) else (W, .inr T)
theorem rdS_s (B : Nat → Nat) (n k : Nat) (W : Nat → Nat) (T : Nat × Nat × Nat) : rdS B n (k + 1) W (.inr T) = if isW B 1 T = true then rdS B n k (spV B n W T) (spR B n W T) else (W, .inr T) := rfl
theorem rdY_s (B : Nat → Nat) (n k : Nat) (W : Nat → Nat) (T : Nat × Nat × Nat) : rdY B n (k + 1) W (.inr T) = if isW B 2 T = true then rdY B n k (yrV B n W T) (yrR B n W T) else (W, .inr T) := rfl
theorem rdS_l (B : Nat → Nat) (n k : Nat) (W : Nat → Nat) (p : Nat × Nat) : rdS B n k W (.inl p) = (W, .inl p) := by cases k <;> rfl
theorem rdY_l (B : Nat → Nat) (n k : Nat) (W : Nat → Nat) (p : Nat × Nat) : rdY B n k W (.inl p) = (W, .inl p) := by cases k <;> rfl
def GS (k : Nat) (W : Nat → Nat) (r : (Nat × Nat) ⊕ (Nat × Nat × Nat)) : Prop := ∀ T, r = .inr T → VW W ∧ W 3 = 0 ∧ W 2 + k = 6
def GY (k : Nat) (W : Nat → Nat) (r : (Nat × Nat) ⊕ (Nat × Nat × Nat)) : Prop := ∀ T, r = .inr T → VW W ∧ W 3 + k = 10
theorem GS.step {B : Nat → Nat} {n k : Nat} {W : Nat → Nat} {T : Nat × Nat × Nat} (h : GS (k + 1) W (.inr T)) : GS k (spV B n W T) (spR B n W T) := by
  intro T' hT'
  obtain ⟨hv, h3, hk⟩ := h T rfl
  obtain ⟨c, ⟨a, ha, ha1, ha2⟩, ⟨b, hb, hb1, hb2⟩, _⟩ := spR_in hT'
  unfold spV
  rw [ha1, hb1]
  obtain ⟨x, y, z⟩ := spW_ok hv c h3 ha hb
  exact ⟨x, z, by omega⟩
theorem GY.step {B : Nat → Nat} {n k : Nat} {W : Nat → Nat} {T : Nat × Nat × Nat} (h : GY (k + 1) W (.inr T)) : GY k (yrV B n W T) (yrR B n W T) := by
  intro T' hT'
  obtain ⟨hv, hk⟩ := h T rfl
  obtain ⟨c, hkd, ⟨a, ha, ha1, ha2⟩, ⟨b, hb0, hb, hb1, hb2⟩, _⟩ := yrR_in hv.1.2.2.1 hT'
  unfold yrV
  rw [ha1, hb1]
  obtain ⟨x, y, z⟩ := yrW_ok hv c hkd ha ⟨hb0, hb⟩
  exact ⟨x, by omega⟩
/-! what stands behind them -/
theorem rdS_G {B : Nat → Nat} {n : Nat} : ∀ (k : Nat) (W : Nat → Nat) (r : (Nat × Nat) ⊕ (Nat × Nat × Nat)), GS k W r → ∀ T, (rdS B n k W r).2 = .inr T → VW (rdS B n k W r).1 ∧ (rdS B n k W r).1 3 = 0
  | 0, W, r, h, T, hT => ⟨(h T hT).1, (h T hT).2.1⟩
  | k + 1, W, .inl p, h, T, hT => by cases hT
  | k + 1, W, .inr T0, h, T, hT => by
    rw [rdS_s] at hT ⊢
    by_cases c : isW B 1 T0 = true
    · rw [if_pos c] at hT ⊢
      exact rdS_G k _ _ h.step T hT
    · rw [if_neg c] at hT ⊢
      exact ⟨(h T0 rfl).1, (h T0 rfl).2.1⟩
theorem rdY_G {B : Nat → Nat} {n : Nat} : ∀ (k : Nat) (W : Nat → Nat) (r : (Nat × Nat) ⊕ (Nat × Nat × Nat)), GY k W r → ∀ T, (rdY B n k W r).2 = .inr T → VW (rdY B n k W r).1
  | 0, W, r, h, T, hT => (h T hT).1
  | k + 1, W, .inl p, h, T, hT => by cases hT
  | k + 1, W, .inr T0, h, T, hT => by
    rw [rdY_s] at hT ⊢
    by_cases c : isW B 2 T0 = true
    · rw [if_pos c] at hT ⊢
      exact rdY_G k _ _ h.step T hT
    · rw [if_neg c] at hT ⊢
      exact (h T0 rfl).1
/-! the class -/
theorem c_rdS {B : Nat → Nat} {n : Nat} : ∀ (k : Nat) (W : Nat → Nat) (r : (Nat × Nat) ⊕ (Nat × Nat × Nat)) (σ : Sg) (m : Nat), k < m → k ≤ 6 → GS k W r → (∀ T, r = .inr T → CD W σ) → CSt B n r σ → ∃ τ, lpO (fun w : Int32 × Sg => fX6_readInto_B23 w.1 w.2) m (nI (6 - k), σ) = some τ ∧ FE [15, 16, 17, 18, 19, 20, 21] [(5, 1), (6, 2), (6, 3), (6, 4), (6, 5)] σ τ ∧ CSt B n (rdS B n k W r).2 τ ∧ ∀ T, (rdS B n k W r).2 = .inr T → CD (rdS B n k W r).1 τ
  | _, _, _, _, 0, h, _, _, _, _ => absurd h (Nat.not_lt_zero _)
  | 0, W, r, σ, m + 1, _, _, hg, hd, h => by
    refine ⟨σ, ?_, FE.refl _ _ _, h, hd⟩
    show (fX6_readInto_B23 (nI 6) σ).bind _ = _
    unfold fX6_readInto_B23
    rw [if_pos (by decide)]
    rfl
  | k + 1, W, .inl p, σ, m + 1, _, h6, hg, hd, h => by
    refine ⟨σ, ?_, FE.refl _ _ _, h, fun T z => by cases z⟩
    obtain ⟨_, h1, h2, h3, _⟩ := h
    have e : gf σ 5 1 = nI p.1 := h1
    show (fX6_readInto_B23 (nI (6 - (k + 1))) σ).bind _ = _
    unfold fX6_readInto_B23
    rw [e, if_neg (show ¬ nI p.1 = (0 : Int32) from q0 (by omega))]
    by_cases c : (5 : Int32) < nI (6 - (k + 1))
    · rw [if_pos c]; rfl
    · rw [if_neg c]; rfl
  | k + 1, W, .inr T, σ, m + 1, hm, h6, hg, hd, h => by
    obtain ⟨hv, h3, hk⟩ := hg T rfl
    obtain ⟨hb, h0, hT⟩ := id h
    have e : gf σ 5 1 = 0 := h0
    rw [rdS_s]
    have st : (fun w : Int32 × Sg => fX6_readInto_B23 w.1 w.2) (nI (6 - (k + 1)), σ) = if isW B 1 T = true then (fX6_readSpeaker σ).bind (fun q12 => some (.inl (nI (6 - k), q12))) else some (.inr σ) := by
      show fX6_readInto_B23 (nI (6 - (k + 1))) σ = _
      unfold fX6_readInto_B23
      rw [e, if_neg (by rw [show (5 : Int32) = nI 5 from rfl, nI_ltI (by omega) (by omega)]; omega), if_pos rfl, isWord_K1 hb hT, Option.bind_some, nI_1, show 6 - (k + 1) + 1 = 6 - k by omega]
      dsimp only
      by_cases c : isW B 1 T = true
      · rw [if_pos c, if_neg one_ne, if_pos c]
      · rw [if_neg c, if_pos rfl, if_neg c]
    by_cases c : isW B 1 T = true
    · rw [if_pos c] at st ⊢
      obtain ⟨τ, t1, t2, t3, t4⟩ := c_speaker h (hd T rfl) hv
      rw [t1, Option.bind_some] at st
      obtain ⟨υ, u1, u2, u3, u4⟩ := c_rdS k _ _ τ m (by omega) (by omega) (hg.step (B := B) (n := n)) t4 t3
      refine ⟨υ, ?_, t2.same u2, u3, u4⟩
      show ((fun w : Int32 × Sg => fX6_readInto_B23 w.1 w.2) (nI (6 - (k + 1)), σ)).bind _ = _
      rw [st]
      exact u1
    · rw [if_neg c] at st ⊢
      refine ⟨σ, ?_, FE.refl _ _ _, h, fun _ _ => hd T rfl⟩
      show ((fun w : Int32 × Sg => fX6_readInto_B23 w.1 w.2) (nI (6 - (k + 1)), σ)).bind _ = _
      rw [st]
      rfl
theorem c_rdY {B : Nat → Nat} {n : Nat} : ∀ (k : Nat) (W : Nat → Nat) (r : (Nat × Nat) ⊕ (Nat × Nat × Nat)) (σ : Sg) (m : Nat), k < m → k ≤ 10 → GY k W r → (∀ T, r = .inr T → CD W σ) → CSt B n r σ → ∃ τ, lpO (fun w : Int32 × Sg => fX6_readInto_B60 w.1 w.2) m (nI (10 - k), σ) = some τ ∧ FE [15, 16, 17, 18, 19, 20, 21] [(5, 1), (6, 2), (6, 3), (6, 4), (6, 5)] σ τ ∧ CSt B n (rdY B n k W r).2 τ ∧ ∀ T, (rdY B n k W r).2 = .inr T → CD (rdY B n k W r).1 τ
  | _, _, _, _, 0, h, _, _, _, _ => absurd h (Nat.not_lt_zero _)
  | 0, W, r, σ, m + 1, _, _, hg, hd, h => by
    refine ⟨σ, ?_, FE.refl _ _ _, h, hd⟩
    show (fX6_readInto_B60 (nI 10) σ).bind _ = _
    unfold fX6_readInto_B60
    rw [if_pos (by decide)]
    rfl
  | k + 1, W, .inl p, σ, m + 1, _, h6, hg, hd, h => by
    refine ⟨σ, ?_, FE.refl _ _ _, h, fun T z => by cases z⟩
    obtain ⟨_, h1, h2, h3, _⟩ := h
    have e : gf σ 5 1 = nI p.1 := h1
    show (fX6_readInto_B60 (nI (10 - (k + 1))) σ).bind _ = _
    unfold fX6_readInto_B60
    rw [e, if_neg (show ¬ nI p.1 = (0 : Int32) from q0 (by omega))]
    by_cases c : (9 : Int32) < nI (10 - (k + 1))
    · rw [if_pos c]; rfl
    · rw [if_neg c]; rfl
  | k + 1, W, .inr T, σ, m + 1, hm, h6, hg, hd, h => by
    obtain ⟨hv, hk⟩ := hg T rfl
    obtain ⟨hb, h0, hT⟩ := id h
    have e : gf σ 5 1 = 0 := h0
    rw [rdY_s]
    have st : (fun w : Int32 × Sg => fX6_readInto_B60 w.1 w.2) (nI (10 - (k + 1)), σ) = if isW B 2 T = true then (fX6_readYarn σ).bind (fun q12 => some (.inl (nI (10 - k), q12))) else some (.inr σ) := by
      show fX6_readInto_B60 (nI (10 - (k + 1))) σ = _
      unfold fX6_readInto_B60
      rw [e, if_neg (by rw [show (9 : Int32) = nI 9 from rfl, nI_ltI (by omega) (by omega)]; omega), if_pos rfl, isWord_K2 hb hT, Option.bind_some, nI_1, show 10 - (k + 1) + 1 = 10 - k by omega]
      dsimp only
      by_cases c : isW B 2 T = true
      · rw [if_pos c, if_neg one_ne, if_pos c]
      · rw [if_neg c, if_pos rfl, if_neg c]
    by_cases c : isW B 2 T = true
    · rw [if_pos c] at st ⊢
      obtain ⟨τ, t1, t2, t3, t4⟩ := c_yarn h (hd T rfl) hv
      rw [t1, Option.bind_some] at st
      obtain ⟨υ, u1, u2, u3, u4⟩ := c_rdY k _ _ τ m (by omega) (by omega) (hg.step (B := B) (n := n)) t4 t3
      refine ⟨υ, ?_, t2.same u2, u3, u4⟩
      show ((fun w : Int32 × Sg => fX6_readInto_B60 w.1 w.2) (nI (10 - (k + 1)), σ)).bind _ = _
      rw [st]
      exact u1
    · rw [if_neg c] at st ⊢
      refine ⟨σ, ?_, FE.refl _ _ _, h, fun _ _ => hd T rfl⟩
      show ((fun w : Int32 × Sg => fX6_readInto_B60 w.1 w.2) (nI (10 - (k + 1)), σ)).bind _ = _
      rw [st]
      rfl
/-! the reference -/
theorem m_nm {B : Nat → Nat} {n : Nat} {r : (Nat × Nat) ⊕ (Nat × Nat × Nat)} {σ : Sg} (h : MSt B n r σ) {K : Nat} (hK : K < 8) {c : Int64} (hc : lN (nb (wwc K) 0 (wwl K)) = c) (h0 : ¬ (0 : Int64) = c) : ∃ q, fX11_name σ = some q ∧ (lg_cmp q c = 0 ↔ ∃ T, r = .inr T ∧ isW B K T = true) := by
  cases r with
  | inl p =>
    obtain ⟨z1, z2, z3⟩ := h.f0
    obtain ⟨hb, T, hT, _⟩ := h
    refine ⟨0, ?_, ?_⟩
    · rw [name_m hb hT, if_neg (show ¬ σ.1 38 18 = 0 by rw [show σ.1 38 18 = nI p.1 from z1]; exact q0 (by omega))]
    · rw [lg_cmp_eq]
      exact ⟨fun z => absurd z h0, fun ⟨T, z, _⟩ => by cases z⟩
  | inr T =>
    have z1 := h.z
    obtain ⟨hb, T', hT, hTT, _⟩ := h
    subst hTT
    refine ⟨nmV B T, ?_, ?_⟩
    · rw [name_m hb hT, if_pos (show σ.1 38 18 = 0 from z1)]
    · rw [lg_cmp_eq, ← hc, nm_iff hb hT.1 hK]
      exact ⟨fun z => ⟨T, rfl, z⟩, fun ⟨T', z, z2⟩ => by cases z; exact z2⟩
theorem m_rdS {B : Nat → Nat} {n : Nat} : ∀ (k : Nat) (W : Nat → Nat) (r : (Nat × Nat) ⊕ (Nat × Nat × Nat)) (σ : Sg) (m : Nat), k < m → GS k W r → (∀ T, r = .inr T → MD W σ) → MSt B n r σ → ∃ τ, lpO (fun w => fX11_walk_B80 w) m σ = some τ ∧ FE [43] [(38, 14), (38, 15), (38, 16), (38, 17), (38, 18), (38, 19)] σ τ ∧ MSt B n (rdS B n k W r).2 τ ∧ ∀ T, (rdS B n k W r).2 = .inr T → MD (rdS B n k W r).1 τ
  | _, _, _, _, 0, h, _, _, _ => absurd h (Nat.not_lt_zero _)
  | k, W, .inl p, σ, m + 1, _, hg, hd, h => by
    rw [rdS_l]
    refine ⟨σ, ?_, FE.refl _ _ _, h, fun T z => by cases z⟩
    obtain ⟨q, n1, n2⟩ := m_nm h (K := 1) (by omega) (c := 32493203050161522) (by decide +kernel) (by decide)
    show (fX11_walk_B80 σ).bind _ = _
    unfold fX11_walk_B80
    rw [n1, Option.bind_some, if_neg (fun z => by obtain ⟨T, z1, _⟩ := n2.mp z; cases z1)]
    rfl
  | 0, W, .inr T, σ, m + 1, _, hg, hd, h => by
    obtain ⟨hv, h3, hk⟩ := hg T rfl
    have := hv.1.2.2.1
    omega
  | k + 1, W, .inr T, σ, m + 1, hm, hg, hd, h => by
    obtain ⟨hv, h3, hk⟩ := hg T rfl
    obtain ⟨q, n1, n2⟩ := m_nm h (K := 1) (by omega) (c := 32493203050161522) (by decide +kernel) (by decide)
    rw [rdS_s]
    by_cases c : isW B 1 T = true
    · rw [if_pos c]
      obtain ⟨τ, t1, t2, t3, t4⟩ := m_speaker h (hd T rfl) hv
      obtain ⟨υ, u1, u2, u3, u4⟩ := m_rdS k _ _ τ m (by omega) (hg.step (B := B) (n := n)) t4 t3
      refine ⟨υ, ?_, t2.same u2, u3, u4⟩
      show (fX11_walk_B80 σ).bind _ = _
      unfold fX11_walk_B80
      rw [n1, Option.bind_some, if_pos (n2.mpr ⟨T, rfl, c⟩), t1]
      exact u1
    · rw [if_neg c]
      refine ⟨σ, ?_, FE.refl _ _ _, h, fun _ _ => hd T rfl⟩
      show (fX11_walk_B80 σ).bind _ = _
      unfold fX11_walk_B80
      rw [n1, Option.bind_some, if_neg (fun z => by obtain ⟨T', z1, z2⟩ := n2.mp z; cases z1; exact c z2)]
      rfl
theorem m_rdY {B : Nat → Nat} {n : Nat} : ∀ (k : Nat) (W : Nat → Nat) (r : (Nat × Nat) ⊕ (Nat × Nat × Nat)) (σ : Sg) (m : Nat), k < m → GY k W r → (∀ T, r = .inr T → MD W σ) → MSt B n r σ → ∃ τ, lpO (fun w => fX11_walk_B98 w) m σ = some τ ∧ FE [43] [(38, 14), (38, 15), (38, 16), (38, 17), (38, 18), (38, 19)] σ τ ∧ MSt B n (rdY B n k W r).2 τ ∧ ∀ T, (rdY B n k W r).2 = .inr T → MD (rdY B n k W r).1 τ
  | _, _, _, _, 0, h, _, _, _ => absurd h (Nat.not_lt_zero _)
  | k, W, .inl p, σ, m + 1, _, hg, hd, h => by
    rw [rdY_l]
    refine ⟨σ, ?_, FE.refl _ _ _, h, fun T z => by cases z⟩
    obtain ⟨q, n1, n2⟩ := m_nm h (K := 2) (by omega) (c := 2036429422) (by decide +kernel) (by decide)
    show (fX11_walk_B98 σ).bind _ = _
    unfold fX11_walk_B98
    rw [n1, Option.bind_some, if_neg (fun z => by obtain ⟨T, z1, _⟩ := n2.mp z; cases z1)]
    rfl
  | 0, W, .inr T, σ, m + 1, _, hg, hd, h => by
    obtain ⟨hv, hk⟩ := hg T rfl
    have := hv.1.2.2.2.1
    omega
  | k + 1, W, .inr T, σ, m + 1, hm, hg, hd, h => by
    obtain ⟨hv, hk⟩ := hg T rfl
    obtain ⟨q, n1, n2⟩ := m_nm h (K := 2) (by omega) (c := 2036429422) (by decide +kernel) (by decide)
    rw [rdY_s]
    by_cases c : isW B 2 T = true
    · rw [if_pos c]
      obtain ⟨τ, t1, t2, t3, t4⟩ := m_yarn h (hd T rfl) hv
      obtain ⟨υ, u1, u2, u3, u4⟩ := m_rdY k _ _ τ m (by omega) (hg.step (B := B) (n := n)) t4 t3
      refine ⟨υ, ?_, t2.same u2, u3, u4⟩
      show (fX11_walk_B98 σ).bind _ = _
      unfold fX11_walk_B98
      rw [n1, Option.bind_some, if_pos (n2.mpr ⟨T, rfl, c⟩), t1]
      exact u1
    · rw [if_neg c]
      refine ⟨σ, ?_, FE.refl _ _ _, h, fun _ _ => hd T rfl⟩
      show (fX11_walk_B98 σ).bind _ = _
      unfold fX11_walk_B98
      rw [n1, Option.bind_some, if_neg (fun z => by obtain ⟨T', z1, z2⟩ := n2.mp z; cases z1; exact c z2)]
      rfl
