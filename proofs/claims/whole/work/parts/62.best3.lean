/-! best: the class's search -/
theorem search_c1 {k : Nat} {W : Nat → Nat} {ρ : Sg} (hB : WBd k W) (hk : k ≤ 512) (hC0 : CW W ρ) {n : Nat} (hnn : W 3 = n) (h9 : n ≤ 9) (e27 : ρ.1 27 n = nI 0) : ∃ α, lpO (fun w : Int32 × Sg => fX2_search_B30 w.1 w.2) FUEL (nI n - 1, ρ) = some α ∧ FE [26, 27] [] ρ α ∧ (∀ z, z < n → α.1 26 z = nI (stW W z)) ∧ (∀ z, z ≤ n → α.1 27 z = nI (bh (stW W) (n - z) z)) := by
  refine lp_for (P := fun i (w : Int32 × Sg) => w.1 = nI (n - i) - 1 ∧ FE [26, 27] [] ρ w.2 ∧ (∀ z, n - i ≤ z → z < n → w.2.1 26 z = nI (stW W z)) ∧ (∀ z, n - i ≤ z → z ≤ n → w.2.1 27 z = nI (bh (stW W) (n - z) z))) n (by omega) ⟨by rw [Nat.sub_zero], FE.refl _ _ _, fun z h1 h2 => by omega, fun z h1 h2 => by rw [show z = n by omega, show n - n = 0 by omega]; exact e27⟩ ?_ ?_
  · rintro i ⟨x, w⟩ hi ⟨hx, h2, h3, h4⟩
    dsimp only at hx h2 h3 h4
    subst hx
    have hw : CW W w := hC0.fr h2 (by decide)
    refine ⟨(nI (n - (i + 1)) - 1, sup (sup w 26 (n - i - 1) (nI (stW W (n - i - 1)))) 27 (n - i - 1) (nI (bh (stW W) (n - (n - i - 1)) (n - i - 1)))), ?_, rfl, (h2.trans ((FE_supC (c := 26) (j := n - i - 1) (v := nI (stW W (n - i - 1)))).trans FE_supC)).up (by decide) (by decide), ?_, ?_⟩
    · show fX2_search_B30 (nI (n - i) - 1) w = _
      rw [st_s (by omega)]
      unfold fX2_search_B30
      rw [if_neg (nI_pos (by omega)), strength_spec hB hk hw (by omega)]
      simp only [Option.bind_some]
      rw [gd_t (b9 (by omega)), nI_1, gd_t (b10 (by omega)), gd_t (b9 (by omega)), gd_t (b10 (by omega)), sa_nI _ _ _ _ (by omega), ga_nI _ _ _ (by omega), ga_nI _ _ _ (by omega), sa_nI _ _ _ _ (by omega), sup_ne (σ := w) (c := 26) (d := 27) (by decide), sup_at, if_pos ⟨rfl, rfl⟩, h4 (n - i - 1 + 1) (by omega) (by omega), nI_add]
      have eb : bh (stW W) (n - (n - i - 1 + 1)) (n - i - 1 + 1) + stW W (n - i - 1) = bh (stW W) (n - (n - i - 1)) (n - i - 1) := by
        rw [show n - (n - i - 1) = n - (n - i - 1 + 1) + 1 by omega]
        show _ = stW W (n - i - 1) + bh (stW W) (n - (n - i - 1 + 1)) (n - i - 1 + 1)
        omega
      rw [eb, show n - (i + 1) = n - i - 1 by omega]
      by_cases c : n - i - 1 = 0
      · rw [c]; rfl
      · rw [nI_dec (by omega), st_s (by omega)]
    · intro z h5 h6
      show (sup (sup w 26 (n - i - 1) _) 27 (n - i - 1) _).1 26 z = _
      rw [sup_ne (by decide), sup_at]
      by_cases c : z = n - i - 1
      · rw [if_pos ⟨rfl, c⟩, c]
      · rw [if_neg (fun k => c k.2)]; exact h3 z (by omega) h6
    · intro z h5 h6
      show (sup (sup w 26 (n - i - 1) _) 27 (n - i - 1) _).1 27 z = _
      rw [sup_at]
      by_cases c : z = n - i - 1
      · rw [if_pos ⟨rfl, c⟩, c]
      · rw [if_neg (fun k => c k.2), sup_ne (by decide)]; exact h4 z (by omega) h6
  · rintro ⟨x, w⟩ ⟨hx, h2, h3, h4⟩
    dsimp only at hx h2 h3 h4
    subst hx
    refine ⟨w, ?_, h2, fun z hz => h3 z (by omega) hz, fun z hz => h4 z (by omega) hz⟩
    show fX2_search_B30 (nI (n - n) - 1) w = _
    unfold fX2_search_B30
    rw [show n - n = 0 by omega, if_pos (by decide)]
theorem search_c2 (α : Sg) : ∃ β, lpO (fun w : Int32 × Sg => fX2_search_B74 w.1 w.2) FUEL (0, α) = some β ∧ FE [28] [] α β ∧ ∀ g, g < 3 → β.1 28 g = 0 := by
  refine lp_for (P := fun i (w : Int32 × Sg) => w.1 = nI i ∧ FE [28] [] α w.2 ∧ ∀ g, g < i → w.2.1 28 g = 0) 3 (by omega) ⟨rfl, FE.refl _ _ _, fun j hj => absurd hj (Nat.not_lt_zero _)⟩ ?_ ?_
  · rintro i ⟨x, w⟩ hi ⟨rfl, h2, h3⟩
    dsimp only at h2 h3
    refine ⟨(nI (i + 1), sup w 28 i 0), ?_, rfl, h2.same FE_supC, ?_⟩
    · show fX2_search_B74 (nI i) w = _
      unfold fX2_search_B74
      rw [show (3 : Int32) = nI 3 from rfl, if_neg (by rw [nI_leI (by omega) (by omega)]; omega), gd_t (b3 hi), sa_nI _ _ _ _ (by omega), nI_1]
    · intro g hg
      show (sup w 28 i 0).1 28 g = 0
      rw [sup_at]
      by_cases c : g = i
      · rw [if_pos ⟨rfl, c⟩]
      · rw [if_neg (fun z => c z.2)]; exact h3 g (by omega)
  · rintro ⟨x, w⟩ ⟨rfl, h2, h3⟩
    refine ⟨w, ?_, h2, h3⟩
    show fX2_search_B74 (nI 3) w = _
    unfold fX2_search_B74
    rw [if_pos (by decide)]
theorem search_c0 {σ : Sg} {n : Nat} (h9 : n ≤ 9) (g84 : gf σ 8 4 = nI n) : fX2_search σ = (lpO (fun w : Int32 × Sg => fX2_search_B30 w.1 w.2) FUEL (nI n - 1, sup (sup (sup σ 25 4 (nI n)) 25 6 (-1)) 27 n 0)).bind (fun o9 => (lpO (fun w : Int32 × Sg => fX2_search_B74 w.1 w.2) FUEL (0, o9)).bind (fun o12 => (fX2_layFrom 12 0 0 o12).bind (fun q13 => some q13))) := by
  have g4 : gf (sup (sup σ 25 4 (nI n)) 25 6 (-1)) 25 4 = nI n := by
    rw [gf_eq, sup_at, if_neg (by decide), sup_at, if_pos ⟨rfl, rfl⟩]
  have e254 : gf (sup (sup (sup σ 25 4 (nI n)) 25 6 (-1)) 27 n 0) 25 4 = nI n := by
    rw [gf_eq, sup_ne (by decide)]; exact g4
  unfold fX2_search
  rw [g84, g4, gd_t (b10 (by omega)), sa_nI _ _ _ _ (by omega), e254]
theorem search_c3 {W : Nat → Nat} {n : Nat} {ρ α β : Sg} (e254 : ρ.1 25 4 = nI n) (e256 : ρ.1 25 6 = -1) (a2 : FE [26, 27] [] ρ α) (a3 : ∀ z, z < n → α.1 26 z = nI (stW W z)) (a4 : ∀ z, z ≤ n → α.1 27 z = nI (bh (stW W) (n - z) z)) (c2 : FE [28] [] α β) (c3 : ∀ g, g < 3 → β.1 28 g = 0) : BS (stW W) n 0 (fun _ => 0) 0 (0, 0) β := by
  refine ⟨?_, ?_, fun z hz => ?_, fun z hz => ?_, fun g hg => ?_, fun z hz => absurd hz (Nat.not_lt_zero _), fun hq => absurd rfl hq, Nat.zero_le _⟩
  · rw [c2 25 4 (by decide) (by simp), a2 25 4 (by decide) (by simp)]; exact e254
  · rw [c2 25 6 (by decide) (by simp), a2 25 6 (by decide) (by simp), e256]; exact st_0.symm
  · rw [c2 26 z (by decide) (by simp)]; exact a3 z hz
  · rw [c2 27 z (by decide) (by simp)]; exact a4 z hz
  · rw [c3 g hg]; exact nI_0.symm
theorem search_c4 {σ : Sg} {n : Nat} : FE [26, 27] [(25, 4), (25, 6)] σ (sup (sup (sup σ 25 4 (nI n)) 25 6 (-1)) 27 n 0) := (((FE_sup (c := 25) (j := 4) (v := nI n)).trans (FE_sup (c := 25) (j := 6) (v := -1))).trans (FE_supC (c := 27) (j := n) (v := 0))).up (by decide) (by decide)
theorem search_c5 {σ ρ α β γ : Sg} (f0 : FE [26, 27] [(25, 4), (25, 6)] σ ρ) (a2 : FE [26, 27] [] ρ α) (c2 : FE [28] [] α β) (d2 : FE [28, 29, 30] [(25, 6)] β γ) : FE [26, 27, 28, 29, 30] [(25, 4), (25, 6)] σ γ := (((f0.trans a2).trans c2).trans d2).up (by decide) (by decide)
theorem search_c {k : Nat} {W : Nat → Nat} {σ : Sg} (hB : WBd k W) (hk : k ≤ 512) (h : CW W σ) {n : Nat} (hnn : W 3 = n) : ∃ τ, fX2_search σ = some τ ∧ FE [26, 27, 28, 29, 30] [(25, 4), (25, 6)] σ τ ∧ BS (stW W) n 0 (fun _ => 0) 0 (Fs (stW W) n 0 (fun _ => 0) 0 (0, 0)) τ := by
  have h9 : n ≤ 9 := by have := hB.2.2.2.1; omega
  have hst : ∀ z, z < n → stW W z ≤ 1191 := fun z hz => stW_le hB (by omega)
  have g84 : gf σ 8 4 = nI n := by rw [gf_eq, h.1.2.2.2.1, hnn]
  have f0 := search_c4 (σ := σ) (n := n)
  have hC0 : CW W (sup (sup (sup σ 25 4 (nI n)) 25 6 (-1)) 27 n 0) := h.fr f0 (by decide)
  have e254 : (sup (sup (sup σ 25 4 (nI n)) 25 6 (-1)) 27 n 0).1 25 4 = nI n := by
    rw [sup_ne (by decide), sup_at, if_neg (by decide), sup_at, if_pos ⟨rfl, rfl⟩]
  have e256 : (sup (sup (sup σ 25 4 (nI n)) 25 6 (-1)) 27 n 0).1 25 6 = -1 := by
    rw [sup_ne (by decide), sup_at, if_pos ⟨rfl, rfl⟩]
  have e27 : (sup (sup (sup σ 25 4 (nI n)) 25 6 (-1)) 27 n 0).1 27 n = nI 0 := by rw [sup_at, if_pos ⟨rfl, rfl⟩, nI_0]
  obtain ⟨α, a1, a2, a3, a4⟩ := search_c1 hB hk hC0 hnn h9 e27
  obtain ⟨β, c1, c2, c3⟩ := search_c2 α
  have hβ := search_c3 e254 e256 a2 a3 a4 c2 c3
  have h12 : n + 1 ≤ 12 := by omega
  obtain ⟨γ, d1, d2, d3⟩ := layFrom_spec h9 hst n 0 0 (fun _ => 0) 0 (0, 0) β 12 (Nat.zero_add n) h12 (Nat.zero_le _) (fun _ _ _ => rfl) (fun _ _ => Nat.zero_le _) hβ
  rw [nI_0] at d1
  refine ⟨γ, ?_, search_c5 f0 a2 c2 d2, d3⟩
  rw [search_c0 h9 g84, a1, Option.bind_some, c1, Option.bind_some, d1, Option.bind_some]
/-! best: all ways to lay -/
def fo {S : Type} (f : Nat → S → S) : Nat → S → S
  | 0, q => q
  | i + 1, q => f i (fo f i q)
theorem fo_add {S : Type} (f : Nat → S → S) (a : Nat) (q : S) : ∀ b, fo f (a + b) q = fo (fun k => f (a + k)) b (fo f a q)
  | 0 => rfl
  | b + 1 => by
    show f (a + b) (fo f (a + b) q) = f (a + b) (fo (fun k => f (a + k)) b (fo f a q))
    rw [fo_add f a q b]
theorem fo_cong {S : Type} {f g : Nat → S → S} (q : S) : ∀ n, (∀ k, k < n → f k = g k) → fo f n q = fo g n q
  | 0, _ => rfl
  | n + 1, h => by
    show f n (fo f n q) = g n (fo g n q)
    rw [h n (by omega), fo_cong q n (fun k hk => h k (by omega))]
def vs (st : Nat → Nat) : Nat → Nat → (Nat → Nat) → Nat → (Nat → Nat)
  | 0, _, s, _ => s
  | r + 1, y, s, k => vs st r (y + 1) (ad s (k / 3 ^ r) (st y)) (k % 3 ^ r)
theorem Fs_fold (st : Nat → Nat) : ∀ (r y : Nat) (s : Nat → Nat) (P : Nat) (q : Nat × Nat), Fs st r y s P q = fo (fun k q => lf (mn (vs st r y s k)) (P * 3 ^ r + k) q) (3 ^ r) q
  | 0, y, s, P, q => by
    show lf (mn s) P q = lf (mn s) (P * 3 ^ 0 + 0) q
    rw [Nat.pow_zero, Nat.mul_one, Nat.add_zero]
  | r + 1, y, s, P, q => by
    have hp : 0 < 3 ^ r := Nat.pow_pos (by decide)
    have blk : ∀ g q', g < 3 → fo (fun k => (fun k q => lf (mn (vs st (r + 1) y s k)) (P * 3 ^ (r + 1) + k) q) (g * 3 ^ r + k)) (3 ^ r) q' = Fs st r (y + 1) (ad s g (st y)) (3 * P + g) q' := by
      intro g q' hg
      rw [Fs_fold st r (y + 1) (ad s g (st y)) (3 * P + g) q']
      apply fo_cong
      intro k hk
      funext q2
      have e1 : (g * 3 ^ r + k) / 3 ^ r = g := by
        rw [Nat.add_comm, Nat.add_mul_div_right _ _ hp, Nat.div_eq_of_lt hk, Nat.zero_add]
      have e2 : (g * 3 ^ r + k) % 3 ^ r = k := by
        rw [Nat.add_comm, Nat.add_mul_mod_self_right, Nat.mod_eq_of_lt hk]
      have e3 : P * 3 ^ (r + 1) + (g * 3 ^ r + k) = (3 * P + g) * 3 ^ r + k := by
        rw [Nat.pow_succ, Nat.add_mul, ← Nat.add_assoc, Nat.mul_comm 3 P, Nat.mul_assoc, Nat.mul_comm 3 (3 ^ r)]
      show lf (mn (vs st r (y + 1) (ad s ((g * 3 ^ r + k) / 3 ^ r) (st y)) ((g * 3 ^ r + k) % 3 ^ r))) (P * 3 ^ (r + 1) + (g * 3 ^ r + k)) q2 = _
      rw [e1, e2, e3]
    have b0 := blk 0
    simp only [Nat.zero_mul, Nat.zero_add] at b0
    have b1 := blk 1
    simp only [Nat.one_mul] at b1
    have b2 := blk 2
    have e : 3 ^ (r + 1) = 3 ^ r + 3 ^ r + 3 ^ r := by rw [Nat.pow_succ]; omega
    have z2 : 2 * 3 ^ r = 3 ^ r + 3 ^ r := by omega
    rw [z2] at b2
    have b0' := b0 q (by omega)
    have b1' := b1 (Fs st r (y + 1) (ad s 0 (st y)) (3 * P + 0) q) (by omega)
    have b2' := b2 (Fs st r (y + 1) (ad s 1 (st y)) (3 * P + 1) (Fs st r (y + 1) (ad s 0 (st y)) (3 * P + 0) q)) (by omega)
    have key : fo (fun k q => lf (mn (vs st (r + 1) y s k)) (P * 3 ^ (r + 1) + k) q) (3 ^ r + 3 ^ r + 3 ^ r) q = Fs st (r + 1) y s P q := by
      rw [fo_add _ (3 ^ r + 3 ^ r), fo_add _ (3 ^ r), b0', b1', b2']
      rfl
    exact (key.symm.trans (congrArg (fun N => fo (fun k q => lf (mn (vs st (r + 1) y s k)) (P * 3 ^ (r + 1) + k) q) N q) e.symm))
theorem ad_comm (s : Nat → Nat) (a b c d : Nat) : ad (ad s a c) b d = ad (ad s b d) a c := by
  funext h
  unfold ad
  by_cases h1 : h = a
  · by_cases h2 : h = b
    · rw [if_pos h2, if_pos h1, if_pos h1, if_pos h2]; omega
    · rw [if_neg h2, if_pos h1, if_pos h1, if_neg h2]
  · by_cases h2 : h = b
    · rw [if_pos h2, if_neg h1, if_neg h1, if_pos h2]
    · rw [if_neg h2, if_neg h1, if_neg h1, if_neg h2]
theorem vs_low (st : Nat → Nat) : ∀ (r y : Nat) (s : Nat → Nat) (k : Nat), k < 3 ^ (r + 1) → vs st (r + 1) y s k = vs st r y (ad s (k % 3) (st (y + r))) (k / 3)
  | 0, y, s, k, hk => by
    have hk3 : k < 3 := hk
    show ad s (k / 3 ^ 0) (st y) = ad s (k % 3) (st (y + 0))
    rw [Nat.pow_zero, Nat.div_one, Nat.mod_eq_of_lt hk3, Nat.add_zero]
  | r + 1, y, s, k, hk => by
    have hp : 0 < 3 ^ (r + 1) := Nat.pow_pos (by decide)
    show vs st (r + 1) (y + 1) (ad s (k / 3 ^ (r + 1)) (st y)) (k % 3 ^ (r + 1)) = vs st r (y + 1) (ad (ad s (k % 3) (st (y + (r + 1)))) (k / 3 / 3 ^ r) (st y)) (k / 3 % 3 ^ r)
    rw [vs_low st r (y + 1) _ _ (Nat.mod_lt _ hp)]
    have e1 : k % 3 ^ (r + 1) % 3 = k % 3 := Nat.mod_mod_of_dvd _ ⟨3 ^ r, by rw [Nat.pow_succ, Nat.mul_comm]⟩
    have e2 : k / 3 / 3 ^ r = k / 3 ^ (r + 1) := by rw [Nat.div_div_eq_div_mul, Nat.pow_succ, Nat.mul_comm]
    have e3 : k % 3 ^ (r + 1) / 3 = k / 3 % 3 ^ r := by rw [Nat.pow_succ, Nat.mul_comm, Nat.mod_mul_right_div_self]
    rw [e1, e2, e3, ad_comm, show y + 1 + r = y + (r + 1) by omega]
theorem vs_le (st : Nat → Nat) {c : Nat} : ∀ (r y : Nat) (s : Nat → Nat) (k b : Nat), (∀ g, g < 3 → s g ≤ b) → (∀ z, y ≤ z → z < y + r → st z ≤ c) → ∀ g, g < 3 → vs st r y s k g ≤ b + c * r
  | 0, y, s, k, b, h1, _, g, hg => by
    show s g ≤ _
    have := h1 g hg
    omega
  | r + 1, y, s, k, b, h1, h2, g, hg => by
    have hy := h2 y (by omega) (by omega)
    have := vs_le st (c := c) r (y + 1) (ad s (k / 3 ^ r) (st y)) (k % 3 ^ r) (b + c) (fun h hh => by
      have := h1 h hh
      unfold ad
      split <;> omega) (fun z z1 z2 => h2 z (by omega) (by omega)) g hg
    show vs st r (y + 1) (ad s (k / 3 ^ r) (st y)) (k % 3 ^ r) g ≤ _
    rw [Nat.mul_add]
    omega
