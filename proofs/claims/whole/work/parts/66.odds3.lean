/-! odds: the reference -/
theorem tenthsOf_spec {k : Nat} {W : Nat → Nat} {σ : Sg} (hB : WBd k W) (h : MW W σ) {y : Nat} (hy : y < W 3) : fX11_tenthsOf (nI y) σ = some (nI (tn W y)) := by
  have h9 := hB.2.2.2.1
  have hb := hB.2.2.2.2.2 y hy
  unfold fX11_tenthsOf tn
  rw [of_0 h hy h9, truthOf_spec hB h hy]
  simp only [Option.bind_some]
  by_cases d : W (14 + 7 * y) = 2
  · rw [if_pos (show nI (W (14 + 7 * y)) = (2 : Int32) by rw [d]; rfl), if_pos d]; rfl
  · rw [if_neg (q2 d), if_neg d]
    by_cases e : W (14 + 7 * y) = 4
    · rw [if_pos (show nI (W (14 + 7 * y)) = (4 : Int32) by rw [e]; rfl), if_pos e]; rfl
    · rw [if_neg (q4 e), if_neg e]
theorem wt_J {k : Nat} {W : Nat → Nat} {σ : Sg} (hB : WBd k W) (h : MW W σ) {i : Nat} (hi : i < W 3) (v1 v2 v3 v4 v5 : Int32) (acc : Nat) {t : Nat} (ht : t ≤ 1) : fX11_odds_J128 v1 v2 v3 v4 v5 (nI acc) (nI i) (nI t) σ = some (.inl (nI (acc * wtN W i t), nI (i + 1))) := by
  have h9 := hB.2.2.2.1
  have htn := tn_le hB hi
  have hb := (hB.2.2.2.2.2 i hi).2.2.2.2.1
  unfold fX11_odds_J128 fX11_odds_J178
  rw [of_4 h hi h9, tenthsOf_spec hB h hi]
  simp only [Option.bind_some]
  by_cases c : W (18 + 7 * i) = 0
  · rw [if_pos (show nI (W (18 + 7 * i)) = (0 : Int32) by rw [c]; rfl)]
    by_cases d : t = 0
    · have e : wtN W i t = 10 - tn W i := by unfold wtN; rw [if_pos c, if_neg (by omega)]
      rw [if_pos (show nI t = (0 : Int32) by rw [d]; rfl), e, show (10 : Int32) = nI 10 from rfl, pk_sub htn, pk_mul, nI_1]
    · have e : wtN W i t = tn W i := by unfold wtN; rw [if_pos c, if_pos (by omega)]
      rw [if_neg (q0 d), e, pk_mul, nI_1]
  · rw [if_neg (q0 c)]
    by_cases d : t = 0
    · have e : wtN W i t = 0 := by unfold wtN; rw [if_neg c, if_neg (by omega)]
      rw [if_pos (show nI t = (0 : Int32) by rw [d]; rfl), e, show (0 : Int32) = nI 0 from rfl, pk_mul, nI_1]
    · have e : wtN W i t = 1 := by unfold wtN; rw [if_neg c, if_pos (by omega)]
      rw [if_neg (q0 d), e, nI_1, show (1 : Int32) = nI 1 from rfl, pk_mul]
theorem wt_step {k : Nat} {W : Nat → Nat} {σ : Sg} (hB : WBd k W) (h : MW W σ) {i : Nat} (hi : i < W 3) {m : Nat} (hm : m < 512) (v1 v2 v3 v4 : Int32) (acc : Nat) : fX11_odds_B101 v1 v2 v3 v4 (nI m) (nI acc) (nI i) σ = some (.inl (nI (acc * wtN W i (m / 2 ^ i % 2)), nI (i + 1))) := by
  have h9 := hB.2.2.2.1
  have hbit : m / 2 ^ i % 2 = 0 ∨ m / 2 ^ i % 2 = 1 := by omega
  unfold fX11_odds_B101
  rw [gd_t i77_3, mk3 h, if_neg (by rw [nI_leI (by omega) (by omega)]; omega), bit_nI (by omega) (by omega)]
  rcases hbit with e | e
  · rw [e, if_neg (show ¬ nI 0 = (1 : Int32) by decide)]
    exact wt_J hB h hi v1 v2 v3 v4 (nI m) acc (t := 0) (by omega)
  · rw [e, if_pos (show nI 1 = (1 : Int32) from rfl)]
    exact wt_J hB h hi v1 v2 v3 v4 (nI m) acc (t := 1) (by omega)
theorem h2 (m i : Nat) : m / 2 ^ i / 2 = m / 2 ^ (i + 1) := by rw [Nat.div_div_eq_div_mul, Nat.pow_succ]
theorem ways_spec {k : Nat} {W : Nat → Nat} {σ : Sg} (hB : WBd k W) (h : MW W σ) {m : Nat} (hm : m < 512) (v1 v2 v3 v4 : Int32) : lpO (fun w : Int32 × Int32 => fX11_odds_B101 v1 v2 v3 v4 (nI m) w.1 w.2 σ) FUEL (1, 0) = some (nI (pw W (W 3) 0 m)) := by
  have h9 := hB.2.2.2.1
  have key := lp_for (f := fun w : Int32 × Int32 => fX11_odds_B101 v1 v2 v3 v4 (nI m) w.1 w.2 σ) (P := fun i w => ∃ acc, w.1 = nI acc ∧ w.2 = nI i ∧ acc * pw W (W 3 - i) i (m / 2 ^ i) = pw W (W 3) 0 m) (Q := fun o => o = nI (pw W (W 3) 0 m)) (W 3) (by omega) (s0 := (1, 0)) ⟨1, rfl, rfl, by rw [Nat.pow_zero, Nat.div_one, Nat.one_mul, Nat.sub_zero]⟩ ?_ ?_
  · obtain ⟨o, k1, k2⟩ := key
    rw [k1, k2]
  · rintro i ⟨x, z⟩ hi ⟨acc, hx, hz, hp⟩
    dsimp only at hx hz
    subst hx hz
    refine ⟨(nI (acc * wtN W i (m / 2 ^ i % 2)), nI (i + 1)), wt_step hB h hi hm v1 v2 v3 v4 acc, acc * wtN W i (m / 2 ^ i % 2), rfl, rfl, ?_⟩
    rw [show W 3 - i = (W 3 - (i + 1)) + 1 by omega] at hp
    rw [← hp]
    show _ = acc * (wtN W i (m / 2 ^ i % 2) * pw W (W 3 - (i + 1)) (i + 1) (m / 2 ^ i / 2))
    rw [h2, Nat.mul_assoc]
  · rintro ⟨x, z⟩ ⟨acc, hx, hz, hp⟩
    dsimp only at hx hz
    subst hx hz
    refine ⟨nI acc, ?_, ?_⟩
    · show fX11_odds_B101 v1 v2 v3 v4 (nI m) (nI acc) (nI (W 3)) σ = _
      unfold fX11_odds_B101
      rw [gd_t i77_3, mk3 h, if_pos (by rw [nI_leI (by omega) (by omega)]; omega)]
    · rw [← hp, Nat.sub_self]
      show nI acc = nI (acc * 1)
      rw [Nat.mul_one]
theorem cb_le {k : Nat} {W : Nat → Nat} (hB : WBd k W) {y : Nat} (hy : y < W 3) (b : Nat) : cb W y b ≤ 1191 := by
  unfold cb
  split
  · split
    · exact stH_le hB hy _
    · exact stH_le hB hy _
  · exact stH_le hB hy _
theorem fs_le {k : Nat} {W : Nat → Nat} (hB : WBd k W) : ∀ (r y : Nat) (s : Nat → Nat) (m c : Nat), y + r = W 3 → (∀ g, g < 3 → s g ≤ c) → ∀ g, g < 3 → fs W r y s m g ≤ c + 1191 * r
  | 0, _, s, _, c, _, h, g, hg => by
    have := h g hg
    show s g ≤ _
    omega
  | r + 1, y, s, m, c, hy, h, g, hg => by
    have hc := cb_le hB (y := y) (by omega) (m % 2)
    have := fs_le hB r (y + 1) (adS W s y (m % 2)) (m / 2) (c + 1191) (by omega) (fun g hg => by
      have := h g hg
      unfold adS
      split
      · omega
      · unfold ad
        split <;> omega) g hg
    show fs W r (y + 1) (adS W s y (m % 2)) (m / 2) g ≤ _
    omega
theorem bi_J {k : Nat} {W : Nat → Nat} {w : Sg} (hB : WBd k W) (hk : k ≤ 512) (h : MW W w) {i : Nat} (hi : i < W 3) (v1 : Int32) {how : Nat} (hh : how ≤ 2) : fX11_bearsIf_J48 v1 (nI i) (nI how) w = some (.inl (nI (i + 1), if W (17 + 7 * i) = 0 then w else sup w 46 (W (17 + 7 * i) - 1) (w.1 46 (W (17 + 7 * i) - 1) + nI (stH W i how)))) := by
  have h9 := hB.2.2.2.1
  have hb := hB.2.2.2.2.2 i hi
  unfold fX11_bearsIf_J48 fX11_bearsIf_J78
  rw [of_3 h hi h9, strengthBy_spec hB hk h hi hh]
  simp only [Option.bind_some]
  by_cases c : W (17 + 7 * i) = 0
  · rw [if_pos ((st_neg (by omega)).mpr c), if_pos c, nI_1]
  · rw [if_neg (fun z => c ((st_neg (by omega)).mp z)), if_neg c, nI_1, st_s (by omega), gd_t (b3 (by omega)), gd_t (b3 (by omega)), ga_nI _ _ _ (by omega), sa_nI _ _ _ _ (by omega)]
theorem bearsIf_spec {k : Nat} {W : Nat → Nat} {σ : Sg} (hB : WBd k W) (hk : k ≤ 512) (h : MW W σ) {m : Nat} (hm : m < 512) : ∃ τ, fX11_bearsIf (nI m) σ = some (nI (3 * mn (fs W (W 3) 0 (fun _ => 0) m)), τ) ∧ FE [46] [] σ τ := by
  have h9 := hB.2.2.2.1
  unfold fX11_bearsIf
  obtain ⟨ρ, r1, r2, r3⟩ := noStrands_spec σ
  rw [r1]
  simp only [Option.bind_some]
  have key := lp_for (f := fun w : Int32 × Sg => fX11_bearsIf_B6 (nI m) w.1 w.2) (P := fun i w => w.1 = nI i ∧ FE [46] [] σ w.2 ∧ ∃ s : Nat → Nat, (∀ g, g < 3 → w.2.1 46 g = nI (s g)) ∧ fs W (W 3 - i) i s (m / 2 ^ i) = fs W (W 3) 0 (fun _ => 0) m) (Q := fun τ => FE [46] [] σ τ ∧ ∀ g, g < 3 → τ.1 46 g = nI (fs W (W 3) 0 (fun _ => 0) m g)) (W 3) (by omega) (s0 := (0, ρ)) ⟨rfl, r2, fun _ => 0, fun g hg => r3 g hg, by rw [Nat.pow_zero, Nat.div_one, Nat.sub_zero]⟩ ?_ ?_
  · obtain ⟨τ, k1, k2, k3⟩ := key
    rw [k1, Option.bind_some]
    have hb : ∀ g, g < 3 → fs W (W 3) 0 (fun _ => 0) m g ≤ 0 + 1191 * W 3 := fs_le hB (W 3) 0 (fun _ => 0) m 0 (by omega) (fun _ _ => Nat.le_refl _)
    rw [mrope_spec (f := fs W (W 3) 0 (fun _ => 0) m) (fun g hg => ⟨k3 g hg, by have := hb g hg; omega⟩)]
    exact ⟨τ, rfl, k2⟩
  · rintro i ⟨x, w⟩ hi ⟨hx, h2', s, h3, h4⟩
    dsimp only at hx h2' h3
    subst hx
    have hw : MW W w := h.fr h2' (by decide)
    have hb := hB.2.2.2.2.2 i hi
    rw [show W 3 - i = (W 3 - (i + 1)) + 1 by omega] at h4
    have h4' : fs W (W 3 - (i + 1)) (i + 1) (adS W s i (m / 2 ^ i % 2)) (m / 2 ^ i / 2) = fs W (W 3) 0 (fun _ => 0) m := h4
    rw [h2] at h4'
    have hbit : m / 2 ^ i % 2 = 0 ∨ m / 2 ^ i % 2 = 1 := by omega
    -- what its vow is then
    have st : ∀ how, how ≤ 2 → stH W i how = cb W i (m / 2 ^ i % 2) → fX11_bearsIf_B6 (nI m) (nI i) w = fX11_bearsIf_J48 (nI m) (nI i) (nI how) w → ∃ s1, fX11_bearsIf_B6 (nI m) (nI i) w = some (.inl s1) ∧ (s1.1 = nI (i + 1) ∧ FE [46] [] σ s1.2 ∧ ∃ s : Nat → Nat, (∀ g, g < 3 → s1.2.1 46 g = nI (s g)) ∧ fs W (W 3 - (i + 1)) (i + 1) s (m / 2 ^ (i + 1)) = fs W (W 3) 0 (fun _ => 0) m) := by
      intro how hh e1 e2
      rw [e2, bi_J hB hk hw hi (nI m) hh]
      refine ⟨_, rfl, rfl, ?_, adS W s i (m / 2 ^ i % 2), fun g hg => ?_, h4'⟩
      · dsimp only
        by_cases c : W (17 + 7 * i) = 0
        · rw [if_pos c]; exact h2'
        · rw [if_neg c]; exact h2'.same FE_supC
      · dsimp only
        unfold adS
        by_cases c : W (17 + 7 * i) = 0
        · rw [if_pos c, if_pos c]; exact h3 g hg
        · rw [if_neg c, if_neg c, sup_at]
          by_cases e : g = W (17 + 7 * i) - 1
          · rw [if_pos ⟨rfl, e⟩, ← e, h3 g hg, nI_add, ad_eq, e1]
          · rw [if_neg (fun z => e z.2), ad_ne e]; exact h3 g hg
    have un : fX11_bearsIf_B6 (nI m) (nI i) w = if nI (W (18 + 7 * i)) = 0 then (if nI (m / 2 ^ i % 2) = 1 then fX11_bearsIf_J48 (nI m) (nI i) 1 w else fX11_bearsIf_J48 (nI m) (nI i) 2 w) else fX11_bearsIf_J48 (nI m) (nI i) (nI (W (18 + 7 * i))) w := by
      unfold fX11_bearsIf_B6
      rw [gd_t i77_3, mk3 hw, if_neg (by rw [nI_leI (by omega) (by omega)]; omega), bit_nI (by omega) (by omega), of_4 hw hi h9]
      simp only [Option.bind_some]
    show ∃ s1, fX11_bearsIf_B6 (nI m) (nI i) w = some (.inl s1) ∧ _
    by_cases c : W (18 + 7 * i) = 0
    · rw [if_pos (show nI (W (18 + 7 * i)) = (0 : Int32) by rw [c]; rfl)] at un
      rcases hbit with e | e
      · rw [e, if_neg (show ¬ nI 0 = (1 : Int32) by decide)] at un
        exact st 2 (by omega) (by unfold cb; rw [if_pos c, e, if_neg (by decide)]) un
      · rw [e, if_pos (show nI 1 = (1 : Int32) from rfl)] at un
        exact st 1 (by omega) (by unfold cb; rw [if_pos c, e, if_pos rfl]) un
    · rw [if_neg (q0 c)] at un
      exact st _ (by omega) (by unfold cb; rw [if_neg c]) un
  · rintro ⟨x, w⟩ ⟨hx, h2', s, h3, h4⟩
    dsimp only at hx h2' h3
    subst hx
    have hw : MW W w := h.fr h2' (by decide)
    rw [Nat.sub_self] at h4
    have h4' : s = fs W (W 3) 0 (fun _ => 0) m := h4
    refine ⟨w, ?_, h2', fun g hg => by rw [h3 g hg, h4']⟩
    show fX11_bearsIf_B6 (nI m) (nI (W 3)) w = _
    unfold fX11_bearsIf_B6
    rw [gd_t i77_3, mk3 hw, if_pos (by rw [nI_leI (by omega) (by omega)]; omega)]
theorem all_spec {k : Nat} {W : Nat → Nat} {σ : Sg} (hB : WBd k W) (h : MW W σ) (v1 v2 : Int32) : lpO (fun w : Int32 × Int32 => fX11_odds_B40 v1 v2 w.1 w.2 σ) FUEL (1, 0) = some (nI (WH W (W 3) 0)) := by
  have h9 := hB.2.2.2.1
  have key := lp_for (f := fun w : Int32 × Int32 => fX11_odds_B40 v1 v2 w.1 w.2 σ) (P := fun i w => ∃ acc, w.1 = nI acc ∧ w.2 = nI i ∧ acc * WH W (W 3 - i) i = WH W (W 3) 0) (Q := fun o => o = nI (WH W (W 3) 0)) (W 3) (by omega) (s0 := (1, 0)) ⟨1, rfl, rfl, by rw [Nat.one_mul, Nat.sub_zero]⟩ ?_ ?_
  · obtain ⟨o, k1, k2⟩ := key
    rw [k1, k2]
  · rintro i ⟨x, z⟩ hi ⟨acc, hx, hz, hp⟩
    dsimp only at hx hz
    subst hx hz
    have hb := (hB.2.2.2.2.2 i hi).2.2.2.2.1
    refine ⟨(nI (acc * (if W (18 + 7 * i) = 0 then 10 else 1)), nI (i + 1)), ?_, _, rfl, rfl, ?_⟩
    · show fX11_odds_B40 v1 v2 (nI acc) (nI i) σ = _
      unfold fX11_odds_B40 fX11_odds_J68
      rw [gd_t i77_3, mk3 h, if_neg (by rw [nI_leI (by omega) (by omega)]; omega), of_4 h hi h9]
      simp only [Option.bind_some]
      by_cases c : W (18 + 7 * i) = 0
      · rw [if_pos (show nI (W (18 + 7 * i)) = (0 : Int32) by rw [c]; rfl), if_pos c, show (10 : Int32) = nI 10 from rfl, pk_mul, nI_1]
      · rw [if_neg (q0 c), if_neg c, nI_1, show (1 : Int32) = nI 1 from rfl, pk_mul]
    · rw [show W 3 - i = (W 3 - (i + 1)) + 1 by omega] at hp
      rw [← hp]
      show _ = acc * ((if W (18 + 7 * i) = 0 then 10 else 1) * WH W (W 3 - (i + 1)) (i + 1))
      rw [Nat.mul_assoc]
  · rintro ⟨x, z⟩ ⟨acc, hx, hz, hp⟩
    dsimp only at hx hz
    subst hx hz
    refine ⟨nI acc, ?_, ?_⟩
    · show fX11_odds_B40 v1 v2 (nI acc) (nI (W 3)) σ = _
      unfold fX11_odds_B40
      rw [gd_t i77_3, mk3 h, if_pos (by rw [nI_leI (by omega) (by omega)]; omega)]
    · rw [← hp, Nat.sub_self]
      show nI acc = nI (acc * 1)
      rw [Nat.mul_one]
theorem p2_le {n : Nat} (h : n ≤ 9) : 2 ^ n ≤ 512 := Nat.pow_le_pow_right (n := 2) (by decide) h
theorem good_spec {k : Nat} {W : Nat → Nat} {σ : Sg} (hB : WBd k W) (hk : k ≤ 512) (h : MW W σ) {L : Nat} (hL : L ≤ 9999) (v2 v3 : Int32) : ∃ τ, lpO (fun w : Int32 × Int32 × Sg => fX11_odds_B82 (nI L) v2 v3 w.1 w.2.1 w.2.2) FUEL (0, 0, σ) = some (nI (ZS W ((L + 2) / 3) (W 3) 0 (fun _ => 0)), τ) ∧ FE [46] [] σ τ := by
  have h9 := hB.2.2.2.1
  have hp2 := p2_le h9
  have hp := p10_le h9
  generalize hneed : (L + 2) / 3 = need
  have key := lp_for (f := fun w : Int32 × Int32 × Sg => fX11_odds_B82 (nI L) v2 v3 w.1 w.2.1 w.2.2) (P := fun i w => w.1 = nI (fb_sm (fun m => pw W (W 3) 0 m * oqS need (fs W (W 3) 0 (fun _ => 0) m)) i) ∧ w.2.1 = nI i ∧ FE [46] [] σ w.2.2) (Q := fun o => o.1 = nI (ZS W need (W 3) 0 (fun _ => 0)) ∧ FE [46] [] σ o.2) (2 ^ W 3) (by omega) (s0 := (0, 0, σ)) ⟨rfl, rfl, FE.refl _ _ _⟩ ?_ ?_
  · obtain ⟨⟨o1, o2⟩, k1, k2, k3⟩ := key
    dsimp only at k2 k3
    subst k2
    exact ⟨o2, k1, k3⟩
  · rintro i ⟨x, z, w⟩ hi ⟨hx, hz, h3⟩
    dsimp only at hx hz h3
    subst hx hz
    have hw : MW W w := h.fr h3 (by decide)
    have hpw := pw_le hB (W 3) 0 i (by omega)
    obtain ⟨τ, t1, t2⟩ := bearsIf_spec hB hk hw (m := i) (by omega)
    have hfs : ∀ g, g < 3 → fs W (W 3) 0 (fun _ => 0) i g ≤ 0 + 1191 * W 3 := fs_le hB (W 3) 0 (fun _ => 0) i 0 (by omega) (fun _ _ => Nat.le_refl _)
    have hmn := mn_le hfs
    show ∃ s1, fX11_odds_B82 (nI L) v2 v3 _ (nI i) w = some (.inl s1) ∧ _
    unfold fX11_odds_B82 fX11_odds_J209 fX11_odds_J210
    rw [gd_t i77_3, mk3 hw, shl1_nI (by omega), if_neg (by rw [nI_leI (by omega) (by omega)]; omega), ways_spec hB hw (by omega), t1]
    simp only [Option.bind_some]
    rw [fb_sm_succ]
    by_cases c : pw W (W 3) 0 i = 0
    · rw [if_pos (by rw [c]; decide), c, Nat.zero_mul, nI_1]
      exact ⟨_, rfl, by rw [show (0 : Int32) = nI 0 from rfl, nI_add], rfl, h3⟩
    · rw [if_neg (by rw [show (0 : Int32) = nI 0 from rfl, nI_leI (by omega) (by omega)]; omega), nI_1]
      have e : need ≤ mn (fs W (W 3) 0 (fun _ => 0) i) ↔ ¬ 3 * mn (fs W (W 3) 0 (fun _ => 0) i) < L := by omega
      by_cases d : 3 * mn (fs W (W 3) 0 (fun _ => 0) i) < L
      · have o0 : oqS need (fs W (W 3) 0 (fun _ => 0) i) = 0 := if_neg (fun z => e.mp z d)
        rw [if_pos ((nI_ltI (by omega) (by omega)).mpr d), o0, Nat.mul_zero]
        exact ⟨_, rfl, by rw [show (0 : Int32) = nI 0 from rfl, nI_add], rfl, h3.same t2⟩
      · have o1 : oqS need (fs W (W 3) 0 (fun _ => 0) i) = 1 := if_pos (e.mpr d)
        rw [if_neg (fun z => d ((nI_ltI (by omega) (by omega)).mp z)), o1, Nat.mul_one, nI_add]
        exact ⟨_, rfl, rfl, rfl, h3.same t2⟩
  · rintro ⟨x, z, w⟩ ⟨hx, hz, h3⟩
    dsimp only at hx hz h3
    subst hx hz
    have hw : MW W w := h.fr h3 (by decide)
    refine ⟨(_, w), ?_, rfl, h3⟩
    show fX11_odds_B82 (nI L) v2 v3 _ (nI (2 ^ W 3)) w = _
    unfold fX11_odds_B82
    rw [gd_t i77_3, mk3 hw, shl1_nI (by omega), if_pos (by rw [nI_leI (by omega) (by omega)]; omega)]
    rfl
theorem load_of {a : Int32} (h : 0 ≤ a ∧ a ≤ 9999) : ∃ L, L ≤ 9999 ∧ a = nI L := by
  have z0 : (0 : Int32).toInt = 0 := rfl
  have z9 : (9999 : Int32).toInt = 9999 := rfl
  simp only [fa_le, z0, z9] at h
  obtain ⟨j, hj, rfl⟩ := nI_of (x := a) (by rw [fa_lt]; omega)
  rw [nI_toInt hj] at h
  exact ⟨j, by omega, rfl⟩
theorem ok_odds : OK_odds Inv := by
  intro k b σ a1 a2 hk hI
  obtain ⟨⟨t, W, ⟨t1, wt, wm, w0, hB, hT, hS, hM⟩, _⟩, _⟩ := hI.2.2.2.2
  have hC : CW W σ := ⟨hT, hS⟩
  have h9 := hB.2.2.2.1
  have hp := p10_le h9
  have e1 : gf σ 8 0 = nI t := wt
  have e2 : gf (sup σ 38 0 0) 38 7 = nI t := wm
  have e := small_in a2 1 (by omega)
  rw [show (nI 1).toInt64 = (1 : Int64) from rfl] at e
  by_cases ht : t = 0
  · subst ht
    refine ⟨(-1000002, σ), (-1000002, sup σ 38 0 0), ?_, ?_, rfl, hI.up.thr 0⟩
    · unfold fX10_odds; rw [e1, if_pos (show nI 0 = (0 : Int32) from rfl)]
    · show fX11_odds a1 a2 σ = _
      unfold fX11_odds; rw [e2, if_pos (show nI 0 = (0 : Int32) from rfl)]
  by_cases c1 : 0 ≤ a1 ∧ a1 ≤ 9999
  rotate_left
  · refine ⟨(-1000001, σ), (-1000001, sup σ 38 0 0), ?_, ?_, rfl, hI.up.thr 0⟩
    · unfold fX10_odds fX10_odds_J29; rw [e1, if_neg (q0 ht), isLoad_c, if_neg c1, Option.bind_some, if_pos rfl]
    · show fX11_odds a1 a2 σ = _
      unfold fX11_odds fX11_odds_J32; rw [e2, if_neg (q0 ht), isLoad_m, if_neg c1, Option.bind_some, if_pos rfl]
  by_cases c2 : ∃ j, j ≤ 1 ∧ a2 = nI j
  rotate_left
  · refine ⟨(-1000001, σ), (-1000001, sup σ 38 0 0), ?_, ?_, rfl, hI.up.thr 0⟩
    · unfold fX10_odds fX10_odds_J29; rw [e1, if_neg (q0 ht), isLoad_c, if_pos c1, Option.bind_some, if_neg one_ne]
      by_cases d1 : a2 < 0
      · rw [if_pos d1]
      · have d2 : ¬ a2 ≤ 1 := by
          have := (small_no (by omega) c2).resolve_left d1
          rw [fa_le]; rw [fa_lt] at this; exact Int.not_le.mpr this
        rw [if_neg d1, if_neg d2]
    · show fX11_odds a1 a2 σ = _
      unfold fX11_odds fX11_odds_J32; rw [e2, if_neg (q0 ht), isLoad_m, if_pos c1, Option.bind_some, if_neg one_ne, in_spec, if_neg (fun z => c2 (e.mp z)), Option.bind_some, if_pos rfl]
  obtain ⟨L, hL, rfl⟩ := load_of c1
  obtain ⟨τ, r1, r2, r3, r4⟩ := reckon_spec hB (by omega) hC hL
  have fτ := r2.trans (FE_sup (c := 38) (j := 0) (v := 0))
  have hMτ : MW W (sup τ 38 0 0) := (show MW W σ from hM).fr fτ (by decide)
  obtain ⟨φ, g1, g2⟩ := good_spec hB (by omega) hMτ hL a2 (nI (WH W (W 3) 0))
  have hU : Inv (k + 1) b φ := hI.up.fr (fτ.trans g2) (by decide)
  have e2' : gf (sup τ 38 0 0) 38 7 = nI t := by
    rw [gf_eq, sup_at, if_neg (by decide), r2 38 7 (by decide) (by simp)]; exact wm
  have al := all_spec hB hMτ (nI L) a2
  -- the numbers
  have hY := Yr_eq hB ((L + 2) / 3) (W 3) 0 (fun _ => 0) (by omega)
  have hYl := Yr_le hB ((L + 2) / 3) (W 3) 0 (fun _ => 0) (by omega)
  have hW := WH_PF W (W 3) 0
  have hP0 := PF_pos W (W 3) 0
  have hW0 := WH_pos W (W 3) 0
  rw [dI_end] at r3 r4
  dsimp only at r3 r4
  generalize hZ : ZS W ((L + 2) / 3) (W 3) 0 (fun _ => 0) = Z at *
  generalize WH W (W 3) 0 = H at *
  generalize PF W (W 3) 0 = P at *
  generalize Yr W ((L + 2) / 3) (W 3) 0 (fun _ => 0) = Y at *
  have hHl : H ≤ 10 ^ W 3 := by rw [← hW]; exact Nat.le_mul_of_pos_right H hP0
  have hZl : Z ≤ Y := by rw [hY]; exact Nat.le_mul_of_pos_left Z hP0
  have eg : Nat.gcd Y (10 ^ W 3) = P * Nat.gcd Z H := by rw [hY, ← hW, Nat.mul_comm H P, Nat.gcd_mul_left]
  have hg0 : 0 < Nat.gcd Z H := Nat.gcd_pos_of_pos_right Z hW0
  have hgl : Nat.gcd Z H ≤ H := Nat.le_of_dvd hW0 (Nat.gcd_dvd_right Z H)
  have x1 : Y / Nat.gcd Y (10 ^ W 3) = Z / Nat.gcd Z H := by rw [eg, hY, Nat.mul_div_mul_left _ _ hP0]
  have x2 : 10 ^ W 3 / Nat.gcd Y (10 ^ W 3) = H / Nat.gcd Z H := by rw [eg, ← hW, Nat.mul_comm H P, Nat.mul_div_mul_left _ _ hP0]
  rw [x1] at r3
  rw [x2] at r4
  have gl := gcd_lp (v2 := a2) (v3 := nI H) (v4 := nI Z) (σ := φ) 30 Z H FUEL (by omega) (by omega) (by omega) (by decide)
  have mm : fX11_odds (nI L) a2 τ = if a2 = 0 then some (nI (Z / Nat.gcd Z H), φ) else some (nI (H / Nat.gcd Z H), φ) := by
    unfold fX11_odds fX11_odds_J259
    rw [e2', if_neg (q0 ht), isLoad_m, if_pos c1, Option.bind_some, if_neg one_ne, in_spec, if_pos (e.mpr c2), Option.bind_some, if_neg one_ne, al, Option.bind_some]
    rw [g1, Option.bind_some]
    dsimp only
    rw [gl, Option.bind_some, gd_t (nz_t (q0 (by omega))), gd_t (nz_t (q0 (by omega))), pk_div (by omega) hg0 (by omega), pk_div (by omega) hg0 (by omega)]
  have cc : fX10_odds (nI L) a2 σ = if a2 = 0 then some (nI (Z / Nat.gcd Z H), τ) else some (nI (H / Nat.gcd Z H), τ) := by
    unfold fX10_odds
    obtain ⟨j, hj, rfl⟩ := c2
    rw [e1, if_neg (q0 ht), isLoad_c, if_pos c1, Option.bind_some, if_neg one_ne, if_neg (nI_pos (by omega)), if_pos (show nI j ≤ (1 : Int32) from (nI_leI (b := 1) (by omega) (by omega)).mpr hj), r1, Option.bind_some, gf_eq, gf_eq, r3, r4]
  by_cases ca : a2 = 0
  · rw [if_pos ca] at cc mm
    exact ⟨_, _, cc, mm, rfl, hU⟩
  · rw [if_neg ca] at cc mm
    exact ⟨_, _, cc, mm, rfl, hU⟩
