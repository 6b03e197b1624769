/-! best: the reference -/
theorem FE_sup' {σ : Sg} {ms : List Nat} {c j : Nat} {v : Int32} : FE ms [(c, j)] σ (sup σ c j v) := (FE_sup (c := c) (j := j) (v := v)).up (fun _ h => absurd h List.not_mem_nil) (fun _ h => Or.inl h)
theorem p3_le {n : Nat} (h : n ≤ 9) : 3 ^ n ≤ 19683 := Nat.pow_le_pow_right (n := 3) (by decide) h
theorem bearsBy_spec {k : Nat} {W : Nat → Nat} {σ : Sg} (hB : WBd k W) (hk : k ≤ 512) (h : MW W σ) {n : Nat} (hnn : W 3 = n) {v : Nat} (hv : v < 3 ^ n) : ∃ τ, fX11_bearsBy (nI v) σ = some (nI (3 * mn (vs (stW W) n 0 (fun _ => 0) v)), τ) ∧ FE [46] [] σ τ := by
  have h9 : n ≤ 9 := by have := hB.2.2.2.1; omega
  have hp := p3_le h9
  obtain ⟨ρ, r1, r2, r3⟩ := noStrands_spec σ
  have hρ : MW W ρ := h.fr r2 (by decide)
  unfold fX11_bearsBy
  rw [r1, Option.bind_some, gd_t i77_3, mk3 hρ, hnn]
  have key := lp_for (f := fun w : Int32 × Int32 × Sg => fX11_bearsBy_B15 w.1 w.2.1 w.2.2) (P := fun i (w : Int32 × Int32 × Sg) => w.1 = nI (v / 3 ^ i) ∧ w.2.1 = nI (n - i) - 1 ∧ FE [46] [] σ w.2.2 ∧ ∃ s : Nat → Nat, (∀ g, g < 3 → w.2.2.1 46 g = nI (s g)) ∧ vs (stW W) (n - i) 0 s (v / 3 ^ i) = vs (stW W) n 0 (fun _ => 0) v) (Q := fun τ => FE [46] [] σ τ ∧ ∀ g, g < 3 → τ.1 46 g = nI (vs (stW W) n 0 (fun _ => 0) v g)) n (by omega) (s0 := (nI v, nI n - 1, ρ)) ⟨by rw [Nat.pow_zero, Nat.div_one], by rw [Nat.sub_zero], r2, fun _ => 0, fun g hg => r3 g hg, by rw [Nat.pow_zero, Nat.div_one, Nat.sub_zero]⟩ ?_ ?_
  · obtain ⟨τ, k1, k2, k3⟩ := key
    rw [k1, Option.bind_some]
    have hb : ∀ g, g < 3 → vs (stW W) n 0 (fun _ => 0) v g ≤ 0 + 1191 * n := vs_le (stW W) n 0 (fun _ => 0) v 0 (fun _ _ => Nat.le_refl _) (fun z _ hz => stW_le hB (by omega))
    rw [mrope_spec (f := vs (stW W) n 0 (fun _ => 0) v) (fun g hg => ⟨k3 g hg, by have := hb g hg; omega⟩)]
    exact ⟨τ, rfl, k2⟩
  · rintro i ⟨x, z, w⟩ hi ⟨hx, hz, h2, s, h3, h4⟩
    dsimp only at hx hz h2 h3
    subst hx hz
    have hw : MW W w := h.fr h2 (by decide)
    have hlt : v / 3 ^ i < 3 ^ (n - i) := by
      rw [Nat.div_lt_iff_lt_mul (Nat.pow_pos (by decide)), ← Nat.pow_add, show n - i + i = n by omega]; exact hv
    have hle : v / 3 ^ i ≤ v := Nat.div_le_self _ _
    have e1 : n - i = (n - i - 1) + 1 := by omega
    rw [e1] at h4 hlt
    rw [vs_low _ _ _ _ _ hlt] at h4
    have ed : v / 3 ^ i / 3 = v / 3 ^ (i + 1) := by rw [Nat.div_div_eq_div_mul, Nat.pow_succ]
    have em : v / 3 ^ i % 3 < 3 := Nat.mod_lt _ (by decide)
    refine ⟨(nI (v / 3 ^ (i + 1)), nI (n - (i + 1)) - 1, sup w 46 (v / 3 ^ i % 3) (nI (s (v / 3 ^ i % 3) + stW W (n - i - 1)))), ?_, rfl, rfl, h2.same FE_supC, ad s (v / 3 ^ i % 3) (stW W (0 + (n - i - 1))), fun g hg => ?_, ?_⟩
    · show fX11_bearsBy_B15 (nI (v / 3 ^ i)) (nI (n - i) - 1) w = _
      rw [st_s (by omega)]
      unfold fX11_bearsBy_B15
      rw [if_neg (nI_pos (by omega)), show (3 : Int32) = nI 3 from rfl, irm_nI (by omega) (by omega) (by omega), gd_t (b3 em), mstrength_spec hB hk hw (by omega), Option.bind_some, gd_t (b3 em), ga_nI _ _ _ (by omega), h3 _ em, nI_add, sa_nI _ _ _ _ (by omega), pk_div (by omega) (by omega) (by omega), ed, show n - (i + 1) = n - i - 1 by omega]
      by_cases c : n - i - 1 = 0
      · rw [c]; rfl
      · rw [nI_dec (by omega), st_s (by omega)]
    · show (sup w 46 (v / 3 ^ i % 3) _).1 46 g = _
      rw [sup_at]
      by_cases c : g = v / 3 ^ i % 3
      · rw [if_pos ⟨rfl, c⟩, c, ad_eq, Nat.zero_add]
      · rw [if_neg (fun z => c z.2), ad_ne c]; exact h3 g hg
    · rw [show n - (i + 1) = n - i - 1 by omega, ← ed]; exact h4
  · rintro ⟨x, z, w⟩ ⟨hx, hz, h2, s, h3, h4⟩
    dsimp only at hx hz h2 h3
    subst hx hz
    rw [show n - n = 0 by omega] at h4
    have h4' : s = vs (stW W) n 0 (fun _ => 0) v := h4
    refine ⟨w, ?_, h2, fun g hg => by rw [h3 g hg, h4']⟩
    show fX11_bearsBy_B15 _ (nI (n - n) - 1) w = _
    unfold fX11_bearsBy_B15
    rw [show n - n = 0 by omega, if_pos (by decide)]
/-- the best so far, as the reference holds it -/
def enc (q : Nat × Nat) : Int32 := if q.1 = 0 then -1 else nI (3 * (q.1 - 1))
def bq (W : Nat → Nat) (n i : Nat) : Nat × Nat := fo (fun k q => lf (mn (vs (stW W) n 0 (fun _ => 0) k)) (0 * 3 ^ n + k) q) i (0, 0)
theorem bq_s (W : Nat → Nat) (n i : Nat) : bq W n (i + 1) = lf (mn (vs (stW W) n 0 (fun _ => 0) i)) i (bq W n i) := by
  have e : 0 * 3 ^ n + i = i := by rw [Nat.zero_mul, Nat.zero_add]
  show lf (mn (vs (stW W) n 0 (fun _ => 0) i)) (0 * 3 ^ n + i) (bq W n i) = _
  rw [e]
theorem enc_le {q : Nat × Nat} {v : Nat} (hq : q.1 ≤ 20000) (hv : v ≤ 20000) : nI (3 * v) ≤ enc q ↔ v + 1 ≤ q.1 := by
  unfold enc
  by_cases c : q.1 = 0
  · rw [if_pos c]
    constructor
    · intro z
      exact absurd z (by rw [fa_le, nI_toInt (by omega)]; show ¬ ((3 * v : Nat) : Int) ≤ -1; omega)
    · intro z; omega
  · rw [if_neg c, nI_leI (by omega) (by omega)]
    omega
theorem layBest_spec {k : Nat} {W : Nat → Nat} {σ : Sg} (hB : WBd k W) (hk : k ≤ 512) (h : MW W σ) {n : Nat} (hnn : W 3 = n) : ∃ τ, fX11_layBest σ = some (enc (bq W n (3 ^ n)), τ) ∧ FE [46] [(38, 22)] σ τ ∧ ((bq W n (3 ^ n)).1 ≠ 0 → τ.1 38 22 = nI (bq W n (3 ^ n)).2) := by
  have h9 : n ≤ 9 := by have := hB.2.2.2.1; omega
  have hp := p3_le h9
  have hvb : ∀ v, mn (vs (stW W) n 0 (fun _ => 0) v) ≤ 10719 := fun v => by
    have hb : ∀ g, g < 3 → vs (stW W) n 0 (fun _ => 0) v g ≤ 0 + 1191 * n := vs_le (stW W) n 0 (fun _ => 0) v 0 (fun _ _ => Nat.le_refl _) (fun z _ hz => stW_le hB (by omega))
    have := mn_le hb
    omega
  have hqb : ∀ i, (bq W n i).1 ≤ 20000 := by
    intro i
    induction i with
    | zero => exact Nat.zero_le _
    | succ i ih =>
      rw [bq_s]
      unfold lf
      split
      · have := hvb i; show mn _ + 1 ≤ _; omega
      · exact ih
  unfold fX11_layBest
  have l1 : lpO (fun w : Int32 × Int32 => fX11_layBest_B4 w.1 w.2 σ) FUEL (1, 0) = some (nI (3 ^ n)) := by
    refine lp_to (fun i => (nI (3 ^ i), nI i)) n (by omega) ?_ ?_ rfl
    · intro i hi
      show fX11_layBest_B4 (nI (3 ^ i)) (nI i) σ = _
      unfold fX11_layBest_B4
      rw [gd_t i77_3, mk3 h, hnn, if_neg (by rw [nI_leI (by omega) (by omega)]; omega), show (3 : Int32) = nI 3 from rfl, pk_mul, nI_1, ← Nat.pow_succ]
    · show fX11_layBest_B4 (nI (3 ^ n)) (nI n) σ = _
      unfold fX11_layBest_B4
      rw [gd_t i77_3, mk3 h, hnn, if_pos (by rw [nI_leI (by omega) (by omega)]; omega)]
  rw [l1, Option.bind_some]
  have key := lp_for (f := fun w : Int32 × Int32 × Sg => fX11_layBest_B28 (nI (3 ^ n)) w.1 w.2.1 w.2.2) (P := fun i (w : Int32 × Int32 × Sg) => w.1 = enc (bq W n i) ∧ w.2.1 = nI i ∧ FE [46] [(38, 22)] σ w.2.2 ∧ ((bq W n i).1 ≠ 0 → w.2.2.1 38 22 = nI (bq W n i).2)) (Q := fun (o : Int32 × Sg) => o.1 = enc (bq W n (3 ^ n)) ∧ FE [46] [(38, 22)] σ o.2 ∧ ((bq W n (3 ^ n)).1 ≠ 0 → o.2.1 38 22 = nI (bq W n (3 ^ n)).2)) (3 ^ n) (by omega) (s0 := (-1, 0, σ)) ⟨rfl, rfl, FE.refl _ _ _, fun z => absurd rfl z⟩ ?_ ?_
  · obtain ⟨o, k1, k2, k3, k4⟩ := key
    rw [k1, Option.bind_some, k2]
    exact ⟨o.2, rfl, k3, k4⟩
  · rintro i ⟨x, z, w⟩ hi ⟨hx, hz, h2, h3⟩
    dsimp only at hx hz h2 h3
    subst hx hz
    have hw : MW W w := h.fr h2 (by decide)
    obtain ⟨τ, t1, t2⟩ := bearsBy_spec hB hk hw hnn hi
    have hv := hvb i
    have hq := hqb i
    have f1 : FE [46] [(38, 22)] σ τ := (h2.trans t2).up (by decide) (by decide)
    show ∃ s1, fX11_layBest_B28 (nI (3 ^ n)) (enc (bq W n i)) (nI i) w = _ ∧ _
    unfold fX11_layBest_B28 fX11_layBest_J55 fX11_layBest_J70
    rw [if_neg (by rw [nI_leI (by omega) (by omega)]; omega), t1, Option.bind_some]
    dsimp only
    rw [nI_1]
    by_cases c : mn (vs (stW W) n 0 (fun _ => 0) i) + 1 ≤ (bq W n i).1
    · rw [if_pos ((enc_le hq (by omega)).mpr c), if_pos ((enc_le hq (by omega)).mpr c)]
      have e : bq W n (i + 1) = bq W n i := by rw [bq_s]; exact if_neg (by omega)
      refine ⟨_, rfl, ?_, rfl, f1.same FE_sup', fun z => ?_⟩
      · rw [e]
      · rw [e] at z ⊢
        show (sup τ 38 22 (gf τ 38 22)).1 38 22 = _
        rw [sup_at, if_pos ⟨rfl, rfl⟩, gf_eq, t2 38 22 (by decide) (by simp)]
        exact h3 z
    · have c' : ¬ nI (3 * mn (vs (stW W) n 0 (fun _ => 0) i)) ≤ enc (bq W n i) := fun z => c ((enc_le hq (by omega)).mp z)
      rw [if_neg c', if_neg c']
      have e : bq W n (i + 1) = (mn (vs (stW W) n 0 (fun _ => 0) i) + 1, i) := by rw [bq_s]; exact if_pos (by omega)
      refine ⟨_, rfl, ?_, rfl, f1.same FE_sup', fun z => ?_⟩
      · rw [e]
        show _ = if _ + 1 = 0 then _ else _
        rw [if_neg (by omega), Nat.add_sub_cancel]
      · rw [e]
        show (sup τ 38 22 (nI i)).1 38 22 = _
        rw [sup_at, if_pos ⟨rfl, rfl⟩]
  · rintro ⟨x, z, w⟩ ⟨hx, hz, h2, h3⟩
    dsimp only at hx hz h2 h3
    subst hx hz
    refine ⟨(enc (bq W n (3 ^ n)), w), ?_, rfl, h2, h3⟩
    show fX11_layBest_B28 (nI (3 ^ n)) _ (nI (3 ^ n)) w = _
    unfold fX11_layBest_B28
    rw [if_pos (by rw [nI_leI (by omega) (by omega)]; omega)]
theorem ok_best : OK_best Inv := by
  intro k b σ a1 hk hI
  obtain ⟨⟨t, W, ⟨t1, wt, wm, w0, hB, hT, hS, hM⟩, _⟩, _⟩ := hI.2.2.2.2
  have hC : CW W σ := ⟨hT, hS⟩
  have h9 := hB.2.2.2.1
  have e1 : gf σ 8 0 = nI t := wt
  by_cases ht : t = 0
  · subst ht
    refine ⟨(-1000002, σ), (-1000002, sup σ 38 0 0), ?_, ?_, rfl, hI.up.thr 0⟩
    · unfold fX10_best; rw [e1, if_pos (show nI 0 = (0 : Int32) from rfl)]
    · show fX11_best a1 σ = _
      have e2 : gf (sup σ 38 0 0) 38 7 = nI 0 := wm
      unfold fX11_best; rw [e2, if_pos (show nI 0 = (0 : Int32) from rfl)]
  have hin : ((-1 : Int64) ≤ a1.toInt64 ∧ a1.toInt64 ≤ (nI (W 3) - 1).toInt64) ↔ (a1 = -1 ∨ ∃ y, y < W 3 ∧ a1 = nI y) := by
    have zm : (-1 : Int32).toInt = -1 := rfl
    rw [show (-1 : Int64) = (-1 : Int32).toInt64 from rfl, wide_in, fa_le, fa_le, show nI (W 3) - (1 : Int32) = nI (W 3) - nI 1 from rfl, pk_sub_toInt (by omega) (by omega), zm]
    constructor
    · rintro ⟨h1, h2⟩
      by_cases c : a1 = -1
      · exact Or.inl c
      · right
        have : a1.toInt ≠ -1 := fun z => c (by rw [fa_eq, z]; rfl)
        obtain ⟨y, hy, rfl⟩ := nI_of (x := a1) (by rw [lt0_iff]; omega)
        rw [nI_toInt hy] at h2
        exact ⟨y, by omega, rfl⟩
    · rintro (rfl | ⟨y, hy, rfl⟩)
      · rw [zm]; omega
      · rw [nI_toInt (by omega)]; omega
  by_cases ha : a1 = -1 ∨ ∃ y, y < W 3 ∧ a1 = nI y
  rotate_left
  · refine ⟨(-1000001, σ), (-1000001, sup σ 38 0 0), ?_, ?_, rfl, hI.up.thr 0⟩
    · unfold fX10_best
      rw [e1, if_neg (q0 ht), if_neg (fun z => ha (Or.inl z))]
      rcases yarn_split a1 (W 3) h9 with ⟨y, hy, e⟩ | hn
      · exact absurd (Or.inr ⟨y, hy, e⟩) ha
      · rw [hasYarn_no hT.2.2.2.1 hn]; rfl
    · show fX11_best a1 σ = _
      have e2 : gf (sup σ 38 0 0) 38 7 = nI t := wm
      have hM' : MW W (sup σ 38 0 0) := hM
      unfold fX11_best
      rw [e2, if_neg (q0 ht), gd_t i77_3, mk3 hM', in_spec]
      simp only [hin, Option.bind_some]
      rw [if_neg ha, if_pos rfl]
  obtain ⟨τ, c1, c2, c3⟩ := search_c hB (by omega) hC rfl
  have hMτ : MW W (sup τ 38 0 0) := (show MW W σ from hM).fr (c2.trans (FE_sup (c := 38) (j := 0) (v := 0))) (by decide)
  obtain ⟨φ, m1, m2, m3⟩ := layBest_spec hB (by omega) hMτ rfl
  have eq : Fs (stW W) (W 3) 0 (fun _ => 0) 0 (0, 0) = bq W (W 3) (3 ^ W 3) := Fs_fold _ _ _ _ _ _
  have ge := (Fs_ge (stW W) (W 3) 0 (fun _ => 0) 0 (0, 0)).1
  rw [eq] at c3 ge
  generalize hQ : bq W (W 3) (3 ^ W 3) = Q at c3 ge m1 m3
  have hQ1 : 1 ≤ Q.1 := by omega
  obtain ⟨s1, s2, s3, s4, s5, s6, s7, s8⟩ := c3
  have hMφ : MW W φ := hMτ.fr m2 (by decide)
  have fin : Inv (k + 1) b φ := hI.up.fr ((c2.trans (FE_sup (c := 38) (j := 0) (v := 0))).trans m2) (by decide)
  have hR : φ.1 38 22 = nI Q.2 := m3 (by omega)
  have hQ2 : Q.2 < 3 ^ W 3 := by
    have : ∀ i, (bq W (W 3) i).2 < i ∨ (bq W (W 3) i).1 = 0 := by
      intro i
      induction i with
      | zero => right; rfl
      | succ i ih =>
        rw [bq_s]
        unfold lf
        split
        · left; exact Nat.lt_succ_self _
        · rcases ih with z | z
          · left; omega
          · right; exact z
    rcases this (3 ^ W 3) with z | z
    · rw [hQ] at z; exact z
    · rw [hQ] at z; omega
  have hp := p3_le h9
  have hsA : ∀ a, (a = (-1 : Int32) ∨ ∃ y, y < W 3 ∧ a = nI y) → fX10_best a σ = if a = -1 then some (3 * gf τ 25 6, τ) else gd (inb a 9) (some (ga τ 30 a, τ)) := by
    intro a h
    unfold fX10_best fX10_best_J32
    rw [e1, if_neg (q0 ht), c1]
    by_cases c : a = -1
    · rw [if_pos c, if_pos c, Option.bind_some, if_pos c]
    · rw [if_neg c, if_neg c]
      obtain ⟨y, hy, rfl⟩ := h.resolve_left c
      rw [hasYarn_yes hT.2.2.2.1 h9 hy]
      simp only [Option.bind_some, one_ne, if_false]
      rw [if_neg c]
  have hsM : ∀ a, (a = (-1 : Int32) ∨ ∃ y, y < W 3 ∧ a = nI y) → fX11_best a τ = (lpO (fun w : Int32 × Int32 => fX11_best_B58 a (enc Q) w.1 w.2 φ) FUEL (nI Q.2, nI (W 3) - 1)).bind (fun o11 => if (0 : Int32) ≤ a then some (irm o11 3, φ) else some (enc Q, φ)) := by
    intro a h
    have hin' : ((-1 : Int64) ≤ a.toInt64 ∧ a.toInt64 ≤ (nI (W 3) - 1).toInt64) := by
      have zm : (-1 : Int32).toInt = -1 := rfl
      rw [show (-1 : Int64) = (-1 : Int32).toInt64 from rfl, wide_in, fa_le, fa_le, show nI (W 3) - (1 : Int32) = nI (W 3) - nI 1 from rfl, pk_sub_toInt (by omega) (by omega), zm]
      rcases h with rfl | ⟨y, hy, rfl⟩
      · rw [zm]; omega
      · rw [nI_toInt (by omega)]; omega
    have e2 : gf (sup τ 38 0 0) 38 7 = nI t := by
      rw [gf_eq, sup_at, if_neg (by decide), c2 38 7 (by decide) (by simp)]; exact wm
    unfold fX11_best
    rw [e2, if_neg (q0 ht), gd_t i77_3, mk3 hMτ, in_spec, if_pos hin', Option.bind_some, if_neg one_ne, m1, Option.bind_some, gd_t i77_3]
    dsimp only
    rw [mk3 hMφ, gf_eq, hR]
  rcases ha with rfl | ⟨y, hy, rfl⟩
  · refine ⟨(nI (3 * (Q.1 - 1)), τ), (nI (3 * (Q.1 - 1)), φ), ?_, ?_, rfl, fin⟩
    · rw [hsA _ (Or.inl rfl), if_pos rfl, gf_eq, s2, st_s hQ1, show (3 : Int32) = nI 3 from rfl, pk_mul]
    · show fX11_best (-1) τ = _
      rw [hsM _ (Or.inl rfl)]
      have lp : lpO (fun w : Int32 × Int32 => fX11_best_B58 (-1) (enc Q) w.1 w.2 φ) FUEL (nI Q.2, nI (W 3) - 1) = some (nI Q.2) := by
        refine lp_to (fun _ => (nI Q.2, nI (W 3) - 1)) 0 (by omega) (fun i hi => absurd hi (Nat.not_lt_zero _)) ?_ rfl
        show fX11_best_B58 (-1) (enc Q) (nI Q.2) (nI (W 3) - 1) φ = _
        unfold fX11_best_B58
        by_cases c : nI (W 3) - 1 ≤ (-1 : Int32)
        · rw [if_pos c]
        · rw [if_neg c, if_pos (by decide)]
      rw [lp, Option.bind_some, if_neg (by decide)]
      unfold enc
      rw [if_neg (by omega)]
  · have hne : ¬ nI y = (-1 : Int32) := nI_m1 (by omega)
    refine ⟨(nI (Q.2 / 3 ^ (W 3 - 1 - y) % 3), τ), (nI (Q.2 / 3 ^ (W 3 - 1 - y) % 3), φ), ?_, ?_, rfl, fin⟩
    · rw [hsA _ (Or.inr ⟨y, hy, rfl⟩), if_neg hne, gd_t (b9 (by omega)), ga_nI _ _ _ (by omega), s7 (by omega) y hy]
    · show fX11_best (nI y) τ = _
      rw [hsM _ (Or.inr ⟨y, hy, rfl⟩)]
      have lp : lpO (fun w : Int32 × Int32 => fX11_best_B58 (nI y) (enc Q) w.1 w.2 φ) FUEL (nI Q.2, nI (W 3) - 1) = some (nI (Q.2 / 3 ^ (W 3 - 1 - y))) := by
        refine lp_to (fun i => (nI (Q.2 / 3 ^ i), nI (W 3 - 1 - i))) (W 3 - 1 - y) (by omega) ?_ ?_ ?_
        · intro i hi
          have hd : Q.2 / 3 ^ i ≤ Q.2 := Nat.div_le_self _ _
          show fX11_best_B58 (nI y) (enc Q) (nI (Q.2 / 3 ^ i)) (nI (W 3 - 1 - i)) φ = _
          unfold fX11_best_B58
          rw [if_neg (by rw [nI_leI (by omega) (by omega)]; omega), if_neg (nI_pos (by omega)), show (3 : Int32) = nI 3 from rfl, pk_div (by omega) (by omega) (by omega), nI_dec (by omega), Nat.div_div_eq_div_mul, ← Nat.pow_succ, show W 3 - 1 - i - 1 = W 3 - 1 - (i + 1) by omega]
        · show fX11_best_B58 (nI y) (enc Q) _ (nI (W 3 - 1 - (W 3 - 1 - y))) φ = _
          unfold fX11_best_B58
          rw [if_pos (by rw [nI_leI (by omega) (by omega)]; omega)]
        · rw [Nat.pow_zero, Nat.div_one, st_s (by omega), Nat.sub_zero]
      have hd : Q.2 / 3 ^ (W 3 - 1 - y) ≤ Q.2 := Nat.div_le_self _ _
      rw [lp, Option.bind_some, if_pos (nI_pos' (by omega)), show (3 : Int32) = nI 3 from rfl, irm_nI (by omega) (by omega) (by omega)]
