/-! odds: the class -/
theorem keptInTen_spec {k : Nat} {W : Nat → Nat} {σ : Sg} (hB : WBd k W) (h : CW W σ) {y : Nat} (hy : y < W 3) : fX9_keptInTen (nI y) σ = some (nI (kp W y)) := by
  have h9 := hB.2.2.2.1
  have h5 := hB.2.2.1
  have hb := hB.2.2.2.2.2 y hy
  unfold fX9_keptInTen kp tn
  rw [gd_t (bst9 (by omega)), gd_t (b9 (by omega)), gd_t (b9 (by omega)), gd_t (b9 (by omega)), gd_t (bst9 (by omega)), cw_vw h hy h9, cw_11 h hy h9, cw_12 h hy h9, gd_t (b5 (by omega)), ga_nI _ _ _ (by omega), (h.1.2.2.2.2.1 _ hb.2.1).1]
  by_cases c : W (18 + 7 * y) = 0
  · rw [c, if_pos (show nI 0 = (0 : Int32) from rfl), if_pos rfl]
    by_cases d : W (14 + 7 * y) = 2
    · rw [d, if_pos (show nI 2 = (2 : Int32) from rfl), if_pos rfl]; rfl
    · rw [if_neg (q2 d), if_neg d]
      by_cases e : W (14 + 7 * y) = 4
      · rw [e, if_pos (show nI 4 = (4 : Int32) from rfl), if_pos rfl]; rfl
      · rw [if_neg (q4 e), if_neg e]
  · rw [if_neg (q0 c), if_neg c]
    by_cases d : W (18 + 7 * y) = 1
    · rw [d, if_pos (show nI 1 = (1 : Int32) from rfl), if_pos rfl]; rfl
    · rw [if_neg (q1 d), if_neg d]; rfl
theorem oq_c {need : Nat} {s : Nat → Nat} (hn : need < 2 ^ 30) (hs : ∀ g, g < 3 → s g < 2 ^ 30) (σ : Sg) : (if nI (s 0) < nI need then some ((0 : Int32), σ) else if nI (s 1) < nI need then some (0, σ) else if nI (s 2) < nI need then some (0, σ) else some (1, σ)) = some (nI (oqS need s), σ) := by
  have l0 := hs 0 (by omega)
  have l1 := hs 1 (by omega)
  have l2 := hs 2 (by omega)
  simp only [nI_ltI (a := s 0) (b := need) (by omega) (by omega), nI_ltI (a := s 1) (b := need) (by omega) (by omega), nI_ltI (a := s 2) (b := need) (by omega) (by omega)]
  unfold oqS
  have e : need ≤ mn s ↔ need ≤ s 0 ∧ need ≤ s 1 ∧ need ≤ s 2 := by
    unfold mn
    rw [Nat.le_min, Nat.le_min, and_assoc]
  by_cases c0 : s 0 < need
  · rw [if_pos c0, if_neg (fun z => by have := e.mp z; omega)]; rfl
  rw [if_neg c0]
  by_cases c1 : s 1 < need
  · rw [if_pos c1, if_neg (fun z => by have := e.mp z; omega)]; rfl
  rw [if_neg c1]
  by_cases c2 : s 2 < need
  · rw [if_pos c2, if_neg (fun z => by have := e.mp z; omega)]; rfl
  rw [if_neg c2, if_pos (e.mpr ⟨by omega, by omega, by omega⟩)]; rfl
theorem years_spec {k : Nat} {W : Nat → Nat} (hB : WBd k W) (hk : k ≤ 512) {need : Nat} (hn : need < 2 ^ 30) : ∀ (r y : Nat) (s : Nat → Nat) (τ : Sg) (m : Nat), y + r = W 3 → r + 1 ≤ m → CW W τ → τ.1 34 1 = nI need → (∀ g, g < 3 → τ.1 35 g = nI (s g)) → (∀ g, g < 3 → s g ≤ 1191 * y) → ∃ υ, fX5_yearsFrom m (nI y) τ = some (nI (Yr W need r y s), υ) ∧ FE [35] [] τ υ ∧ ∀ g, g < 3 → υ.1 35 g = nI (s g) := by
  have h9 := hB.2.2.2.1
  intro r
  induction r with
  | zero =>
    intro y s τ m hy hm hC h1 h35 hs
    obtain ⟨m, rfl⟩ : ∃ k, m = k + 1 := ⟨m - 1, by omega⟩
    refine ⟨τ, ?_, FE.refl _ _ _, h35⟩
    show fX5_yearsFrom_R (fX5_yearsFrom m) (nI y) τ = some (nI (oqS need s), τ)
    unfold fX5_yearsFrom_R fX5_yearsFrom_J51
    have g0 : ga τ 35 0 = nI (s 0) := h35 0 (by omega)
    have g1 : ga τ 35 1 = nI (s 1) := h35 1 (by omega)
    have g2 : ga τ 35 2 = nI (s 2) := h35 2 (by omega)
    have gn : gf τ 34 1 = nI need := h1
    rw [gf_eq τ 8 4, hC.1.2.2.2.1, if_neg (by rw [nI_ltI (by omega) (by omega)]; omega), gd_t (by decide), gd_t (by decide), gd_t (by decide), g0, g1, g2, gn]
    exact oq_c hn (fun g hg => by have := hs g hg; omega) τ
  | succ r ih =>
    intro y s τ m hy hm hC h1 h35 hs
    have hyy : y < W 3 := by omega
    have hb := hB.2.2.2.2.2 y hyy
    have hkp := kp_le hB hyy
    obtain ⟨m, rfl⟩ : ∃ k, m = k + 1 := ⟨m - 1, by omega⟩
    show ∃ υ, fX5_yearsFrom_R (fX5_yearsFrom m) (nI y) τ = some (nI (if W (17 + 7 * y) = 0 then 10 * Yr W need r (y + 1) s else (10 - kp W y) * Yr W need r (y + 1) s + kp W y * Yr W need r (y + 1) (ad s (W (17 + 7 * y) - 1) (stH W y 1))), υ) ∧ FE [35] [] τ υ ∧ ∀ g, g < 3 → υ.1 35 g = nI (s g)
    unfold fX5_yearsFrom_R
    rw [gf_eq τ 8 4, hC.1.2.2.2.1, if_pos (by rw [nI_ltI (by omega) (by omega)]; omega), gd_t (bst0 (by omega)), cw_st hC hyy h9, keptInTen_spec hB hC hyy, nI_1]
    obtain ⟨α, a1, a2, a3⟩ := ih (y + 1) s τ m (by omega) (by omega) hC h1 h35 (fun g hg => by have := hs g hg; omega)
    have hCα : CW W α := hC.fr a2 (by decide)
    have h1α : α.1 34 1 = nI need := (a2 34 1 (by decide) (by simp)).trans h1
    by_cases c : W (17 + 7 * y) = 0
    · rw [if_pos c, if_pos ((st_m1 (by omega)).mpr c), a1]
      refine ⟨α, ?_, a2, a3⟩
      simp only [Option.bind_some]
      rw [show (10 : Int32) = nI 10 from rfl, pk_mul]
    rw [if_neg c, if_neg (fun z => c ((st_m1 (by omega)).mp z)), Option.bind_some, st_s (by omega)]
    have hg3 : W (17 + 7 * y) - 1 < 3 := by omega
    generalize W (17 + 7 * y) - 1 = gg at hg3
    have fin : ∀ (v : Nat) (φ : Sg), CW W φ → φ.1 34 1 = nI need → (∀ g, g < 3 → φ.1 35 g = nI (s g)) → ∃ υ, fX5_yearsFrom_J115 (fX5_yearsFrom m) (nI y) (nI gg) (nI (kp W y)) (nI v) φ = some (nI (v + kp W y * Yr W need r (y + 1) (ad s gg (stH W y 1))), υ) ∧ FE [35] [] φ υ ∧ ∀ g, g < 3 → υ.1 35 g = nI (s g) := by
      intro v φ hφ p1 p35
      unfold fX5_yearsFrom_J115 fX5_yearsFrom_J166
      by_cases k0 : kp W y = 0
      · refine ⟨φ, ?_, FE.refl _ _ _, p35⟩
        rw [k0, if_pos (by decide), Nat.zero_mul, Nat.add_zero]
      · have hsg := stH_le hB hyy 1
        have hsl := hs _ hg3
        obtain ⟨β, z1, z2, z3⟩ := ih (y + 1) (ad s gg (stH W y 1)) (sup φ 35 gg (nI (s gg + stH W y 1))) m (by omega) (by omega) (hφ.fr FE_supC (by decide)) (by rw [sup_ne (by decide)]; exact p1) (fun g hg => by
            rw [sup_at]
            by_cases e : g = gg
            · rw [if_pos ⟨rfl, e⟩, e, ad_eq]
            · rw [if_neg (fun z => e z.2), ad_ne e]; exact p35 g hg) (fun g hg => by
            have := hs g hg
            by_cases e : g = gg
            · rw [e, ad_eq]; omega
            · rw [ad_ne e]; omega)
        have e1 : fX9_strengthIf (nI y) 1 φ = some (nI (stH W y 1)) := strengthIf_spec hB hk hφ hyy (how := 1) (by omega)
        refine ⟨sup β 35 gg (nI (s gg)), ?_, (FE_supC.trans (z2.trans FE_supC)).up (by decide) (by decide), fun g hg => ?_⟩
        · rw [if_neg (by rw [show (0 : Int32) = nI 0 from rfl, nI_leI (by omega) (by omega)]; omega), e1, Option.bind_some, gd_t (b3 hg3), gd_t (b3 hg3), ga_nI _ _ _ (by omega), p35 _ hg3, nI_add, sa_nI _ _ _ _ (by omega), nI_1, z1, Option.bind_some, gd_t (b3 hg3), gd_t (b3 hg3)]
          dsimp only
          rw [ga_nI _ _ _ (by omega), z3 _ hg3, ad_eq, pk_sub (by omega), show s gg + stH W y 1 - stH W y 1 = s gg by omega, sa_nI _ _ _ _ (by omega), pk_mul, nI_add]
        · rw [sup_at]
          by_cases e : g = gg
          · rw [if_pos ⟨rfl, e⟩, e]
          · rw [if_neg (fun z => e z.2), z3 g hg, ad_ne e]
    by_cases k10 : 10 ≤ kp W y
    · rw [if_pos (show (10 : Int32) ≤ nI (kp W y) from (nI_leI (a := 10) (by omega) (by omega)).mpr k10)]
      obtain ⟨υ, u1, u2, u3⟩ := fin 0 τ hC h1 h35
      refine ⟨υ, ?_, u2, u3⟩
      rw [show 10 - kp W y = 0 by omega, Nat.zero_mul]
      exact u1
    · rw [if_neg (show ¬ (10 : Int32) ≤ nI (kp W y) from fun z => k10 ((nI_leI (a := 10) (by omega) (by omega)).mp z)), a1, Option.bind_some]
      dsimp only
      rw [show (10 : Int32) = nI 10 from rfl, pk_sub (by omega), pk_mul, show (0 : Int32) = nI 0 from rfl, nI_add, Nat.zero_add]
      obtain ⟨υ, u1, u2, u3⟩ := fin ((10 - kp W y) * Yr W need r (y + 1) s) α hCα h1α a3
      exact ⟨υ, u1, (a2.trans u2).up (by decide) (by decide), u3⟩
theorem d2_le (q : Nat × Nat) : (d2 q).1 ≤ q.1 ∧ (d2 q).2 ≤ q.2 := by
  unfold d2
  split
  · exact ⟨Nat.div_le_self _ _, Nat.div_le_self _ _⟩
  · exact ⟨Nat.le_refl _, Nat.le_refl _⟩
theorem d5_le (q : Nat × Nat) : (d5 q).1 ≤ q.1 ∧ (d5 q).2 ≤ q.2 := by
  unfold d5
  split
  · exact ⟨Nat.div_le_self _ _, Nat.div_le_self _ _⟩
  · exact ⟨Nat.le_refl _, Nat.le_refl _⟩
theorem dI_le (q : Nat × Nat) : ∀ i, (dI q i).1 ≤ q.1 ∧ (dI q i).2 ≤ q.2
  | 0 => ⟨Nat.le_refl _, Nat.le_refl _⟩
  | i + 1 => by
    have h := dI_le q i
    have h2 := d2_le (dI q i)
    have h5 := d5_le (d2 (dI q i))
    exact ⟨Nat.le_trans h5.1 (Nat.le_trans h2.1 h.1), Nat.le_trans h5.2 (Nat.le_trans h2.2 h.2)⟩
def FrR (q : Nat × Nat) (τ : Sg) : Prop := τ.1 34 2 = nI q.1 ∧ τ.1 34 3 = nI q.2
theorem dv2_spec {q : Nat × Nat} {σ : Sg} (h : FrR q σ) (l1 : q.1 < 2 ^ 31) (l2 : q.2 < 2 ^ 31) : ∃ τ, fX5_divideByTwo σ = some τ ∧ FE [] [(34, 2), (34, 3)] σ τ ∧ FrR (d2 q) τ := by
  have e1 : gf σ 34 2 = nI q.1 := h.1
  have e2 : gf σ 34 3 = nI q.2 := h.2
  have e3 : ∀ v, gf (sup σ 34 2 v) 34 3 = nI q.2 := fun v => by rw [gf_eq, sup_at, if_neg (by decide)]; exact h.2
  have m1 : q.1 % 2 < 2 := Nat.mod_lt _ (by decide)
  have m2 : q.2 % 2 < 2 := Nat.mod_lt _ (by decide)
  unfold fX5_divideByTwo
  rw [e1, e2, e3, show (2 : Int32) = nI 2 from rfl, irm_nI l1 (by omega) (by omega), irm_nI l2 (by omega) (by omega), pk_div l1 (by omega) (by omega), pk_div l2 (by omega) (by omega)]
  unfold d2
  by_cases c1 : q.1 % 2 = 0
  · rw [if_pos (by rw [c1]; rfl)]
    by_cases c2 : q.2 % 2 = 0
    · rw [if_pos (by rw [c2]; rfl), if_pos ⟨c1, c2⟩]
      refine ⟨_, rfl, ((FE_sup (c := 34) (j := 2) (v := nI (q.1 / 2))).trans FE_sup).up (by decide) (by decide), ?_, ?_⟩
      · rw [sup_at, if_neg (by decide), sup_at, if_pos ⟨rfl, rfl⟩]
      · rw [sup_at, if_pos ⟨rfl, rfl⟩]
    · rw [if_neg (q0 c2), if_neg (fun z => c2 z.2)]
      exact ⟨σ, rfl, FE.refl _ _ _, h⟩
  · rw [if_neg (q0 c1), if_neg (fun z => c1 z.1)]
    exact ⟨σ, rfl, FE.refl _ _ _, h⟩
theorem dv5_spec {q : Nat × Nat} {σ : Sg} (h : FrR q σ) (l1 : q.1 < 2 ^ 31) (l2 : q.2 < 2 ^ 31) : ∃ τ, fX5_divideByFive σ = some τ ∧ FE [] [(34, 2), (34, 3)] σ τ ∧ FrR (d5 q) τ := by
  have e1 : gf σ 34 2 = nI q.1 := h.1
  have e2 : gf σ 34 3 = nI q.2 := h.2
  have e3 : ∀ v, gf (sup σ 34 2 v) 34 3 = nI q.2 := fun v => by rw [gf_eq, sup_at, if_neg (by decide)]; exact h.2
  have m1 : q.1 % 5 < 5 := Nat.mod_lt _ (by decide)
  have m2 : q.2 % 5 < 5 := Nat.mod_lt _ (by decide)
  unfold fX5_divideByFive
  rw [e1, e2, e3, show (5 : Int32) = nI 5 from rfl, irm_nI l1 (by omega) (by omega), irm_nI l2 (by omega) (by omega), pk_div l1 (by omega) (by omega), pk_div l2 (by omega) (by omega)]
  unfold d5
  by_cases c1 : q.1 % 5 = 0
  · rw [if_pos (by rw [c1]; rfl)]
    by_cases c2 : q.2 % 5 = 0
    · rw [if_pos (by rw [c2]; rfl), if_pos ⟨c1, c2⟩]
      refine ⟨_, rfl, ((FE_sup (c := 34) (j := 2) (v := nI (q.1 / 5))).trans FE_sup).up (by decide) (by decide), ?_, ?_⟩
      · rw [sup_at, if_neg (by decide), sup_at, if_pos ⟨rfl, rfl⟩]
      · rw [sup_at, if_pos ⟨rfl, rfl⟩]
    · rw [if_neg (q0 c2), if_neg (fun z => c2 z.2)]
      exact ⟨σ, rfl, FE.refl _ _ _, h⟩
  · rw [if_neg (q0 c1), if_neg (fun z => c1 z.1)]
    exact ⟨σ, rfl, FE.refl _ _ _, h⟩
theorem p10_le {n : Nat} (h : n ≤ 9) : 10 ^ n ≤ 1000000000 := Nat.pow_le_pow_right (n := 10) (by decide) h
theorem reckon_spec {k : Nat} {W : Nat → Nat} {σ : Sg} (hB : WBd k W) (hk : k ≤ 512) (hC : CW W σ) {L : Nat} (hL : L ≤ 9999) : ∃ τ, fX5_reckon (nI L) σ = some τ ∧ FE [35] [(34, 1), (34, 2), (34, 3)] σ τ ∧ FrR (dI (Yr W ((L + 2) / 3) (W 3) 0 (fun _ => 0), 10 ^ W 3) (W 3)) τ := by
  have h9 := hB.2.2.2.1
  have hp := p10_le h9
  have ey : nI L + 3 - 1 = nI (L + 2) := by
    rw [show (3 : Int32) = nI 3 from rfl, nI_add, st_s (by omega), show L + 3 - 1 = L + 2 by omega]
  unfold fX5_reckon
  rw [ey, show (3 : Int32) = nI 3 from rfl, pk_div (by omega) (by omega) (by omega)]
  generalize hneed : (L + 2) / 3 = need
  have hnl : need < 2 ^ 30 := by omega
  have key1 := lp_for (f := fun w : Int32 × Sg => fX5_reckon_B13 w.1 w.2) (P := fun i w => w.1 = nI i ∧ FE [35] [(34, 1), (34, 2), (34, 3)] σ w.2 ∧ w.2.1 34 1 = nI need ∧ ∀ g, g < i → w.2.1 35 g = 0) (Q := fun τ => FE [35] [(34, 1), (34, 2), (34, 3)] σ τ ∧ τ.1 34 1 = nI need ∧ ∀ g, g < 3 → τ.1 35 g = 0) 3 (by omega) (s0 := (0, sup σ 34 1 (nI need))) ⟨rfl, FE_sup.up (by decide) (by decide), by rw [sup_at, if_pos ⟨rfl, rfl⟩], fun j hj => absurd hj (Nat.not_lt_zero _)⟩ ?_ ?_
  rotate_left
  · rintro i ⟨x, w⟩ hi ⟨rfl, h2, hq, h3⟩
    dsimp only at h2 h3 hq
    refine ⟨(nI (i + 1), sup w 35 i 0), ?_, rfl, h2.same (FE_supC.up (by decide) (by decide)), ?_, ?_⟩
    · show fX5_reckon_B13 (nI i) w = _
      unfold fX5_reckon_B13
      rw [show (3 : Int32) = nI 3 from rfl, if_neg (by rw [nI_leI (by omega) (by omega)]; omega), gd_t (b3 hi), sa_nI _ _ _ _ (by omega), nI_1]
    · show (sup w 35 i 0).1 34 1 = _
      rw [sup_ne (by decide)]; exact hq
    · intro g hg
      show (sup w 35 i 0).1 35 g = 0
      rw [sup_at]
      by_cases c : g = i
      · rw [if_pos ⟨rfl, c⟩]
      · rw [if_neg (fun z => c z.2)]; exact h3 g (by omega)
  · rintro ⟨x, w⟩ ⟨rfl, h2, hq, h3⟩
    refine ⟨w, ?_, h2, hq, h3⟩
    show fX5_reckon_B13 (nI 3) w = _
    unfold fX5_reckon_B13
    rw [if_pos (by decide)]
  obtain ⟨α, a1, a2, a3, a4⟩ := key1
  rw [a1, Option.bind_some]
  obtain ⟨β, b1, b2, _⟩ := years_spec hB hk hnl (W 3) 0 (fun _ => 0) α 12 (by omega) (by omega) (hC.fr a2 (by decide)) a3 (fun g hg => a4 g hg) (fun _ _ => Nat.zero_le _)
  rw [show (0 : Int32) = nI 0 from rfl, b1, Option.bind_some]
  have hy := Yr_le hB need (W 3) 0 (fun _ => 0) (by omega)
  generalize Yr W need (W 3) 0 (fun _ => 0) = A at hy
  dsimp only
  have fβ : FE [35] [(34, 1), (34, 2), (34, 3)] σ β := (a2.trans b2).up (by decide) (by decide)
  have key2 := lp_for (f := fun w : Int32 × Sg => fX5_reckon_B48 w.1 w.2) (P := fun i w => w.1 = nI i ∧ FE [35] [(34, 1), (34, 2), (34, 3)] σ w.2 ∧ FrR (A, 10 ^ i) w.2) (Q := fun τ => FE [35] [(34, 1), (34, 2), (34, 3)] σ τ ∧ FrR (A, 10 ^ W 3) τ) (W 3) (by omega) (s0 := (nI 0, sup (sup β 34 2 (nI A)) 34 3 1)) ⟨rfl, fβ.same (((FE_sup (c := 34) (j := 2) (v := nI A)).trans FE_sup).up (by decide) (by decide)), by rw [sup_at, if_neg (by decide), sup_at, if_pos ⟨rfl, rfl⟩], by rw [sup_at, if_pos ⟨rfl, rfl⟩]; rfl⟩ ?_ ?_
  rotate_left
  · rintro i ⟨x, w⟩ hi ⟨rfl, h2, h3⟩
    dsimp only at h2 h3
    have hw : CW W w := hC.fr h2 (by decide)
    refine ⟨(nI (i + 1), sup w 34 3 (nI (10 ^ i * 10))), ?_, rfl, h2.same (FE_sup.up (by decide) (by decide)), ?_, ?_⟩
    · show fX5_reckon_B48 (nI i) w = _
      unfold fX5_reckon_B48
      have e : gf w 34 3 = nI (10 ^ i) := h3.2
      rw [gf_eq w 8 4, hw.1.2.2.2.1, if_neg (by rw [nI_leI (by omega) (by omega)]; omega), e, show (10 : Int32) = nI 10 from rfl, pk_mul, nI_1]
    · show (sup w 34 3 _).1 34 2 = _
      rw [sup_at, if_neg (by decide)]; exact h3.1
    · show (sup w 34 3 _).1 34 3 = _
      rw [sup_at, if_pos ⟨rfl, rfl⟩, Nat.pow_succ]
  · rintro ⟨x, w⟩ ⟨rfl, h2, h3⟩
    dsimp only at h2 h3
    have hw : CW W w := hC.fr h2 (by decide)
    refine ⟨w, ?_, h2, h3⟩
    show fX5_reckon_B48 (nI (W 3)) w = _
    unfold fX5_reckon_B48
    rw [gf_eq w 8 4, hw.1.2.2.2.1, if_pos (by rw [nI_leI (by omega) (by omega)]; omega)]
  obtain ⟨γ, c1, c2, c3⟩ := key2
  rw [show (1 : Int32) = 1 from rfl, c1, Option.bind_some]
  have key3 := lp_for (f := fun w : Int32 × Sg => fX5_reckon_B75 w.1 w.2) (P := fun i w => w.1 = nI i ∧ FE [35] [(34, 1), (34, 2), (34, 3)] σ w.2 ∧ FrR (dI (A, 10 ^ W 3) i) w.2) (Q := fun τ => FE [35] [(34, 1), (34, 2), (34, 3)] σ τ ∧ FrR (dI (A, 10 ^ W 3) (W 3)) τ) (W 3) (by omega) (s0 := (nI 0, γ)) ⟨rfl, c2, c3⟩ ?_ ?_
  rotate_left
  · rintro i ⟨x, w⟩ hi ⟨rfl, h2, h3⟩
    dsimp only at h2 h3
    have hw : CW W w := hC.fr h2 (by decide)
    have l := dI_le (A, 10 ^ W 3) i
    dsimp only at l
    obtain ⟨μ, m1, m2, m3⟩ := dv2_spec h3 (by omega) (by omega)
    have l2 := d2_le (dI (A, 10 ^ W 3) i)
    obtain ⟨ν, n1, n2, n3⟩ := dv5_spec m3 (by omega) (by omega)
    refine ⟨(nI (i + 1), ν), ?_, rfl, h2.same ((m2.trans n2).up (by decide) (by decide)), n3⟩
    show fX5_reckon_B75 (nI i) w = _
    unfold fX5_reckon_B75
    rw [gf_eq w 8 4, hw.1.2.2.2.1, if_neg (by rw [nI_leI (by omega) (by omega)]; omega), m1, Option.bind_some, n1, Option.bind_some, nI_1]
  · rintro ⟨x, w⟩ ⟨rfl, h2, h3⟩
    dsimp only at h2 h3
    have hw : CW W w := hC.fr h2 (by decide)
    refine ⟨w, ?_, h2, h3⟩
    show fX5_reckon_B75 (nI (W 3)) w = _
    unfold fX5_reckon_B75
    rw [gf_eq w 8 4, hw.1.2.2.2.1, if_pos (by rw [nI_leI (by omega) (by omega)]; omega)]
  obtain ⟨δ, d1, d2, d3⟩ := key3
  rw [d1, Option.bind_some]
  exact ⟨δ, rfl, d2, d3⟩
