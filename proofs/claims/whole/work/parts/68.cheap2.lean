/-! cheapest: the class -/
theorem b512 {y : Nat} (h : y < 512) : inb (nI y) 512 = true := by rw [inb_nI _ _ (by omega)]; exact decide_eq_true h
theorem tb_1 (m i : Nat) : m.testBit i = true ↔ m / 2 ^ i % 2 = 1 := by rw [Nat.testBit_eq_decide_div_mod_eq, decide_eq_true_iff]
theorem jmax_nI {a b : Nat} (ha : a < 2 ^ 31) (hb : b < 2 ^ 31) : jmax (nI a) (nI b) = nI (max a b) := by
  unfold jmax
  by_cases c : a < b
  · rw [if_pos ((nI_ltI ha hb).mpr c), Nat.max_eq_right (by omega)]
  · rw [if_neg (fun z => c ((nI_ltI ha hb).mp z)), Nat.max_eq_left (by omega)]
def cst (W : Nat → Nat) (m : Nat) : Nat := fb_sm (fun y => m / 2 ^ y % 2 * W (5 + 2 * W (15 + 7 * y)) * W (16 + 7 * y)) (W 3)
theorem cst_le {k : Nat} {W : Nat → Nat} (hB : WBd k W) (m : Nat) : cst W m ≤ 100000 := by
  have h9 := hB.2.2.2.1
  have := fb_sm_bound (f := fun y => m / 2 ^ y % 2 * W (5 + 2 * W (15 + 7 * y)) * W (16 + 7 * y)) (c := 1 * 99 * 9) (n := W 3) (fun y hy => by
    have hb := hB.2.2.2.2.2 y hy
    have hp := (hB.2.2.2.2.1 _ hb.2.1).2
    exact Nat.mul_le_mul (Nat.mul_le_mul (by omega) hp) hb.2.2.1.2)
  have h2 : W 3 * (1 * 99 * 9) ≤ 9 * (1 * 99 * 9) := Nat.mul_le_mul_right _ h9
  unfold cst
  omega
theorem cprice_spec {k : Nat} {W : Nat → Nat} {σ : Sg} (hB : WBd k W) (h : CW W σ) {m : Nat} (hm : m < 512) : fX9_priceOf (nI m) σ = some (nI (cst W m)) := by
  have h9 := hB.2.2.2.1
  have h5 := hB.2.2.1
  unfold fX9_priceOf
  rw [lp_to (o := nI (cst W m)) (fun i => (nI (fb_sm (fun y => m / 2 ^ y % 2 * W (5 + 2 * W (15 + 7 * y)) * W (16 + 7 * y)) i), nI i)) (W 3) (by omega)]
  · rfl
  · intro i hi
    have hb := hB.2.2.2.2.2 i hi
    show fX9_priceOf_B4 (nI m) _ (nI i) σ = _
    unfold fX9_priceOf_B4
    rw [gf_eq, h.1.2.2.2.1, if_neg (by rw [nI_leI (by omega) (by omega)]; omega), gd_t (b9 (by omega)), cw_12 h hi h9, gd_t (b5 (by omega)), gd_t (b9 (by omega)), cw_13 h hi h9, ga_nI _ _ _ (by omega), (h.1.2.2.2.2.1 _ hb.2.1).2, bit_nI (by omega) (by omega), pk_mul, pk_mul, nI_add, nI_1, fb_sm_succ]
  · show fX9_priceOf_B4 (nI m) _ (nI (W 3)) σ = _
    unfold fX9_priceOf_B4
    rw [gf_eq, h.1.2.2.2.1, if_pos (by rw [nI_leI (by omega) (by omega)]; omega)]
    rfl
  · rfl
def mxF (st : Nat → Nat) (need : Nat) (f : Nat → Nat) (m : Nat) : Nat → Nat
  | 0 => 0
  | i + 1 => if m.testBit i = true then max (mxF st need f m i) (stp need (f (m ^^^ 2 ^ i) + st i)) else mxF st need f m i
theorem mxF_ge (st : Nat → Nat) (need : Nat) (f : Nat → Nat) (m : Nat) : ∀ i y, y < i → m.testBit y = true → stp need (f (m ^^^ 2 ^ y) + st y) ≤ mxF st need f m i
  | 0, y, h, _ => absurd h (Nat.not_lt_zero _)
  | i + 1, y, h, hb => by
    show _ ≤ if _ then _ else _
    by_cases c : y = i
    · subst c
      rw [if_pos hb]
      exact Nat.le_max_right _ _
    · have := mxF_ge st need f m i y (by omega) hb
      split
      · exact Nat.le_trans this (Nat.le_max_left _ _)
      · exact this
theorem mxF_s (st : Nat → Nat) (need : Nat) (f : Nat → Nat) (m i : Nat) : mxF st need f m (i + 1) = if m.testBit i = true then max (mxF st need f m i) (stp need (f (m ^^^ 2 ^ i) + st i)) else mxF st need f m i := rfl
theorem mxF_is (st : Nat → Nat) (need : Nat) (f : Nat → Nat) (m : Nat) : ∀ i, mxF st need f m i = 0 ∨ ∃ y, y < i ∧ m.testBit y = true ∧ mxF st need f m i = stp need (f (m ^^^ 2 ^ y) + st y)
  | 0 => Or.inl rfl
  | i + 1 => by
    have ih := mxF_is st need f m i
    have up : (mxF st need f m i = 0 ∨ ∃ y, y < i ∧ m.testBit y = true ∧ mxF st need f m i = stp need (f (m ^^^ 2 ^ y) + st y)) → (mxF st need f m i = 0 ∨ ∃ y, y < i + 1 ∧ m.testBit y = true ∧ mxF st need f m i = stp need (f (m ^^^ 2 ^ y) + st y)) := by
      rintro (h | ⟨y, h1, h2, h3⟩)
      · exact Or.inl h
      · exact Or.inr ⟨y, by omega, h2, h3⟩
    rw [mxF_s]
    by_cases c : m.testBit i = true
    · simp only [c, if_true]
      rcases Nat.le_total (mxF st need f m i) (stp need (f (m ^^^ 2 ^ i) + st i)) with d | d
      · rw [Nat.max_eq_right d]
        exact Or.inr ⟨i, by omega, c, rfl⟩
      · rw [Nat.max_eq_left d]
        exact up ih
    · simp only [c, if_false]
      exact up ih
theorem fill_spec {st : Nat → Nat} {n need m : Nat} {f : Nat → Nat} {σ : Sg} (hn : n ≤ 9) (hm : m < 2 ^ n) (hneed : need < 2 ^ 20) (hst : ∀ z, z < n → σ.1 32 z = nI (st z) ∧ st z ≤ 2000) (hf : ∀ z, z < m → σ.1 33 z = nI (f z) ∧ f z ≤ 70000 * z) : fX3_fillBest (nI m) (nI n) (nI need) σ = some (nI (mxF st need f m n)) ∧ mxF st need f m n ≤ 70000 * m := by
  have hp := p2_le hn
  have bd : ∀ i, i ≤ n → mxF st need f m i ≤ 70000 * m := by
    intro i hi
    rcases mxF_is st need f m i with e | ⟨y, hy, hb, e⟩
    · rw [e]; exact Nat.zero_le _
    · rw [e]
      have hlt := sub2_lt (bit_sub hb) (bit_pos y)
      have h1 := (hf _ hlt).2
      have h2 := (hst y (by omega)).2
      have h3 := stp_le need (f (m ^^^ 2 ^ y) + st y)
      omega
  refine ⟨?_, bd n (Nat.le_refl _)⟩
  unfold fX3_fillBest
  rw [lp_to (o := nI (mxF st need f m n)) (fun i => (nI (mxF st need f m i), nI i)) n (by omega)]
  · rfl
  · intro i hi
    have hbit : m / 2 ^ i % 2 = 0 ∨ m / 2 ^ i % 2 = 1 := by omega
    show fX3_fillBest_B6 (nI m) (nI n) (nI need) (nI (mxF st need f m i)) (nI i) σ = some (.inl (nI (if m.testBit i = true then max (mxF st need f m i) (stp need (f (m ^^^ 2 ^ i) + st i)) else mxF st need f m i), nI (i + 1)))
    unfold fX3_fillBest_B6 fX3_fillBest_J64 fX3_fillBest_J73
    rw [if_neg (by rw [nI_leI (by omega) (by omega)]; omega), bit_nI (by omega) (by omega)]
    rcases hbit with e | e
    · rw [e, if_pos (show nI 0 = (0 : Int32) from rfl), if_neg (fun z => by rw [tb_1] at z; omega), nI_1]
    · have hb : m.testBit i = true := (tb_1 m i).mpr e
      have hlt := sub2_lt (bit_sub hb) (bit_pos i)
      have h1 := hf _ hlt
      have h2 := hst i hi
      have hbd := bd i (by omega)
      have h3 := stp_le need (f (m ^^^ 2 ^ i) + st i)
      rw [e, if_neg (show ¬ nI 1 = (0 : Int32) by decide), if_pos hb, shl1_nI (by omega), fb_xorI, gd_t (b512 (by omega)), gd_t (b9 (by omega)), ga_nI _ _ _ (by omega), ga_nI _ _ _ (by omega), h1.1, h2.1, nI_add, show (65536 : Int32) = nI 65536 from rfl, irm_nI (by omega) (by omega) (by omega), pk_sub (Nat.mod_le _ _), nI_add, nI_1]
      have hmod := Nat.mod_lt (f (m ^^^ 2 ^ i) + st i) (show 65536 > 0 by decide)
      have hml := Nat.mod_le (f (m ^^^ 2 ^ i) + st i) 65536
      unfold stp at h3 ⊢
      by_cases c : (f (m ^^^ 2 ^ i) + st i) % 65536 < need
      · rw [if_pos ((nI_ltI (by omega) (by omega)).mpr c), if_pos c, jmax_nI (by omega) (by omega)]
      · rw [if_neg (fun z => c ((nI_ltI (by omega) (by omega)).mp z)), if_neg c, jmax_nI (by omega) (by omega)]
  · show fX3_fillBest_B6 (nI m) (nI n) (nI need) (nI (mxF st need f m n)) (nI n) σ = _
    unfold fX3_fillBest_B6
    rw [if_pos (by rw [nI_leI (by omega) (by omega)]; omega)]
  · rfl
theorem MaxF_cong {st : Nat → Nat} {n need m : Nat} {f f' : Nat → Nat} (e : ∀ z, z ≤ m → f' z = f z) (h : MaxF st n need f m) : MaxF st n need f' m := by
  obtain ⟨h1, h2⟩ := h
  have em := e m (Nat.le_refl _)
  have ey : ∀ y, m.testBit y = true → f' (m ^^^ 2 ^ y) = f (m ^^^ 2 ^ y) := fun y hb => e _ (Nat.le_of_lt (sub2_lt (bit_sub hb) (bit_pos y)))
  refine ⟨fun y hy hb => by rw [ey y hb, em]; exact h1 y hy hb, ?_⟩
  rcases h2 with z | ⟨y, hy, hb, z⟩
  · left; rw [em]; exact z
  · right; exact ⟨y, hy, hb, by rw [ey y hb, em]; exact z⟩
/-- the cheapest so far; 0: none -/
def bsel (c : Nat → Nat) (p : Nat → Bool) : Nat → Nat
  | 0 => 0
  | i + 1 => if p i = true ∧ (bsel c p i = 0 ∨ c i < c (bsel c p i)) then i else bsel c p i
theorem bsel_cong {c : Nat → Nat} {p q : Nat → Bool} : ∀ {i : Nat}, (∀ m, m < i → p m = q m) → bsel c p i = bsel c q i
  | 0, _ => rfl
  | i + 1, h => by
    have ih := bsel_cong (c := c) (i := i) (fun m hm => h m (by omega))
    show (if _ then _ else _) = if _ then _ else _
    rw [ih, h i (by omega)]
theorem bsel_lt (c : Nat → Nat) (p : Nat → Bool) : ∀ {i : Nat}, 0 < i → bsel c p i < i
  | 0, h => absurd h (Nat.not_lt_zero _)
  | i + 1, _ => by
    show (if _ then _ else _) < _
    split
    · omega
    · by_cases h : i = 0
      · subst h; show 0 < 1; omega
      · have := bsel_lt c p (i := i) (by omega); omega
def encC (b : Nat) : Int32 := if b = 0 then -1 else nI b
def encM (b : Nat) : Int32 := if b = 0 then -1000000 else nI b
theorem csearch_1 {k : Nat} {W : Nat → Nat} {σ : Sg} (hB : WBd k W) (hk : k ≤ 512) (hC : CW W σ) (v3 : Int32) : ∃ α, lpO (fun w : Int32 × Sg => fX3_search_B17 v3 w.1 w.2) FUEL (0, σ) = some α ∧ FE [32] [] σ α ∧ ∀ z, z < W 3 → α.1 32 z = nI (stW W z) := by
  have h9 := hB.2.2.2.1
  refine lp_for (P := fun i (w : Int32 × Sg) => w.1 = nI i ∧ FE [32] [] σ w.2 ∧ ∀ z, z < i → w.2.1 32 z = nI (stW W z)) (W 3) (by omega) ⟨rfl, FE.refl _ _ _, fun j hj => absurd hj (Nat.not_lt_zero _)⟩ ?_ ?_
  · rintro i ⟨x, w⟩ hi ⟨rfl, h2, h3⟩
    dsimp only at h2 h3
    have hw : CW W w := hC.fr h2 (by decide)
    refine ⟨(nI (i + 1), sup w 32 i (nI (stW W i))), ?_, rfl, h2.same FE_supC, ?_⟩
    · show fX3_search_B17 v3 (nI i) w = _
      unfold fX3_search_B17
      rw [gf_eq, hw.1.2.2.2.1, if_neg (by rw [nI_leI (by omega) (by omega)]; omega), strength_spec hB hk hw hi, Option.bind_some, gd_t (b9 (by omega)), sa_nI _ _ _ _ (by omega), nI_1]
    · intro g hg
      show (sup w 32 i _).1 32 g = _
      rw [sup_at]
      by_cases c : g = i
      · rw [if_pos ⟨rfl, c⟩, c]
      · rw [if_neg (fun z => c z.2)]; exact h3 g (by omega)
  · rintro ⟨x, w⟩ ⟨rfl, h2, h3⟩
    dsimp only at h2 h3
    have hw : CW W w := hC.fr h2 (by decide)
    refine ⟨w, ?_, h2, h3⟩
    show fX3_search_B17 v3 (nI (W 3)) w = _
    unfold fX3_search_B17
    rw [gf_eq, hw.1.2.2.2.1, if_pos (by rw [nI_leI (by omega) (by omega)]; omega)]
def okF (f : Nat → Nat) (m : Nat) : Bool := decide (196608 ≤ f m)
theorem csearch_2 {k : Nat} {W : Nat → Nat} {σ : Sg} (hB : WBd k W) (hC : CW W σ) {need : Nat} (h1 : 0 < need) (hneed : need ≤ 10000) (hst : ∀ z, z < W 3 → σ.1 32 z = nI (stW W z)) (h0 : σ.1 33 0 = 0) : ∃ f : Nat → Nat, ∃ τ, lpO (fun w : Int32 × Int32 × Int32 × Sg => fX3_search_B61 (nI need) w.1 w.2.1 w.2.2.1 w.2.2.2) FUEL ((-1), 0, 1, σ) = some (encC (bsel (cst W) (okF f) (2 ^ W 3)), τ) ∧ FE [33] [] σ τ ∧ ∀ m, m < 2 ^ W 3 → MaxF (stW W) (W 3) need f m := by
  have h9 := hB.2.2.2.1
  have hp := p2_le h9
  have hp0 : 0 < 2 ^ W 3 := Nat.pow_pos (by decide)
  have key := lp_for (f := fun w : Int32 × Int32 × Int32 × Sg => fX3_search_B61 (nI need) w.1 w.2.1 w.2.2.1 w.2.2.2) (P := fun j w => ∃ f : Nat → Nat, (∀ m, m ≤ j → w.2.2.2.1 33 m = nI (f m) ∧ f m ≤ 70000 * m ∧ MaxF (stW W) (W 3) need f m) ∧ FE [33] [] σ w.2.2.2 ∧ w.1 = encC (bsel (cst W) (okF f) (j + 1)) ∧ (bsel (cst W) (okF f) (j + 1) ≠ 0 → w.2.1 = nI (cst W (bsel (cst W) (okF f) (j + 1)))) ∧ w.2.2.1 = nI (j + 1)) (Q := fun o => ∃ f : Nat → Nat, o.1 = encC (bsel (cst W) (okF f) (2 ^ W 3)) ∧ FE [33] [] σ o.2 ∧ ∀ m, m < 2 ^ W 3 → MaxF (stW W) (W 3) need f m) (2 ^ W 3 - 1) (by omega) (s0 := ((-1), 0, 1, σ)) ?_ ?_ ?_
  · obtain ⟨⟨o1, o2⟩, k1, f, k2, k3, k4⟩ := key
    dsimp only at k2 k3
    subst k2
    exact ⟨f, o2, k1, k3, k4⟩
  · have b0 : bsel (cst W) (okF fun _ => 0) (0 + 1) = 0 := by
      show (if _ then _ else _) = 0
      rw [if_neg]
      · rfl
      · rintro ⟨z, _⟩
        exact absurd z (by decide)
    refine ⟨fun _ => 0, fun m hm => ?_, FE.refl _ _ _, ?_, ?_, rfl⟩
    · have : m = 0 := by omega
      subst this
      exact ⟨h0, Nat.zero_le _, ⟨fun y _ hb => absurd hb (by rw [Nat.zero_testBit]; decide), Or.inl rfl⟩⟩
    · rw [b0]; rfl
    · intro z; exact absurd b0 z
  · rintro j ⟨v4, v5, v6, w⟩ hj ⟨f, hf, hE, e4, e5, e6⟩
    dsimp only at hf hE e4 e5 e6
    subst e4 e6
    have hw : CW W w := hC.fr hE (by decide)
    have hw32 : ∀ z, z < W 3 → w.1 32 z = nI (stW W z) ∧ stW W z ≤ 2000 := fun z hz => ⟨by rw [hE 32 z (by decide) (by simp)]; exact hst z hz, by have := stW_le hB hz; omega⟩
    obtain ⟨fb1, fb2⟩ := fill_spec (st := stW W) (n := W 3) (need := need) (m := j + 1) (f := f) (σ := w) h9 (by omega) (by omega) hw32 (fun z hz => ⟨(hf z (by omega)).1, (hf z (by omega)).2.1⟩)
    generalize hv : mxF (stW W) need f (j + 1) (W 3) = v at fb1 fb2
    have fe : ∀ z, z ≤ j → updN f (j + 1) v z = f z := fun z hz => updN_ne (by omega)
    have fe1 : updN f (j + 1) v (j + 1) = v := updN_eq _ _ _
    have hbj : bsel (cst W) (okF (updN f (j + 1) v)) (j + 1) = bsel (cst W) (okF f) (j + 1) := bsel_cong (fun m hm => by unfold okF; rw [fe m (by omega)])
    have hbs : bsel (cst W) (okF (updN f (j + 1) v)) (j + 1 + 1) = if okF (updN f (j + 1) v) (j + 1) = true ∧ (bsel (cst W) (okF f) (j + 1) = 0 ∨ cst W (j + 1) < cst W (bsel (cst W) (okF f) (j + 1))) then j + 1 else bsel (cst W) (okF f) (j + 1) := by
      show (if _ then _ else _) = _
      rw [hbj]
    have hok : okF (updN f (j + 1) v) (j + 1) = decide (196608 ≤ v) := by unfold okF; rw [fe1]
    have hbl := bsel_lt (cst W) (okF f) (i := j + 1) (by omega)
    have nxt : ∀ m, m ≤ j + 1 → (sup w 33 (j + 1) (nI v)).1 33 m = nI (updN f (j + 1) v m) ∧ updN f (j + 1) v m ≤ 70000 * m ∧ MaxF (stW W) (W 3) need (updN f (j + 1) v) m := by
      intro m hm
      by_cases c : m = j + 1
      · subst c
        refine ⟨by rw [sup_at, if_pos ⟨rfl, rfl⟩, fe1], by rw [fe1]; exact fb2, fun y hy hb => ?_, ?_⟩
        · have hlt := sub2_lt (bit_sub hb) (bit_pos y)
          rw [fe1, fe _ (by omega), ← hv]
          exact mxF_ge _ _ _ _ _ _ hy hb
        · rw [fe1, ← hv]
          rcases mxF_is (stW W) need f (j + 1) (W 3) with z | ⟨y, hy, hb, z⟩
          · exact Or.inl z
          · have hlt := sub2_lt (bit_sub hb) (bit_pos y)
            refine Or.inr ⟨y, hy, hb, ?_⟩
            rw [hv, fe _ (by omega), ← hv]; exact z
      · have hm' : m ≤ j := by omega
        refine ⟨by rw [sup_at, if_neg (fun z => c z.2), fe m hm']; exact (hf m hm').1, by rw [fe m hm']; exact (hf m hm').2.1, MaxF_cong (fun z hz => fe z (by omega)) (hf m hm').2.2⟩
    have hw' : CW W (sup w 33 (j + 1) (nI v)) := hw.fr FE_supC (by decide)
    have fE' : FE [33] [] σ (sup w 33 (j + 1) (nI v)) := hE.same FE_supC
    show ∃ s1, fX3_search_B61 (nI need) _ v5 (nI (j + 1)) w = some (.inl s1) ∧ _
    unfold fX3_search_B61 fX3_search_J122 fX3_search_J130
    have g33 : ga (sup w 33 (j + 1) (nI v)) 33 (nI (j + 1)) = nI v := by rw [ga_nI _ _ _ (by omega), sup_at, if_pos ⟨rfl, rfl⟩]
    rw [gf_eq, hw.1.2.2.2.1, shl1_nI (by omega), if_neg (by rw [nI_leI (by omega) (by omega)]; omega), fb1, Option.bind_some, gd_t (b512 (by omega)), gd_t (b512 (by omega)), sa_nI _ _ _ _ (by omega), g33, cprice_spec hB hw' (by omega), nI_1, show (196608 : Int32) = nI 196608 from rfl]
    have c1 := cst_le hB (j + 1)
    have c2 := cst_le hB (bsel (cst W) (okF f) (j + 1))
    by_cases d : v < 196608
    · rw [if_pos ((nI_ltI (by omega) (by omega)).mpr d)]
      have eb : bsel (cst W) (okF (updN f (j + 1) v)) (j + 1 + 1) = bsel (cst W) (okF f) (j + 1) := by
        rw [hbs, if_neg]
        rintro ⟨z, _⟩
        rw [hok] at z
        have := of_decide_eq_true z
        omega
      refine ⟨_, rfl, updN f (j + 1) v, nxt, fE', ?_, ?_, rfl⟩
      · rw [eb]
      · rw [eb]; exact e5
    · rw [if_neg (fun z => d ((nI_ltI (by omega) (by omega)).mp z)), Option.bind_some]
      have ho : okF (updN f (j + 1) v) (j + 1) = true := by rw [hok]; exact decide_eq_true (by omega)
      by_cases b0 : bsel (cst W) (okF f) (j + 1) = 0
      · have eb : bsel (cst W) (okF (updN f (j + 1) v)) (j + 1 + 1) = j + 1 := by
          rw [hbs, if_pos ⟨ho, Or.inl b0⟩]
        rw [b0, if_pos (show encC 0 < (0 : Int32) by decide)]
        refine ⟨_, rfl, updN f (j + 1) v, nxt, fE', ?_, ?_, rfl⟩
        · rw [eb]
          show _ = encC (j + 1)
          unfold encC
          rw [if_neg (by omega)]
        · intro _; rw [eb]
      · have e4 : encC (bsel (cst W) (okF f) (j + 1)) = nI (bsel (cst W) (okF f) (j + 1)) := if_neg b0
        rw [e4, if_neg (nI_pos (by omega)), e5 b0]
        by_cases d2 : cst W (bsel (cst W) (okF f) (j + 1)) ≤ cst W (j + 1)
        · have eb : bsel (cst W) (okF (updN f (j + 1) v)) (j + 1 + 1) = bsel (cst W) (okF f) (j + 1) := by
            rw [hbs, if_neg]
            rintro ⟨_, z | z⟩
            · exact b0 z
            · omega
          rw [if_pos ((nI_leI (by omega) (by omega)).mpr d2)]
          refine ⟨_, rfl, updN f (j + 1) v, nxt, fE', ?_, ?_, rfl⟩
          · rw [eb, e4]
          · intro _; rw [eb]
        · have eb : bsel (cst W) (okF (updN f (j + 1) v)) (j + 1 + 1) = j + 1 := by
            rw [hbs, if_pos ⟨ho, Or.inr (by omega)⟩]
          rw [if_neg (fun z => d2 ((nI_leI (by omega) (by omega)).mp z))]
          refine ⟨_, rfl, updN f (j + 1) v, nxt, fE', ?_, ?_, rfl⟩
          · rw [eb]
            show _ = encC (j + 1)
            unfold encC
            rw [if_neg (by omega)]
          · intro _; rw [eb]
  · rintro ⟨v4, v5, v6, w⟩ ⟨f, hf, hE, e4, e5, e6⟩
    dsimp only at hf hE e4 e5 e6
    have hw : CW W w := hC.fr hE (by decide)
    rw [show 2 ^ W 3 - 1 + 1 = 2 ^ W 3 by omega] at e4 e6
    subst e4 e6
    refine ⟨(encC (bsel (cst W) (okF f) (2 ^ W 3)), w), ?_, f, rfl, hE, fun m hm => (hf m (by omega)).2.2⟩
    show fX3_search_B61 (nI need) _ v5 (nI (2 ^ W 3)) w = _
    unfold fX3_search_B61
    rw [gf_eq, hw.1.2.2.2.1, shl1_nI (by omega), if_pos (by rw [nI_leI (by omega) (by omega)]; omega)]
theorem csearch_spec {k : Nat} {W : Nat → Nat} {σ : Sg} (hB : WBd k W) (hk : k ≤ 512) (hC : CW W σ) {L : Nat} (hL : L ≤ 9999) (h1 : 1 ≤ L) : ∃ f : Nat → Nat, ∃ τ, fX3_search (nI L) σ = some (encC (bsel (cst W) (okF f) (2 ^ W 3)), τ) ∧ FE [32, 33] [] σ τ ∧ ∀ m, m < 2 ^ W 3 → MaxF (stW W) (W 3) ((L + 2) / 3) f m := by
  have ey : nI L + 3 - 1 = nI (L + 2) := by
    rw [show (3 : Int32) = nI 3 from rfl, nI_add, st_s (by omega), show L + 3 - 1 = L + 2 by omega]
  unfold fX3_search
  rw [ey, show (3 : Int32) = nI 3 from rfl, pk_div (by omega) (by omega) (by omega)]
  have hn1 : 0 < (L + 2) / 3 := by omega
  have hn2 : (L + 2) / 3 ≤ 10000 := by omega
  generalize (L + 2) / 3 = need at hn1 hn2
  obtain ⟨α, a1, a2, a3⟩ := csearch_1 hB hk hC (nI need)
  rw [if_neg (q0 (by omega)), a1, Option.bind_some, gd_t (by decide)]
  have hCα : CW W (sup α 33 0 0) := hC.fr (a2.trans (FE_supC (c := 33) (j := 0) (v := 0))) (by decide)
  obtain ⟨f, τ, t1, t2, t3⟩ := csearch_2 hB hCα hn1 hn2 (fun z hz => by rw [sup_ne (by decide)]; exact a3 z hz) (by rw [sup_at, if_pos ⟨rfl, rfl⟩])
  have e0 : sa α 33 0 0 = sup α 33 0 0 := rfl
  rw [e0, t1, Option.bind_some]
  exact ⟨f, τ, rfl, ((a2.trans (FE_supC (c := 33) (j := 0) (v := 0))).trans t2).up (by decide) (by decide), t3⟩
