/-! bits of small numbers -/
theorem bt_nI (m i : Nat) (hi : i < 32) : bt (nI m) i = m.testBit i := by
  unfold bt
  show (BitVec.ofNat 32 m).getLsbD i = _
  rw [BitVec.getLsbD_ofNat]
  simp [hi]
theorem shr_nI {m j : Nat} (hm : m < 2 ^ 31) (hj : j < 32) : jshr (nI m) (nI j) = nI (m / 2 ^ j) := by
  apply b_ext
  intro i hi
  unfold jshr
  rw [b_sshr j hj _ hi, bt_nI _ _ hi, ← Nat.shiftRight_eq_div_pow, Nat.testBit_shiftRight]
  by_cases h : j + i < 32
  · rw [if_pos h, bt_nI _ _ h]
  · rw [if_neg h, bt_nI _ _ (by omega), Nat.testBit_lt_two_pow hm, Nat.testBit_lt_two_pow (Nat.lt_of_lt_of_le hm (Nat.pow_le_pow_right (by decide) (by omega)))]
theorem bit_nI {m j : Nat} (hm : m < 2 ^ 31) (hj : j < 32) : jshr (nI m) (nI j) &&& 1 = nI (m / 2 ^ j % 2) := by
  rw [shr_nI hm hj, show (1 : Int32) = nI (2 ^ 1 - 1) from rfl, fa_mask]
theorem shl1_nI {j : Nat} (hj : j < 31) : jshl 1 (nI j) = nI (2 ^ j) := by
  have key : ∀ j, j < 31 → jshl 1 (nI j) = nI (2 ^ j) := by decide +kernel
  exact key _ hj
/-! geese -/
def pop (m : Nat) : Nat := fb_sm (fun j => m / 2 ^ j % 2) 9
theorem pop_le (m : Nat) : pop m ≤ 9 := by
  have := fb_sm_bound (f := fun j => m / 2 ^ j % 2) (c := 1) (n := 9) (fun j _ => Nat.le_of_lt_succ (Nat.mod_lt _ (by decide)))
  unfold pop
  omega
theorem pop_spec {m : Nat} (hm : m < 512) (σ : Sg) : fJ6_bitCount_0f7a4 (nI m) σ = some (nI (pop m)) := by
  have key : ∀ m, m < 512 → fJ6_bitCount_0f7a4 (nI m) sg0 = some (nI (pop m)) := by decide +kernel
  exact key m hm
theorem ok_geese : OK_geese Inv := by
  intro k b σ a1 hk hI
  obtain ⟨⟨t, W, ⟨t1, wt, wm, w0, hB, hT, hS, hM⟩, _⟩, _⟩ := hI.2.2.2.2
  have h9 := hB.2.2.2.1
  have hM' : MW W (sup σ 38 0 0) := hM
  unfold fX10_geese fX11_geese fX10_geese_J30
  have e1 : gf σ 8 0 = nI t := wt
  have e2 : gf (sup σ 38 0 0) 38 7 = nI t := wm
  rw [e1, e2, gd_t i77_3, mk3 hM', gf_eq, hT.2.2.2.1, shl1_nI (by omega), in_spec]
  by_cases ht : t = 0
  · subst ht
    exact ⟨_, _, rfl, rfl, rfl, hI.up.thr 0⟩
  rw [if_neg (q0 ht), if_neg (q0 ht)]
  have p9 : 2 ^ W 3 ≤ 512 := Nat.pow_le_pow_right (n := 2) (by decide) h9
  have p1 : 1 ≤ 2 ^ W 3 := Nat.one_le_two_pow
  generalize hP : 2 ^ W 3 = P at p9 p1
  have hin : ((1 : Int64) ≤ a1.toInt64 ∧ a1.toInt64 ≤ (nI P - 1).toInt64) ↔ (¬ a1 ≤ 0 ∧ a1 < nI P) := by
    have z0 : (0 : Int32).toInt = 0 := rfl
    have z1 : (1 : Int32).toInt = 1 := rfl
    rw [show (1 : Int64) = (1 : Int32).toInt64 from rfl, wide_in, fa_le, fa_le, fa_lt, fa_le, show nI P - (1 : Int32) = nI P - nI 1 from rfl, pk_sub_toInt (by omega) (by omega), nI_toInt (by omega)]
    omega
  simp only [hin, Option.bind_some]
  by_cases c1 : a1 ≤ 0
  · simp only [c1, not_true, false_and, if_true, if_false]
    exact ⟨_, _, rfl, rfl, rfl, hI.up.thr 0⟩
  by_cases c2 : a1 < nI P
  rotate_left
  · simp only [c1, c2, and_false, if_true, if_false]
    exact ⟨_, _, rfl, rfl, rfl, hI.up.thr 0⟩
  simp only [c1, c2, not_false_iff, and_self, if_true, if_false, one_ne]
  obtain ⟨m, hm, rfl⟩ := nI_of (x := a1) (fun z => c1 (Int32.le_of_lt z))
  have hm2 : m < 512 := by
    have := (nI_ltI hm (by omega)).mp c2
    omega
  have pl := pop_le m
  obtain ⟨L, hL, hL1, hL2⟩ := fb_first (p := fun v => pop m ≤ 2 ^ v) (n := 5) ⟨4, by omega, by show pop m ≤ 16; omega⟩
  have pw : ∀ v, v ≤ 9 → 2 ^ v < 2 ^ 31 := fun v hv => Nat.pow_lt_pow_right (by decide) (by omega)
  have x1 : lpO (fun w : Int32 => fX10_geese_B35 (nI m) w σ) FUEL 0 = some (nI L) := by
    refine lp_to (fun i => nI i) L (by omega) ?_ ?_ rfl
    · intro i hi
      show fX10_geese_B35 (nI m) (nI i) σ = _
      unfold fX10_geese_B35
      rw [if_neg (by rw [show (9 : Int32) = nI 9 from rfl, nI_leI (by omega) (by omega)]; omega), pop_spec hm2, shl1_nI (by omega)]
      simp only [Option.bind_some]
      rw [if_neg (fun z => hL2 i hi ((nI_leI (by omega) (pw i (by omega))).mp z)), nI_1]
    · show fX10_geese_B35 (nI m) (nI L) σ = _
      unfold fX10_geese_B35
      rw [if_neg (by rw [show (9 : Int32) = nI 9 from rfl, nI_leI (by omega) (by omega)]; omega), pop_spec hm2, shl1_nI (by omega)]
      simp only [Option.bind_some]
      rw [if_pos ((nI_leI (by omega) (pw L (by omega))).mpr hL1)]
  have x2 : lpO (fun w : Int32 × Int32 => fX11_geese_B42 (nI m) w.1 w.2 (sup σ 38 0 0)) FUEL (0, 0) = some (nI (pop m)) := by
    refine lp_to (fun i => (nI (fb_sm (fun j => m / 2 ^ j % 2) i), nI i)) 9 (by omega) ?_ ?_ rfl
    · intro i hi
      show fX11_geese_B42 (nI m) (nI _) (nI i) _ = _
      unfold fX11_geese_B42
      rw [if_neg (by rw [show (9 : Int32) = nI 9 from rfl, nI_leI (by omega) (by omega)]; omega), bit_nI hm (by omega), nI_add, nI_1, fb_sm_succ]
    · show fX11_geese_B42 (nI m) (nI _) (nI 9) _ = _
      unfold fX11_geese_B42
      rw [if_pos (by decide)]
      rfl
  have x3 : lpO (fun w : Int32 => fX11_geese_B64 (nI (pop m)) w (sup σ 38 0 0)) FUEL 0 = some (nI L) := by
    refine lp_to (fun i => nI i) L (by omega) ?_ ?_ rfl
    · intro i hi
      show fX11_geese_B64 _ (nI i) _ = _
      unfold fX11_geese_B64
      rw [shl1_nI (by omega), if_neg (fun z => hL2 i hi ((nI_leI (by omega) (pw i (by omega))).mp z)), nI_1]
    · show fX11_geese_B64 _ (nI L) _ = _
      unfold fX11_geese_B64
      rw [shl1_nI (by omega), if_pos ((nI_leI (by omega) (pw L (by omega))).mpr hL1)]
  rw [x1, x2]
  simp only [Option.bind_some]
  rw [x3]
  exact ⟨_, _, rfl, rfl, rfl, hI.up.thr 0⟩
/-! as -/
theorem isOne_spec {c a : Nat} (hc : c < 6) (h1 : 1 ≤ c) (ha : a < 6) (σ τ : Sg) : ∃ v, fX4_isOne (nI c) (nI a) σ = some v ∧ fX11_isOf (nI c) (nI a) τ = some v := by
  have key : ∀ c, c < 6 → 1 ≤ c → ∀ a, a < 6 → fX4_isOne (nI c) (nI a) sg0 = fX11_isOf (nI c) (nI a) sg0 ∧ (fX11_isOf (nI c) (nI a) sg0).isSome = true := by decide +kernel
  have e1 : fX4_isOne (nI c) (nI a) σ = fX4_isOne (nI c) (nI a) sg0 := rfl
  have e2 : fX11_isOf (nI c) (nI a) τ = fX11_isOf (nI c) (nI a) sg0 := rfl
  obtain ⟨k1, k2⟩ := key c hc h1 a ha
  rw [e1, e2, k1]
  cases h : fX11_isOf (nI c) (nI a) sg0 with
  | none => rw [h] at k2; cases k2
  | some v => exact ⟨v, rfl, rfl⟩
theorem Inv.fnot {k : Nat} {b : Nat → Bool} {σ : Sg} (h : Inv k b σ) (v : Int32) : Inv k b (sup (sup (sup σ 0 11 0) 38 0 v) 38 1 0) := by
  have f1 : FE [] [(0, 11), (38, 0), (38, 1)] σ (sup (sup (sup σ 0 11 0) 38 0 v) 38 1 0) := (FE_sup.trans FE_sup).trans FE_sup
  refine ⟨h.1.fr f1 (by decide), h.2.1.fr f1 (by decide), ⟨?_, ?_⟩, h.2.2.2.1.fr f1 (by decide), h.2.2.2.2.fr f1 (by decide) (by decide) (by decide)⟩
  · rfl
  · exact h.2.2.1.2
theorem ok_as : OK_as Inv := by
  intro k b σ a1 a2 hk hI
  obtain ⟨⟨t, W, ⟨t1, wt, wm, w0, hB, hT, hS, hM⟩, _⟩, _⟩ := hI.2.2.2.2
  have h9 := hB.2.2.2.1
  have hC : CW W σ := ⟨hT, hS⟩
  have e := small_in a2 5 (by omega)
  rw [show (nI 5).toInt64 = (5 : Int64) from rfl] at e
  rcases yarn_split a1 (W 3) h9 with ⟨y, hy, rfl⟩ | hn
  rotate_left
  · refine ⟨(-1000001, σ), (-1000001, sup σ 38 0 0), ?_, ?_, rfl, hI.up.thr 0⟩
    · unfold fX10_as; rw [hasYarn_no hT.2.2.2.1 hn]; rfl
    · unfold fX11_as; rw [isYarn_no (σ := sup σ 38 0 0) hM.2.2.2.1 h9 hn]; rfl
  by_cases h : ∃ j, j ≤ 5 ∧ a2 = nI j
  rotate_left
  · refine ⟨(-1000001, σ), (-1000001, sup σ 38 0 0), ?_, ?_, rfl, hI.up.thr 0⟩
    · unfold fX10_as fX10_as_J20; rw [hasYarn_yes hT.2.2.2.1 h9 hy]
      simp only [Option.bind_some, one_ne, if_false]
      rcases small_no (by omega) h with c | c
      · rw [if_pos c]
      · by_cases c1 : a2 < 0
        · rw [if_pos c1]
        · rw [if_neg c1, if_neg (by rw [fa_le]; rw [fa_lt] at c; exact Int.not_le.mpr c)]
    · unfold fX11_as; rw [isYarn_yes (σ := sup σ 38 0 0) hM.2.2.2.1 h9 hy]
      simp only [Option.bind_some, one_ne, if_false, in_spec, e]
      rw [if_neg h, if_pos rfl]; rfl
  obtain ⟨j, hj, rfl⟩ := h
  have hb := hB.2.2.2.2.2 y hy
  obtain ⟨v, v1, v2⟩ := isOne_spec (c := W (14 + 7 * y)) (a := j) (by omega) (by omega) (by omega) σ σ
  have c1 : fX10_as (nI y) (nI j) σ = if v = 0 then some (-1000010 - 3, sup σ 0 11 3) else some (nI y, sup σ 0 11 0) := by
    unfold fX10_as; rw [hasYarn_yes hT.2.2.2.1 h9 hy]
    simp only [Option.bind_some, one_ne, if_false]
    rw [if_neg (nI_pos (by omega)), if_pos (by rw [show (5 : Int32) = nI 5 from rfl, nI_leI (by omega) (by omega)]; omega), gd_t (b9 (by omega)), cw_11 hC hy h9, v1]
    simp only [Option.bind_some, found_spec, foundN_spec]
  have c2 : ∀ τ : Sg, MW W τ → fX11_as (nI y) (nI j) τ = if v = 0 then some (-1000010 - 3, sup (sup (sup τ 38 0 0) 38 1 0) 38 1 3) else some (nI y, sup (sup τ 38 0 0) 38 1 0) := by
    intro τ hτ
    have hM1 : MW W (sup τ 38 0 0) := hτ
    have hM2 : MW W (sup (sup τ 38 0 0) 38 1 0) := hτ
    unfold fX11_as; rw [isYarn_yes (σ := sup τ 38 0 0) hM1.2.2.2.1 h9 hy]
    simp only [Option.bind_some, one_ne, if_false, in_spec, e]
    rw [if_pos (show ∃ i, i ≤ 5 ∧ nI j = nI i from ⟨j, hj, rfl⟩), if_neg one_ne, of_0 hM2 hy h9]
    simp only [Option.bind_some]
    have v3 : fX11_isOf (nI (W (14 + 7 * y))) (nI j) (sup (sup τ 38 0 0) 38 1 0) = some v := v2
    rw [v3]
    simp only [Option.bind_some, finding_spec]
  by_cases hv : v = 0
  · refine ⟨(-1000010 - 3, sup σ 0 11 3), (-1000010 - 3, sup (sup (sup (sup σ 0 11 3) 38 0 0) 38 1 0) 38 1 3), by rw [c1, if_pos hv], ?_, rfl, hI.up.find 3 0⟩
    show fX11_as (nI y) (nI j) (sup σ 0 11 3) = _
    rw [c2 (sup σ 0 11 3) hM, if_pos hv]
  · refine ⟨(nI y, sup σ 0 11 0), (nI y, sup (sup (sup σ 0 11 0) 38 0 0) 38 1 0), by rw [c1, if_neg hv], ?_, rfl, hI.up.fnot 0⟩
    show fX11_as (nI y) (nI j) (sup σ 0 11 0) = _
    rw [c2 (sup σ 0 11 0) hM, if_neg hv]
/-! count -/
theorem st_0 : nI 0 - 1 = (-1 : Int32) := by decide
theorem st_s {s : Nat} (h : 1 ≤ s) : nI s - 1 = nI (s - 1) := pk_sub (b := 1) h
theorem st_m1 {s : Nat} (h : s < 2 ^ 30) : nI s - 1 = (-1 : Int32) ↔ s = 0 := by
  constructor
  · intro z
    by_cases h0 : s = 0
    · exact h0
    · rw [st_s (by omega)] at z
      exact absurd z (nI_m1 (by omega))
  · rintro rfl; exact st_0
theorem st_neg {s : Nat} (h : s < 2 ^ 30) : nI s - 1 < (0 : Int32) ↔ s = 0 := by
  constructor
  · intro z
    by_cases h0 : s = 0
    · exact h0
    · rw [st_s (by omega)] at z
      exact absurd z (nI_pos (by omega))
  · rintro rfl; decide
theorem isLaid_spec {k : Nat} {W : Nat → Nat} {σ : Sg} (hB : WBd k W) (h : CW W σ) {y : Nat} (hy : y < W 3) : fX9_isLaid (nI y) σ = some (if W (17 + 7 * y) = 0 then 0 else 1) := by
  have h9 := hB.2.2.2.1
  have hb := hB.2.2.2.2.2 y hy
  unfold fX9_isLaid
  rw [gd_t (bst0 (by omega)), cw_st h hy h9]
  by_cases c : W (17 + 7 * y) = 0
  · rw [if_pos ((st_m1 (by omega)).mpr c), if_pos c]
  · rw [if_neg (fun z => c ((st_m1 (by omega)).mp z)), if_neg c]
def thr8 (σ : Sg) (r : Nat) : Nat := if σ.1 3 r = -1 then 0 else 1
def ldW (W : Nat → Nat) (y : Nat) : Nat := if W (17 + 7 * y) = 0 then 0 else 1
def brW (W : Nat → Nat) (y : Nat) : Nat := if W (18 + 7 * y) = 2 then 1 else 0
theorem howMany_spec (σ : Sg) : fX7_howMany σ = some (nI (fb_sm (thr8 σ) 8)) := by
  unfold fX7_howMany
  rw [lp_to (o := nI (fb_sm (thr8 σ) 8)) (fun i => (nI (fb_sm (thr8 σ) i), nI i)) 8 (by omega)]
  · rfl
  · intro i hi
    show fX7_howMany_B4 (nI (fb_sm (thr8 σ) i)) (nI i) σ = _
    unfold fX7_howMany_B4 fX7_howMany_J24
    rw [if_neg (by rw [show (8 : Int32) = nI 8 from rfl, nI_leI (by omega) (by omega)]; omega), isMissing_spec hi]
    simp only [Option.bind_some]
    rw [nI_1, fb_sm_succ]
    unfold thr8
    by_cases c : σ.1 3 i = -1
    · simp only [c, if_true, one_ne, if_false]; rw [show (0 : Int32) = nI 0 from rfl, nI_add, nI_1]
    · simp only [c, if_true, if_false]; rw [nI_1]
  · show fX7_howMany_B4 (nI (fb_sm (thr8 σ) 8)) (nI 8) σ = _
    unfold fX7_howMany_B4
    rw [if_pos (by decide)]
  · rfl
theorem laid_spec {k : Nat} {W : Nat → Nat} {σ : Sg} (hB : WBd k W) (h : CW W σ) : fX9_laidYarns σ = some (nI (fb_sm (ldW W) (W 3))) := by
  have h9 := hB.2.2.2.1
  unfold fX9_laidYarns
  rw [lp_to (o := nI (fb_sm (ldW W) (W 3))) (fun i => (nI (fb_sm (ldW W) i), nI i)) (W 3) (by omega)]
  · rfl
  · intro i hi
    show fX9_laidYarns_B4 (nI (fb_sm (ldW W) i)) (nI i) σ = _
    unfold fX9_laidYarns_B4 fX9_laidYarns_J26
    rw [gf_eq, h.1.2.2.2.1, if_neg (by rw [nI_leI (by omega) (by omega)]; omega), isLaid_spec hB h hi]
    simp only [Option.bind_some]
    rw [nI_1, fb_sm_succ]
    unfold ldW
    by_cases c : W (17 + 7 * i) = 0
    · simp only [c, if_true]; rw [show (0 : Int32) = nI 0 from rfl, nI_add]
    · simp only [c, if_false, one_ne]; rw [nI_1]
  · show fX9_laidYarns_B4 (nI (fb_sm (ldW W) (W 3))) (nI (W 3)) σ = _
    unfold fX9_laidYarns_B4
    rw [gf_eq, h.1.2.2.2.1, if_pos (by rw [nI_leI (by omega) (by omega)]; omega)]
  · rfl
theorem broken_spec {k : Nat} {W : Nat → Nat} {σ : Sg} (hB : WBd k W) (h : CW W σ) : fX9_brokenVows σ = some (nI (fb_sm (brW W) (W 3))) := by
  have h9 := hB.2.2.2.1
  unfold fX9_brokenVows
  rw [lp_to (o := nI (fb_sm (brW W) (W 3))) (fun i => (nI (fb_sm (brW W) i), nI i)) (W 3) (by omega)]
  · rfl
  · intro i hi
    have hb := hB.2.2.2.2.2 i hi
    show fX9_brokenVows_B4 (nI (fb_sm (brW W) i)) (nI i) σ = _
    unfold fX9_brokenVows_B4 fX9_brokenVows_J31
    rw [gf_eq, h.1.2.2.2.1, if_neg (by rw [nI_leI (by omega) (by omega)]; omega), gd_t (bst9 (by omega)), cw_vw h hi h9]
    rw [nI_1, fb_sm_succ]
    unfold brW
    by_cases c : W (18 + 7 * i) = 2
    · rw [if_pos (show nI (W (18 + 7 * i)) = (2 : Int32) by rw [c]; rfl), if_pos c, nI_1]
    · rw [if_neg (q2 c), if_neg c, show (0 : Int32) = nI 0 from rfl, nI_add, nI_1]
  · show fX9_brokenVows_B4 (nI (fb_sm (brW W) (W 3))) (nI (W 3)) σ = _
    unfold fX9_brokenVows_B4
    rw [gf_eq, h.1.2.2.2.1, if_pos (by rw [nI_leI (by omega) (by omega)]; omega)]
  · rfl
theorem mcount_spec {k : Nat} {W : Nat → Nat} {σ : Sg} (hB : WBd k W) (h : MW W σ) (f : Nat → Nat) (a : Int32) (ha : (a = 3 ∧ f = ldW W) ∨ (a = 5 ∧ f = brW W)) : fX11_count_J99 a 0 σ = some (nI (fb_sm f (W 3)), σ) := by
  have h9 := hB.2.2.2.1
  unfold fX11_count_J99
  rw [lp_to (o := nI (fb_sm f (W 3))) (fun i => (nI (fb_sm f i), nI i)) (W 3) (by omega)]
  · rfl
  · intro i hi
    have hb := hB.2.2.2.2.2 i hi
    show fX11_count_B101 a (nI (fb_sm f i)) (nI i) σ = _
    unfold fX11_count_B101 fX11_count_J149
    rw [gd_t i77_3, mk3 h, if_neg (by rw [nI_leI (by omega) (by omega)]; omega), of_3 h hi h9, of_4 h hi h9]
    simp only [Option.bind_some]
    rw [nI_1, fb_sm_succ]
    rcases ha with ⟨rfl, rfl⟩ | ⟨rfl, rfl⟩
    · rw [if_pos rfl]
      unfold ldW
      by_cases c : W (17 + 7 * i) = 0
      · rw [if_pos ((st_neg (by omega)).mpr c), if_pos c, show (0 : Int32) = nI 0 from rfl, nI_add]
      · rw [if_neg (fun z => c ((st_neg (by omega)).mp z)), if_neg c, nI_1]
    · rw [if_neg (by decide)]
      unfold brW
      by_cases c : W (18 + 7 * i) = 2
      · rw [if_pos (show nI (W (18 + 7 * i)) = (2 : Int32) by rw [c]; rfl), if_pos c, nI_1]
      · rw [if_neg (q2 c), if_neg c, show (0 : Int32) = nI 0 from rfl, nI_add]
  · show fX11_count_B101 a (nI (fb_sm f (W 3))) (nI (W 3)) σ = _
    unfold fX11_count_B101
    rw [gd_t i77_3, mk3 h, if_pos (by rw [nI_leI (by omega) (by omega)]; omega)]
  · rfl
theorem mrows_spec {σ : Sg} (h : RRel σ) : lpO (fun w : Int32 × Int32 => fX11_count_B54 w.1 w.2 σ) FUEL (0, 0) = some (nI (fb_sm (thr8 σ) 8)) := by
  refine lp_to (fun i => (nI (fb_sm (thr8 σ) i), nI i)) 8 (by omega) ?_ ?_ rfl
  · intro i hi
    show fX11_count_B54 (nI (fb_sm (thr8 σ) i)) (nI i) σ = _
    unfold fX11_count_B54 fX11_count_J75
    rw [if_neg (by rw [show (8 : Int32) = nI 8 from rfl, nI_leI (by omega) (by omega)]; omega), gd_t (b8 hi), ga_nI _ _ _ (by omega), nI_1, fb_sm_succ]
    unfold thr8
    rcases h i hi with ⟨m1, m2⟩ | ⟨n, ln, b1, b2, b3, b4, b5, b6, b7⟩
    · rw [m2, if_pos (by decide), if_pos m1, show (0 : Int32) = nI 0 from rfl, nI_add]
    · rw [b6, b3, if_neg (nI_pos (by omega)), if_neg (nI_m1 (by omega)), nI_1]
  · show fX11_count_B54 (nI (fb_sm (thr8 σ) 8)) (nI 8) σ = _
    unfold fX11_count_B54
    rw [if_pos (by decide)]
theorem ok_count : OK_count Inv := by
  intro k b σ a1 hk hI
  obtain ⟨⟨t, W, ⟨t1, wt, wm, w0, hB, hT, hS, hM⟩, n, s, V, hA⟩, _⟩ := hI.2.2.2.2
  have hC : CW W σ := ⟨hT, hS⟩
  have hM' : MW W (sup σ 38 0 0) := hM
  unfold fX10_count fX11_count
  rw [gd_t i77_2, gd_t i77_3, mk2 hM', mk3 hM']
  by_cases c0 : a1 = 0
  · subst c0
    rw [if_pos rfl, if_pos rfl, howMany_spec, mrows_spec (hI.thr 0).1]
    exact ⟨_, _, rfl, rfl, rfl, hI.up.thr 0⟩
  by_cases c1 : a1 = 1
  · subst c1
    refine ⟨_, _, rfl, rfl, hT.2.2.1, hI.up.thr 0⟩
  by_cases c2 : a1 = 2
  · subst c2
    refine ⟨_, _, rfl, rfl, hT.2.2.2.1, hI.up.thr 0⟩
  by_cases c3 : a1 = 3
  · subst c3
    simp (decide := true) only [if_true, if_false]
    rw [laid_spec hB hC, mcount_spec hB hM' (ldW W) 3 (Or.inl ⟨rfl, rfl⟩)]
    exact ⟨_, _, rfl, rfl, rfl, hI.up.thr 0⟩
  by_cases c4 : a1 = 4
  · subst c4
    refine ⟨_, _, rfl, rfl, hA.2.2.1.trans hA.2.2.2.2.1.symm, hI.up.thr 0⟩
  by_cases c5 : a1 = 5
  · subst c5
    simp (decide := true) only [if_true, if_false]
    rw [broken_spec hB hC, mcount_spec hB hM' (brW W) 5 (Or.inr ⟨rfl, rfl⟩)]
    exact ⟨_, _, rfl, rfl, rfl, hI.up.thr 0⟩
  by_cases c6 : a1 = 6
  · subst c6
    obtain ⟨n, _, h1, h2, _⟩ := hI.2.1
    refine ⟨_, _, rfl, rfl, h1.trans h2.symm, hI.up.thr 0⟩
  simp only [c0, c1, c2, c3, c4, c5, c6, if_false]
  exact ⟨_, _, rfl, rfl, rfl, hI.up.thr 0⟩
