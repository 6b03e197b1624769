/-! the walk as both sides read it -/
def CW (W : Nat → Nat) (σ : Sg) : Prop := TRep σ 8 W ∧ SRep (σ.1 14) 0 W
def MW (W : Nat → Nat) (σ : Sg) : Prop := MRep (σ.1 42) W
theorem b9 {y : Nat} (h : y < 9) : inb (nI y) 9 = true := by rw [inb_nI _ _ (by omega)]; exact decide_eq_true h
theorem b36 {y : Nat} (h : y < 36) : inb (nI y) 36 = true := by rw [inb_nI _ _ (by omega)]; exact decide_eq_true h
theorem b5 {y : Nat} (h : y < 5) : inb (nI y) 5 = true := by rw [inb_nI _ _ (by omega)]; exact decide_eq_true h
theorem b77 {y : Nat} (h : y < 77) : inb (nI y) 77 = true := by rw [inb_nI _ _ (by omega)]; exact decide_eq_true h
theorem b3 {y : Nat} (h : y < 3) : inb (nI y) 3 = true := by rw [inb_nI _ _ (by omega)]; exact decide_eq_true h
theorem b16 {y : Nat} (h : y < 16) : inb (nI y) 16 = true := by rw [inb_nI _ _ (by omega)]; exact decide_eq_true h
theorem b400 {y : Nat} (h : y < 400) : inb (nI y) 400 = true := by rw [inb_nI _ _ (by omega)]; exact decide_eq_true h
/-- a yarn's number, or none -/
theorem yarn_split (a : Int32) (n : Nat) (hn : n ≤ 9) : (∃ y, y < n ∧ a = nI y) ∨ (a < 0 ∨ nI n ≤ a) := by
  rcases i32_split a n (by omega) with h | ⟨y, h, rfl⟩ | ⟨y, h, h2, rfl⟩
  · exact Or.inr (Or.inl h)
  · exact Or.inl ⟨y, h, rfl⟩
  · exact Or.inr (Or.inr ((nI_leI (by omega) h2).mpr h))
theorem hasYarn_yes {W : Nat → Nat} {σ : Sg} (h : σ.1 8 4 = nI (W 3)) (hn : W 3 ≤ 9) {y : Nat} (hy : y < W 3) : fX9_hasYarn (nI y) σ = some 1 := by
  unfold fX9_hasYarn
  rw [if_neg (nI_pos (by omega)), gf_eq, h, if_neg (by rw [nI_leI (by omega) (by omega)]; omega)]
theorem hasYarn_no {W : Nat → Nat} {σ : Sg} (h : σ.1 8 4 = nI (W 3)) {a : Int32} (ha : a < 0 ∨ nI (W 3) ≤ a) : fX9_hasYarn a σ = some 0 := by
  unfold fX9_hasYarn fX9_hasYarn_J16
  by_cases h1 : a < 0
  · rw [if_pos h1]
  · rw [if_neg h1, gf_eq, h, if_pos (ha.resolve_left h1)]
theorem upto_iff (a : Int32) (n : Nat) (hn : n < 1000) : ((0 : Int64) ≤ a.toInt64 ∧ a.toInt64 ≤ (nI n - 1).toInt64) ↔ ¬ (a < 0 ∨ nI n ≤ a) := by
  have z0 : (0 : Int32).toInt = 0 := rfl
  rw [show (0 : Int64) = (0 : Int32).toInt64 from rfl, wide_in, fa_le, fa_le, fa_lt, fa_le, show (1 : Int32) = nI 1 from rfl, pk_sub_toInt (by omega) (by omega), nI_toInt (by omega)]
  omega
theorem isYarn_yes {W : Nat → Nat} {σ : Sg} (h : σ.1 42 3 = nI (W 3)) (hn : W 3 ≤ 9) {y : Nat} (hy : y < W 3) : fX11_isYarn (nI y) σ = some 1 := by
  unfold fX11_isYarn
  rw [show (3 : Int32) = nI 3 from rfl, gd_t (b77 (by omega)), ga_nI _ _ _ (by omega), h, in_spec, if_pos]
  · rfl
  · rw [upto_iff _ _ (by omega), nI_leI (by omega) (by omega)]
    have := nI_pos (n := y) (by omega)
    rintro (h | h)
    · exact this h
    · omega
theorem isYarn_no {W : Nat → Nat} {σ : Sg} (h : σ.1 42 3 = nI (W 3)) (hn : W 3 ≤ 9) {a : Int32} (ha : a < 0 ∨ nI (W 3) ≤ a) : fX11_isYarn a σ = some 0 := by
  unfold fX11_isYarn
  rw [show (3 : Int32) = nI 3 from rfl, gd_t (b77 (by omega)), ga_nI _ _ _ (by omega), h, in_spec, if_neg]
  · rfl
  · rw [upto_iff _ _ (by omega)]
    exact fun z => z ha
/-- what the reference holds of a yarn -/
theorem of_at {y j : Nat} (hy : y < 9) (hj : j < 7) (σ : Sg) : fX11_of (nI y) (nI j) σ = some (σ.1 42 (14 + 7 * y + j)) := by
  unfold fX11_of
  rw [show (14 : Int32) = nI 14 from rfl, show (7 : Int32) = nI 7 from rfl, pk_mul, nI_add, nI_add, gd_t (b77 (by omega)), ga_nI _ _ _ (by omega)]
theorem becomes_at {y j : Nat} (hy : y < 9) (hj : j < 7) (v : Int32) (σ : Sg) : fX11_becomes (nI y) (nI j) v σ = some (sup σ 42 (14 + 7 * y + j) v) := by
  unfold fX11_becomes
  rw [show (14 : Int32) = nI 14 from rfl, show (7 : Int32) = nI 7 from rfl, pk_mul, nI_add, nI_add, gd_t (b77 (by omega)), sa_nI _ _ _ _ (by omega)]
section OFS
variable {W : Nat → Nat} {σ : Sg} {y : Nat}
theorem of_0 (h : MW W σ) (hy : y < W 3) (h9 : W 3 ≤ 9) : fX11_of (nI y) 0 σ = some (nI (W (14 + 7 * y))) := (of_at (j := 0) (by omega) (by omega) σ).trans (congrArg some (h.2.2.2.2.2 y hy).1)
theorem of_1 (h : MW W σ) (hy : y < W 3) (h9 : W 3 ≤ 9) : fX11_of (nI y) 1 σ = some (nI (W (15 + 7 * y))) := by
  rw [show (1 : Int32) = nI 1 from rfl, of_at (by omega) (by omega), show 14 + 7 * y + 1 = 15 + 7 * y by omega, (h.2.2.2.2.2 y hy).2.1]
theorem of_2 (h : MW W σ) (hy : y < W 3) (h9 : W 3 ≤ 9) : fX11_of (nI y) 2 σ = some (nI (W (16 + 7 * y))) := by
  rw [show (2 : Int32) = nI 2 from rfl, of_at (by omega) (by omega), show 14 + 7 * y + 2 = 16 + 7 * y by omega, (h.2.2.2.2.2 y hy).2.2.1]
theorem of_3 (h : MW W σ) (hy : y < W 3) (h9 : W 3 ≤ 9) : fX11_of (nI y) 3 σ = some (nI (W (17 + 7 * y)) - 1) := by
  rw [show (3 : Int32) = nI 3 from rfl, of_at (by omega) (by omega), show 14 + 7 * y + 3 = 17 + 7 * y by omega, (h.2.2.2.2.2 y hy).2.2.2.1]
theorem of_4 (h : MW W σ) (hy : y < W 3) (h9 : W 3 ≤ 9) : fX11_of (nI y) 4 σ = some (nI (W (18 + 7 * y))) := by
  rw [show (4 : Int32) = nI 4 from rfl, of_at (by omega) (by omega), show 14 + 7 * y + 4 = 18 + 7 * y by omega, (h.2.2.2.2.2 y hy).2.2.2.2.1]
theorem of_5 (h : MW W σ) (hy : y < W 3) (h9 : W 3 ≤ 9) : fX11_of (nI y) 5 σ = some (nI (W (19 + 7 * y))) := by
  rw [show (5 : Int32) = nI 5 from rfl, of_at (by omega) (by omega), show 14 + 7 * y + 5 = 19 + 7 * y by omega, (h.2.2.2.2.2 y hy).2.2.2.2.2.1]
theorem of_6 (h : MW W σ) (hy : y < W 3) (h9 : W 3 ≤ 9) : fX11_of (nI y) 6 σ = some (nI (W (20 + 7 * y))) := by
  rw [show (6 : Int32) = nI 6 from rfl, of_at (by omega) (by omega), show 14 + 7 * y + 6 = 20 + 7 * y by omega, (h.2.2.2.2.2 y hy).2.2.2.2.2.2]
theorem cw_11 (h : CW W σ) (hy : y < W 3) (h9 : W 3 ≤ 9) : ga σ 11 (nI y) = nI (W (14 + 7 * y)) := by rw [ga_nI _ _ _ (by omega)]; exact (h.1.2.2.2.2.2 y hy).1
theorem cw_12 (h : CW W σ) (hy : y < W 3) (h9 : W 3 ≤ 9) : ga σ 12 (nI y) = nI (W (15 + 7 * y)) := by rw [ga_nI _ _ _ (by omega)]; exact (h.1.2.2.2.2.2 y hy).2.1
theorem cw_13 (h : CW W σ) (hy : y < W 3) (h9 : W 3 ≤ 9) : ga σ 13 (nI y) = nI (W (16 + 7 * y)) := by rw [ga_nI _ _ _ (by omega)]; exact (h.1.2.2.2.2.2 y hy).2.2
theorem cw_st (h : CW W σ) (hy : y < W 3) (h9 : W 3 ≤ 9) : ga σ 14 (0 + nI y) = nI (W (17 + 7 * y)) - 1 := by
  rw [show (0 : Int32) = nI 0 from rfl, nI_add, ga_nI _ _ _ (by omega)]; exact (h.2 y hy).1
theorem cw_vw (h : CW W σ) (hy : y < W 3) (h9 : W 3 ≤ 9) : ga σ 14 (9 + nI y) = nI (W (18 + 7 * y)) := by
  rw [show (9 : Int32) = nI 9 from rfl, nI_add, ga_nI _ _ _ (by omega)]; have := (h.2 y hy).2.1; rw [show 0 + 9 + y = 9 + y by omega] at this; exact this
theorem cw_wn (h : CW W σ) (hy : y < W 3) (h9 : W 3 ≤ 9) : ga σ 14 (18 + nI y) = nI (W (19 + 7 * y)) := by
  rw [show (18 : Int32) = nI 18 from rfl, nI_add, ga_nI _ _ _ (by omega)]; have := (h.2 y hy).2.2.1; rw [show 0 + 18 + y = 18 + y by omega] at this; exact this
theorem cw_pt (h : CW W σ) (hy : y < W 3) (h9 : W 3 ≤ 9) : ga σ 14 (27 + nI y) = nI (W (20 + 7 * y)) := by
  rw [show (27 : Int32) = nI 27 from rfl, nI_add, ga_nI _ _ _ (by omega)]; have := (h.2 y hy).2.2.2; rw [show 0 + 27 + y = 27 + y by omega] at this; exact this
end OFS
theorem bst {y : Nat} (c : Nat) (hc : c ≤ 27) (h : y < 9) : inb (nI c + nI y) 36 = true := by rw [nI_add]; exact b36 (by omega)
theorem q0 {a : Nat} (h : ¬ a = 0) (ha : a < 2 ^ 31 := by omega) : ¬ nI a = (0 : Int32) := fun z => h ((nI_eq (b := 0) ha (by decide)).mp z)
theorem q1 {a : Nat} (h : ¬ a = 1) (ha : a < 2 ^ 31 := by omega) : ¬ nI a = (1 : Int32) := fun z => h ((nI_eq (b := 1) ha (by decide)).mp z)
theorem q2 {a : Nat} (h : ¬ a = 2) (ha : a < 2 ^ 31 := by omega) : ¬ nI a = (2 : Int32) := fun z => h ((nI_eq (b := 2) ha (by decide)).mp z)
theorem q3 {a : Nat} (h : ¬ a = 3) (ha : a < 2 ^ 31 := by omega) : ¬ nI a = (3 : Int32) := fun z => h ((nI_eq (b := 3) ha (by decide)).mp z)
theorem q4 {a : Nat} (h : ¬ a = 4) (ha : a < 2 ^ 31 := by omega) : ¬ nI a = (4 : Int32) := fun z => h ((nI_eq (b := 4) ha (by decide)).mp z)
theorem q5 {a : Nat} (h : ¬ a = 5) (ha : a < 2 ^ 31 := by omega) : ¬ nI a = (5 : Int32) := fun z => h ((nI_eq (b := 5) ha (by decide)).mp z)
theorem q6 {a : Nat} (h : ¬ a = 6) (ha : a < 2 ^ 31 := by omega) : ¬ nI a = (6 : Int32) := fun z => h ((nI_eq (b := 6) ha (by decide)).mp z)
theorem q9 {a : Nat} (h : ¬ a = 9) (ha : a < 2 ^ 31 := by omega) : ¬ nI a = (9 : Int32) := fun z => h ((nI_eq (b := 9) ha (by decide)).mp z)
theorem q10 {a : Nat} (h : ¬ a = 10) (ha : a < 2 ^ 31 := by omega) : ¬ nI a = (10 : Int32) := fun z => h ((nI_eq (b := 10) ha (by decide)).mp z)
theorem bst0 {y : Nat} (h : y < 9) : inb ((0 : Int32) + nI y) 36 = true := bst 0 (by decide) h
theorem bst9 {y : Nat} (h : y < 9) : inb ((9 : Int32) + nI y) 36 = true := bst 9 (by decide) h
theorem bst18 {y : Nat} (h : y < 9) : inb ((18 : Int32) + nI y) 36 = true := bst 18 (by decide) h
theorem bst27 {y : Nat} (h : y < 9) : inb ((27 : Int32) + nI y) 36 = true := bst 27 (by decide) h
/-- strength in Nats -/
def st0 (W : Nat → Nat) (y : Nat) : Nat := W 0 * W (16 + 7 * y)
def st1 (W : Nat → Nat) (y : Nat) : Nat := if W (14 + 7 * y) = 2 ∨ W (14 + 7 * y) = 3 then st0 W y + st0 W y / 2 else if W (14 + 7 * y) = 1 then st0 W y else st0 W y / 2
def st2 (W : Nat → Nat) (y : Nat) : Nat := st1 W y + (if W (14 + 7 * y) = 3 then W (5 + 2 * W (15 + 7 * y)) else 0)
def st3 (W : Nat → Nat) (y : Nat) : Nat := st2 W y + (if W (20 + 7 * y) = 1 then W 1 else 0)
def stH (W : Nat → Nat) (y how : Nat) : Nat := if how = 2 then 0 else (if how = 1 then st3 W y + st3 W y / 2 else st3 W y) - W (19 + 7 * y)
def stW (W : Nat → Nat) (y : Nat) : Nat := stH W y (W (18 + 7 * y))
theorem st0_le {k : Nat} {W : Nat → Nat} (h : WBd k W) {y : Nat} (hy : y < W 3) : st0 W y ≤ 450 := by
  have h1 := h.1
  have h2 := (h.2.2.2.2.2 y hy).2.2.1.2
  unfold st0
  calc W 0 * W (16 + 7 * y) ≤ 50 * 9 := Nat.mul_le_mul h1 h2
    _ = 450 := rfl
theorem st1_le {k : Nat} {W : Nat → Nat} (h : WBd k W) {y : Nat} (hy : y < W 3) : st1 W y ≤ 675 := by
  have := st0_le h hy
  unfold st1
  split
  · omega
  · split <;> omega
theorem st2_le {k : Nat} {W : Nat → Nat} (h : WBd k W) {y : Nat} (hy : y < W 3) : st2 W y ≤ 774 := by
  have := st1_le h hy
  have h2 := (h.2.2.2.2.1 _ (h.2.2.2.2.2 y hy).2.1).2
  unfold st2
  split <;> omega
theorem st3_le {k : Nat} {W : Nat → Nat} (h : WBd k W) {y : Nat} (hy : y < W 3) : st3 W y ≤ 794 := by
  have := st2_le h hy
  have h2 := h.2.1
  unfold st3
  split <;> omega
theorem stH_le {k : Nat} {W : Nat → Nat} (h : WBd k W) {y : Nat} (hy : y < W 3) (how : Nat) : stH W y how ≤ 1191 := by
  have := st3_le h hy
  unfold stH
  split
  · omega
  · split <;> omega
theorem stW_le {k : Nat} {W : Nat → Nat} (h : WBd k W) {y : Nat} (hy : y < W 3) : stW W y ≤ 1191 := stH_le h hy _
theorem half (n : Nat) (h : n < 2 ^ 31) : nI n / 2 = nI (n / 2) := pk_div h (by decide) (by decide)
theorem jmax_sub {s w : Nat} (hs : s < 2 ^ 30) (hw : w < 2 ^ 30) : jmax 0 (nI s - nI w) = nI (s - w) := by
  unfold jmax
  have z0 : (0 : Int32).toInt = 0 := rfl
  by_cases h : w < s
  · rw [if_pos (by rw [fa_lt, pk_sub_toInt hs hw]; omega), pk_sub (by omega)]
  · rw [if_neg (by rw [fa_lt, pk_sub_toInt hs hw]; omega), show s - w = 0 by omega]
    rfl
/-- the class's strength -/
theorem strengthIf_spec {k : Nat} {W : Nat → Nat} {σ : Sg} (hB : WBd k W) (hk : k ≤ 512) (h : CW W σ) {y : Nat} (hy : y < W 3) {how : Nat} (hh : how ≤ 2) : fX9_strengthIf (nI y) (nI how) σ = some (nI (stH W y how)) := by
  have h9 := hB.2.2.2.1
  have hb := hB.2.2.2.2.2 y hy
  have l0 := st0_le hB hy
  have l1 := st1_le hB hy
  have l2 := st2_le hB hy
  have l3 := st3_le hB hy
  have e0 : gf σ 8 1 * ga σ 13 (nI y) = nI (st0 W y) := by rw [gf_eq, h.1.1, cw_13 h hy h9, pk_mul]; rfl
  unfold fX9_strengthIf
  by_cases c2 : how = 2
  · subst c2
    rw [if_pos (show nI 2 = (2 : Int32) from rfl)]
    unfold stH
    rw [if_pos rfl]
    rfl
  rw [if_neg (q2 c2), gd_t (b9 (by omega)), gd_t (b9 (by omega)), gd_t (b9 (by omega)), cw_11 h hy h9, e0]
  -- the end, from the last number on
  have j123 : ∀ n : Nat, n < 2 ^ 30 → fX9_strengthIf_J123 (nI y) (nI n) σ = some (nI (n - W (19 + 7 * y))) := by
    intro n hn
    unfold fX9_strengthIf_J123
    rw [gd_t (bst18 (by omega)), cw_wn h hy h9, jmax_sub hn (by omega)]
  have j112 : fX9_strengthIf_J112 (nI y) (nI how) (nI (st3 W y)) σ = some (nI (stH W y how)) := by
    unfold fX9_strengthIf_J112 stH
    rw [if_neg c2]
    by_cases c1 : how = 1
    · subst c1
      rw [if_pos (show nI 1 = (1 : Int32) from rfl), if_pos rfl, half _ (by omega), nI_add, j123 _ (by omega)]
    · rw [if_neg (q1 c1), if_neg c1, j123 _ (by omega)]
  have j93 : fX9_strengthIf_J93 (nI y) (nI how) (nI (st2 W y)) σ = some (nI (stH W y how)) := by
    unfold fX9_strengthIf_J93
    rw [gd_t (bst27 (by omega)), cw_pt h hy h9, gf_eq, h.1.2.1, nI_add]
    by_cases cp : W (20 + 7 * y) = 1
    · rw [if_neg (fun z => by rw [cp] at z; exact absurd z (by decide))]
      have : st2 W y + W 1 = st3 W y := by unfold st3; rw [if_pos cp]
      rw [this]; exact j112
    · have c0 : W (20 + 7 * y) = 0 := by omega
      rw [c0, if_pos (show nI 0 = (0 : Int32) from rfl)]
      have : st2 W y = st3 W y := by unfold st3; rw [if_neg cp]; rfl
      rw [this]; exact j112
  have j69 : fX9_strengthIf_J69 (nI y) (nI how) (nI (st1 W y)) σ = some (nI (stH W y how)) := by
    unfold fX9_strengthIf_J69
    have h5 := hB.2.2.1
    rw [gd_t (b9 (by omega)), gd_t (b9 (by omega)), cw_11 h hy h9, cw_12 h hy h9, gd_t (b5 (by omega)), ga_nI _ _ _ (by omega)]
    by_cases c3 : W (14 + 7 * y) = 3
    · rw [c3, if_pos (show nI 3 = (3 : Int32) from rfl), (h.1.2.2.2.2.1 _ hb.2.1).2, nI_add]
      have : st1 W y + W (5 + 2 * W (15 + 7 * y)) = st2 W y := by unfold st2; rw [if_pos c3]
      rw [this]; exact j93
    · rw [if_neg (q3 c3)]
      have : st1 W y = st2 W y := by unfold st2; rw [if_neg c3]; rfl
      rw [this]; exact j93
  have j45 : ∀ n, (if W (14 + 7 * y) = 4 ∨ W (14 + 7 * y) = 5 then n / 2 else n) = st1 W y → n ≤ 1000 → fX9_strengthIf_J45 (nI y) (nI how) (nI n) σ = some (nI (stH W y how)) := by
    intro n hn hle
    unfold fX9_strengthIf_J45 fX9_strengthIf_J65
    rw [gd_t (b9 (by omega)), gd_t (b9 (by omega)), cw_11 h hy h9, half _ (by omega)]
    by_cases c4 : W (14 + 7 * y) = 4
    · rw [if_pos (Or.inl c4)] at hn
      rw [c4, if_pos (show nI 4 = (4 : Int32) from rfl), hn]; exact j69
    · rw [if_neg (q4 c4)]
      by_cases c5 : W (14 + 7 * y) = 5
      · rw [if_pos (Or.inr c5)] at hn
        rw [c5, if_pos (show nI 5 = (5 : Int32) from rfl), hn]; exact j69
      · rw [if_neg (fun z => z.elim c4 c5)] at hn
        rw [if_neg (q5 c5), hn]; exact j69
  unfold fX9_strengthIf_J39
  rw [half _ (by omega), nI_add]
  by_cases d2 : W (14 + 7 * y) = 2
  · rw [d2, if_pos (show nI 2 = (2 : Int32) from rfl)]
    exact j45 _ (by rw [if_neg (by omega)]; unfold st1; rw [if_pos (Or.inl d2)]) (by omega)
  · rw [if_neg (q2 d2)]
    by_cases d3 : W (14 + 7 * y) = 3
    · rw [d3, if_pos (show nI 3 = (3 : Int32) from rfl)]
      exact j45 _ (by rw [if_neg (by omega)]; unfold st1; rw [if_pos (Or.inr d3)]) (by omega)
    · rw [if_neg (q3 d3)]
      refine j45 _ ?_ (by omega)
      by_cases d1 : W (14 + 7 * y) = 1
      · have e : st1 W y = st0 W y := by unfold st1; rw [if_neg (fun z => z.elim d2 d3), if_pos d1]
        rw [if_neg (by omega), e]
      · have e : st1 W y = st0 W y / 2 := by unfold st1; rw [if_neg (fun z => z.elim d2 d3), if_neg d1]
        rw [if_pos (by omega), e]
theorem strength_spec {k : Nat} {W : Nat → Nat} {σ : Sg} (hB : WBd k W) (hk : k ≤ 512) (h : CW W σ) {y : Nat} (hy : y < W 3) : fX9_strength (nI y) σ = some (nI (stW W y)) := by
  have h9 := hB.2.2.2.1
  unfold fX9_strength
  rw [gd_t (bst9 (by omega)), cw_vw h hy h9, strengthIf_spec hB hk h hy (hB.2.2.2.2.2 y hy).2.2.2.2.1]
  rfl
/-- the reference's -/
theorem priceOf_spec {k : Nat} {W : Nat → Nat} {σ : Sg} (hB : WBd k W) (h : MW W σ) {y : Nat} (hy : y < W 3) : fX11_priceOf (nI y) σ = some (nI (W (5 + 2 * W (15 + 7 * y)))) := by
  have h9 := hB.2.2.2.1
  have hb := hB.2.2.2.2.2 y hy
  have h5 := hB.2.2.1
  unfold fX11_priceOf
  rw [of_1 h hy h9]
  simp only [Option.bind_some]
  rw [show (4 : Int32) = nI 4 from rfl, show (2 : Int32) = nI 2 from rfl, show (1 : Int32) = nI 1 from rfl, pk_mul, nI_add, nI_add, gd_t (b77 (by omega)), ga_nI _ _ _ (by omega), show 4 + 2 * W (15 + 7 * y) + 1 = 5 + 2 * W (15 + 7 * y) by omega]
  exact congrArg some (h.2.2.2.2.1 _ hb.2.1).2
theorem truthOf_spec {k : Nat} {W : Nat → Nat} {σ : Sg} (hB : WBd k W) (h : MW W σ) {y : Nat} (hy : y < W 3) : fX11_truthOf (nI y) σ = some (nI (W (4 + 2 * W (15 + 7 * y)))) := by
  have h9 := hB.2.2.2.1
  have hb := hB.2.2.2.2.2 y hy
  have h5 := hB.2.2.1
  unfold fX11_truthOf
  rw [of_1 h hy h9]
  simp only [Option.bind_some]
  rw [show (4 : Int32) = nI 4 from rfl, show (2 : Int32) = nI 2 from rfl, pk_mul, nI_add, gd_t (b77 (by omega)), ga_nI _ _ _ (by omega)]
  exact congrArg some (h.2.2.2.2.1 _ hb.2.1).1
theorem strengthBy_spec {k : Nat} {W : Nat → Nat} {σ : Sg} (hB : WBd k W) (hk : k ≤ 512) (h : MW W σ) {y : Nat} (hy : y < W 3) {how : Nat} (hh : how ≤ 2) : fX11_strengthBy (nI y) (nI how) σ = some (nI (stH W y how)) := by
  have h9 := hB.2.2.2.1
  have hb := hB.2.2.2.2.2 y hy
  have l0 := st0_le hB hy
  have l1 := st1_le hB hy
  have l2 := st2_le hB hy
  have l3 := st3_le hB hy
  have e0 : ga σ 42 0 * nI (W (16 + 7 * y)) = nI (st0 W y) := by rw [show (0 : Int32) = nI 0 from rfl, ga_nI _ _ _ (by omega), h.1, pk_mul]; rfl
  have j146 : ∀ n, n = (if how = 1 then st3 W y + st3 W y / 2 else st3 W y) - W (19 + 7 * y) → fX11_strengthBy_J146 (nI how) (nI n) σ = some (nI (stH W y how)) := by
    intro n hn
    unfold fX11_strengthBy_J146 stH
    by_cases c2 : how = 2
    · subst c2; rw [if_pos (show nI 2 = (2 : Int32) from rfl), if_pos rfl]; rfl
    · rw [if_neg (q2 c2), if_neg c2, hn]
  have j120 : ∀ n, n = (if how = 1 then st3 W y + st3 W y / 2 else st3 W y) → n < 2 ^ 30 → fX11_strengthBy_J120 (nI y) (nI how) (nI n) σ = some (nI (stH W y how)) := by
    intro n hn hlt
    unfold fX11_strengthBy_J120
    rw [of_5 h hy h9]
    simp only [Option.bind_some]
    by_cases c : W (19 + 7 * y) ≤ n
    · rw [if_pos ((nI_leI (by omega) (by omega)).mpr c), pk_sub c]
      exact j146 _ (by rw [← hn])
    · rw [if_neg (fun z => c ((nI_leI (by omega) (by omega)).mp z)), show (0 : Int32) = nI 0 from rfl]
      exact j146 _ (by rw [← hn]; omega)
  have j100 : ∀ a b, b + a = st3 W y → fX11_strengthBy_J100 (nI y) (nI how) (nI a) (nI b) σ = some (nI (stH W y how)) := by
    intro a b hab
    unfold fX11_strengthBy_J100
    rw [nI_add, hab, half _ (by omega), nI_add]
    by_cases c1 : how = 1
    · subst c1; rw [if_pos (show nI 1 = (1 : Int32) from rfl)]; exact j120 _ (by rw [if_pos rfl]) (by omega)
    · rw [if_neg (q1 c1)]; exact j120 _ (by rw [if_neg c1]) (by omega)
  have j74 : ∀ a b, b + a = st2 W y → fX11_strengthBy_J74 (nI y) (nI how) (nI a) (nI b) σ = some (nI (stH W y how)) := by
    intro a b hab
    unfold fX11_strengthBy_J74
    rw [of_6 h hy h9]
    simp only [Option.bind_some]
    rw [nI_add, hab, show (1 : Int32) = nI 1 from rfl, gd_t (b77 (by omega)), ga_nI _ _ _ (by omega), h.2.1]
    by_cases c : W (20 + 7 * y) = 1
    · rw [if_pos (show nI (W (20 + 7 * y)) = nI 1 by rw [c])]; exact j100 _ _ (by unfold st3; rw [if_pos c])
    · rw [if_neg (show ¬ nI (W (20 + 7 * y)) = nI 1 from q1 c), show (0 : Int32) = nI 0 from rfl]; exact j100 _ _ (by unfold st3; rw [if_neg c])
  have j56 : fX11_strengthBy_J56 (nI y) (nI how) (nI (W (14 + 7 * y))) (nI (st1 W y)) σ = some (nI (stH W y how)) := by
    unfold fX11_strengthBy_J56
    rw [priceOf_spec hB h hy]
    simp only [Option.bind_some]
    by_cases c : W (14 + 7 * y) = 3
    · rw [if_pos (by rw [c]; rfl)]; exact j74 _ _ (by unfold st2; rw [if_pos c])
    · rw [if_neg (q3 c), show (0 : Int32) = nI 0 from rfl]; exact j74 _ _ (by unfold st2; rw [if_neg c])
  unfold fX11_strengthBy fX11_strengthBy_J32
  rw [of_0 h hy h9, of_2 h hy h9]
  simp only [Option.bind_some]
  rw [show inb 0 77 = true from by decide]
  rw [gd_t rfl, e0, half _ (by omega), nI_add]
  by_cases d2 : W (14 + 7 * y) = 2
  · rw [if_pos (by rw [d2]; rfl), show st0 W y + st0 W y / 2 = st1 W y by unfold st1; rw [if_pos (Or.inl d2)]]; exact j56
  · rw [if_neg (q2 d2)]
    by_cases d3 : W (14 + 7 * y) = 3
    · rw [if_pos (by rw [d3]; rfl), show st0 W y + st0 W y / 2 = st1 W y by unfold st1; rw [if_pos (Or.inr d3)]]; exact j56
    · rw [if_neg (q3 d3)]
      by_cases d1 : W (14 + 7 * y) = 1
      · rw [if_pos (by rw [d1]; rfl)]
        have : st0 W y = st1 W y := by unfold st1; rw [if_neg (fun z => z.elim d2 d3), if_pos d1]
        rw [this]; exact j56
      · rw [if_neg (q1 d1)]
        have : st0 W y / 2 = st1 W y := by unfold st1; rw [if_neg (fun z => z.elim d2 d3), if_neg d1]
        rw [this]; exact j56
theorem mstrength_spec {k : Nat} {W : Nat → Nat} {σ : Sg} (hB : WBd k W) (hk : k ≤ 512) (h : MW W σ) {y : Nat} (hy : y < W 3) : fX11_strength (nI y) σ = some (nI (stW W y)) := by
  have h9 := hB.2.2.2.1
  unfold fX11_strength
  rw [of_4 h hy h9]
  simp only [Option.bind_some]
  rw [strengthBy_spec hB hk h hy (hB.2.2.2.2.2 y hy).2.2.2.2.1]
  rfl
