/-! ask: what both sides leave as a trace -/
def TrC (L : List Nat) (σ τ : Sg) : Prop := τ.1 36 1 = nI L.length ∧ (∀ j, j < L.length → τ.1 37 j = nI (L.getD j 0)) ∧ FE [37] [(36, 1)] σ τ
def TrM (L : List Nat) (σ τ : Sg) : Prop := τ.1 38 28 = nI L.length ∧ (∀ j, j < L.length → τ.1 51 j = nI (L.getD j 0)) ∧ FE [51] [(38, 28)] σ τ
theorem getD_app {L : List Nat} {c j : Nat} (h : j < L.length) : (L ++ [c]).getD j 0 = L.getD j 0 := by
  rw [List.getD_eq_getElem?_getD, List.getD_eq_getElem?_getD, List.getElem?_append_left h]
theorem getD_end {L : List Nat} {c : Nat} : (L ++ [c]).getD L.length 0 = c := by
  rw [List.getD_eq_getElem?_getD, List.getElem?_append_right (Nat.le_refl _)]
  simp
theorem leave_spec {L : List Nat} {σ τ : Sg} (h : TrC L σ τ) (hl : L.length < 16) (c : Nat) : ∃ υ, fX1_leave (nI c) τ = some υ ∧ TrC (L ++ [c]) σ υ := by
  obtain ⟨h1, h2, h3⟩ := h
  unfold fX1_leave
  rw [gf_eq, h1, if_neg (by rw [show (16 : Int32) = nI 16 from rfl, nI_leI (by omega) (by omega)]; omega), gd_t (b16 hl), sa_nI _ _ _ _ (by omega)]
  have g : gf (sup τ 37 L.length (nI c)) 36 1 = nI L.length := h1
  rw [g, nI_1]
  refine ⟨_, rfl, ?_, fun j hj => ?_, fun d j hd he => ?_⟩
  · rw [sup_at, if_pos ⟨rfl, rfl⟩, List.length_append]; rfl
  · rw [sup_ne (by decide), sup_at]
    rw [List.length_append] at hj
    simp only [List.length_cons, List.length_nil] at hj
    by_cases e : j = L.length
    · rw [if_pos ⟨rfl, e⟩, e, getD_end]
    · rw [if_neg (fun z => e z.2), getD_app (by omega)]; exact h2 j (by omega)
  · rw [sup_at, if_neg (fun z => he (by rw [z.1, z.2]; simp)), sup_at, if_neg (fun z => hd (by rw [z.1]; simp))]
    exact h3 d j hd he
theorem began_spec {L : List Nat} {σ τ : Sg} (h : TrM L σ τ) (hl : L.length < 16) (c : Nat) : ∃ υ, fX11_began (nI c) τ = some υ ∧ TrM (L ++ [c]) σ υ := by
  obtain ⟨h1, h2, h3⟩ := h
  unfold fX11_began
  rw [gf_eq, h1, if_neg (by rw [show (16 : Int32) = nI 16 from rfl, nI_leI (by omega) (by omega)]; omega), gd_t (b16 hl), sa_nI _ _ _ _ (by omega)]
  have g : gf (sup τ 51 L.length (nI c)) 38 28 = nI L.length := h1
  rw [g, nI_1]
  refine ⟨_, rfl, ?_, fun j hj => ?_, fun d j hd he => ?_⟩
  · rw [sup_at, if_pos ⟨rfl, rfl⟩, List.length_append]; rfl
  · rw [sup_ne (by decide), sup_at]
    rw [List.length_append] at hj
    simp only [List.length_cons, List.length_nil] at hj
    by_cases e : j = L.length
    · rw [if_pos ⟨rfl, e⟩, e, getD_end]
    · rw [if_neg (fun z => e z.2), getD_app (by omega)]; exact h2 j (by omega)
  · rw [sup_at, if_neg (fun z => he (by rw [z.1, z.2]; simp)), sup_at, if_neg (fun z => hd (by rw [z.1]; simp))]
    exact h3 d j hd he
/-- code c at fuel n and depth d leaves X and answers v -/
def GV (W : Nat → Nat) (σ : Sg) (y c : Nat) (X : List Nat) (v : Int32) : Prop := ∀ (n d : Nat) (L : List Nat) (τ : Sg), TrC L σ τ → L.length + X.length ≤ 16 → X.length ≤ n → d + X.length ≤ 20 → ∃ υ, fX1_give n (nI y) (nI c) (nI d) τ = some (v, υ) ∧ TrC (L ++ X) σ υ
theorem cw_tr {k : Nat} {W : Nat → Nat} {σ : Sg} (hB : WBd k W) (hC : CW W σ) {y : Nat} (hy : y < W 3) {L : List Nat} {τ : Sg} (h : TrC L σ τ) : CW W τ := hC.fr h.2.2 (by decide)
theorem give_10 {k : Nat} {W : Nat → Nat} {σ : Sg} (hB : WBd k W) (hC : CW W σ) {y : Nat} (hy : y < W 3) : GV W σ y 10 [10] (nI (W (16 + 7 * y))) := by
  intro n d L τ h hl hn hd
  have h9 := hB.2.2.2.1
  simp only [List.length_cons, List.length_nil] at hl hn hd
  obtain ⟨m, rfl⟩ : ∃ m, n = m + 1 := ⟨n - 1, by omega⟩
  obtain ⟨υ, u1, u2⟩ := leave_spec h (by omega) 10
  refine ⟨υ, ?_, u2⟩
  show fX1_give_R (fX1_give m) (nI y) (nI 10) (nI d) τ = _
  unfold fX1_give_R
  rw [if_pos (show nI d ≤ (20 : Int32) from (nI_leI (b := 20) (by omega) (by omega)).mpr (by omega)), u1]
  simp only [Option.bind_some]
  rw [gd_t (b9 (by omega)), if_pos (show nI 10 = (10 : Int32) from rfl), gd_t (b9 (by omega)), cw_13 (cw_tr hB hC hy u2) hy h9]
theorem give_20 {k : Nat} {W : Nat → Nat} {σ : Sg} (hB : WBd k W) (hC : CW W σ) {y : Nat} (hy : y < W 3) : GV W σ y 20 [20] (nI y) := by
  intro n d L τ h hl hn hd
  have h9 := hB.2.2.2.1
  simp only [List.length_cons, List.length_nil] at hl hn hd
  obtain ⟨m, rfl⟩ : ∃ m, n = m + 1 := ⟨n - 1, by omega⟩
  obtain ⟨υ, u1, u2⟩ := leave_spec h (by omega) 20
  refine ⟨υ, ?_, u2⟩
  show fX1_give_R (fX1_give m) (nI y) (nI 20) (nI d) τ = _
  unfold fX1_give_R
  rw [if_pos (show nI d ≤ (20 : Int32) from (nI_leI (b := 20) (by omega) (by omega)).mpr (by omega)), u1]
  simp only [Option.bind_some]
  rw [gd_t (b9 (by omega))]
  simp (decide := true) only [if_true, if_false]
/-- a code that asks one other and then reckons -/
theorem give_13 {k : Nat} {W : Nat → Nat} {σ : Sg} (hB : WBd k W) (hC : CW W σ) {y : Nat} (hy : y < W 3) : GV W σ y 13 [13, 10] (nI (W (16 + 7 * y)) - 100) := by
  intro n d L τ h hl hn hd
  have h9 := hB.2.2.2.1
  simp only [List.length_cons, List.length_nil] at hl hn hd
  obtain ⟨m, rfl⟩ : ∃ m, n = m + 1 := ⟨n - 1, by omega⟩
  obtain ⟨υ, u1, u2⟩ := leave_spec h (by omega) 13
  obtain ⟨φ, f1, f2⟩ := give_10 hB hC hy m (d + 1) _ υ u2 (by simp; omega) (by simp; omega) (by simp; omega)
  rw [List.append_assoc] at f2
  refine ⟨φ, ?_, f2⟩
  show fX1_give_R (fX1_give m) (nI y) (nI 13) (nI d) τ = _
  unfold fX1_give_R
  rw [if_pos (show nI d ≤ (20 : Int32) from (nI_leI (b := 20) (by omega) (by omega)).mpr (by omega)), u1]
  simp only [Option.bind_some]
  rw [gd_t (b9 (by omega))]
  simp (decide := true) only [if_true, if_false]
  rw [nI_1, show (10 : Int32) = nI 10 from rfl, f1]
  rfl
theorem give_14 {k : Nat} {W : Nat → Nat} {σ : Sg} (hB : WBd k W) (hC : CW W σ) {y : Nat} (hy : y < W 3) : GV W σ y 14 [14, 13, 10] ((nI (W (16 + 7 * y)) - 100) * 2) := by
  intro n d L τ h hl hn hd
  have h9 := hB.2.2.2.1
  simp only [List.length_cons, List.length_nil] at hl hn hd
  obtain ⟨m, rfl⟩ : ∃ m, n = m + 1 := ⟨n - 1, by omega⟩
  obtain ⟨υ, u1, u2⟩ := leave_spec h (by omega) 14
  obtain ⟨φ, f1, f2⟩ := give_13 hB hC hy m (d + 1) _ υ u2 (by simp; omega) (by simp; omega) (by simp; omega)
  rw [List.append_assoc] at f2
  refine ⟨φ, ?_, f2⟩
  show fX1_give_R (fX1_give m) (nI y) (nI 14) (nI d) τ = _
  unfold fX1_give_R
  rw [if_pos (show nI d ≤ (20 : Int32) from (nI_leI (b := 20) (by omega) (by omega)).mpr (by omega)), u1]
  simp only [Option.bind_some]
  rw [gd_t (b9 (by omega))]
  simp (decide := true) only [if_true, if_false]
  rw [nI_1, show (13 : Int32) = nI 13 from rfl, f1]
  rfl
theorem give_21 {k : Nat} {W : Nat → Nat} {σ : Sg} (hB : WBd k W) (hC : CW W σ) {y : Nat} (hy : y < W 3) : GV W σ y 21 [21, 20] (nI y + nI (W (15 + 7 * y))) := by
  intro n d L τ h hl hn hd
  have h9 := hB.2.2.2.1
  simp only [List.length_cons, List.length_nil] at hl hn hd
  obtain ⟨m, rfl⟩ : ∃ m, n = m + 1 := ⟨n - 1, by omega⟩
  obtain ⟨υ, u1, u2⟩ := leave_spec h (by omega) 21
  obtain ⟨φ, f1, f2⟩ := give_20 hB hC hy m (d + 1) _ υ u2 (by simp; omega) (by simp; omega) (by simp; omega)
  rw [List.append_assoc] at f2
  refine ⟨φ, ?_, f2⟩
  show fX1_give_R (fX1_give m) (nI y) (nI 21) (nI d) τ = _
  unfold fX1_give_R
  rw [if_pos (show nI d ≤ (20 : Int32) from (nI_leI (b := 20) (by omega) (by omega)).mpr (by omega)), u1]
  simp only [Option.bind_some]
  rw [gd_t (b9 (by omega))]
  simp (decide := true) only [if_true, if_false]
  rw [nI_1, show (20 : Int32) = nI 20 from rfl, f1]
  simp only [Option.bind_some]
  rw [gd_t (b9 (by omega)), cw_12 (cw_tr hB hC hy f2) hy h9]
theorem give_22 {k : Nat} {W : Nat → Nat} {σ : Sg} (hB : WBd k W) (hC : CW W σ) {y : Nat} (hy : y < W 3) : GV W σ y 22 [22, 21, 20] (nI y + nI (W (15 + 7 * y)) - 1000) := by
  intro n d L τ h hl hn hd
  have h9 := hB.2.2.2.1
  simp only [List.length_cons, List.length_nil] at hl hn hd
  obtain ⟨m, rfl⟩ : ∃ m, n = m + 1 := ⟨n - 1, by omega⟩
  obtain ⟨υ, u1, u2⟩ := leave_spec h (by omega) 22
  obtain ⟨φ, f1, f2⟩ := give_21 hB hC hy m (d + 1) _ υ u2 (by simp; omega) (by simp; omega) (by simp; omega)
  rw [List.append_assoc] at f2
  refine ⟨φ, ?_, f2⟩
  show fX1_give_R (fX1_give m) (nI y) (nI 22) (nI d) τ = _
  unfold fX1_give_R
  rw [if_pos (show nI d ≤ (20 : Int32) from (nI_leI (b := 20) (by omega) (by omega)).mpr (by omega)), u1]
  simp only [Option.bind_some]
  rw [gd_t (b9 (by omega))]
  simp (decide := true) only [if_true, if_false]
  rw [nI_1, show (21 : Int32) = nI 21 from rfl, f1]
  rfl
theorem give_24 {k : Nat} {W : Nat → Nat} {σ : Sg} (hB : WBd k W) (hC : CW W σ) {y : Nat} (hy : y < W 3) : GV W σ y 24 [24, 22, 21, 20] ((nI y + nI (W (15 + 7 * y)) - 1000) * 2) := by
  intro n d L τ h hl hn hd
  have h9 := hB.2.2.2.1
  simp only [List.length_cons, List.length_nil] at hl hn hd
  obtain ⟨m, rfl⟩ : ∃ m, n = m + 1 := ⟨n - 1, by omega⟩
  obtain ⟨υ, u1, u2⟩ := leave_spec h (by omega) 24
  obtain ⟨φ, f1, f2⟩ := give_22 hB hC hy m (d + 1) _ υ u2 (by simp; omega) (by simp; omega) (by simp; omega)
  rw [List.append_assoc] at f2
  refine ⟨φ, ?_, f2⟩
  show fX1_give_R (fX1_give m) (nI y) (nI 24) (nI d) τ = _
  unfold fX1_give_R
  rw [if_pos (show nI d ≤ (20 : Int32) from (nI_leI (b := 20) (by omega) (by omega)).mpr (by omega)), u1]
  simp only [Option.bind_some]
  rw [gd_t (b9 (by omega))]
  simp (decide := true) only [if_true, if_false]
  rw [nI_1, show (22 : Int32) = nI 22 from rfl, f1]
  rfl
theorem mark_body (σ : Sg) : fX4_markBody (nI 1) σ = some (nI 21) ∧ fX4_markBody (nI 2) σ = some (nI 22) ∧ fX4_markBody (nI 3) σ = some (nI 24) ∧ fX4_markBody (nI 4) σ = some (nI 23) ∧ fX4_markBody (nI 5) σ = some (nI 23) := by
  have key : fX4_markBody (nI 1) sg0 = some (nI 21) ∧ fX4_markBody (nI 2) sg0 = some (nI 22) ∧ fX4_markBody (nI 3) sg0 = some (nI 24) ∧ fX4_markBody (nI 4) sg0 = some (nI 23) ∧ fX4_markBody (nI 5) sg0 = some (nI 23) := by decide +kernel
  exact key
theorem size_body (σ : Sg) : fX4_sizeBody (nI 1) σ = some (nI 11) ∧ fX4_sizeBody (nI 2) σ = some (nI 11) ∧ fX4_sizeBody (nI 3) σ = some (nI 12) ∧ fX4_sizeBody (nI 4) σ = some (nI 13) ∧ fX4_sizeBody (nI 5) σ = some (nI 14) := by
  have key : fX4_sizeBody (nI 1) sg0 = some (nI 11) ∧ fX4_sizeBody (nI 2) sg0 = some (nI 11) ∧ fX4_sizeBody (nI 3) sg0 = some (nI 12) ∧ fX4_sizeBody (nI 4) sg0 = some (nI 13) ∧ fX4_sizeBody (nI 5) sg0 = some (nI 14) := by decide +kernel
  exact key
/-- a size that asks the mark whose body is code c -/
theorem give_11 {k : Nat} {W : Nat → Nat} {σ : Sg} (hB : WBd k W) (hC : CW W σ) {y : Nat} (hy : y < W 3) {c : Nat} {X : List Nat} {v : Int32} (hX : X.length ≤ 4) (hm : ∀ τ, fX4_markBody (nI (W (14 + 7 * y))) τ = some (nI c)) (hg : GV W σ y c X v) : GV W σ y 11 ([11, 10] ++ X) (nI (W (16 + 7 * y)) + v) := by
  intro n d L τ h hl hn hd
  have h9 := hB.2.2.2.1
  simp only [List.length_append, List.length_cons, List.length_nil] at hl hn hd
  obtain ⟨m, rfl⟩ : ∃ m, n = m + 1 := ⟨n - 1, by omega⟩
  obtain ⟨υ, u1, u2⟩ := leave_spec h (by omega) 11
  obtain ⟨φ, f1, f2⟩ := give_10 hB hC hy m (d + 1) _ υ u2 (by simp; omega) (by simp; omega) (by simp; omega)
  obtain ⟨ψ, g1, g2⟩ := hg m (d + 1) _ φ f2 (by simp; omega) (by omega) (by omega)
  rw [List.append_assoc, List.append_assoc] at g2
  refine ⟨ψ, ?_, g2⟩
  show fX1_give_R (fX1_give m) (nI y) (nI 11) (nI d) τ = _
  unfold fX1_give_R
  rw [if_pos (show nI d ≤ (20 : Int32) from (nI_leI (b := 20) (by omega) (by omega)).mpr (by omega)), u1]
  simp only [Option.bind_some]
  rw [gd_t (b9 (by omega))]
  simp (decide := true) only [if_true, if_false]
  rw [nI_1, show (10 : Int32) = nI 10 from rfl, f1]
  simp only [Option.bind_some]
  rw [cw_11 (cw_tr hB hC hy u2) hy h9, hm]
  simp only [Option.bind_some]
  rw [g1]
  rfl
theorem give_12 {k : Nat} {W : Nat → Nat} {σ : Sg} (hB : WBd k W) (hC : CW W σ) {y : Nat} (hy : y < W 3) {X : List Nat} {v : Int32} (hX : X.length ≤ 6) (hg : GV W σ y 11 X v) : GV W σ y 12 ([12] ++ X) (-v) := by
  intro n d L τ h hl hn hd
  have h9 := hB.2.2.2.1
  simp only [List.length_append, List.length_cons, List.length_nil] at hl hn hd
  obtain ⟨m, rfl⟩ : ∃ m, n = m + 1 := ⟨n - 1, by omega⟩
  obtain ⟨υ, u1, u2⟩ := leave_spec h (by omega) 12
  obtain ⟨φ, f1, f2⟩ := hg m (d + 1) _ υ u2 (by simp; omega) (by omega) (by omega)
  rw [List.append_assoc] at f2
  refine ⟨φ, ?_, f2⟩
  show fX1_give_R (fX1_give m) (nI y) (nI 12) (nI d) τ = _
  unfold fX1_give_R
  rw [if_pos (show nI d ≤ (20 : Int32) from (nI_leI (b := 20) (by omega) (by omega)).mpr (by omega)), u1]
  simp only [Option.bind_some]
  rw [gd_t (b9 (by omega))]
  simp (decide := true) only [if_true, if_false]
  rw [nI_1, show (11 : Int32) = nI 11 from rfl, f1]
  rfl
theorem give_23 {k : Nat} {W : Nat → Nat} {σ : Sg} (hB : WBd k W) (hC : CW W σ) {y : Nat} (hy : y < W 3) {c : Nat} {X : List Nat} {v : Int32} (hX : X.length ≤ 3) (hm : ∀ τ, fX4_sizeBody (nI (W (14 + 7 * y))) τ = some (nI c)) (hg : GV W σ y c X v) : GV W σ y 23 ([23, 20] ++ X) (nI y - v) := by
  intro n d L τ h hl hn hd
  have h9 := hB.2.2.2.1
  simp only [List.length_append, List.length_cons, List.length_nil] at hl hn hd
  obtain ⟨m, rfl⟩ : ∃ m, n = m + 1 := ⟨n - 1, by omega⟩
  obtain ⟨υ, u1, u2⟩ := leave_spec h (by omega) 23
  obtain ⟨φ, f1, f2⟩ := give_20 hB hC hy m (d + 1) _ υ u2 (by simp; omega) (by simp; omega) (by simp; omega)
  obtain ⟨ψ, g1, g2⟩ := hg m (d + 1) _ φ f2 (by simp; omega) (by omega) (by omega)
  rw [List.append_assoc, List.append_assoc] at g2
  refine ⟨ψ, ?_, g2⟩
  show fX1_give_R (fX1_give m) (nI y) (nI 23) (nI d) τ = _
  unfold fX1_give_R
  rw [if_pos (show nI d ≤ (20 : Int32) from (nI_leI (b := 20) (by omega) (by omega)).mpr (by omega)), u1]
  simp only [Option.bind_some]
  rw [gd_t (b9 (by omega))]
  simp (decide := true) only [if_true, if_false]
  rw [nI_1, show (20 : Int32) = nI 20 from rfl, f1]
  simp only [Option.bind_some]
  rw [cw_11 (cw_tr hB hC hy u2) hy h9, hm]
  simp only [Option.bind_some]
  rw [g1]
  rfl
