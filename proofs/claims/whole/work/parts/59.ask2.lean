/-! ask, as the reference gives it -/
def MV (σ : Sg) (f : Sg → Option (Int32 × Sg)) (X : List Nat) (v : Int32) : Prop := ∀ (L : List Nat) (τ : Sg), TrM L σ τ → L.length + X.length ≤ 16 → ∃ υ, f τ = some (v, υ) ∧ TrM (L ++ X) σ υ
theorem mw_tr {W : Nat → Nat} {σ : Sg} (hM : MW W σ) {L : List Nat} {τ : Sg} (h : TrM L σ τ) : MW W τ := hM.fr h.2.2 (by decide)
theorem m_plain {k : Nat} {W : Nat → Nat} {σ : Sg} (hB : WBd k W) (hM : MW W σ) {y : Nat} (hy : y < W 3) : MV σ (fX11_plainSize (nI y)) [10] (nI (W (16 + 7 * y))) := by
  intro L τ h hl
  have h9 := hB.2.2.2.1
  simp only [List.length_cons, List.length_nil] at hl
  obtain ⟨υ, u1, u2⟩ := began_spec h (by omega) 10
  refine ⟨υ, ?_, u2⟩
  unfold fX11_plainSize
  rw [show (10 : Int32) = nI 10 from rfl, u1]
  simp only [Option.bind_some]
  rw [of_2 (mw_tr hM u2) hy h9]
  rfl
theorem m_lie4 {k : Nat} {W : Nat → Nat} {σ : Sg} (hB : WBd k W) (hM : MW W σ) {y : Nat} (hy : y < W 3) (hk : W (14 + 7 * y) = 4) : MV σ (fX11_lieSize (nI y)) [13, 10] (nI (W (16 + 7 * y)) - 100) := by
  intro L τ h hl
  have h9 := hB.2.2.2.1
  simp only [List.length_cons, List.length_nil] at hl
  obtain ⟨υ, u1, u2⟩ := began_spec h (by omega) 13
  obtain ⟨φ, f1, f2⟩ := m_plain hB hM hy _ υ u2 (by simp; omega)
  rw [List.append_assoc] at f2
  refine ⟨φ, ?_, f2⟩
  unfold fX11_lieSize fX11_lieSize_J16
  rw [of_0 (mw_tr hM h) hy h9, hk]
  simp only [Option.bind_some]
  rw [if_neg (by decide), show (13 : Int32) = nI 13 from rfl, u1]
  simp only [Option.bind_some]
  rw [f1]
  simp only [Option.bind_some]
  rw [of_0 (mw_tr hM f2) hy h9, hk]
  simp only [Option.bind_some]
  rw [if_neg (by decide)]
theorem m_lie5 {k : Nat} {W : Nat → Nat} {σ : Sg} (hB : WBd k W) (hM : MW W σ) {y : Nat} (hy : y < W 3) (hk : W (14 + 7 * y) = 5) : MV σ (fX11_lieSize (nI y)) [14, 13, 10] ((nI (W (16 + 7 * y)) - 100) * 2) := by
  intro L τ h hl
  have h9 := hB.2.2.2.1
  simp only [List.length_cons, List.length_nil] at hl
  obtain ⟨ρ, r1, r2⟩ := began_spec h (by omega) 14
  obtain ⟨υ, u1, u2⟩ := began_spec r2 (by simp; omega) 13
  obtain ⟨φ, f1, f2⟩ := m_plain hB hM hy _ υ u2 (by simp; omega)
  rw [List.append_assoc, List.append_assoc] at f2
  refine ⟨φ, ?_, f2⟩
  unfold fX11_lieSize fX11_lieSize_J16
  rw [of_0 (mw_tr hM h) hy h9, hk]
  simp only [Option.bind_some]
  rw [if_pos (by decide), show (14 : Int32) = nI 14 from rfl, r1]
  simp only [Option.bind_some]
  rw [show (13 : Int32) = nI 13 from rfl, u1]
  simp only [Option.bind_some]
  rw [f1]
  simp only [Option.bind_some]
  rw [of_0 (mw_tr hM f2) hy h9, hk]
  simp only [Option.bind_some]
  rw [if_pos (by decide), Int32.mul_comm]
theorem m_54 {k : Nat} {W : Nat → Nat} {σ : Sg} (hB : WBd k W) (hM : MW W σ) {y : Nat} (hy : y < W 3) (c : Nat) (hc : c ≤ 3) (h1 : 1 ≤ c) : MV σ (fX11_markOf_J54 (nI y) (nI c)) [21, 20] (if c = 1 then nI y + nI (W (15 + 7 * y)) else if c = 2 then nI y + nI (W (15 + 7 * y)) - 1000 else (nI y + nI (W (15 + 7 * y)) - 1000) * 2) := by
  intro L τ h hl
  have h9 := hB.2.2.2.1
  simp only [List.length_cons, List.length_nil] at hl
  obtain ⟨υ, u1, u2⟩ := began_spec h (by omega) 21
  obtain ⟨φ, f1, f2⟩ := began_spec u2 (by simp; omega) 20
  rw [List.append_assoc] at f2
  refine ⟨φ, ?_, f2⟩
  unfold fX11_markOf_J54 fX11_markOf_J86
  rw [show (21 : Int32) = nI 21 from rfl, u1]
  simp only [Option.bind_some]
  rw [show (20 : Int32) = nI 20 from rfl, f1]
  simp only [Option.bind_some]
  rw [of_1 (mw_tr hM f2) hy h9]
  simp only [Option.bind_some]
  have : c = 1 ∨ c = 2 ∨ c = 3 := by omega
  rcases this with rfl | rfl | rfl
  · simp (decide := true) only [if_true, if_false]
    rw [Int32.sub_zero]
  · simp (decide := true) only [if_true, if_false]
  · simp (decide := true) only [if_true, if_false]
    rw [Int32.mul_comm]
theorem m_mark1 {k : Nat} {W : Nat → Nat} {σ : Sg} (hB : WBd k W) (hM : MW W σ) {y : Nat} (hy : y < W 3) (hk : W (14 + 7 * y) = 1) : MV σ (fX11_markOf (nI y)) [21, 20] (nI y + nI (W (15 + 7 * y))) := by
  intro L τ h hl
  have h9 := hB.2.2.2.1
  obtain ⟨φ, f1, f2⟩ := m_54 hB hM hy 1 (by omega) (by omega) _ τ h hl
  refine ⟨φ, ?_, f2⟩
  unfold fX11_markOf fX11_markOf_J43
  rw [of_0 (mw_tr hM h) hy h9, hk]
  simp only [Option.bind_some]
  simp (decide := true) only [if_true, if_false]
  rw [f1]
  rfl
theorem m_mark2 {k : Nat} {W : Nat → Nat} {σ : Sg} (hB : WBd k W) (hM : MW W σ) {y : Nat} (hy : y < W 3) (hk : W (14 + 7 * y) = 2) : MV σ (fX11_markOf (nI y)) [22, 21, 20] (nI y + nI (W (15 + 7 * y)) - 1000) := by
  intro L τ h hl
  have h9 := hB.2.2.2.1
  simp only [List.length_cons, List.length_nil] at hl
  obtain ⟨υ, u1, u2⟩ := began_spec h (by omega) 22
  obtain ⟨φ, f1, f2⟩ := m_54 hB hM hy 2 (by omega) (by omega) _ υ u2 (by simp; omega)
  rw [List.append_assoc] at f2
  refine ⟨φ, ?_, f2⟩
  unfold fX11_markOf fX11_markOf_J43
  rw [of_0 (mw_tr hM h) hy h9, hk]
  simp only [Option.bind_some]
  simp (decide := true) only [if_true, if_false]
  rw [show (22 : Int32) = nI 22 from rfl, u1]
  simp only [Option.bind_some]
  rw [f1]
  rfl
theorem m_mark3 {k : Nat} {W : Nat → Nat} {σ : Sg} (hB : WBd k W) (hM : MW W σ) {y : Nat} (hy : y < W 3) (hk : W (14 + 7 * y) = 3) : MV σ (fX11_markOf (nI y)) [24, 22, 21, 20] ((nI y + nI (W (15 + 7 * y)) - 1000) * 2) := by
  intro L τ h hl
  have h9 := hB.2.2.2.1
  simp only [List.length_cons, List.length_nil] at hl
  obtain ⟨ρ, r1, r2⟩ := began_spec h (by omega) 24
  obtain ⟨υ, u1, u2⟩ := began_spec r2 (by simp; omega) 22
  obtain ⟨φ, f1, f2⟩ := m_54 hB hM hy 3 (by omega) (by omega) _ υ u2 (by simp; omega)
  rw [List.append_assoc, List.append_assoc] at f2
  refine ⟨φ, ?_, f2⟩
  unfold fX11_markOf fX11_markOf_J43
  rw [of_0 (mw_tr hM h) hy h9, hk]
  simp only [Option.bind_some]
  simp (decide := true) only [if_true, if_false]
  rw [show (24 : Int32) = nI 24 from rfl, r1]
  simp only [Option.bind_some]
  rw [show (22 : Int32) = nI 22 from rfl, u1]
  simp only [Option.bind_some]
  rw [f1]
  rfl
theorem m_mark45 {k : Nat} {W : Nat → Nat} {σ : Sg} (hB : WBd k W) (hM : MW W σ) {y : Nat} (hy : y < W 3) (hk : W (14 + 7 * y) = 4 ∨ W (14 + 7 * y) = 5) {X : List Nat} {v : Int32} (hg : MV σ (fX11_lieSize (nI y)) X v) : MV σ (fX11_markOf (nI y)) ([23, 20] ++ X) (nI y - v) := by
  intro L τ h hl
  have h9 := hB.2.2.2.1
  simp only [List.length_append, List.length_cons, List.length_nil] at hl
  obtain ⟨ρ, r1, r2⟩ := began_spec h (by omega) 23
  obtain ⟨υ, u1, u2⟩ := began_spec r2 (by simp; omega) 20
  obtain ⟨φ, f1, f2⟩ := hg _ υ u2 (by simp; omega)
  rw [List.append_assoc, List.append_assoc] at f2
  refine ⟨φ, ?_, f2⟩
  unfold fX11_markOf
  rw [of_0 (mw_tr hM h) hy h9]
  simp only [Option.bind_some]
  rw [if_neg (show ¬ nI (W (14 + 7 * y)) < (4 : Int32) by rcases hk with e | e <;> rw [e] <;> decide), show (23 : Int32) = nI 23 from rfl, r1]
  simp only [Option.bind_some]
  rw [show (20 : Int32) = nI 20 from rfl, u1]
  simp only [Option.bind_some]
  rw [f1]
  rfl
theorem m_size12 {k : Nat} {W : Nat → Nat} {σ : Sg} (hB : WBd k W) (hM : MW W σ) {y : Nat} (hy : y < W 3) (hk : W (14 + 7 * y) = 1 ∨ W (14 + 7 * y) = 2) {X : List Nat} {v : Int32} (hg : MV σ (fX11_markOf (nI y)) X v) : MV σ (fX11_sizeOf (nI y)) ([11, 10] ++ X) (nI (W (16 + 7 * y)) + v) := by
  intro L τ h hl
  have h9 := hB.2.2.2.1
  simp only [List.length_append, List.length_cons, List.length_nil] at hl
  obtain ⟨ρ, r1, r2⟩ := began_spec h (by omega) 11
  obtain ⟨υ, u1, u2⟩ := m_plain hB hM hy _ ρ r2 (by simp; omega)
  obtain ⟨φ, f1, f2⟩ := hg _ υ u2 (by simp; omega)
  rw [List.append_assoc, List.append_assoc] at f2
  refine ⟨φ, ?_, f2⟩
  unfold fX11_sizeOf fX11_sizeOf_J29
  rw [of_0 (mw_tr hM h) hy h9]
  simp only [Option.bind_some]
  rw [if_pos (show nI (W (14 + 7 * y)) < (4 : Int32) by rcases hk with e | e <;> rw [e] <;> decide), if_neg (show ¬ nI (W (14 + 7 * y)) = (3 : Int32) by rcases hk with e | e <;> rw [e] <;> decide), show (11 : Int32) = nI 11 from rfl, r1]
  simp only [Option.bind_some]
  rw [u1]
  simp only [Option.bind_some]
  rw [f1]
  simp only [Option.bind_some]
  rw [if_neg (show ¬ nI (W (14 + 7 * y)) = (3 : Int32) by rcases hk with e | e <;> rw [e] <;> decide)]
theorem m_size3 {k : Nat} {W : Nat → Nat} {σ : Sg} (hB : WBd k W) (hM : MW W σ) {y : Nat} (hy : y < W 3) (hk : W (14 + 7 * y) = 3) {X : List Nat} {v : Int32} (hg : MV σ (fX11_markOf (nI y)) X v) : MV σ (fX11_sizeOf (nI y)) ([12] ++ ([11, 10] ++ X)) (-(nI (W (16 + 7 * y)) + v)) := by
  intro L τ h hl
  have h9 := hB.2.2.2.1
  simp only [List.length_append, List.length_cons, List.length_nil] at hl
  obtain ⟨κ, k1, k2⟩ := began_spec h (by omega) 12
  obtain ⟨ρ, r1, r2⟩ := began_spec k2 (by simp; omega) 11
  obtain ⟨υ, u1, u2⟩ := m_plain hB hM hy _ ρ r2 (by simp; omega)
  obtain ⟨φ, f1, f2⟩ := hg _ υ u2 (by simp; omega)
  rw [List.append_assoc, List.append_assoc, List.append_assoc] at f2
  refine ⟨φ, ?_, f2⟩
  unfold fX11_sizeOf fX11_sizeOf_J29
  rw [of_0 (mw_tr hM h) hy h9, hk]
  simp only [Option.bind_some]
  rw [if_pos (by decide), if_pos (by decide), show (12 : Int32) = nI 12 from rfl, k1]
  simp only [Option.bind_some]
  rw [show (11 : Int32) = nI 11 from rfl, r1]
  simp only [Option.bind_some]
  rw [u1]
  simp only [Option.bind_some]
  rw [f1]
  simp only [Option.bind_some]
  rw [if_pos (by decide)]
theorem m_size45 {k : Nat} {W : Nat → Nat} {σ : Sg} (hB : WBd k W) (hM : MW W σ) {y : Nat} (hy : y < W 3) (hk : W (14 + 7 * y) = 4 ∨ W (14 + 7 * y) = 5) {X : List Nat} {v : Int32} (hg : MV σ (fX11_lieSize (nI y)) X v) : MV σ (fX11_sizeOf (nI y)) X v := by
  intro L τ h hl
  have h9 := hB.2.2.2.1
  obtain ⟨φ, f1, f2⟩ := hg _ τ h hl
  refine ⟨φ, ?_, f2⟩
  unfold fX11_sizeOf
  rw [of_0 (mw_tr hM h) hy h9]
  simp only [Option.bind_some]
  rw [if_neg (show ¬ nI (W (14 + 7 * y)) < (4 : Int32) by rcases hk with e | e <;> rw [e] <;> decide), f1]
  rfl
/-- both sides, asked for the size and for the mark -/
theorem ask_both {k : Nat} {W : Nat → Nat} (hB : WBd k W) {y : Nat} (hy : y < W 3) : (∃ c X v, X.length ≤ 7 ∧ (∀ τ, fX4_sizeBody (nI (W (14 + 7 * y))) τ = some (nI c)) ∧ (∀ σ, CW W σ → GV W σ y c X v) ∧ ∀ σ, MW W σ → MV σ (fX11_sizeOf (nI y)) X v) ∧ (∃ c X v, X.length ≤ 7 ∧ (∀ τ, fX4_markBody (nI (W (14 + 7 * y))) τ = some (nI c)) ∧ (∀ σ, CW W σ → GV W σ y c X v) ∧ ∀ σ, MW W σ → MV σ (fX11_markOf (nI y)) X v) := by
  have hb := (hB.2.2.2.2.2 y hy).1
  have : W (14 + 7 * y) = 1 ∨ W (14 + 7 * y) = 2 ∨ W (14 + 7 * y) = 3 ∨ W (14 + 7 * y) = 4 ∨ W (14 + 7 * y) = 5 := by omega
  rcases this with h | h | h | h | h
  · have s1 : ∀ τ, fX4_sizeBody (nI (W (14 + 7 * y))) τ = some (nI 11) := fun τ => by rw [h]; exact (size_body τ).1
    have s2 : ∀ τ, fX4_markBody (nI (W (14 + 7 * y))) τ = some (nI 21) := fun τ => by rw [h]; exact (mark_body τ).1
    exact ⟨⟨11, _, _, by simp, s1, fun σ hC => give_11 hB hC hy (by simp) s2 (give_21 hB hC hy), fun σ hM => m_size12 hB hM hy (Or.inl h) (m_mark1 hB hM hy h)⟩, ⟨21, _, _, by simp, s2, fun σ hC => give_21 hB hC hy, fun σ hM => m_mark1 hB hM hy h⟩⟩
  · have s1 : ∀ τ, fX4_sizeBody (nI (W (14 + 7 * y))) τ = some (nI 11) := fun τ => by rw [h]; exact (size_body τ).2.1
    have s2 : ∀ τ, fX4_markBody (nI (W (14 + 7 * y))) τ = some (nI 22) := fun τ => by rw [h]; exact (mark_body τ).2.1
    exact ⟨⟨11, _, _, by simp, s1, fun σ hC => give_11 hB hC hy (by simp) s2 (give_22 hB hC hy), fun σ hM => m_size12 hB hM hy (Or.inr h) (m_mark2 hB hM hy h)⟩, ⟨22, _, _, by simp, s2, fun σ hC => give_22 hB hC hy, fun σ hM => m_mark2 hB hM hy h⟩⟩
  · have s1 : ∀ τ, fX4_sizeBody (nI (W (14 + 7 * y))) τ = some (nI 12) := fun τ => by rw [h]; exact (size_body τ).2.2.1
    have s2 : ∀ τ, fX4_markBody (nI (W (14 + 7 * y))) τ = some (nI 24) := fun τ => by rw [h]; exact (mark_body τ).2.2.1
    exact ⟨⟨12, _, _, by simp, s1, fun σ hC => give_12 hB hC hy (by simp) (give_11 hB hC hy (by simp) s2 (give_24 hB hC hy)), fun σ hM => m_size3 hB hM hy h (m_mark3 hB hM hy h)⟩, ⟨24, _, _, by simp, s2, fun σ hC => give_24 hB hC hy, fun σ hM => m_mark3 hB hM hy h⟩⟩
  · have s1 : ∀ τ, fX4_sizeBody (nI (W (14 + 7 * y))) τ = some (nI 13) := fun τ => by rw [h]; exact (size_body τ).2.2.2.1
    have s2 : ∀ τ, fX4_markBody (nI (W (14 + 7 * y))) τ = some (nI 23) := fun τ => by rw [h]; exact (mark_body τ).2.2.2.1
    exact ⟨⟨13, _, _, by simp, s1, fun σ hC => give_13 hB hC hy, fun σ hM => m_size45 hB hM hy (Or.inl h) (m_lie4 hB hM hy h)⟩, ⟨23, _, _, by simp, s2, fun σ hC => give_23 hB hC hy (by simp) s1 (give_13 hB hC hy), fun σ hM => m_mark45 hB hM hy (Or.inl h) (m_lie4 hB hM hy h)⟩⟩
  · have s1 : ∀ τ, fX4_sizeBody (nI (W (14 + 7 * y))) τ = some (nI 14) := fun τ => by rw [h]; exact (size_body τ).2.2.2.2
    have s2 : ∀ τ, fX4_markBody (nI (W (14 + 7 * y))) τ = some (nI 23) := fun τ => by rw [h]; exact (mark_body τ).2.2.2.2
    exact ⟨⟨14, _, _, by simp, s1, fun σ hC => give_14 hB hC hy, fun σ hM => m_size45 hB hM hy (Or.inr h) (m_lie5 hB hM hy h)⟩, ⟨23, _, _, by simp, s2, fun σ hC => give_23 hB hC hy (by simp) s1 (give_14 hB hC hy), fun σ hM => m_mark45 hB hM hy (Or.inr h) (m_lie5 hB hM hy h)⟩⟩
theorem ok_ask : OK_ask Inv := by
  intro k b σ a1 a2 hk hI
  obtain ⟨⟨t, W, ⟨t1, wt, wm, w0, hB, hT, hS, hM⟩, _⟩, _⟩ := hI.2.2.2.2
  have h9 := hB.2.2.2.1
  have hC : CW W (sup σ 36 1 0) := ⟨hT, hS⟩
  have e := small_in a2 1 (by omega)
  rw [show (nI 1).toInt64 = (1 : Int64) from rfl] at e
  rcases yarn_split a1 (W 3) h9 with ⟨y, hy, rfl⟩ | hn
  rotate_left
  · refine ⟨(-1000001, σ), (-1000001, sup σ 38 0 0), ?_, ?_, rfl, hI.up.thr 0⟩
    · unfold fX10_ask; rw [hasYarn_no hT.2.2.2.1 hn]; rfl
    · unfold fX11_ask; rw [isYarn_no (σ := sup σ 38 0 0) hM.2.2.2.1 h9 hn]; rfl
  by_cases h : ∃ j, j ≤ 1 ∧ a2 = nI j
  rotate_left
  · refine ⟨(-1000001, σ), (-1000001, sup σ 38 0 0), ?_, ?_, rfl, hI.up.thr 0⟩
    · unfold fX10_ask fX10_ask_J20; rw [hasYarn_yes hT.2.2.2.1 h9 hy]
      simp only [Option.bind_some, one_ne, if_false]
      by_cases c1 : a2 < 0
      · rw [if_pos c1]
      · rw [if_neg c1, if_neg]
        have := (small_no (by omega) h).resolve_left c1
        rw [fa_le]; rw [fa_lt] at this; exact Int.not_le.mpr this
    · unfold fX11_ask; rw [isYarn_yes (σ := sup σ 38 0 0) hM.2.2.2.1 h9 hy]
      simp only [Option.bind_some, one_ne, if_false, in_spec, e]
      rw [if_neg h, if_pos rfl]; rfl
  obtain ⟨j, hj, rfl⟩ := h
  have ceq : fX10_ask (nI y) (nI j) σ = (fX1_answer (nI y) (nI j) σ).bind (fun q6 => some (q6.1, q6.2)) := by
    unfold fX10_ask; rw [hasYarn_yes hT.2.2.2.1 h9 hy]
    simp only [Option.bind_some, one_ne, if_false]
    rw [if_neg (nI_pos (by omega)), if_pos (show nI j ≤ (1 : Int32) from (nI_leI (b := 1) (by omega) (by omega)).mpr hj)]
  have meq : ∀ τ, MW W τ → fX11_ask (nI y) (nI j) τ = if j = 0 then (fX11_sizeOf (nI y) (sup (sup τ 38 0 0) 38 28 0)).bind (fun q10 => some (q10.1, q10.2)) else (fX11_markOf (nI y) (sup (sup τ 38 0 0) 38 28 0)).bind (fun q10 => some (q10.1, q10.2)) := by
    intro τ hτ
    unfold fX11_ask; rw [isYarn_yes (σ := sup τ 38 0 0) hτ.2.2.2.1 h9 hy]
    simp only [Option.bind_some, one_ne, if_false, in_spec, e]
    rw [if_pos (show ∃ i, i ≤ 1 ∧ nI j = nI i from ⟨j, hj, rfl⟩), if_neg one_ne]
    by_cases c : j = 0
    · rw [if_pos (show nI j = (0 : Int32) by rw [c]; rfl), if_pos c]
    · rw [if_neg (q0 c), if_neg c]
  -- one of the two
  have fin : ∀ (c : Nat) (X : List Nat) (v : Int32) (g : Sg → Option (Int32 × Sg)), X.length ≤ 7 → (fX1_answer (nI y) (nI j) σ = fX1_answer_J33 (nI c) (nI y) (sup σ 36 1 0)) → GV W (sup σ 36 1 0) y c X v → (∀ σ, MW W σ → MV σ g X v) → (∀ τ, MW W τ → fX11_ask (nI y) (nI j) τ = (g (sup (sup τ 38 0 0) 38 28 0)).bind (fun q10 => some (q10.1, q10.2))) → ∃ q1 q2, fX10_ask (nI y) (nI j) σ = some q1 ∧ fX11_ask (nI y) (nI j) q1.2 = some q2 ∧ q1.1 = q2.1 ∧ Inv (k + 1) b q2.2 := by
    intro c X v g hX ha hG hV hm
    obtain ⟨τ, c1, c2⟩ := hG 30 0 [] (sup σ 36 1 0) ⟨by rw [sup_at, if_pos ⟨rfl, rfl⟩]; rfl, fun j hj => absurd hj (Nat.not_lt_zero _), FE.refl _ _ _⟩ (by simp; omega) (by omega) (by omega)
    rw [List.nil_append] at c2
    have hMτ : MW W τ := (show MW W (sup σ 36 1 0) from hM).fr c2.2.2 (by decide)
    obtain ⟨υ, d1, d2⟩ := hV (sup (sup τ 38 0 0) 38 28 0) hMτ [] _ ⟨by rw [sup_at, if_pos ⟨rfl, rfl⟩]; rfl, fun j hj => absurd hj (Nat.not_lt_zero _), FE.refl _ _ _⟩ (by simp; omega)
    rw [List.nil_append] at d2
    refine ⟨(v, τ), (v, υ), ?_, ?_, rfl, ?_⟩
    · rw [ceq, ha]
      unfold fX1_answer_J33
      rw [show (0 : Int32) = nI 0 from rfl] at c1 ⊢
      rw [c1]
      rfl
    · show fX11_ask (nI y) (nI j) τ = _
      rw [hm τ hMτ, d1]
      rfl
    · have f1 : FE [37, 51] [(36, 1), (36, 1), (38, 0), (38, 28), (38, 28)] σ υ := ((((FE_sup (c := 36) (j := 1) (v := 0)).trans c2.2.2).trans (FE_sup (c := 38) (j := 0) (v := 0))).trans (FE_sup (c := 38) (j := 28) (v := 0))).trans d2.2.2
      have hU := hI.up
      refine ⟨hU.1.fr f1 (by decide), hU.2.1.fr f1 (by decide), hU.2.2.1.fr f1 (by decide), ⟨X.length, by omega, ?_, d2.1, fun i hi => ?_⟩, hU.2.2.2.2.fr f1 (by decide) (by decide) (by decide)⟩
      · rw [d2.2.2 36 1 (by decide) (by simp), sup_ne (by decide), sup_ne (by decide), c2.1]
      · rw [d2.2.1 i hi, d2.2.2 37 i (by decide) (by simp), sup_ne (by decide), sup_ne (by decide), c2.2.1 i hi]
  obtain ⟨⟨c, X, v, x1, x2, x3, x4⟩, ⟨c', X', v', x1', x2', x3', x4'⟩⟩ := ask_both hB hy
  by_cases hj0 : j = 0
  · refine fin c X v _ x1 ?_ (x3 _ hC) x4 (fun τ hτ => by rw [meq τ hτ, if_pos hj0])
    unfold fX1_answer
    rw [gd_t (b9 (by omega)), if_pos (show nI j = (0 : Int32) by rw [hj0]; rfl), cw_11 hC hy h9, x2]
    rfl
  · refine fin c' X' v' _ x1' ?_ (x3' _ hC) x4' (fun τ hτ => by rw [meq τ hτ, if_neg hj0])
    unfold fX1_answer
    rw [gd_t (b9 (by omega)), if_neg (q0 hj0), cw_11 hC hy h9, x2']
    rfl
