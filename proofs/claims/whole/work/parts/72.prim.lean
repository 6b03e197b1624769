/-! walk: what is read next. A state is a fault (number, place), or a token -/
def nxR (B : Nat → Nat) (n : Nat) (r : (Nat × Nat) ⊕ (Nat × Nat × Nat)) : (Nat × Nat) ⊕ (Nat × Nat × Nat) := match r with
  | .inl p => .inl p
  | .inr T => .inr (tkn B n T.2.2)
def valR (B : Nat → Nat) (r : (Nat × Nat) ⊕ (Nat × Nat × Nat)) : Int32 := match r with
  | .inl _ => 0
  | .inr T => vI B T.2.1 (T.2.2 - T.2.1)
def numR (B : Nat → Nat) (n : Nat) (lo hi : Int32) (r : (Nat × Nat) ⊕ (Nat × Nat × Nat)) : (Nat × Nat) ⊕ (Nat × Nat × Nat) := match r with
  | .inl p => .inl p
  | .inr T => if T.1 = 2 then (if lo ≤ vI B T.2.1 (T.2.2 - T.2.1) ∧ vI B T.2.1 (T.2.2 - T.2.1) ≤ hi then .inr (tkn B n T.2.2) else .inl (2, T.2.1)) else .inl (1, T.2.1)
def mustR (B : Nat → Nat) (n : Nat) (so : Bool) (r : (Nat × Nat) ⊕ (Nat × Nat × Nat)) : (Nat × Nat) ⊕ (Nat × Nat × Nat) := match r with
  | .inl p => .inl p
  | .inr T => if so = true then .inr (tkn B n T.2.2) else .inl (1, T.2.1)
def sgnR (B : Nat → Nat) (n : Nat) (r : (Nat × Nat) ⊕ (Nat × Nat × Nat)) : (Nat × Nat) ⊕ (Nat × Nat × Nat) := match r with
  | .inl p => .inl p
  | .inr T => if T.1 = 3 then .inr (tkn B n T.2.2) else .inl (1, T.2.1)
def srtR (B : Nat → Nat) (n : Nat) (r : (Nat × Nat) ⊕ (Nat × Nat × Nat)) : (Nat × Nat) ⊕ (Nat × Nat × Nat) := match r with
  | .inl p => .inl p
  | .inr T => if kd B T = 0 then .inl (1, T.2.1) else .inr (tkn B n T.2.2)
def srtV (B : Nat → Nat) (r : (Nat × Nat) ⊕ (Nat × Nat × Nat)) : Nat := match r with
  | .inl _ => 0
  | .inr T => kd B T
def CSt (B : Nat → Nat) (n : Nat) (r : (Nat × Nat) ⊕ (Nat × Nat × Nat)) (σ : Sg) : Prop := BT n B σ ∧ match r with
  | .inl p => σ.1 5 1 = nI p.1 ∧ 1 ≤ p.1 ∧ p.1 ≤ 3 ∧ σ.1 6 3 = nI p.2
  | .inr T => σ.1 5 1 = 0 ∧ TokC B n T σ
def MSt (B : Nat → Nat) (n : Nat) (r : (Nat × Nat) ⊕ (Nat × Nat × Nat)) (σ : Sg) : Prop := BT n B σ ∧ ∃ T, TokM B n T σ ∧ match r with
  | .inl p => σ.1 38 18 = nI p.1 ∧ 1 ≤ p.1 ∧ p.1 ≤ 3 ∧ σ.1 38 19 = nI p.2
  | .inr T' => T' = T ∧ σ.1 38 18 = 0
theorem numR_T (B : Nat → Nat) (n : Nat) (lo hi : Int32) (T : Nat × Nat × Nat) : numR B n lo hi (.inr T) = (if T.1 = 2 then (if lo ≤ valR B (.inr T) ∧ valR B (.inr T) ≤ hi then .inr (tkn B n T.2.2) else .inl (2, T.2.1)) else .inl (1, T.2.1)) := rfl
theorem valR_T (B : Nat → Nat) (T : Nat × Nat × Nat) : valR B (.inr T) = vI B T.2.1 (T.2.2 - T.2.1) := rfl
theorem CSt.l {B : Nat → Nat} {n f pl : Nat} {σ : Sg} (hb : BT n B σ) (h1 : σ.1 5 1 = nI f) (h2 : 1 ≤ f) (h3 : f ≤ 3) (h4 : σ.1 6 3 = nI pl) : CSt B n (.inl (f, pl)) σ := ⟨hb, h1, h2, h3, h4⟩
theorem CSt.fr {B : Nat → Nat} {n : Nat} {r : (Nat × Nat) ⊕ (Nat × Nat × Nat)} {σ τ : Sg} {ms : List Nat} {es : List (Nat × Nat)} (h : CSt B n r σ) (f : FE ms es σ τ) (hf : ffr [7, 45] [(5, 1), (6, 1), (6, 2), (6, 3), (6, 4), (6, 5)] ms es = true) : CSt B n r τ := by
  have e51 := ffr_e f hf (d := 5) (j := 1) (by decide)
  have e61 := ffr_e f hf (d := 6) (j := 1) (by decide)
  have e62 := ffr_e f hf (d := 6) (j := 2) (by decide)
  have e63 := ffr_e f hf (d := 6) (j := 3) (by decide)
  have e64 := ffr_e f hf (d := 6) (j := 4) (by decide)
  have e65 := ffr_e f hf (d := 6) (j := 5) (by decide)
  have hb : BT n B τ := by
    unfold BT
    rw [ffr_c f hf (d := 7) (by decide), ffr_c f hf (d := 45) (by decide)]
    exact h.1
  refine ⟨hb, ?_⟩
  obtain ⟨_, h2⟩ := h
  cases r with
  | inl p =>
    dsimp only at h2 ⊢
    rw [e51, e63]; exact h2
  | inr T =>
    dsimp only at h2 ⊢
    unfold TokC at h2 ⊢
    rw [e51, e61, e62, e63, e64, e65]; exact h2
theorem MSt.fr {B : Nat → Nat} {n : Nat} {r : (Nat × Nat) ⊕ (Nat × Nat × Nat)} {σ τ : Sg} {ms : List Nat} {es : List (Nat × Nat)} (h : MSt B n r σ) (f : FE ms es σ τ) (hf : ffr [7, 45] [(38, 13), (38, 14), (38, 15), (38, 16), (38, 17), (38, 18), (38, 19)] ms es = true) : MSt B n r τ := by
  have e13 := ffr_e f hf (d := 38) (j := 13) (by decide)
  have e14 := ffr_e f hf (d := 38) (j := 14) (by decide)
  have e15 := ffr_e f hf (d := 38) (j := 15) (by decide)
  have e16 := ffr_e f hf (d := 38) (j := 16) (by decide)
  have e17 := ffr_e f hf (d := 38) (j := 17) (by decide)
  have e18 := ffr_e f hf (d := 38) (j := 18) (by decide)
  have e19 := ffr_e f hf (d := 38) (j := 19) (by decide)
  have hb : BT n B τ := by
    unfold BT
    rw [ffr_c f hf (d := 7) (by decide), ffr_c f hf (d := 45) (by decide)]
    exact h.1
  obtain ⟨_, T, h2, h3⟩ := h
  refine ⟨hb, T, ?_, ?_⟩
  · unfold TokM at h2 ⊢
    rw [e13, e14, e15, e16, e17]; exact h2
  · cases r with
    | inl p =>
      dsimp only at h3 ⊢
      rw [e18, e19]; exact h3
    | inr T' =>
      dsimp only at h3 ⊢
      rw [e18]; exact h3
/-! the class -/
theorem c_next {B : Nat → Nat} {n : Nat} {T : Nat × Nat × Nat} {σ : Sg} (h : CSt B n (.inr T) σ) : ∃ τ, fX8_next σ = some τ ∧ FE [] [(5, 1), (6, 2), (6, 3), (6, 4), (6, 5)] σ τ ∧ CSt B n (.inr (tkn B n T.2.2)) τ := by
  obtain ⟨hb, h0, hP, e1, e2, e3, e5, e4⟩ := h
  obtain ⟨τ, t1, t2, t3⟩ := next_c hb e1 e5 hP.2.2.1
  exact ⟨τ, t1, t2.up (by decide) (by decide), hb.fr t2 (by decide), (t2 5 1 (by simp) (by simp)).trans h0, t3⟩
theorem c_num {B : Nat → Nat} {n : Nat} {r : (Nat × Nat) ⊕ (Nat × Nat × Nat)} {σ : Sg} (h : CSt B n r σ) (lo hi : Int32) : ∃ v τ, fX6_takeNumber lo hi σ = some (v, τ) ∧ FE [] [(5, 1), (6, 2), (6, 3), (6, 4), (6, 5)] σ τ ∧ CSt B n (numR B n lo hi r) τ ∧ ∀ T, numR B n lo hi r = .inr T → v = valR B r ∧ lo ≤ v ∧ v ≤ hi := by
  cases r with
  | inl p =>
    obtain ⟨hb, h1, h2, h3, h4⟩ := h
    refine ⟨0, σ, ?_, FE.refl _ _ _, ⟨hb, h1, h2, h3, h4⟩, fun T z => by cases z⟩
    have e : gf σ 5 1 = nI p.1 := h1
    unfold fX6_takeNumber
    rw [e, if_neg (q0 (by omega))]
  | inr T =>
    have h' := h
    obtain ⟨hb, h0, hP, e1, e2, e3, e5, e4⟩ := h
    have h0' : gf σ 5 1 = 0 := h0
    have e2' : gf σ 6 2 = nI T.1 := e2
    have hk := hP.1
    rw [numR_T, valR_T]
    unfold fX6_takeNumber fX6_takeNumber_J45
    rw [h0', if_pos rfl, e2']
    by_cases c1 : T.1 = 2
    rotate_left
    · rw [if_neg (q2 c1), if_neg c1]
      refine ⟨_, _, rfl, FE_sup.up (by decide) (by decide), CSt.l (hb.fr FE_sup (by decide)) (by rw [sup_at, if_pos ⟨rfl, rfl⟩]; rfl) (by omega) (by omega) (by rw [sup_at, if_neg (by decide)]; exact e3), fun T' z => by cases z⟩
    have e4' : gf σ 6 4 = vI B T.2.1 (T.2.2 - T.2.1) := e4 c1
    rw [if_pos (show nI T.1 = (2 : Int32) by rw [c1]; rfl), if_pos c1, e4']
    generalize hv : vI B T.2.1 (T.2.2 - T.2.1) = v
    have bad : ¬ (lo ≤ v ∧ v ≤ hi) → ∃ w τ, some ((0 : Int32), sup σ 5 1 2) = some (w, τ) ∧ FE [] [(5, 1), (6, 2), (6, 3), (6, 4), (6, 5)] σ τ ∧ CSt B n (if lo ≤ v ∧ v ≤ hi then .inr (tkn B n T.2.2) else .inl (2, T.2.1)) τ ∧ ∀ T', (if lo ≤ v ∧ v ≤ hi then (.inr (tkn B n T.2.2) : (Nat × Nat) ⊕ (Nat × Nat × Nat)) else .inl (2, T.2.1)) = .inr T' → w = v ∧ lo ≤ w ∧ w ≤ hi := by
      intro hc
      rw [if_neg hc]
      exact ⟨_, _, rfl, FE_sup.up (by decide) (by decide), CSt.l (hb.fr FE_sup (by decide)) (by rw [sup_at, if_pos ⟨rfl, rfl⟩]; rfl) (by omega) (by omega) (by rw [sup_at, if_neg (by decide)]; exact e3), fun T' z => by cases z⟩
    by_cases c2 : v < lo
    · rw [if_pos c2]
      exact bad (fun z => by have := z.1; rw [fa_le] at this; rw [fa_lt] at c2; omega)
    rw [if_neg c2]
    by_cases c3 : v ≤ hi
    rotate_left
    · rw [if_neg c3]
      exact bad (fun z => c3 z.2)
    rw [if_pos c3]
    have hc : lo ≤ v ∧ v ≤ hi := ⟨by rw [fa_le]; rw [fa_lt] at c2; omega, c3⟩
    obtain ⟨τ, t1, t2, t3⟩ := c_next h'
    rw [t1, if_pos hc]
    exact ⟨v, τ, rfl, t2, t3, fun T' _ => ⟨rfl, hc⟩⟩
theorem c_sign {B : Nat → Nat} {n : Nat} {r : (Nat × Nat) ⊕ (Nat × Nat × Nat)} {σ : Sg} (h : CSt B n r σ) : ∃ τ, fX6_takeSign σ = some τ ∧ FE [] [(5, 1), (6, 2), (6, 3), (6, 4), (6, 5)] σ τ ∧ CSt B n (sgnR B n r) τ := by
  cases r with
  | inl p =>
    obtain ⟨hb, h1, h2, h3, h4⟩ := h
    refine ⟨σ, ?_, FE.refl _ _ _, ⟨hb, h1, h2, h3, h4⟩⟩
    have e : gf σ 5 1 = nI p.1 := h1
    unfold fX6_takeSign
    rw [e, if_neg (q0 (by omega))]
  | inr T =>
    have h' := h
    obtain ⟨hb, h0, hP, e1, e2, e3, e5, e4⟩ := h
    have h0' : gf σ 5 1 = 0 := h0
    have e2' : gf σ 6 2 = nI T.1 := e2
    have hk := hP.1
    show ∃ τ, _ ∧ _ ∧ CSt B n (if T.1 = 3 then .inr (tkn B n T.2.2) else .inl (1, T.2.1)) τ
    unfold fX6_takeSign
    rw [h0', if_pos rfl, e2']
    by_cases c1 : T.1 = 3
    · obtain ⟨τ, t1, t2, t3⟩ := c_next h'
      rw [if_pos (show nI T.1 = (3 : Int32) by rw [c1]; rfl), if_pos c1, t1]
      exact ⟨τ, rfl, t2, t3⟩
    · rw [if_neg (q3 c1), if_neg c1]
      exact ⟨_, rfl, FE_sup.up (by decide) (by decide), CSt.l (hb.fr FE_sup (by decide)) (by rw [sup_at, if_pos ⟨rfl, rfl⟩]; rfl) (by omega) (by omega) (by rw [sup_at, if_neg (by decide)]; exact e3)⟩
theorem c_sort {B : Nat → Nat} {n : Nat} {T : Nat × Nat × Nat} {σ : Sg} (h : CSt B n (.inr T) σ) : ∃ v τ, fX6_takeSort σ = some (v, τ) ∧ FE [] [(5, 1), (6, 2), (6, 3), (6, 4), (6, 5)] σ τ ∧ CSt B n (srtR B n (.inr T)) τ ∧ v = nI (kd B T) := by
  have h' := h
  obtain ⟨hb, h0, hT⟩ := h
  have fin : ∀ t, t = kd B T → ∃ v τ, fX6_takeSort_J81 (nI t) σ = some (v, τ) ∧ FE [] [(5, 1), (6, 2), (6, 3), (6, 4), (6, 5)] σ τ ∧ CSt B n (if kd B T = 0 then .inl (1, T.2.1) else .inr (tkn B n T.2.2)) τ ∧ v = nI (kd B T) := by
    rintro t rfl
    have hk := kd_le B T
    unfold fX6_takeSort_J81 fX6_takeSort_J101
    by_cases c : kd B T = 0
    · rw [c, if_pos (show nI 0 = (0 : Int32) from rfl), if_pos rfl]
      exact ⟨_, _, rfl, FE_sup.up (by decide) (by decide), CSt.l (hb.fr FE_sup (by decide)) (by rw [sup_at, if_pos ⟨rfl, rfl⟩]; rfl) (by omega) (by omega) (by rw [sup_at, if_neg (by decide)]; exact hT.2.2.2.1), rfl⟩
    · obtain ⟨τ, t1, t2, t3⟩ := c_next h'
      rw [if_neg (q0 c), if_neg c, t1]
      exact ⟨_, τ, rfl, t2, t3, rfl⟩
  show ∃ v τ, fX6_takeSort σ = some (v, τ) ∧ _ ∧ CSt B n (if kd B T = 0 then .inl (1, T.2.1) else .inr (tkn B n T.2.2)) τ ∧ _
  unfold fX6_takeSort
  rw [isWord_K3 hb hT, Option.bind_some]
  dsimp only
  by_cases c3 : isW B 3 T = true
  · rw [if_pos c3, if_neg one_ne]
    exact fin 1 (by unfold kd; rw [if_pos c3])
  rw [if_neg c3, if_pos rfl, isWord_K4 hb hT, Option.bind_some]
  dsimp only
  by_cases c4 : isW B 4 T = true
  · rw [if_pos c4, if_neg one_ne]
    exact fin 2 (by unfold kd; rw [if_neg c3, if_pos c4])
  rw [if_neg c4, if_pos rfl, isWord_K5 hb hT, Option.bind_some]
  dsimp only
  by_cases c5 : isW B 5 T = true
  · rw [if_pos c5, if_neg one_ne]
    exact fin 3 (by unfold kd; rw [if_neg c3, if_neg c4, if_pos c5])
  rw [if_neg c5, if_pos rfl, isWord_K6 hb hT, Option.bind_some]
  dsimp only
  by_cases c6 : isW B 6 T = true
  · rw [if_pos c6, if_neg one_ne]
    exact fin 4 (by unfold kd; rw [if_neg c3, if_neg c4, if_neg c5, if_pos c6])
  rw [if_neg c6, if_pos rfl, isWord_K7 hb hT, Option.bind_some]
  dsimp only
  by_cases c7 : isW B 7 T = true
  · rw [if_pos c7, if_neg one_ne]
    exact fin 5 (by unfold kd; rw [if_neg c3, if_neg c4, if_neg c5, if_neg c6, if_pos c7])
  rw [if_neg c7, if_pos rfl]
  exact fin 0 (by unfold kd; rw [if_neg c3, if_neg c4, if_neg c5, if_neg c6, if_neg c7])
/-! the reference -/
theorem m_next {B : Nat → Nat} {n : Nat} {T : Nat × Nat × Nat} {σ : Sg} (h : MSt B n (.inr T) σ) : ∃ τ, fX11_next σ = some τ ∧ FE [] [(38, 14), (38, 15), (38, 16), (38, 17), (38, 18), (38, 19)] σ τ ∧ MSt B n (.inr (tkn B n T.2.2)) τ := by
  obtain ⟨hb, T', hT, rfl, h0⟩ := h
  obtain ⟨hP, e13, e15, e16, e14, e17⟩ := hT
  obtain ⟨τ, t1, t2, t3⟩ := next_m hb e13 e14 hP.2.2.1
  exact ⟨τ, t1, t2.up (by decide) (by decide), hb.fr t2 (by decide), _, t3, rfl, (t2 38 18 (by simp) (by simp)).trans h0⟩
/-- a fault is noted -/
theorem m_bad {B : Nat → Nat} {n : Nat} {T : Nat × Nat × Nat} {σ : Sg} (h : MSt B n (.inr T) σ) {f : Nat} (h1 : 1 ≤ f) (h3 : f ≤ 3) : ∃ τ, fX11_bad (nI f) σ = some τ ∧ FE [] [(38, 14), (38, 15), (38, 16), (38, 17), (38, 18), (38, 19)] σ τ ∧ MSt B n (.inl (f, T.2.1)) τ ∧ τ.1 38 15 = σ.1 38 15 := by
  obtain ⟨hb, T', hT, rfl, h0⟩ := h
  obtain ⟨hP, e13, e15, e16, e14, e17⟩ := hT
  have h0' : gf σ 38 18 = 0 := h0
  have e16' : gf (sup σ 38 18 (nI f)) 38 16 = nI T.2.1 := by rw [gf_eq, sup_at, if_neg (by decide)]; exact e16
  unfold fX11_bad
  rw [h0', if_pos rfl, e16']
  have fe : FE [] [(38, 18), (38, 19)] σ (sup (sup σ 38 18 (nI f)) 38 19 (nI T.2.1)) := (FE_sup (c := 38) (j := 18) (v := nI f)).trans FE_sup
  refine ⟨_, rfl, fe.up (by decide) (by decide), ⟨hb.fr fe (by decide), T, ⟨hP, ?_, ?_, ?_, ?_, ?_⟩, ?_, h1, h3, ?_⟩, ?_⟩
  · rw [fe 38 13 (by simp) (by simp)]; exact e13
  · rw [fe 38 15 (by simp) (by simp)]; exact e15
  · rw [fe 38 16 (by simp) (by simp)]; exact e16
  · rw [fe 38 14 (by simp) (by simp)]; exact e14
  · rw [fe 38 17 (by simp) (by simp)]; exact e17
  · rw [sup_at, if_neg (by decide), sup_at, if_pos ⟨rfl, rfl⟩]
  · rw [sup_at, if_pos ⟨rfl, rfl⟩]
  · rw [fe 38 15 (by simp) (by simp)]
theorem MSt.f0 {B : Nat → Nat} {n : Nat} {p : Nat × Nat} {σ : Sg} (h : MSt B n (.inl p) σ) : gf σ 38 18 = nI p.1 ∧ 1 ≤ p.1 ∧ p.1 ≤ 3 := by
  obtain ⟨_, T, _, h1, h2, h3, _⟩ := h
  exact ⟨h1, h2, h3⟩
theorem m_must {B : Nat → Nat} {n : Nat} {r : (Nat × Nat) ⊕ (Nat × Nat × Nat)} {σ : Sg} (h : MSt B n r σ) (so : Bool) : ∃ τ, fX11_must (if so = true then 1 else 0) σ = some τ ∧ FE [] [(38, 14), (38, 15), (38, 16), (38, 17), (38, 18), (38, 19)] σ τ ∧ MSt B n (mustR B n so r) τ := by
  cases r with
  | inl p =>
    obtain ⟨e, e1, e3⟩ := h.f0
    refine ⟨σ, ?_, FE.refl _ _ _, h⟩
    unfold fX11_must fX11_must_J9 fX11_bad
    rw [e, if_neg (q0 (by omega)), Option.bind_some, e, if_neg (q0 (by omega))]
    cases so <;> rfl
  | inr T =>
    show ∃ τ, _ ∧ _ ∧ MSt B n (if so = true then .inr (tkn B n T.2.2) else .inl (1, T.2.1)) τ
    unfold fX11_must fX11_must_J9
    cases so with
    | true =>
      obtain ⟨τ, t1, t2, t3⟩ := m_next h
      obtain ⟨hb, T', hT, _, h0⟩ := h
      have h0' : gf σ 38 18 = 0 := h0
      refine ⟨τ, ?_, t2, t3⟩
      rw [if_pos rfl, if_neg one_ne, h0', if_pos rfl, t1]
      rfl
    | false =>
      obtain ⟨τ, t1, t2, t3, _⟩ := m_bad h (f := 1) (by omega) (by omega)
      obtain ⟨e, e1, e3⟩ := t3.f0
      refine ⟨τ, ?_, t2, t3⟩
      have t1' : fX11_bad 1 σ = some τ := t1
      rw [if_pos (show (if false = true then (1 : Int32) else 0) = 0 by decide), t1', Option.bind_some, e, if_neg (q0 (by omega))]
theorem figs {B : Nat → Nat} {n : Nat} {T : Nat × Nat × Nat} {σ : Sg} (hb : BT n B σ) (h : TokM B n T σ) : ∃ v, fX11_figures σ = some v ∧ (T.1 = 2 → v = vI B T.2.1 (T.2.2 - T.2.1)) := by
  obtain ⟨hP, e13, e15, e16, e14, e17⟩ := h
  obtain ⟨p1, p2, p3, p4⟩ := hP
  have hn := hb.1
  have e15' : gf σ 38 15 = nI ((T.1 + 1) % 5) := e15
  have e16' : gf σ 38 16 = nI T.2.1 := e16
  have e17' : gf σ 38 17 = nI T.2.2 := e17
  unfold fX11_figures
  by_cases c : T.1 = 2
  · have hk : (T.1 + 1) % 5 = 3 := by rw [c]
    have lp : lpO (fun w : Int32 × Int32 => fX11_figures_B7 w.1 w.2 σ) FUEL (0, gf σ 38 16) = some (vI B T.2.1 (T.2.2 - T.2.1)) := by
      refine lp_to (fun i => (vI B T.2.1 i, nI (T.2.1 + i))) (T.2.2 - T.2.1) (by omega) ?_ ?_ ?_
      · intro i hi
        obtain ⟨v1, v2, _⟩ := hb.2 (T.2.1 + i) (by omega)
        show fX11_figures_B7 (vI B T.2.1 i) (nI (T.2.1 + i)) σ = some (.inl (vI B T.2.1 i * 10 + nI (B (T.2.1 + i)) - 48, nI (T.2.1 + i + 1)))
        unfold fX11_figures_B7
        rw [e15', e17', hk, if_neg (by rw [nI_leI (by omega) (by omega)]; omega), if_pos (show nI 3 = (3 : Int32) from rfl), gd_t (b400 (by omega)), ga_nI _ _ _ (by omega), v2, nI_1, Int32.mul_comm]
      · show fX11_figures_B7 _ (nI (T.2.1 + (T.2.2 - T.2.1))) σ = _
        unfold fX11_figures_B7
        rw [e17', if_pos (by rw [nI_leI (by omega) (by omega)]; omega)]
      · rw [e16']; rfl
    rw [lp]
    exact ⟨_, rfl, fun _ => rfl⟩
  · have lp : lpO (fun w : Int32 × Int32 => fX11_figures_B7 w.1 w.2 σ) FUEL (0, gf σ 38 16) = some 0 := by
      refine lp_to (fun _ => ((0 : Int32), nI T.2.1)) 0 (by omega) (fun i hi => absurd hi (Nat.not_lt_zero _)) ?_ (by rw [e16'])
      show fX11_figures_B7 0 (nI T.2.1) σ = _
      unfold fX11_figures_B7
      rw [e15', e17']
      by_cases c1 : T.2.2 ≤ T.2.1
      · rw [if_pos (by rw [nI_leI (by omega) (by omega)]; omega)]
      · rw [if_neg (by rw [nI_leI (by omega) (by omega)]; omega), if_neg (q3 (by omega))]
    rw [lp]
    exact ⟨_, rfl, fun z => absurd z c⟩
theorem m_num {B : Nat → Nat} {n : Nat} {r : (Nat × Nat) ⊕ (Nat × Nat × Nat)} {σ : Sg} (h : MSt B n r σ) (lo hi : Int32) : ∃ v τ, fX11_number lo hi σ = some (v, τ) ∧ FE [] [(38, 14), (38, 15), (38, 16), (38, 17), (38, 18), (38, 19)] σ τ ∧ MSt B n (numR B n lo hi r) τ ∧ ∀ T, numR B n lo hi r = .inr T → v = valR B r := by
  cases r with
  | inl p =>
    obtain ⟨e, e1, e3⟩ := h.f0
    refine ⟨0, σ, ?_, FE.refl _ _ _, h, fun T z => by cases z⟩
    unfold fX11_number
    rw [e, if_neg (by rw [show (0 : Int32) = nI 0 from rfl, nI_leI (by omega) (by omega)]; omega)]
  | inr T =>
    have h' := h
    obtain ⟨hb, T', hT, hTT, h0⟩ := h
    subst hTT
    obtain ⟨v, f1, f2⟩ := figs hb hT
    obtain ⟨hP, e13, e15, e16, e14, e17⟩ := hT
    have hk := hP.1
    have h0' : gf σ 38 18 = 0 := h0
    have e15' : gf σ 38 15 = nI ((T.1 + 1) % 5) := e15
    have k3 : nI ((T.1 + 1) % 5) = (3 : Int32) ↔ T.1 = 2 := by
      rw [show (3 : Int32) = nI 3 from rfl, nI_eq (by omega) (by omega)]; omega
    rw [numR_T, valR_T]
    unfold fX11_number fX11_number_J39 fX11_number_J53
    rw [h0', if_pos (by decide), f1, Option.bind_some, e15']
    by_cases c1 : T.1 = 2
    rotate_left
    · rw [if_neg (fun z => c1 (k3.mp z)), if_neg (fun z => c1 (k3.mp z)), if_neg c1]
      obtain ⟨τ, t1, t2, t3⟩ := m_must h' false
      have t1' : fX11_must 0 σ = some τ := t1
      rw [t1']
      refine ⟨v, τ, rfl, t2, ?_, fun T' z => by cases z⟩
      exact t3
    rw [if_pos (k3.mpr c1), if_pos c1, in_spec, Option.bind_some]
    simp only [wide_in]
    rw [← f2 c1]
    by_cases c2 : lo ≤ v ∧ v ≤ hi
    · rw [if_pos c2, if_neg one_ne, if_pos (k3.mpr c1)]
      obtain ⟨τ, t1, t2, t3⟩ := m_must h' true
      have t1' : fX11_must 1 σ = some τ := t1
      rw [t1', if_pos c2]
      exact ⟨v, τ, rfl, t2, t3, fun T' _ => rfl⟩
    · rw [if_neg c2, if_pos rfl]
      obtain ⟨τ, t1, t2, t3, t4⟩ := m_bad h' (f := 2) (by omega) (by omega)
      have t1' : fX11_bad 2 σ = some τ := t1
      have t4' : gf τ 38 15 = nI ((T.1 + 1) % 5) := t4.trans e15
      rw [t1', Option.bind_some, t4', if_pos (k3.mpr c1)]
      obtain ⟨υ, u1, u2, u3⟩ := m_must t3 true
      have u1' : fX11_must 1 τ = some υ := u1
      rw [u1', if_neg c2]
      exact ⟨v, υ, rfl, t2.same u2, u3, fun T' z => by cases z⟩
theorem m_sign {B : Nat → Nat} {n : Nat} {r : (Nat × Nat) ⊕ (Nat × Nat × Nat)} {σ : Sg} (h : MSt B n r σ) : ∃ τ, fX11_mustEnd σ = some τ ∧ FE [] [(38, 14), (38, 15), (38, 16), (38, 17), (38, 18), (38, 19)] σ τ ∧ MSt B n (sgnR B n r) τ := by
  cases r with
  | inl p =>
    obtain ⟨e, e1, e3⟩ := h.f0
    refine ⟨σ, ?_, FE.refl _ _ _, h⟩
    unfold fX11_mustEnd
    rw [e, if_neg (q0 (by omega))]
  | inr T =>
    have h' := h
    obtain ⟨hb, T', hT, hTT, h0⟩ := h
    subst hTT
    obtain ⟨hP, e13, e15, e16, e14, e17⟩ := hT
    have hk := hP.1
    have h0' : gf σ 38 18 = 0 := h0
    have e15' : gf σ 38 15 = nI ((T.1 + 1) % 5) := e15
    have k4 : nI ((T.1 + 1) % 5) = (4 : Int32) ↔ T.1 = 3 := by
      rw [show (4 : Int32) = nI 4 from rfl, nI_eq (by omega) (by omega)]; omega
    show ∃ τ, _ ∧ _ ∧ MSt B n (if T.1 = 3 then .inr (tkn B n T.2.2) else .inl (1, T.2.1)) τ
    unfold fX11_mustEnd fX11_mustEnd_J21
    rw [h0', if_pos rfl, e15']
    by_cases c1 : T.1 = 3
    · rw [if_pos (k4.mpr c1), if_pos c1]
      obtain ⟨τ, t1, t2, t3⟩ := m_must h' true
      have t1' : fX11_must 1 σ = some τ := t1
      rw [t1']
      exact ⟨τ, rfl, t2, t3⟩
    · rw [if_neg (fun z => c1 (k4.mp z)), if_neg c1]
      obtain ⟨τ, t1, t2, t3⟩ := m_must h' false
      have t1' : fX11_must 0 σ = some τ := t1
      rw [t1']
      exact ⟨τ, rfl, t2, t3⟩
