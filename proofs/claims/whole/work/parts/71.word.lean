/-! walk: words -/
def wwd : List (List Nat) := [[108, 97, 119], [115, 112, 101, 97, 107, 101, 114], [121, 97, 114, 110], [118, 111, 119], [111, 97, 116, 104], [100, 101, 98, 116], [108, 105, 101], [104, 111, 112, 101]]
def wwl (K : Nat) : Nat := (wwd.getD K []).length
def wwc (K i : Nat) : Nat := (wwd.getD K []).getD i 0
def isW (B : Nat → Nat) (K : Nat) (T : Nat × Nat × Nat) : Bool := decide (T.1 = 1 ∧ T.2.2 - T.2.1 = wwl K ∧ ∀ i, i < wwl K → B (T.2.1 + i) = wwc K i)
theorem isW_iff (B : Nat → Nat) (K : Nat) (T : Nat × Nat × Nat) : isW B K T = true ↔ T.1 = 1 ∧ T.2.2 - T.2.1 = wwl K ∧ ∀ i, i < wwl K → B (T.2.1 + i) = wwc K i := decide_eq_true_iff
theorem wc_ok : ∀ K, K < 8 → wwl K ≤ 7 ∧ ∀ i, i < wwl K → kch K (nI i) = nI (wwc K i) ∧ 1 ≤ wwc K i ∧ wwc K i < 256 := by decide +kernel
theorem ltr_v : ∀ v, v < 256 → ltr v = true → i2b (nI v) = nI v ∧ 1 ≤ v := by decide +kernel
theorem word_lp {B : Nat → Nat} {n : Nat} {T : Nat × Nat × Nat} {σ : Sg} (hb : BT n B σ) (h : TokC B n T σ) {K : Nat} (hK : K < 8) (h1 : T.1 = 1) (hl : T.2.2 - T.2.1 = wwl K) {f : Int32 × Sg → Option ((Int32 × Sg) ⊕ (Sg ⊕ Sg))} (hf : ∀ i, i ≤ wwl K → f (nI i, σ) = if nI (wwl K) ≤ nI i then some (.inr (.inr σ)) else gd (inb (gf σ 6 3 + nI i) 400) (gd (inb (nI i) (wwl K)) (if ga σ 7 (gf σ 6 3 + nI i) = kch K (nI i) then some (.inl (nI i + 1, σ)) else some (.inr (.inl σ))))) : lpO f FUEL (0, σ) = some (if isW B K T = true then .inr σ else .inl σ) := by
  obtain ⟨hP, e1, e2, e3, e5, _⟩ := h
  obtain ⟨p1, p2, p3, p4⟩ := hP
  have hn := hb.1
  obtain ⟨w7, wk⟩ := wc_ok K hK
  have e3' : gf σ 6 3 = nI T.2.1 := e3
  obtain ⟨L, l1, l2, l3⟩ := first_or (fun j => B (T.2.1 + j) ≠ wwc K j) (wwl K)
  have stp : ∀ i, i < wwl K → f (nI i, σ) = if B (T.2.1 + i) = wwc K i then some (.inl (nI (i + 1), σ)) else some (.inr (.inl σ)) := by
    intro i hi
    obtain ⟨v1, _, v3⟩ := hb.2 (T.2.1 + i) (by omega)
    obtain ⟨k1, k2, k3⟩ := wk i hi
    have lt := ltr_v _ v1 (p4 h1 (T.2.1 + i) (by omega) (by omega))
    rw [hf i (by omega), if_neg (by rw [nI_leI (by omega) (by omega)]; omega), e3', nI_add, gd_t (b400 (by omega)), gd_t (by rw [inb_nI _ _ (by omega)]; exact decide_eq_true hi), ga_nI _ _ _ (by omega), v3, lt.1, k1, nI_1]
    by_cases c : B (T.2.1 + i) = wwc K i
    · rw [if_pos c, if_pos (by rw [c])]
    · rw [if_neg c, if_neg (fun z => c ((nI_eq (by omega) (by omega)).mp z))]
  refine lp_to (fun i => (nI i, σ)) L (by omega) ?_ ?_ rfl
  · intro i hi
    rw [stp i (by omega), if_pos (Classical.byContradiction (l2 i hi))]
  · by_cases c : L = wwl K
    · have : isW B K T = true := (isW_iff B K T).mpr ⟨h1, hl, fun i hi => Classical.byContradiction (l2 i (by omega))⟩
      rw [if_pos this]
      show f (nI L, σ) = _
      rw [hf L l1, c, if_pos (by rw [nI_leI (by omega) (by omega)]; omega)]
    · have ne := l3.resolve_left c
      have : ¬ isW B K T = true := fun z => ne (((isW_iff B K T).mp z).2.2 L (by omega))
      rw [if_neg this]
      show f (nI L, σ) = _
      rw [stp L (by omega), if_neg ne]
theorem isWord_K0 {B : Nat → Nat} {n : Nat} {T : Nat × Nat × Nat} {σ : Sg} (hb : BT n B σ) (h : TokC B n T σ) : fX8_isWord_6_K0 σ = some (if isW B 0 T = true then 1 else 0, σ) := by
  have hl : jshr (Int32.ofNat (klen.getD 0 0)) 0 = nI (wwl 0) := by decide +kernel
  have hk : klen.getD 0 0 = wwl 0 := by decide +kernel
  have h0 := h
  obtain ⟨hP, e1, e2, e3, e5, _⟩ := h
  obtain ⟨p1, p2, p3, p4⟩ := hP
  have hn := hb.1
  have w7 := (wc_ok 0 (by omega)).1
  have e2' : gf σ 6 2 = nI T.1 := e2
  have e3' : gf σ 6 3 = nI T.2.1 := e3
  have e5' : gf σ 6 5 = nI T.2.2 := e5
  unfold fX8_isWord_6_K0 fX8_isWord_6_K0_J24
  rw [e2', e3', e5', hl, pk_sub p2]
  by_cases c1 : T.1 = 1
  · rw [if_pos (show nI T.1 = (1 : Int32) by rw [c1]; rfl)]
    by_cases c2 : T.2.2 - T.2.1 = wwl 0
    · rw [if_pos (by rw [c2])]
      rw [word_lp hb h0 (K := 0) (by omega) c1 c2 (f := fun w => fX8_isWord_6_K0_B28 w.1 w.2) (fun i _ => by
        show fX8_isWord_6_K0_B28 (nI i) σ = _
        unfold fX8_isWord_6_K0_B28
        rw [hl, hk])]
      by_cases c3 : isW B 0 T = true
      · rw [if_pos c3, if_pos c3]; rfl
      · rw [if_neg c3, if_neg c3]; rfl
    · rw [if_neg (fun z => c2 ((nI_eq (by omega) (by omega)).mp z)), if_neg (fun z => c2 ((isW_iff B 0 T).mp z).2.1)]
  · rw [if_neg (q1 c1), if_neg (fun z => c1 ((isW_iff B 0 T).mp z).1)]
theorem isWord_K1 {B : Nat → Nat} {n : Nat} {T : Nat × Nat × Nat} {σ : Sg} (hb : BT n B σ) (h : TokC B n T σ) : fX8_isWord_6_K1 σ = some (if isW B 1 T = true then 1 else 0, σ) := by
  have hl : jshr (Int32.ofNat (klen.getD 1 0)) 0 = nI (wwl 1) := by decide +kernel
  have hk : klen.getD 1 0 = wwl 1 := by decide +kernel
  have h0 := h
  obtain ⟨hP, e1, e2, e3, e5, _⟩ := h
  obtain ⟨p1, p2, p3, p4⟩ := hP
  have hn := hb.1
  have w7 := (wc_ok 1 (by omega)).1
  have e2' : gf σ 6 2 = nI T.1 := e2
  have e3' : gf σ 6 3 = nI T.2.1 := e3
  have e5' : gf σ 6 5 = nI T.2.2 := e5
  unfold fX8_isWord_6_K1 fX8_isWord_6_K1_J24
  rw [e2', e3', e5', hl, pk_sub p2]
  by_cases c1 : T.1 = 1
  · rw [if_pos (show nI T.1 = (1 : Int32) by rw [c1]; rfl)]
    by_cases c2 : T.2.2 - T.2.1 = wwl 1
    · rw [if_pos (by rw [c2])]
      rw [word_lp hb h0 (K := 1) (by omega) c1 c2 (f := fun w => fX8_isWord_6_K1_B28 w.1 w.2) (fun i _ => by
        show fX8_isWord_6_K1_B28 (nI i) σ = _
        unfold fX8_isWord_6_K1_B28
        rw [hl, hk])]
      by_cases c3 : isW B 1 T = true
      · rw [if_pos c3, if_pos c3]; rfl
      · rw [if_neg c3, if_neg c3]; rfl
    · rw [if_neg (fun z => c2 ((nI_eq (by omega) (by omega)).mp z)), if_neg (fun z => c2 ((isW_iff B 1 T).mp z).2.1)]
  · rw [if_neg (q1 c1), if_neg (fun z => c1 ((isW_iff B 1 T).mp z).1)]
theorem isWord_K2 {B : Nat → Nat} {n : Nat} {T : Nat × Nat × Nat} {σ : Sg} (hb : BT n B σ) (h : TokC B n T σ) : fX8_isWord_6_K2 σ = some (if isW B 2 T = true then 1 else 0, σ) := by
  have hl : jshr (Int32.ofNat (klen.getD 2 0)) 0 = nI (wwl 2) := by decide +kernel
  have hk : klen.getD 2 0 = wwl 2 := by decide +kernel
  have h0 := h
  obtain ⟨hP, e1, e2, e3, e5, _⟩ := h
  obtain ⟨p1, p2, p3, p4⟩ := hP
  have hn := hb.1
  have w7 := (wc_ok 2 (by omega)).1
  have e2' : gf σ 6 2 = nI T.1 := e2
  have e3' : gf σ 6 3 = nI T.2.1 := e3
  have e5' : gf σ 6 5 = nI T.2.2 := e5
  unfold fX8_isWord_6_K2 fX8_isWord_6_K2_J24
  rw [e2', e3', e5', hl, pk_sub p2]
  by_cases c1 : T.1 = 1
  · rw [if_pos (show nI T.1 = (1 : Int32) by rw [c1]; rfl)]
    by_cases c2 : T.2.2 - T.2.1 = wwl 2
    · rw [if_pos (by rw [c2])]
      rw [word_lp hb h0 (K := 2) (by omega) c1 c2 (f := fun w => fX8_isWord_6_K2_B28 w.1 w.2) (fun i _ => by
        show fX8_isWord_6_K2_B28 (nI i) σ = _
        unfold fX8_isWord_6_K2_B28
        rw [hl, hk])]
      by_cases c3 : isW B 2 T = true
      · rw [if_pos c3, if_pos c3]; rfl
      · rw [if_neg c3, if_neg c3]; rfl
    · rw [if_neg (fun z => c2 ((nI_eq (by omega) (by omega)).mp z)), if_neg (fun z => c2 ((isW_iff B 2 T).mp z).2.1)]
  · rw [if_neg (q1 c1), if_neg (fun z => c1 ((isW_iff B 2 T).mp z).1)]
theorem isWord_K3 {B : Nat → Nat} {n : Nat} {T : Nat × Nat × Nat} {σ : Sg} (hb : BT n B σ) (h : TokC B n T σ) : fX8_isWord_6_K3 σ = some (if isW B 3 T = true then 1 else 0, σ) := by
  have hl : jshr (Int32.ofNat (klen.getD 3 0)) 0 = nI (wwl 3) := by decide +kernel
  have hk : klen.getD 3 0 = wwl 3 := by decide +kernel
  have h0 := h
  obtain ⟨hP, e1, e2, e3, e5, _⟩ := h
  obtain ⟨p1, p2, p3, p4⟩ := hP
  have hn := hb.1
  have w7 := (wc_ok 3 (by omega)).1
  have e2' : gf σ 6 2 = nI T.1 := e2
  have e3' : gf σ 6 3 = nI T.2.1 := e3
  have e5' : gf σ 6 5 = nI T.2.2 := e5
  unfold fX8_isWord_6_K3 fX8_isWord_6_K3_J24
  rw [e2', e3', e5', hl, pk_sub p2]
  by_cases c1 : T.1 = 1
  · rw [if_pos (show nI T.1 = (1 : Int32) by rw [c1]; rfl)]
    by_cases c2 : T.2.2 - T.2.1 = wwl 3
    · rw [if_pos (by rw [c2])]
      rw [word_lp hb h0 (K := 3) (by omega) c1 c2 (f := fun w => fX8_isWord_6_K3_B28 w.1 w.2) (fun i _ => by
        show fX8_isWord_6_K3_B28 (nI i) σ = _
        unfold fX8_isWord_6_K3_B28
        rw [hl, hk])]
      by_cases c3 : isW B 3 T = true
      · rw [if_pos c3, if_pos c3]; rfl
      · rw [if_neg c3, if_neg c3]; rfl
    · rw [if_neg (fun z => c2 ((nI_eq (by omega) (by omega)).mp z)), if_neg (fun z => c2 ((isW_iff B 3 T).mp z).2.1)]
  · rw [if_neg (q1 c1), if_neg (fun z => c1 ((isW_iff B 3 T).mp z).1)]
theorem isWord_K4 {B : Nat → Nat} {n : Nat} {T : Nat × Nat × Nat} {σ : Sg} (hb : BT n B σ) (h : TokC B n T σ) : fX8_isWord_6_K4 σ = some (if isW B 4 T = true then 1 else 0, σ) := by
  have hl : jshr (Int32.ofNat (klen.getD 4 0)) 0 = nI (wwl 4) := by decide +kernel
  have hk : klen.getD 4 0 = wwl 4 := by decide +kernel
  have h0 := h
  obtain ⟨hP, e1, e2, e3, e5, _⟩ := h
  obtain ⟨p1, p2, p3, p4⟩ := hP
  have hn := hb.1
  have w7 := (wc_ok 4 (by omega)).1
  have e2' : gf σ 6 2 = nI T.1 := e2
  have e3' : gf σ 6 3 = nI T.2.1 := e3
  have e5' : gf σ 6 5 = nI T.2.2 := e5
  unfold fX8_isWord_6_K4 fX8_isWord_6_K4_J24
  rw [e2', e3', e5', hl, pk_sub p2]
  by_cases c1 : T.1 = 1
  · rw [if_pos (show nI T.1 = (1 : Int32) by rw [c1]; rfl)]
    by_cases c2 : T.2.2 - T.2.1 = wwl 4
    · rw [if_pos (by rw [c2])]
      rw [word_lp hb h0 (K := 4) (by omega) c1 c2 (f := fun w => fX8_isWord_6_K4_B28 w.1 w.2) (fun i _ => by
        show fX8_isWord_6_K4_B28 (nI i) σ = _
        unfold fX8_isWord_6_K4_B28
        rw [hl, hk])]
      by_cases c3 : isW B 4 T = true
      · rw [if_pos c3, if_pos c3]; rfl
      · rw [if_neg c3, if_neg c3]; rfl
    · rw [if_neg (fun z => c2 ((nI_eq (by omega) (by omega)).mp z)), if_neg (fun z => c2 ((isW_iff B 4 T).mp z).2.1)]
  · rw [if_neg (q1 c1), if_neg (fun z => c1 ((isW_iff B 4 T).mp z).1)]
theorem isWord_K5 {B : Nat → Nat} {n : Nat} {T : Nat × Nat × Nat} {σ : Sg} (hb : BT n B σ) (h : TokC B n T σ) : fX8_isWord_6_K5 σ = some (if isW B 5 T = true then 1 else 0, σ) := by
  have hl : jshr (Int32.ofNat (klen.getD 5 0)) 0 = nI (wwl 5) := by decide +kernel
  have hk : klen.getD 5 0 = wwl 5 := by decide +kernel
  have h0 := h
  obtain ⟨hP, e1, e2, e3, e5, _⟩ := h
  obtain ⟨p1, p2, p3, p4⟩ := hP
  have hn := hb.1
  have w7 := (wc_ok 5 (by omega)).1
  have e2' : gf σ 6 2 = nI T.1 := e2
  have e3' : gf σ 6 3 = nI T.2.1 := e3
  have e5' : gf σ 6 5 = nI T.2.2 := e5
  unfold fX8_isWord_6_K5 fX8_isWord_6_K5_J24
  rw [e2', e3', e5', hl, pk_sub p2]
  by_cases c1 : T.1 = 1
  · rw [if_pos (show nI T.1 = (1 : Int32) by rw [c1]; rfl)]
    by_cases c2 : T.2.2 - T.2.1 = wwl 5
    · rw [if_pos (by rw [c2])]
      rw [word_lp hb h0 (K := 5) (by omega) c1 c2 (f := fun w => fX8_isWord_6_K5_B28 w.1 w.2) (fun i _ => by
        show fX8_isWord_6_K5_B28 (nI i) σ = _
        unfold fX8_isWord_6_K5_B28
        rw [hl, hk])]
      by_cases c3 : isW B 5 T = true
      · rw [if_pos c3, if_pos c3]; rfl
      · rw [if_neg c3, if_neg c3]; rfl
    · rw [if_neg (fun z => c2 ((nI_eq (by omega) (by omega)).mp z)), if_neg (fun z => c2 ((isW_iff B 5 T).mp z).2.1)]
  · rw [if_neg (q1 c1), if_neg (fun z => c1 ((isW_iff B 5 T).mp z).1)]
theorem isWord_K6 {B : Nat → Nat} {n : Nat} {T : Nat × Nat × Nat} {σ : Sg} (hb : BT n B σ) (h : TokC B n T σ) : fX8_isWord_6_K6 σ = some (if isW B 6 T = true then 1 else 0, σ) := by
  have hl : jshr (Int32.ofNat (klen.getD 6 0)) 0 = nI (wwl 6) := by decide +kernel
  have hk : klen.getD 6 0 = wwl 6 := by decide +kernel
  have h0 := h
  obtain ⟨hP, e1, e2, e3, e5, _⟩ := h
  obtain ⟨p1, p2, p3, p4⟩ := hP
  have hn := hb.1
  have w7 := (wc_ok 6 (by omega)).1
  have e2' : gf σ 6 2 = nI T.1 := e2
  have e3' : gf σ 6 3 = nI T.2.1 := e3
  have e5' : gf σ 6 5 = nI T.2.2 := e5
  unfold fX8_isWord_6_K6 fX8_isWord_6_K6_J24
  rw [e2', e3', e5', hl, pk_sub p2]
  by_cases c1 : T.1 = 1
  · rw [if_pos (show nI T.1 = (1 : Int32) by rw [c1]; rfl)]
    by_cases c2 : T.2.2 - T.2.1 = wwl 6
    · rw [if_pos (by rw [c2])]
      rw [word_lp hb h0 (K := 6) (by omega) c1 c2 (f := fun w => fX8_isWord_6_K6_B28 w.1 w.2) (fun i _ => by
        show fX8_isWord_6_K6_B28 (nI i) σ = _
        unfold fX8_isWord_6_K6_B28
        rw [hl, hk])]
      by_cases c3 : isW B 6 T = true
      · rw [if_pos c3, if_pos c3]; rfl
      · rw [if_neg c3, if_neg c3]; rfl
    · rw [if_neg (fun z => c2 ((nI_eq (by omega) (by omega)).mp z)), if_neg (fun z => c2 ((isW_iff B 6 T).mp z).2.1)]
  · rw [if_neg (q1 c1), if_neg (fun z => c1 ((isW_iff B 6 T).mp z).1)]
theorem isWord_K7 {B : Nat → Nat} {n : Nat} {T : Nat × Nat × Nat} {σ : Sg} (hb : BT n B σ) (h : TokC B n T σ) : fX8_isWord_6_K7 σ = some (if isW B 7 T = true then 1 else 0, σ) := by
  have hl : jshr (Int32.ofNat (klen.getD 7 0)) 0 = nI (wwl 7) := by decide +kernel
  have hk : klen.getD 7 0 = wwl 7 := by decide +kernel
  have h0 := h
  obtain ⟨hP, e1, e2, e3, e5, _⟩ := h
  obtain ⟨p1, p2, p3, p4⟩ := hP
  have hn := hb.1
  have w7 := (wc_ok 7 (by omega)).1
  have e2' : gf σ 6 2 = nI T.1 := e2
  have e3' : gf σ 6 3 = nI T.2.1 := e3
  have e5' : gf σ 6 5 = nI T.2.2 := e5
  unfold fX8_isWord_6_K7 fX8_isWord_6_K7_J24
  rw [e2', e3', e5', hl, pk_sub p2]
  by_cases c1 : T.1 = 1
  · rw [if_pos (show nI T.1 = (1 : Int32) by rw [c1]; rfl)]
    by_cases c2 : T.2.2 - T.2.1 = wwl 7
    · rw [if_pos (by rw [c2])]
      rw [word_lp hb h0 (K := 7) (by omega) c1 c2 (f := fun w => fX8_isWord_6_K7_B28 w.1 w.2) (fun i _ => by
        show fX8_isWord_6_K7_B28 (nI i) σ = _
        unfold fX8_isWord_6_K7_B28
        rw [hl, hk])]
      by_cases c3 : isW B 7 T = true
      · rw [if_pos c3, if_pos c3]; rfl
      · rw [if_neg c3, if_neg c3]; rfl
    · rw [if_neg (fun z => c2 ((nI_eq (by omega) (by omega)).mp z)), if_neg (fun z => c2 ((isW_iff B 7 T).mp z).2.1)]
  · rw [if_neg (q1 c1), if_neg (fun z => c1 ((isW_iff B 7 T).mp z).1)]
/-! names as numbers -/
def nb (B : Nat → Nat) (s : Nat) : Nat → Nat
  | 0 => 0
  | L + 1 => nb B s L * 256 + B (s + L)
theorem nb_lt {B : Nat → Nat} {s : Nat} : ∀ {L : Nat}, (∀ i, i < L → B (s + i) < 256) → nb B s L < 256 ^ L
  | 0, _ => by show 0 < 1; omega
  | L + 1, h => by
    have ih := nb_lt (B := B) (s := s) (L := L) (fun i hi => h i (by omega))
    have := h L (by omega)
    show nb B s L * 256 + B (s + L) < 256 ^ (L + 1)
    rw [Nat.pow_succ]
    omega
theorem nb_eq {B w : Nat → Nat} {s : Nat} : ∀ {L m : Nat}, (∀ i, i < L → 1 ≤ B (s + i) ∧ B (s + i) < 256) → (∀ i, i < m → 1 ≤ w i ∧ w i < 256) → (nb B s L = nb w 0 m ↔ L = m ∧ ∀ i, i < m → B (s + i) = w i)
  | 0, 0, _, _ => ⟨fun _ => ⟨rfl, fun i hi => absurd hi (Nat.not_lt_zero _)⟩, fun _ => rfl⟩
  | 0, m + 1, _, h2 => by
    have := h2 m (by omega)
    constructor
    · intro z
      have z : 0 = nb w 0 m * 256 + w (0 + m) := z
      rw [Nat.zero_add] at z
      omega
    · intro z; omega
  | L + 1, 0, h1, _ => by
    have := h1 L (by omega)
    constructor
    · intro z
      have z : nb B s L * 256 + B (s + L) = 0 := z
      omega
    · intro z; omega
  | L + 1, m + 1, h1, h2 => by
    have a := h1 L (by omega)
    have b := h2 m (by omega)
    have ih := nb_eq (B := B) (w := w) (s := s) (L := L) (m := m) (fun i hi => h1 i (by omega)) (fun i hi => h2 i (by omega))
    constructor
    · intro z
      have z : nb B s L * 256 + B (s + L) = nb w 0 m * 256 + w (0 + m) := z
      rw [Nat.zero_add] at z
      obtain ⟨e1, e2⟩ := ih.mp (by omega)
      subst e1
      refine ⟨rfl, fun i hi => ?_⟩
      by_cases c : i = L
      · subst c; omega
      · exact e2 i (by omega)
    · rintro ⟨e1, e2⟩
      have e1 : L = m := by omega
      subst e1
      have e3 := ih.mpr ⟨rfl, fun i hi => e2 i (by omega)⟩
      show nb B s L * 256 + B (s + L) = nb w 0 L * 256 + w (0 + L)
      rw [Nat.zero_add, e3, e2 L (by omega)]
def nmV (B : Nat → Nat) (T : Nat × Nat × Nat) : Int64 := if T.1 = 1 ∧ T.2.2 - T.2.1 < 8 then lN (nb B T.2.1 (T.2.2 - T.2.1)) else 0
theorem nm_iff {B : Nat → Nat} {n : Nat} {T : Nat × Nat × Nat} {σ : Sg} (hb : BT n B σ) (hP : TokP B n T) {K : Nat} (hK : K < 8) : nmV B T = lN (nb (wwc K) 0 (wwl K)) ↔ isW B K T = true := by
  obtain ⟨p1, p2, p3, p4⟩ := hP
  obtain ⟨w7, wk⟩ := wc_ok K hK
  have c63 : ∀ K, K < 8 → 0 < nb (wwc K) 0 (wwl K) ∧ nb (wwc K) 0 (wwl K) < 2 ^ 63 := by decide +kernel
  obtain ⟨k1, k2⟩ := c63 K hK
  rw [isW_iff]
  unfold nmV
  by_cases c : T.1 = 1 ∧ T.2.2 - T.2.1 < 8
  · have hd : ∀ i, i < T.2.2 - T.2.1 → 1 ≤ B (T.2.1 + i) ∧ B (T.2.1 + i) < 256 := fun i hi => by
      have v1 := (hb.2 (T.2.1 + i) (by omega)).1
      exact ⟨(ltr_v _ v1 (p4 c.1 _ (by omega) (by omega))).2, v1⟩
    have hlt := nb_lt (B := B) (s := T.2.1) (L := T.2.2 - T.2.1) (fun i hi => (hd i hi).2)
    have hpw : 256 ^ (T.2.2 - T.2.1) ≤ 256 ^ 7 := Nat.pow_le_pow_right (by decide) (by omega)
    have h63 : (256 : Nat) ^ 7 < 2 ^ 63 := by decide
    rw [if_pos c, fb_lN_inj (by omega) k2, nb_eq hd (fun i hi => (wk i hi).2)]
    exact ⟨fun z => ⟨c.1, z.1, z.2⟩, fun z => ⟨z.2.1, z.2.2⟩⟩
  · rw [if_neg c]
    constructor
    · intro z
      have z : lN 0 = lN (nb (wwc K) 0 (wwl K)) := z
      rw [fb_lN_inj (by omega) k2] at z
      omega
    · rintro ⟨z1, z2, _⟩
      exact absurd ⟨z1, by omega⟩ c
theorem name_m {B : Nat → Nat} {n : Nat} {T : Nat × Nat × Nat} {σ : Sg} (hb : BT n B σ) (h : TokM B n T σ) : fX11_name σ = some (if σ.1 38 18 = 0 then nmV B T else 0) := by
  obtain ⟨hP, e13, e15, e16, e14, e17⟩ := h
  obtain ⟨p1, p2, p3, p4⟩ := hP
  have hn := hb.1
  have e15' : gf σ 38 15 = nI ((T.1 + 1) % 5) := e15
  have e16' : gf σ 38 16 = nI T.2.1 := e16
  have e17' : gf σ 38 17 = nI T.2.2 := e17
  have hm : (T.1 + 1) % 5 < 5 := Nat.mod_lt _ (by decide)
  have lp : lpO (fun w : Int64 × Int32 => fX11_name_B7 w.1 w.2 σ) FUEL (0, gf σ 38 16) = some (nmV B T) := by
    unfold nmV
    by_cases c : T.1 = 1 ∧ T.2.2 - T.2.1 < 8
    · rw [if_pos c]
      have hk2 : (T.1 + 1) % 5 = 2 := by rw [c.1]
      refine lp_to (fun i => (lN (nb B T.2.1 i), nI (T.2.1 + i))) (T.2.2 - T.2.1) (by omega) ?_ ?_ ?_
      · intro i hi
        obtain ⟨v1, v2, _⟩ := hb.2 (T.2.1 + i) (by omega)
        show fX11_name_B7 (lN (nb B T.2.1 i)) (nI (T.2.1 + i)) σ = some (.inl (lN (nb B T.2.1 i * 256 + B (T.2.1 + i)), nI (T.2.1 + i + 1)))
        unfold fX11_name_B7
        rw [e15', e16', e17', hk2, if_neg (by rw [nI_leI (by omega) (by omega)]; omega), if_pos (show nI 2 = (2 : Int32) from rfl), pk_sub p2, if_neg (by rw [show (8 : Int32) = nI 8 from rfl, nI_leI (by omega) (by omega)]; omega), gd_t (b400 (by omega)), ga_nI _ _ _ (by omega), v2, nI_l (by omega), nI_1]
        have es : jlshl (lN (nb B T.2.1 i)) 8 = lN (2 ^ 8 * nb B T.2.1 i) := by
          rw [Nat.mul_comm]
          exact wb_shl (nb B T.2.1 i) (k := 8) (by decide)
        rw [es, fb_or_sumL _ (show B (T.2.1 + i) < 2 ^ 8 by omega), show 2 ^ 8 * nb B T.2.1 i = nb B T.2.1 i * 256 by omega]
      · show fX11_name_B7 (lN (nb B T.2.1 (T.2.2 - T.2.1))) (nI (T.2.1 + (T.2.2 - T.2.1))) σ = _
        unfold fX11_name_B7
        rw [e17', if_pos (by rw [nI_leI (by omega) (by omega)]; omega)]
      · rw [e16']; rfl
    · rw [if_neg c]
      refine lp_to (fun _ => ((0 : Int64), nI T.2.1)) 0 (by omega) (fun i hi => absurd hi (Nat.not_lt_zero _)) ?_ (by rw [e16'])
      show fX11_name_B7 0 (nI T.2.1) σ = _
      unfold fX11_name_B7
      rw [e15', e16', e17']
      by_cases c1 : T.2.2 ≤ T.2.1
      · rw [if_pos (by rw [nI_leI (by omega) (by omega)]; omega)]
      · rw [if_neg (by rw [nI_leI (by omega) (by omega)]; omega), pk_sub p2]
        by_cases c2 : T.1 = 1
        · rw [if_pos (show nI ((T.1 + 1) % 5) = (2 : Int32) by rw [c2]; rfl), if_pos (by rw [show (8 : Int32) = nI 8 from rfl, nI_leI (by omega) (by omega)]; omega)]
        · rw [if_neg (q2 (by omega))]
  unfold fX11_name
  rw [lp, Option.bind_some, gf_eq]
  by_cases c : σ.1 38 18 = 0
  · rw [if_pos c, if_pos c]
  · rw [if_neg c, if_neg c]
/-- the sort that a word tells; 0: none -/
def kd (B : Nat → Nat) (T : Nat × Nat × Nat) : Nat := if isW B 3 T = true then 1 else if isW B 4 T = true then 2 else if isW B 5 T = true then 3 else if isW B 6 T = true then 4 else if isW B 7 T = true then 5 else 0
theorem kd_le (B : Nat → Nat) (T : Nat × Nat × Nat) : kd B T ≤ 5 := by
  unfold kd
  split
  · omega
  · split
    · omega
    · split
      · omega
      · split
        · omega
        · split <;> omega
theorem kindBy_m {B : Nat → Nat} {n : Nat} {T : Nat × Nat × Nat} {σ : Sg} (hb : BT n B σ) (hP : TokP B n T) (τ : Sg) : fX11_kindBy (nmV B T) τ = some (if kd B T = 0 then -1000000 else nI (kd B T)) := by
  have n3 := nm_iff hb hP (K := 3) (by omega)
  have n4 := nm_iff hb hP (K := 4) (by omega)
  have n5 := nm_iff hb hP (K := 5) (by omega)
  have n6 := nm_iff hb hP (K := 6) (by omega)
  have n7 := nm_iff hb hP (K := 7) (by omega)
  rw [show lN (nb (wwc 3) 0 (wwl 3)) = (7761783 : Int64) by decide +kernel] at n3
  rw [show lN (nb (wwc 4) 0 (wwl 4)) = (1868657768 : Int64) by decide +kernel] at n4
  rw [show lN (nb (wwc 5) 0 (wwl 5)) = (1684365940 : Int64) by decide +kernel] at n5
  rw [show lN (nb (wwc 6) 0 (wwl 6)) = (7104869 : Int64) by decide +kernel] at n6
  rw [show lN (nb (wwc 7) 0 (wwl 7)) = (1752133733 : Int64) by decide +kernel] at n7
  unfold fX11_kindBy kd
  simp only [lg_cmp_eq, n3, n4, n6, n7, n5]
  by_cases c3 : isW B 3 T = true
  · simp only [c3, if_true]; rfl
  by_cases c4 : isW B 4 T = true
  · simp only [c3, c4, if_true, if_false]; rfl
  by_cases c5 : isW B 5 T = true
  · have x6 : ¬ isW B 6 T = true := fun z => by
      have := (n5.mpr c5).symm.trans (n6.mpr z)
      exact absurd this (by decide)
    have x7 : ¬ isW B 7 T = true := fun z => by
      have := (n5.mpr c5).symm.trans (n7.mpr z)
      exact absurd this (by decide)
    simp only [c3, c4, c5, x6, x7, if_true, if_false]; rfl
  by_cases c6 : isW B 6 T = true
  · simp only [c3, c4, c5, c6, if_true, if_false]; rfl
  by_cases c7 : isW B 7 T = true
  · simp only [c3, c4, c5, c6, c7, if_true, if_false]; rfl
  simp only [c3, c4, c5, c6, c7, if_false, if_true]; rfl
