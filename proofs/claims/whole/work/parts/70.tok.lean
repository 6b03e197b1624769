/-! walk: bytes and tokens in Nats -/
def ltr (v : Nat) : Bool := decide (97 ≤ v ∧ v ≤ 122)
def fig (v : Nat) : Bool := decide (48 ≤ v ∧ v ≤ 57)
def blk (v : Nat) : Bool := decide (v = 32 ∨ v = 10)
def rn (B : Nat → Nat) (p : Nat → Bool) : Nat → Nat → Nat
  | 0, a => a
  | r + 1, a => if p (B a) = true then rn B p r (a + 1) else a
theorem rn_ge (B : Nat → Nat) (p : Nat → Bool) : ∀ r a, a ≤ rn B p r a
  | 0, a => Nat.le_refl _
  | r + 1, a => by
    have := rn_ge B p r (a + 1)
    show a ≤ if p (B a) = true then rn B p r (a + 1) else a
    split <;> omega
theorem rn_le (B : Nat → Nat) (p : Nat → Bool) : ∀ r a, rn B p r a ≤ a + r
  | 0, a => Nat.le_refl _
  | r + 1, a => by
    have := rn_le B p r (a + 1)
    show (if p (B a) = true then rn B p r (a + 1) else a) ≤ _
    split <;> omega
theorem rn_in (B : Nat → Nat) (p : Nat → Bool) : ∀ r a i, a ≤ i → i < rn B p r a → p (B i) = true
  | 0, a, i, h1, h2 => by
    have h2 : i < a := h2
    omega
  | r + 1, a, i, h1, h2 => by
    have h2 : i < if p (B a) = true then rn B p r (a + 1) else a := h2
    by_cases c : p (B a) = true
    · rw [if_pos c] at h2
      by_cases e : i = a
      · rw [e]; exact c
      · exact rn_in B p r (a + 1) i (by omega) h2
    · rw [if_neg c] at h2; omega
/-- a loop that goes on along bytes -/
theorem scan {f : Sg → Option (Sg ⊕ Sg)} {σ : Sg} (c j : Nat) (p : Nat → Bool) {B : Nat → Nat} {n : Nat} (hs : ∀ a τ, a < n → FE [] [(c, j)] σ τ → τ.1 c j = nI a → f τ = if p (B a) = true then some (.inl (sup τ c j (nI (a + 1)))) else some (.inr τ)) (he : ∀ τ, FE [] [(c, j)] σ τ → τ.1 c j = nI n → f τ = some (.inr τ)) : ∀ r a m τ, a + r = n → r < m → FE [] [(c, j)] σ τ → τ.1 c j = nI a → ∃ υ, lpO f m τ = some υ ∧ FE [] [(c, j)] σ υ ∧ υ.1 c j = nI (rn B p r a)
  | 0, a, m, τ, hn, hm, hf, ha => by
    obtain ⟨m, rfl⟩ : ∃ k, m = k + 1 := ⟨m - 1, by omega⟩
    refine ⟨τ, ?_, hf, ha⟩
    show (f τ).bind _ = _
    rw [he τ hf (by rw [ha, show a = n by omega])]
    rfl
  | r + 1, a, m, τ, hn, hm, hf, ha => by
    obtain ⟨m, rfl⟩ : ∃ k, m = k + 1 := ⟨m - 1, by omega⟩
    have h1 := hs a τ (by omega) hf ha
    show ∃ υ, (f τ).bind _ = some υ ∧ FE [] [(c, j)] σ υ ∧ υ.1 c j = nI (if p (B a) = true then rn B p r (a + 1) else a)
    by_cases c1 : p (B a) = true
    · rw [if_pos c1] at h1
      rw [h1, if_pos c1]
      exact scan c j p hs he r (a + 1) m _ (by omega) (by omega) (hf.same FE_sup) (by rw [sup_at, if_pos ⟨rfl, rfl⟩])
    · rw [if_neg c1] at h1
      rw [h1, if_neg c1]
      exact ⟨τ, rfl, hf, ha⟩
/-- the bytes of both sides -/
def BT (n : Nat) (B : Nat → Nat) (σ : Sg) : Prop := n ≤ 400 ∧ ∀ j, j < n → B j < 256 ∧ σ.1 45 j = nI (B j) ∧ σ.1 7 j = i2b (nI (B j))
theorem BT.fr {n : Nat} {B : Nat → Nat} {ms : List Nat} {es : List (Nat × Nat)} {σ τ : Sg} (h : BT n B σ) (f : FE ms es σ τ) (hf : ffr [7, 45] [] ms es = true) : BT n B τ := by
  unfold BT
  rw [ffr_c f hf (d := 7) (by decide), ffr_c f hf (d := 45) (by decide)]
  exact h
/-! bytes, one by one -/
theorem cblk {v : Nat} (hv : v < 256) (σ : Sg) : fX8_isBlank (i2b (nI v)) σ = some (if blk v = true then 1 else 0) := by
  have key : ∀ v, v < 256 → (if i2b (nI v) = 32 then (1 : Int32) else if i2b (nI v) = 10 then 1 else 0) = if blk v = true then 1 else 0 := by decide +kernel
  unfold fX8_isBlank fX8_isBlank_J12
  rw [← key v hv]
  split
  · rfl
  · split <;> rfl
theorem cltr {v : Nat} (hv : v < 256) (σ : Sg) : fX8_isLetter (i2b (nI v)) σ = some (if ltr v = true then 1 else 0) := by
  have key : ∀ v, v < 256 → (if i2b (nI v) < 97 then (0 : Int32) else if (122 : Int32) < i2b (nI v) then 0 else 1) = if ltr v = true then 1 else 0 := by decide +kernel
  unfold fX8_isLetter fX8_isLetter_J16
  rw [← key v hv]
  split
  · rfl
  · split <;> rfl
theorem cfig {v : Nat} (hv : v < 256) (σ : Sg) : fX8_isFigure (i2b (nI v)) σ = some (if fig v = true then 1 else 0) := by
  have key : ∀ v, v < 256 → (if i2b (nI v) < 48 then (0 : Int32) else if (57 : Int32) < i2b (nI v) then 0 else 1) = if fig v = true then 1 else 0 := by decide +kernel
  unfold fX8_isFigure fX8_isFigure_J16
  rw [← key v hv]
  split
  · rfl
  · split <;> rfl
theorem c59 : ∀ v, v < 256 → (i2b (nI v) = 59 ↔ v = 59) := by decide +kernel
theorem cfgv : ∀ v, v < 256 → fig v = true → i2b (nI v) = nI v := by decide +kernel
theorem mltr {v : Nat} (hv : v < 256) (σ : Sg) : fX11_isLetter (nI v) σ = some (if ltr v = true then 1 else 0) := by
  have key : ∀ v, v < 256 → (if nI v < 97 then (0 : Int32) else if (122 : Int32) < nI v then 0 else 1) = if ltr v = true then 1 else 0 := by decide +kernel
  unfold fX11_isLetter fX11_isLetter_J16
  rw [← key v hv]
  split
  · rfl
  · split <;> rfl
theorem mfig {v : Nat} (hv : v < 256) (σ : Sg) : fX11_isFigure (nI v) σ = some (if fig v = true then 1 else 0) := by
  have key : ∀ v, v < 256 → (if nI v < 48 then (0 : Int32) else if (57 : Int32) < nI v then 0 else 1) = if fig v = true then 1 else 0 := by decide +kernel
  unfold fX11_isFigure fX11_isFigure_J16
  rw [← key v hv]
  split
  · rfl
  · split <;> rfl
theorem mblk : ∀ v, v < 256 → (blk v = true ↔ nI v = 32 ∨ nI v = 10) := by decide +kernel
theorem m59 : ∀ v, v < 256 → (nI v = 59 ↔ v = 59) := by decide +kernel
/-! tokens: kind (0 end, 1 name, 2 number, 3 sign, 4 none), first byte, end -/
def tkn (B : Nat → Nat) (n a : Nat) : Nat × Nat × Nat :=
  if n ≤ rn B blk (n - a) a then (0, rn B blk (n - a) a, rn B blk (n - a) a)
  else if ltr (B (rn B blk (n - a) a)) = true then (1, rn B blk (n - a) a, rn B ltr (n - rn B blk (n - a) a) (rn B blk (n - a) a))
  else if fig (B (rn B blk (n - a) a)) = true then (if rn B fig (n - rn B blk (n - a) a) (rn B blk (n - a) a) - rn B blk (n - a) a ≤ 3 then 2 else 4, rn B blk (n - a) a, rn B fig (n - rn B blk (n - a) a) (rn B blk (n - a) a))
  else (if B (rn B blk (n - a) a) = 59 then 3 else 4, rn B blk (n - a) a, rn B blk (n - a) a + 1)
def vI (B : Nat → Nat) (s : Nat) : Nat → Int32
  | 0 => 0
  | i + 1 => vI B s i * 10 + nI (B (s + i)) - 48
def TokP (B : Nat → Nat) (n : Nat) (T : Nat × Nat × Nat) : Prop := T.1 ≤ 4 ∧ T.2.1 ≤ T.2.2 ∧ T.2.2 ≤ n ∧ (T.1 = 1 → ∀ i, T.2.1 ≤ i → i < T.2.2 → ltr (B i) = true)
theorem tkn_ok (B : Nat → Nat) {n a : Nat} (ha : a ≤ n) : TokP B n (tkn B n a) := by
  unfold tkn
  have h1 := rn_ge B blk (n - a) a
  have h2 := rn_le B blk (n - a) a
  generalize rn B blk (n - a) a = s at h1 h2
  by_cases c1 : n ≤ s
  · rw [if_pos c1]
    exact ⟨Nat.zero_le _, Nat.le_refl _, by show s ≤ n; omega, fun z => absurd z (by show ¬ (0 : Nat) = 1; omega)⟩
  rw [if_neg c1]
  by_cases c2 : ltr (B s) = true
  · rw [if_pos c2]
    have h3 := rn_ge B ltr (n - s) s
    have h4 := rn_le B ltr (n - s) s
    exact ⟨by show 1 ≤ 4; omega, h3, by show rn B ltr (n - s) s ≤ n; omega, fun _ i i1 i2 => rn_in B ltr (n - s) s i i1 i2⟩
  rw [if_neg c2]
  by_cases c3 : fig (B s) = true
  · rw [if_pos c3]
    have h3 := rn_ge B fig (n - s) s
    have h4 := rn_le B fig (n - s) s
    refine ⟨?_, h3, by show rn B fig (n - s) s ≤ n; omega, fun z => ?_⟩
    · dsimp only; split <;> omega
    · dsimp only at z
      split at z <;> omega
  · rw [if_neg c3]
    refine ⟨?_, by show s ≤ s + 1; omega, by show s + 1 ≤ n; omega, fun z => ?_⟩
    · dsimp only; split <;> omega
    · dsimp only at z
      split at z <;> omega
def TokC (B : Nat → Nat) (n : Nat) (T : Nat × Nat × Nat) (σ : Sg) : Prop := TokP B n T ∧ σ.1 6 1 = nI n ∧ σ.1 6 2 = nI T.1 ∧ σ.1 6 3 = nI T.2.1 ∧ σ.1 6 5 = nI T.2.2 ∧ (T.1 = 2 → σ.1 6 4 = vI B T.2.1 (T.2.2 - T.2.1))
def TokM (B : Nat → Nat) (n : Nat) (T : Nat × Nat × Nat) (σ : Sg) : Prop := TokP B n T ∧ σ.1 38 13 = nI n ∧ σ.1 38 15 = nI ((T.1 + 1) % 5) ∧ σ.1 38 16 = nI T.2.1 ∧ σ.1 38 14 = nI T.2.2 ∧ σ.1 38 17 = nI T.2.2
/-! the class's next token -/
theorem cskip {B : Nat → Nat} {n a : Nat} {σ : Sg} (hb : BT n B σ) (h1 : σ.1 6 1 = nI n) (h5 : σ.1 6 5 = nI a) (ha : a ≤ n) : ∃ τ, lpO (fun w => fX8_next_B0 w) FUEL σ = some τ ∧ FE [] [(6, 5)] σ τ ∧ τ.1 6 5 = nI (rn B blk (n - a) a) := by
  have hn := hb.1
  refine scan (n := n) 6 5 blk ?_ ?_ (n - a) a FUEL σ (by omega) (by show n - a < 100000; omega) (FE.refl _ _ _) h5
  · intro i τ hi hf e5
    obtain ⟨v1, _, v3⟩ := hb.2 i hi
    have e1 : gf τ 6 1 = nI n := (hf 6 1 (by simp) (by simp)).trans h1
    have e7 : ga τ 7 (nI i) = i2b (nI (B i)) := by rw [ga_nI _ _ _ (by omega), hf 7 i (by simp) (by simp)]; exact v3
    have e5' : gf τ 6 5 = nI i := e5
    unfold fX8_next_B0
    rw [e1, e5', if_neg (by rw [nI_leI (by omega) (by omega)]; omega), gd_t (b400 (by omega)), e7, cblk v1, Option.bind_some, nI_1]
    by_cases c : blk (B i) = true
    · rw [if_pos c, if_pos c, if_neg one_ne]
    · rw [if_neg c, if_neg c, if_pos rfl]
  · intro τ hf e5
    have e1 : gf τ 6 1 = nI n := (hf 6 1 (by simp) (by simp)).trans h1
    have e5' : gf τ 6 5 = nI n := e5
    unfold fX8_next_B0
    rw [e1, e5', if_pos (by rw [nI_leI (by omega) (by omega)]; omega)]
theorem cname {B : Nat → Nat} {n a : Nat} {σ : Sg} (hb : BT n B σ) (h1 : σ.1 6 1 = nI n) (h5 : σ.1 6 5 = nI a) (ha : a ≤ n) : ∃ τ, lpO (fun w => fX8_takeName_B5 w) FUEL σ = some τ ∧ FE [] [(6, 5)] σ τ ∧ τ.1 6 5 = nI (rn B ltr (n - a) a) := by
  have hn := hb.1
  refine scan (n := n) 6 5 ltr ?_ ?_ (n - a) a FUEL σ (by omega) (by show n - a < 100000; omega) (FE.refl _ _ _) h5
  · intro i τ hi hf e5
    obtain ⟨v1, _, v3⟩ := hb.2 i hi
    have e1 : gf τ 6 1 = nI n := (hf 6 1 (by simp) (by simp)).trans h1
    have e7 : ga τ 7 (nI i) = i2b (nI (B i)) := by rw [ga_nI _ _ _ (by omega), hf 7 i (by simp) (by simp)]; exact v3
    have e5' : gf τ 6 5 = nI i := e5
    unfold fX8_takeName_B5
    rw [e1, e5', if_neg (by rw [nI_leI (by omega) (by omega)]; omega), gd_t (b400 (by omega)), e7, cltr v1, Option.bind_some, nI_1]
    by_cases c : ltr (B i) = true
    · rw [if_pos c, if_pos c, if_neg one_ne]
    · rw [if_neg c, if_neg c, if_pos rfl]
  · intro τ hf e5
    have e1 : gf τ 6 1 = nI n := (hf 6 1 (by simp) (by simp)).trans h1
    have e5' : gf τ 6 5 = nI n := e5
    unfold fX8_takeName_B5
    rw [e1, e5', if_pos (by rw [nI_leI (by omega) (by omega)]; omega)]
theorem cnum {B : Nat → Nat} {n s : Nat} {σ : Sg} (hb : BT n B σ) (h1 : σ.1 6 1 = nI n) : ∀ r a m τ, a + r = n → r < m → s ≤ a → FE [] [(6, 4), (6, 5)] σ τ → τ.1 6 5 = nI a → τ.1 6 4 = vI B s (a - s) → ∃ υ, lpO (fun w => fX8_takeNumber_B5 w) m τ = some υ ∧ FE [] [(6, 4), (6, 5)] σ υ ∧ υ.1 6 5 = nI (rn B fig r a) ∧ υ.1 6 4 = vI B s (rn B fig r a - s)
  | 0, a, m, τ, hr, hm, hs, hf, e5, e4 => by
    obtain ⟨m, rfl⟩ : ∃ k, m = k + 1 := ⟨m - 1, by omega⟩
    have hn := hb.1
    refine ⟨τ, ?_, hf, e5, e4⟩
    have e1 : gf τ 6 1 = nI n := (hf 6 1 (by simp) (by simp)).trans h1
    have e5' : gf τ 6 5 = nI a := e5
    show (fX8_takeNumber_B5 τ).bind _ = _
    unfold fX8_takeNumber_B5
    rw [e1, e5', if_pos (by rw [nI_leI (by omega) (by omega)]; omega)]
    rfl
  | r + 1, a, m, τ, hr, hm, hs, hf, e5, e4 => by
    obtain ⟨m, rfl⟩ : ∃ k, m = k + 1 := ⟨m - 1, by omega⟩
    have hn := hb.1
    obtain ⟨v1, _, v3⟩ := hb.2 a (by omega)
    have e1 : gf τ 6 1 = nI n := (hf 6 1 (by simp) (by simp)).trans h1
    have e7 : ga τ 7 (nI a) = i2b (nI (B a)) := by rw [ga_nI _ _ _ (by omega), hf 7 a (by simp) (by simp)]; exact v3
    have e5' : gf τ 6 5 = nI a := e5
    have e4' : gf τ 6 4 = vI B s (a - s) := e4
    have st : fX8_takeNumber_B5 τ = if fig (B a) = true then some (.inl (sup (sup τ 6 4 (vI B s (a + 1 - s))) 6 5 (nI (a + 1)))) else some (.inr τ) := by
      unfold fX8_takeNumber_B5
      rw [e1, e5', if_neg (by rw [nI_leI (by omega) (by omega)]; omega), gd_t (b400 (by omega)), e7, cfig v1, Option.bind_some, gd_t (b400 (by omega)), e4']
      by_cases c : fig (B a) = true
      · rw [if_pos c, if_pos c, if_neg one_ne, cfgv _ v1 c]
        have ev : vI B s (a + 1 - s) = vI B s (a - s) * 10 + nI (B a) - 48 := by
          rw [show a + 1 - s = a - s + 1 by omega]
          show vI B s (a - s) * 10 + nI (B (s + (a - s))) - 48 = _
          rw [show s + (a - s) = a by omega]
        have e5'' : ∀ v, gf (sup τ 6 4 v) 6 5 = nI a := fun v => by rw [gf_eq, sup_at, if_neg (by decide)]; exact e5
        rw [e5'', nI_1, ev]
      · rw [if_neg c, if_neg c, if_pos rfl]
    show ∃ υ : Sg, (fX8_takeNumber_B5 τ).bind _ = some υ ∧ FE [] [(6, 4), (6, 5)] σ υ ∧ υ.1 6 5 = nI (if fig (B a) = true then rn B fig r (a + 1) else a) ∧ υ.1 6 4 = vI B s ((if fig (B a) = true then rn B fig r (a + 1) else a) - s)
    rw [st]
    by_cases c : fig (B a) = true
    · rw [if_pos c, if_pos c]
      exact cnum hb h1 r (a + 1) m _ (by omega) (by omega) (by omega) (hf.same (((FE_sup (c := 6) (j := 4) (v := vI B s (a + 1 - s))).trans FE_sup).up (by decide) (by decide))) (by rw [sup_at, if_pos ⟨rfl, rfl⟩]) (by rw [sup_at, if_neg (by decide), sup_at, if_pos ⟨rfl, rfl⟩])
    · rw [if_neg c, if_neg c]
      exact ⟨τ, rfl, hf, e5, e4⟩
theorem next_c {B : Nat → Nat} {n a : Nat} {σ : Sg} (hb : BT n B σ) (h1 : σ.1 6 1 = nI n) (h5 : σ.1 6 5 = nI a) (ha : a ≤ n) : ∃ τ, fX8_next σ = some τ ∧ FE [] [(6, 2), (6, 3), (6, 4), (6, 5)] σ τ ∧ TokC B n (tkn B n a) τ := by
  have hn := hb.1
  have hP := tkn_ok B ha
  have g1 := rn_ge B blk (n - a) a
  have g2 := rn_le B blk (n - a) a
  unfold fX8_next
  obtain ⟨μ, m1, m2, m3⟩ := cskip hb h1 h5 ha
  rw [m1, Option.bind_some]
  unfold tkn at hP ⊢
  generalize rn B blk (n - a) a = s at m3 hP g1 g2
  have m3' : gf μ 6 5 = nI s := m3
  have hr : ∃ ρ, sup μ 6 3 (gf μ 6 5) = ρ ∧ FE [] [(6, 3), (6, 5)] σ ρ ∧ ρ.1 6 5 = nI s ∧ ρ.1 6 3 = nI s := ⟨_, rfl, (m2.trans FE_sup).up (by decide) (by decide), by rw [sup_at, if_neg (by decide)]; exact m3, by rw [sup_at, if_pos ⟨rfl, rfl⟩]; exact m3'⟩
  obtain ⟨ρ, er, f3, r5, r3⟩ := hr
  rw [er]
  have r1 : ρ.1 6 1 = nI n := (f3 6 1 (by simp) (by simp)).trans h1
  have r5' : gf ρ 6 5 = nI s := r5
  have r1' : gf ρ 6 1 = nI n := r1
  have hbρ : BT n B ρ := hb.fr f3 (by decide)
  rw [r5', r1']
  by_cases c1 : n ≤ s
  · rw [if_pos c1] at hP ⊢
    rw [if_neg (by rw [nI_ltI (by omega) (by omega)]; omega)]
    refine ⟨_, rfl, (f3.trans FE_sup).up (by decide) (by decide), hP, ?_, ?_, ?_, ?_, fun z => absurd z (by show ¬ (0 : Nat) = 2; omega)⟩
    · rw [sup_at, if_neg (by decide)]; exact r1
    · rw [sup_at, if_pos ⟨rfl, rfl⟩]; rfl
    · rw [sup_at, if_neg (by decide)]; exact r3
    · rw [sup_at, if_neg (by decide)]; exact r5
  rw [if_neg c1] at hP ⊢
  obtain ⟨v1, _, v3⟩ := hbρ.2 s (by omega)
  have r7 : ga ρ 7 (nI s) = i2b (nI (B s)) := by rw [ga_nI _ _ _ (by omega)]; exact v3
  rw [if_pos (by rw [nI_ltI (by omega) (by omega)]; omega), gd_t (b400 (by omega)), r7, cltr v1, Option.bind_some]
  by_cases c2 : ltr (B s) = true
  · rw [if_pos c2] at hP ⊢
    rw [if_pos c2, if_neg one_ne]
    unfold fX8_takeName
    obtain ⟨κ, k1, k2, k3⟩ := cname (σ := sup ρ 6 2 1) (hbρ.fr FE_sup (by decide)) (by rw [sup_at, if_neg (by decide)]; exact r1) (by rw [sup_at, if_neg (by decide)]; exact r5) (by omega)
    rw [k1, Option.bind_some, Option.bind_some]
    refine ⟨κ, rfl, ((f3.trans (FE_sup (c := 6) (j := 2) (v := 1))).trans k2).up (by decide) (by decide), hP, ?_, ?_, ?_, k3, fun z => absurd z (by show ¬ (1 : Nat) = 2; omega)⟩
    · rw [k2 6 1 (by simp) (by simp), sup_at, if_neg (by decide)]; exact r1
    · rw [k2 6 2 (by simp) (by simp), sup_at, if_pos ⟨rfl, rfl⟩]; rfl
    · rw [k2 6 3 (by simp) (by simp), sup_at, if_neg (by decide)]; exact r3
  rw [if_neg c2] at hP ⊢
  rw [if_neg c2, if_pos rfl, gd_t (b400 (by omega)), cfig v1, Option.bind_some]
  by_cases c3 : fig (B s) = true
  · rw [if_pos c3] at hP ⊢
    rw [if_pos c3, if_neg one_ne]
    unfold fX8_takeNumber fX8_takeNumber_J87
    obtain ⟨κ, k1, k2, k3, k4⟩ := cnum (s := s) (σ := sup ρ 6 4 0) (hbρ.fr FE_sup (by decide)) (by rw [sup_at, if_neg (by decide)]; exact r1) (n - s) s FUEL (sup ρ 6 4 0) (by omega) (by show n - s < 100000; omega) (Nat.le_refl _) (FE.refl _ _ _) (by rw [sup_at, if_neg (by decide)]; exact r5) (by rw [sup_at, if_pos ⟨rfl, rfl⟩, Nat.sub_self]; rfl)
    have q1 := rn_ge B fig (n - s) s
    have q2' := rn_le B fig (n - s) s
    generalize rn B fig (n - s) s = e at k3 k4 hP q1 q2'
    have k5 : gf κ 6 5 = nI e := k3
    have k6 : gf κ 6 3 = nI s := by rw [gf_eq, k2 6 3 (by simp) (by simp), sup_at, if_neg (by decide)]; exact r3
    have k7 : κ.1 6 1 = nI n := by rw [k2 6 1 (by simp) (by simp), sup_at, if_neg (by decide)]; exact r1
    rw [k1, Option.bind_some, k5, k6, pk_sub q1, show (3 : Int32) = nI 3 from rfl]
    have fκ : FE [] [(6, 2), (6, 3), (6, 4), (6, 5)] σ κ := ((f3.trans (FE_sup (c := 6) (j := 4) (v := 0))).trans k2).up (by decide) (by decide)
    have fin : ∀ t : Nat, t = (if e - s ≤ 3 then 2 else 4) → (some (sup κ 6 2 (nI t))).bind (fun q18 => some q18) = some (sup κ 6 2 (nI t)) ∧ FE [] [(6, 2), (6, 3), (6, 4), (6, 5)] σ (sup κ 6 2 (nI t)) ∧ TokC B n (if e - s ≤ 3 then 2 else 4, s, e) (sup κ 6 2 (nI t)) := by
      intro t ht
      refine ⟨rfl, fκ.same (FE_sup.up (by decide) (by decide)), hP, ?_, ?_, ?_, ?_, fun _ => ?_⟩
      · rw [sup_at, if_neg (by decide)]; exact k7
      · rw [sup_at, if_pos ⟨rfl, rfl⟩, ht]
      · rw [sup_at, if_neg (by decide)]; exact k6
      · rw [sup_at, if_neg (by decide)]; exact k3
      · rw [sup_at, if_neg (by decide)]; exact k4
    by_cases c4 : e - s ≤ 3
    · rw [if_neg (by rw [nI_ltI (by omega) (by omega)]; omega)]
      exact ⟨_, fin 2 (by rw [if_pos c4])⟩
    · rw [if_pos (by rw [nI_ltI (by omega) (by omega)]; omega)]
      exact ⟨_, fin 4 (by rw [if_neg c4])⟩
  rw [if_neg c3] at hP ⊢
  rw [if_neg c3, if_pos rfl, gd_t (b400 (by omega))]
  unfold fX8_next_J130
  have fin : ∀ t : Nat, t = (if B s = 59 then 3 else 4) → FE [] [(6, 2), (6, 3), (6, 4), (6, 5)] σ (sup (sup ρ 6 2 (nI t)) 6 5 (gf (sup ρ 6 2 (nI t)) 6 5 + 1)) ∧ TokC B n (if B s = 59 then 3 else 4, s, s + 1) (sup (sup ρ 6 2 (nI t)) 6 5 (gf (sup ρ 6 2 (nI t)) 6 5 + 1)) := by
    intro t ht
    have e5 : gf (sup ρ 6 2 (nI t)) 6 5 = nI s := by rw [gf_eq, sup_at, if_neg (by decide)]; exact r5
    rw [e5, nI_1]
    refine ⟨((f3.trans (FE_sup (c := 6) (j := 2) (v := nI t))).trans FE_sup).up (by decide) (by decide), hP, ?_, ?_, ?_, ?_, fun z => ?_⟩
    · rw [sup_at, if_neg (by decide), sup_at, if_neg (by decide)]; exact r1
    · rw [sup_at, if_neg (by decide), sup_at, if_pos ⟨rfl, rfl⟩, ht]
    · rw [sup_at, if_neg (by decide), sup_at, if_neg (by decide)]; exact r3
    · rw [sup_at, if_pos ⟨rfl, rfl⟩]
    · dsimp only at z
      split at z <;> omega
  by_cases c4 : B s = 59
  · rw [if_pos ((c59 _ v1).mpr c4)]
    exact ⟨_, rfl, fin 3 (by rw [if_pos c4])⟩
  · rw [if_neg (fun z => c4 ((c59 _ v1).mp z))]
    exact ⟨_, rfl, fin 4 (by rw [if_neg c4])⟩
/-! the reference's -/
theorem mbyte {B : Nat → Nat} {n a : Nat} {τ : Sg} (hb : BT n B τ) (h13 : τ.1 38 13 = nI n) (ha : a ≤ n) : fX11_byteAt (nI a) τ = some (if a < n then nI (B a) else -1000000) := by
  have hn := hb.1
  have e : gf τ 38 13 = nI n := h13
  unfold fX11_byteAt
  rw [e]
  by_cases c : a < n
  · rw [if_neg (by rw [nI_leI (by omega) (by omega)]; omega), if_pos c, gd_t (b400 (by omega)), ga_nI _ _ _ (by omega), (hb.2 a c).2.1]
  · rw [if_pos (by rw [nI_leI (by omega) (by omega)]; omega), if_neg c]
theorem mskip {B : Nat → Nat} {n a : Nat} {σ : Sg} (hb : BT n B σ) (h13 : σ.1 38 13 = nI n) (h14 : σ.1 38 14 = nI a) (ha : a ≤ n) : ∃ τ, lpO (fun w => fX11_next_B0 w) FUEL σ = some τ ∧ FE [] [(38, 14)] σ τ ∧ τ.1 38 14 = nI (rn B blk (n - a) a) := by
  have hn := hb.1
  refine scan (n := n) 38 14 blk ?_ ?_ (n - a) a FUEL σ (by omega) (by show n - a < 100000; omega) (FE.refl _ _ _) h14
  · intro i τ hi hf e14
    have v1 := (hb.2 i hi).1
    have hbτ : BT n B τ := hb.fr hf (by decide)
    have e13 : τ.1 38 13 = nI n := (hf 38 13 (by simp) (by simp)).trans h13
    have e' : gf τ 38 14 = nI i := e14
    unfold fX11_next_B0 fX11_next_J26
    rw [e', mbyte hbτ e13 (by omega), if_pos hi]
    simp only [Option.bind_some]
    rw [nI_1]
    by_cases c : blk (B i) = true
    · rw [if_pos c]
      by_cases d : nI (B i) = 32
      · rw [if_pos d]
      · rw [if_neg d, if_pos (((mblk _ v1).mp c).resolve_left d)]
    · rw [if_neg c, if_neg (fun z => c ((mblk _ v1).mpr (Or.inl z))), if_neg (fun z => c ((mblk _ v1).mpr (Or.inr z)))]
  · intro τ hf e14
    have hbτ : BT n B τ := hb.fr hf (by decide)
    have e13 : τ.1 38 13 = nI n := (hf 38 13 (by simp) (by simp)).trans h13
    have e' : gf τ 38 14 = nI n := e14
    unfold fX11_next_B0
    rw [e', mbyte hbτ e13 (Nat.le_refl _), if_neg (Nat.lt_irrefl _)]
    simp only [Option.bind_some]
    rw [if_neg (by decide), if_neg (by decide)]
theorem far_ltr (σ : Sg) : fX11_isLetter (-1000000) σ = some 0 := by
  unfold fX11_isLetter fX11_isLetter_J16
  rw [if_pos (by decide)]
theorem far_fig (σ : Sg) : fX11_isFigure (-1000000) σ = some 0 := by
  unfold fX11_isFigure fX11_isFigure_J16
  rw [if_pos (by decide)]
theorem mname {B : Nat → Nat} {n a : Nat} {σ : Sg} (hb : BT n B σ) (h13 : σ.1 38 13 = nI n) (h14 : σ.1 38 14 = nI a) (ha : a ≤ n) : ∃ τ, lpO (fun w => fX11_next_B77 w) FUEL σ = some τ ∧ FE [] [(38, 14)] σ τ ∧ τ.1 38 14 = nI (rn B ltr (n - a) a) := by
  have hn := hb.1
  refine scan (n := n) 38 14 ltr ?_ ?_ (n - a) a FUEL σ (by omega) (by show n - a < 100000; omega) (FE.refl _ _ _) h14
  · intro i τ hi hf e14
    have v1 := (hb.2 i hi).1
    have hbτ : BT n B τ := hb.fr hf (by decide)
    have e13 : τ.1 38 13 = nI n := (hf 38 13 (by simp) (by simp)).trans h13
    have e' : gf τ 38 14 = nI i := e14
    unfold fX11_next_B77
    rw [e', mbyte hbτ e13 (by omega), if_pos hi, Option.bind_some, mltr v1, Option.bind_some, nI_1]
    by_cases c : ltr (B i) = true
    · rw [if_pos c, if_pos c, if_neg one_ne]
    · rw [if_neg c, if_neg c, if_pos rfl]
  · intro τ hf e14
    have hbτ : BT n B τ := hb.fr hf (by decide)
    have e13 : τ.1 38 13 = nI n := (hf 38 13 (by simp) (by simp)).trans h13
    have e' : gf τ 38 14 = nI n := e14
    unfold fX11_next_B77
    rw [e', mbyte hbτ e13 (Nat.le_refl _), if_neg (Nat.lt_irrefl _), Option.bind_some, far_ltr, Option.bind_some, if_pos rfl]
theorem mnum {B : Nat → Nat} {n a : Nat} {σ : Sg} (hb : BT n B σ) (h13 : σ.1 38 13 = nI n) (h14 : σ.1 38 14 = nI a) (ha : a ≤ n) : ∃ τ, lpO (fun w => fX11_next_B119 w) FUEL σ = some τ ∧ FE [] [(38, 14)] σ τ ∧ τ.1 38 14 = nI (rn B fig (n - a) a) := by
  have hn := hb.1
  refine scan (n := n) 38 14 fig ?_ ?_ (n - a) a FUEL σ (by omega) (by show n - a < 100000; omega) (FE.refl _ _ _) h14
  · intro i τ hi hf e14
    have v1 := (hb.2 i hi).1
    have hbτ : BT n B τ := hb.fr hf (by decide)
    have e13 : τ.1 38 13 = nI n := (hf 38 13 (by simp) (by simp)).trans h13
    have e' : gf τ 38 14 = nI i := e14
    unfold fX11_next_B119
    rw [e', mbyte hbτ e13 (by omega), if_pos hi, Option.bind_some, mfig v1, Option.bind_some, nI_1]
    by_cases c : fig (B i) = true
    · rw [if_pos c, if_pos c, if_neg one_ne]
    · rw [if_neg c, if_neg c, if_pos rfl]
  · intro τ hf e14
    have hbτ : BT n B τ := hb.fr hf (by decide)
    have e13 : τ.1 38 13 = nI n := (hf 38 13 (by simp) (by simp)).trans h13
    have e' : gf τ 38 14 = nI n := e14
    unfold fX11_next_B119
    rw [e', mbyte hbτ e13 (Nat.le_refl _), if_neg (Nat.lt_irrefl _), Option.bind_some, far_fig, Option.bind_some, if_pos rfl]
/-- a token's end, as the reference notes it -/
theorem m_end {B : Nat → Nat} {n : Nat} {T : Nat × Nat × Nat} {σ κ : Sg} {t : Int32} (hP : TokP B n T) (hf : FE [] [(38, 14), (38, 15), (38, 16), (38, 17)] σ κ) (h13 : κ.1 38 13 = nI n) (ht : t = nI ((T.1 + 1) % 5)) (h16 : κ.1 38 16 = nI T.2.1) (h14 : κ.1 38 14 = nI T.2.2) : ∃ τ, fX11_next_J196 (sup κ 38 15 t) = some τ ∧ FE [] [(38, 14), (38, 15), (38, 16), (38, 17)] σ τ ∧ TokM B n T τ := by
  unfold fX11_next_J196
  have e14 : gf (sup κ 38 15 t) 38 14 = nI T.2.2 := by rw [gf_eq, sup_at, if_neg (by decide)]; exact h14
  rw [e14]
  refine ⟨_, rfl, hf.same (((FE_sup (c := 38) (j := 15) (v := t)).trans FE_sup).up (by decide) (by decide)), hP, ?_, ?_, ?_, ?_, ?_⟩
  · rw [sup_at, if_neg (by decide), sup_at, if_neg (by decide)]; exact h13
  · rw [sup_at, if_neg (by decide), sup_at, if_pos ⟨rfl, rfl⟩, ht]
  · rw [sup_at, if_neg (by decide), sup_at, if_neg (by decide)]; exact h16
  · rw [sup_at, if_neg (by decide), sup_at, if_neg (by decide)]; exact h14
  · rw [sup_at, if_pos ⟨rfl, rfl⟩]
theorem next_m {B : Nat → Nat} {n a : Nat} {σ : Sg} (hb : BT n B σ) (h13 : σ.1 38 13 = nI n) (h14 : σ.1 38 14 = nI a) (ha : a ≤ n) : ∃ τ, fX11_next σ = some τ ∧ FE [] [(38, 14), (38, 15), (38, 16), (38, 17)] σ τ ∧ TokM B n (tkn B n a) τ := by
  have hn := hb.1
  have hP := tkn_ok B ha
  have g1 := rn_ge B blk (n - a) a
  have g2 := rn_le B blk (n - a) a
  unfold fX11_next
  obtain ⟨μ, m1, m2, m3⟩ := mskip hb h13 h14 ha
  rw [m1, Option.bind_some]
  unfold tkn at hP ⊢
  generalize rn B blk (n - a) a = s at m3 hP g1 g2
  have m3' : gf μ 38 14 = nI s := m3
  have hr : ∃ ρ, sup μ 38 16 (gf μ 38 14) = ρ ∧ FE [] [(38, 14), (38, 15), (38, 16), (38, 17)] σ ρ ∧ ρ.1 38 14 = nI s ∧ ρ.1 38 16 = nI s := ⟨_, rfl, (m2.trans FE_sup).up (by decide) (by decide), by rw [sup_at, if_neg (by decide)]; exact m3, by rw [sup_at, if_pos ⟨rfl, rfl⟩]; exact m3'⟩
  obtain ⟨ρ, er, f3, r14, r16⟩ := hr
  rw [er]
  have r13 : ρ.1 38 13 = nI n := (f3 38 13 (by simp) (by simp)).trans h13
  have r14' : gf ρ 38 14 = nI s := r14
  have hbρ : BT n B ρ := hb.fr f3 (by decide)
  rw [r14', mbyte hbρ r13 (by omega), Option.bind_some]
  by_cases c1 : n ≤ s
  · rw [if_pos c1] at hP ⊢
    rw [if_neg (show ¬ s < n by omega), if_pos rfl]
    exact m_end hP f3 r13 rfl r16 r14
  rw [if_neg c1] at hP ⊢
  have v1 := (hbρ.2 s (by omega)).1
  rw [if_pos (show s < n by omega), if_neg (mfar (by omega)), mltr v1, Option.bind_some]
  by_cases c2 : ltr (B s) = true
  · rw [if_pos c2] at hP ⊢
    rw [if_pos c2, if_neg one_ne]
    obtain ⟨κ, k1, k2, k3⟩ := mname hbρ r13 r14 (by omega)
    rw [k1, Option.bind_some]
    exact m_end (κ := κ) hP ((f3.trans k2).up (by decide) (by decide)) (by rw [k2 38 13 (by simp) (by simp)]; exact r13) rfl (by rw [k2 38 16 (by simp) (by simp)]; exact r16) k3
  rw [if_neg c2] at hP ⊢
  rw [if_neg c2, if_pos rfl, mfig v1, Option.bind_some]
  by_cases c3 : fig (B s) = true
  · rw [if_pos c3] at hP ⊢
    rw [if_pos c3, if_neg one_ne]
    unfold fX11_next_J165
    obtain ⟨κ, k1, k2, k3⟩ := mnum hbρ r13 r14 (by omega)
    have q1 := rn_ge B fig (n - s) s
    have q2' := rn_le B fig (n - s) s
    generalize rn B fig (n - s) s = e at k3 hP q1 q2'
    have k5 : gf κ 38 14 = nI e := k3
    have k6 : κ.1 38 16 = nI s := by rw [k2 38 16 (by simp) (by simp)]; exact r16
    have k6' : gf κ 38 16 = nI s := k6
    have k7 : κ.1 38 13 = nI n := by rw [k2 38 13 (by simp) (by simp)]; exact r13
    have fκ : FE [] [(38, 14), (38, 15), (38, 16), (38, 17)] σ κ := (f3.trans k2).up (by decide) (by decide)
    rw [k1, Option.bind_some, k5, k6', pk_sub q1, show (3 : Int32) = nI 3 from rfl]
    by_cases c4 : e - s ≤ 3
    · rw [if_pos (by rw [nI_leI (by omega) (by omega)]; omega)]
      rw [if_pos c4] at hP ⊢
      exact m_end hP fκ k7 rfl k6 k3
    · rw [if_neg (by rw [nI_leI (by omega) (by omega)]; omega)]
      rw [if_neg c4] at hP ⊢
      exact m_end hP fκ k7 (show (0 : Int32) = nI ((4 + 1) % 5) by decide) k6 k3
  rw [if_neg c3] at hP ⊢
  rw [if_neg c3, if_pos rfl, nI_1]
  unfold fX11_next_J193
  have fκ : FE [] [(38, 14), (38, 15), (38, 16), (38, 17)] σ (sup ρ 38 14 (nI (s + 1))) := f3.same (FE_sup.up (by decide) (by decide))
  have k7 : (sup ρ 38 14 (nI (s + 1))).1 38 13 = nI n := by rw [sup_at, if_neg (by decide)]; exact r13
  have k6 : (sup ρ 38 14 (nI (s + 1))).1 38 16 = nI s := by rw [sup_at, if_neg (by decide)]; exact r16
  have k3 : (sup ρ 38 14 (nI (s + 1))).1 38 14 = nI (s + 1) := by rw [sup_at, if_pos ⟨rfl, rfl⟩]
  by_cases c4 : B s = 59
  · rw [if_pos ((m59 _ v1).mpr c4)]
    rw [if_pos c4] at hP ⊢
    exact m_end hP fκ k7 rfl k6 k3
  · rw [if_neg (fun z => c4 ((m59 _ v1).mp z))]
    rw [if_neg c4] at hP ⊢
    exact m_end hP fκ k7 (show (0 : Int32) = nI ((4 + 1) % 5) by decide) k6 k3
