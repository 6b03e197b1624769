/-! the pure part: tools -/
theorem sup_at (σ : Sg) (c j : Nat) (v : Int32) (d k : Nat) : (sup σ c j v).1 d k = if d = c ∧ k = j then v else σ.1 d k := by
  unfold sup scel upd
  by_cases h : d = c
  · subst h
    by_cases h2 : k = j
    · subst h2; simp
    · simp [h2]
  · simp [h]
theorem sup_ne {σ : Sg} {c j : Nat} {v : Int32} {d : Nat} (h : d ≠ c) : (sup σ c j v).1 d = σ.1 d := if_neg h
theorem sup_long (σ : Sg) (c j : Nat) (v : Int32) : (sup σ c j v).2 = σ.2 := rfl
theorem slg_at (σ : Sg) (v : Int64) : (slg σ v).1 = σ.1 := rfl
theorem slg_long (σ : Sg) (v : Int64) : (slg σ v).2 = v := rfl
theorem gf_eq (σ : Sg) (c j : Nat) : gf σ c j = σ.1 c j := rfl
theorem ga_nI (σ : Sg) (c j : Nat) (h : j < 2 ^ 31) : ga σ c (nI j) = σ.1 c j := by unfold ga; rw [nI_clamp h]
theorem sa_nI (σ : Sg) (c j : Nat) (v : Int32) (h : j < 2 ^ 31) : sa σ c (nI j) v = sup σ c j v := by unfold sa; rw [nI_clamp h]
theorem inb_nI (j n : Nat) (h : j < 2 ^ 31) : inb (nI j) n = decide (j < n) := by
  unfold inb
  congr 1
  rw [nI_clamp h]
  have := nI_pos h
  simp only [this, false_or, eq_iff_iff]
  omega
theorem gd_t {α : Type} {b : Bool} {x : Option α} (h : b = true) : gd b x = x := if_pos h
theorem bd_t {α β : Type} {x : Option α} {a : α} {f : α → Option β} (h : x = some a) : x.bind f = f a := by rw [h]; rfl
theorem isz_01 {x : Int32} (h : x = 0 ∨ x = 1) : isz x = true := decide_eq_true h
theorem nz_t {x : Int32} (h : ¬ x = 0) : nz x = true := decide_eq_true h
/-- a loop along a row of states -/
theorem lp_go {S O : Type} {f : S → Option (S ⊕ O)} (g : Nat → S) {o : O} {n : Nat} (hs : ∀ i, i < n → f (g i) = some (.inl (g (i + 1)))) (he : f (g n) = some (.inr o)) : ∀ (m i : Nat), i ≤ n → n - i < m → lpO f m (g i) = some o
  | 0, i, _, h => absurd h (Nat.not_lt_zero _)
  | m + 1, i, hi, h => by
    show (f (g i)).bind _ = some o
    by_cases hin : i = n
    · subst hin
      rw [he]
      rfl
    · rw [hs i (by omega)]
      exact lp_go g hs he m (i + 1) (by omega) (by omega)
theorem lp_to {S O : Type} {f : S → Option (S ⊕ O)} (g : Nat → S) {o : O} (n : Nat) (hn : n < 100000) (hs : ∀ i, i < n → f (g i) = some (.inl (g (i + 1)))) (he : f (g n) = some (.inr o)) {s0 : S} (h0 : s0 = g 0) : lpO f FUEL s0 = some o := by
  subst h0
  exact lp_go g hs he FUEL 0 (Nat.zero_le _) (by show n - 0 < 100000; omega)
/-- a loop by an invariant -/
theorem lp_inv {S O : Type} {f : S → Option (S ⊕ O)} (P : Nat → S → Prop) {Q : O → Prop} {n : Nat} (hs : ∀ i s, i < n → P i s → ∃ s1, f s = some (.inl s1) ∧ P (i + 1) s1) (he : ∀ s, P n s → ∃ o, f s = some (.inr o) ∧ Q o) : ∀ (m i : Nat) (s : S), P i s → i ≤ n → n - i < m → ∃ o, lpO f m s = some o ∧ Q o
  | 0, i, _, _, _, h => absurd h (Nat.not_lt_zero _)
  | m + 1, i, s, hp, hi, h => by
    by_cases hin : i = n
    · subst hin
      obtain ⟨o, h1, h2⟩ := he s hp
      exact ⟨o, by show (f s).bind _ = some o; rw [h1]; rfl, h2⟩
    · obtain ⟨s1, h1, h2⟩ := hs i s (by omega) hp
      obtain ⟨o, h3, h4⟩ := lp_inv P hs he m (i + 1) s1 h2 (by omega) (by omega)
      exact ⟨o, by show (f s).bind _ = some o; rw [h1]; exact h3, h4⟩
theorem lp_for {S O : Type} {f : S → Option (S ⊕ O)} (P : Nat → S → Prop) {Q : O → Prop} (n : Nat) (hn : n < 100000) {s0 : S} (h0 : P 0 s0) (hs : ∀ i s, i < n → P i s → ∃ s1, f s = some (.inl s1) ∧ P (i + 1) s1) (he : ∀ s, P n s → ∃ o, f s = some (.inr o) ∧ Q o) : ∃ o, lpO f FUEL s0 = some o ∧ Q o :=
  lp_inv P hs he FUEL 0 s0 h0 (Nat.zero_le _) (by show n - 0 < 100000; omega)
/-- a loop by a measure that falls -/
theorem lp_mea {S O : Type} {f : S → Option (S ⊕ O)} (P : S → Prop) (μ : S → Nat) {Q : O → Prop} (hs : ∀ s, P s → (∃ s1, f s = some (.inl s1) ∧ P s1 ∧ μ s1 < μ s) ∨ (∃ o, f s = some (.inr o) ∧ Q o)) : ∀ (m : Nat) (s : S), P s → μ s < m → ∃ o, lpO f m s = some o ∧ Q o
  | 0, _, _, h => absurd h (Nat.not_lt_zero _)
  | m + 1, s, hp, h => by
    rcases hs s hp with ⟨s1, h1, h2, h3⟩ | ⟨o, h1, h2⟩
    · obtain ⟨o, h4, h5⟩ := lp_mea P μ hs m s1 h2 (by omega)
      exact ⟨o, by show (f s).bind _ = some o; rw [h1]; exact h4, h5⟩
    · exact ⟨o, by show (f s).bind _ = some o; rw [h1]; rfl, h2⟩
/-! numbers -/
theorem lit32 (n : Nat) : (OfNat.ofNat n : Int32) = nI n := rfl
theorem neg1_lt : (-1 : Int32) < 0 := by decide
theorem i32_split (x : Int32) (n : Nat) (hn : n < 2 ^ 31) : (x < 0) ∨ (∃ j, j < n ∧ x = nI j) ∨ (∃ j, n ≤ j ∧ j < 2 ^ 31 ∧ x = nI j) := by
  by_cases h : x < 0
  · exact Or.inl h
  · obtain ⟨j, hj, rfl⟩ := nI_of h
    by_cases h2 : j < n
    · exact Or.inr (Or.inl ⟨j, h2, rfl⟩)
    · exact Or.inr (Or.inr ⟨j, by omega, hj, rfl⟩)
theorem neg_lt_nI {x : Int32} (h : x < 0) {n : Nat} (hn : n < 2 ^ 31) : x < nI n := by
  rw [Int32.lt_iff_toInt_lt] at h ⊢
  rw [nI_toInt hn]
  have : (0 : Int32).toInt = 0 := by decide
  omega
theorem neg_le_nI {x : Int32} (h : x < 0) {n : Nat} (hn : n < 2 ^ 31) : x ≤ nI n := Int32.le_of_lt (neg_lt_nI h hn)
theorem neg_nle {x : Int32} (h : x < 0) {n : Nat} (hn : n < 2 ^ 31) : ¬ nI n ≤ x := by
  rw [Int32.le_iff_toInt_le, nI_toInt hn]
  rw [Int32.lt_iff_toInt_lt] at h
  have : (0 : Int32).toInt = 0 := by decide
  omega
theorem neg_nlt {x : Int32} (h : x < 0) {n : Nat} (hn : n < 2 ^ 31) : ¬ nI n < x := fun z => neg_nle h hn (Int32.le_of_lt z)
theorem neg_ne {x : Int32} (h : x < 0) {n : Nat} (hn : n < 2 ^ 31) : ¬ x = nI n := fun z => by rw [z] at h; exact nI_pos hn h
theorem lt0_iff (x : Int32) : x < 0 ↔ x.toInt < 0 := by rw [Int32.lt_iff_toInt_lt]; exact Iff.rfl
