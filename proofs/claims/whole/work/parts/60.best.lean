/-! best: a search in Nats -/
def ad (s : Nat → Nat) (g c : Nat) : Nat → Nat := fun h => if h = g then s h + c else s h
theorem ad_eq (s : Nat → Nat) (g c : Nat) : ad s g c g = s g + c := if_pos rfl
theorem ad_ne {s : Nat → Nat} {g c h : Nat} (e : h ≠ g) : ad s g c h = s h := if_neg e
def mn (s : Nat → Nat) : Nat := min (min (s 0) (s 1)) (s 2)
def lf (v i : Nat) (q : Nat × Nat) : Nat × Nat := if q.1 ≤ v then (v + 1, i) else q
def Fs (st : Nat → Nat) : Nat → Nat → (Nat → Nat) → Nat → Nat × Nat → Nat × Nat
  | 0, _, s, P, q => lf (mn s) P q
  | r + 1, y, s, P, q => Fs st r (y + 1) (ad s 2 (st y)) (3 * P + 2) (Fs st r (y + 1) (ad s 1 (st y)) (3 * P + 1) (Fs st r (y + 1) (ad s 0 (st y)) (3 * P + 0) q))
def chQ (st : Nat → Nat) (r y : Nat) (s : Nat → Nat) (P : Nat) : Nat → Nat × Nat → Nat × Nat
  | 0, q => q
  | i + 1, q => Fs st r (y + 1) (ad s i (st y)) (3 * P + i) (chQ st r y s P i q)
theorem Fs_succ (st : Nat → Nat) (r y : Nat) (s : Nat → Nat) (P : Nat) (q : Nat × Nat) : Fs st (r + 1) y s P q = chQ st r y s P 3 q := rfl
def MX (st : Nat → Nat) : Nat → Nat → (Nat → Nat) → Nat
  | 0, _, s => mn s
  | r + 1, y, s => max (max (MX st r (y + 1) (ad s 0 (st y))) (MX st r (y + 1) (ad s 1 (st y)))) (MX st r (y + 1) (ad s 2 (st y)))
theorem lf_ge (v i : Nat) (q : Nat × Nat) : v + 1 ≤ (lf v i q).1 ∧ q.1 ≤ (lf v i q).1 := by
  unfold lf
  split
  · exact ⟨Nat.le_refl _, by show q.1 ≤ v + 1; omega⟩
  · exact ⟨by omega, Nat.le_refl _⟩
theorem max3_le {a b c d : Nat} (h1 : a ≤ d) (h2 : b ≤ d) (h3 : c ≤ d) : max (max a b) c ≤ d := Nat.max_le.mpr ⟨Nat.max_le.mpr ⟨h1, h2⟩, h3⟩
theorem Fs_ge (st : Nat → Nat) : ∀ (r y : Nat) (s : Nat → Nat) (P : Nat) (q : Nat × Nat), MX st r y s + 1 ≤ (Fs st r y s P q).1 ∧ q.1 ≤ (Fs st r y s P q).1
  | 0, y, s, P, q => lf_ge _ _ _
  | r + 1, y, s, P, q => by
    have h0 := Fs_ge st r (y + 1) (ad s 0 (st y)) (3 * P + 0) q
    have h1 := Fs_ge st r (y + 1) (ad s 1 (st y)) (3 * P + 1) (Fs st r (y + 1) (ad s 0 (st y)) (3 * P + 0) q)
    have h2 := Fs_ge st r (y + 1) (ad s 2 (st y)) (3 * P + 2) (Fs st r (y + 1) (ad s 1 (st y)) (3 * P + 1) (Fs st r (y + 1) (ad s 0 (st y)) (3 * P + 0) q))
    have e : MX st (r + 1) y s ≤ (Fs st (r + 1) y s P q).1 - 1 := by
      show max (max _ _) _ ≤ (Fs st r (y + 1) (ad s 2 (st y)) (3 * P + 2) _).1 - 1
      exact max3_le (by omega) (by omega) (by omega)
    have f : 1 ≤ (Fs st (r + 1) y s P q).1 := by
      show 1 ≤ (Fs st r (y + 1) (ad s 2 (st y)) (3 * P + 2) _).1
      omega
    have g : q.1 ≤ (Fs st (r + 1) y s P q).1 := by
      show q.1 ≤ (Fs st r (y + 1) (ad s 2 (st y)) (3 * P + 2) _).1
      omega
    exact ⟨by omega, g⟩
theorem Fs_id (st : Nat → Nat) : ∀ (r y : Nat) (s : Nat → Nat) (P : Nat) (q : Nat × Nat), MX st r y s + 1 ≤ q.1 → Fs st r y s P q = q
  | 0, y, s, P, q, h => if_neg (by have : mn s + 1 ≤ q.1 := h; omega)
  | r + 1, y, s, P, q, h => by
    have h' : max (max (MX st r (y + 1) (ad s 0 (st y))) (MX st r (y + 1) (ad s 1 (st y)))) (MX st r (y + 1) (ad s 2 (st y))) ≤ q.1 - 1 := by
      have : MX st (r + 1) y s ≤ q.1 - 1 := by omega
      exact this
    obtain ⟨a, c⟩ := Nat.max_le.mp h'
    obtain ⟨a, b⟩ := Nat.max_le.mp a
    have hq : 1 ≤ q.1 := by omega
    show Fs st r (y + 1) (ad s 2 (st y)) (3 * P + 2) (Fs st r (y + 1) (ad s 1 (st y)) (3 * P + 1) (Fs st r (y + 1) (ad s 0 (st y)) (3 * P + 0) q)) = q
    rw [Fs_id st r (y + 1) (ad s 0 (st y)) (3 * P + 0) q (by omega), Fs_id st r (y + 1) (ad s 1 (st y)) (3 * P + 1) q (by omega), Fs_id st r (y + 1) (ad s 2 (st y)) (3 * P + 2) q (by omega)]
/-- two strands changed for one another -/
def swp (i j : Nat) (s : Nat → Nat) : Nat → Nat := fun h => if h = i then s j else if h = j then s i else s h
theorem ad_swp (i j g c : Nat) (s : Nat → Nat) : ad (swp i j s) g c = swp i j (ad s (if g = i then j else if g = j then i else g) c) := by
  funext h
  unfold ad swp
  by_cases h1 : h = i
  · subst h1
    by_cases g1 : g = h
    · subst g1; simp
    · by_cases g2 : g = j
      · subst g2
        by_cases e : h = g
        · exact absurd e.symm g1
        · simp [g1, e, Ne.symm g1]
      · simp [g1, g2, Ne.symm g1, Ne.symm g2]
  · by_cases h2 : h = j
    · subst h2
      by_cases g1 : g = i
      · subst g1
        simp [h1, Ne.symm h1]
      · by_cases g2 : g = h
        · subst g2; simp [h1]
        · simp [h1, g1, g2, Ne.symm g1, Ne.symm g2]
    · by_cases g1 : g = i
      · subst g1; simp [h1, h2]
      · by_cases g2 : g = j
        · subst g2; simp [h1, h2, g1]
        · simp [h1, h2, g1, g2]
theorem mn_swp (s : Nat → Nat) : mn (swp 0 1 s) = mn s ∧ mn (swp 0 2 s) = mn s ∧ mn (swp 1 2 s) = mn s := by
  refine ⟨?_, ?_, ?_⟩
  · show min (min (s 1) (s 0)) (s 2) = min (min (s 0) (s 1)) (s 2)
    rw [Nat.min_comm (s 1) (s 0)]
  · show min (min (s 2) (s 1)) (s 0) = min (min (s 0) (s 1)) (s 2)
    rw [Nat.min_comm (s 2) (s 1), Nat.min_comm _ (s 0), ← Nat.min_assoc]
  · show min (min (s 0) (s 2)) (s 1) = min (min (s 0) (s 1)) (s 2)
    rw [Nat.min_assoc, Nat.min_comm (s 2) (s 1), ← Nat.min_assoc]
theorem MX_swp (st : Nat → Nat) : ∀ (r y : Nat) (s : Nat → Nat), MX st r y (swp 0 1 s) = MX st r y s ∧ MX st r y (swp 0 2 s) = MX st r y s ∧ MX st r y (swp 1 2 s) = MX st r y s
  | 0, y, s => mn_swp s
  | r + 1, y, s => by
    have ih := MX_swp st r (y + 1)
    refine ⟨?_, ?_, ?_⟩
    · show max (max (MX st r (y + 1) (ad (swp 0 1 s) 0 (st y))) (MX st r (y + 1) (ad (swp 0 1 s) 1 (st y)))) (MX st r (y + 1) (ad (swp 0 1 s) 2 (st y))) = max (max (MX st r (y + 1) (ad s 0 (st y))) (MX st r (y + 1) (ad s 1 (st y)))) (MX st r (y + 1) (ad s 2 (st y)))
      rw [ad_swp, ad_swp, ad_swp, (ih _).1, (ih _).1, (ih _).1]
      simp (decide := true) only [if_true, if_false]
      rw [Nat.max_comm (MX st r (y + 1) (ad s 1 (st y)))]
    · show max (max (MX st r (y + 1) (ad (swp 0 2 s) 0 (st y))) (MX st r (y + 1) (ad (swp 0 2 s) 1 (st y)))) (MX st r (y + 1) (ad (swp 0 2 s) 2 (st y))) = max (max (MX st r (y + 1) (ad s 0 (st y))) (MX st r (y + 1) (ad s 1 (st y)))) (MX st r (y + 1) (ad s 2 (st y)))
      rw [ad_swp, ad_swp, ad_swp, (ih _).2.1, (ih _).2.1, (ih _).2.1]
      simp (decide := true) only [if_true, if_false]
      rw [Nat.max_comm (MX st r (y + 1) (ad s 2 (st y))) (MX st r (y + 1) (ad s 1 (st y))), Nat.max_comm _ (MX st r (y + 1) (ad s 0 (st y))), ← Nat.max_assoc]
    · show max (max (MX st r (y + 1) (ad (swp 1 2 s) 0 (st y))) (MX st r (y + 1) (ad (swp 1 2 s) 1 (st y)))) (MX st r (y + 1) (ad (swp 1 2 s) 2 (st y))) = max (max (MX st r (y + 1) (ad s 0 (st y))) (MX st r (y + 1) (ad s 1 (st y)))) (MX st r (y + 1) (ad s 2 (st y)))
      rw [ad_swp, ad_swp, ad_swp, (ih _).2.2, (ih _).2.2, (ih _).2.2]
      simp (decide := true) only [if_true, if_false]
      rw [Nat.max_assoc, Nat.max_comm (MX st r (y + 1) (ad s 2 (st y))), ← Nat.max_assoc]
/-- an unused strand is as good as the next -/
theorem MX_un (st : Nat → Nat) (r y c : Nat) {s : Nat → Nat} {u g : Nat} (hu : u < g) (hg : g < 3) (h : ∀ z, u ≤ z → z < 3 → s z = 0) : MX st r y (ad s g c) = MX st r y (ad s u c) := by
  have su := h u (Nat.le_refl _) (by omega)
  have sg := h g (by omega) hg
  have e : ad s g c = swp u g (ad s u c) := by
    funext z
    show ad s g c z = (if z = u then ad s u c g else if z = g then ad s u c u else ad s u c z)
    by_cases z1 : z = u
    · rw [if_pos z1, ad_ne (by omega), ad_ne (by omega), z1, su, sg]
    · rw [if_neg z1]
      by_cases z2 : z = g
      · rw [if_pos z2, z2, ad_eq, ad_eq, sg, su]
      · rw [if_neg z2, ad_ne z2, ad_ne z1]
  rw [e]
  have : (u = 0 ∧ g = 1) ∨ (u = 0 ∧ g = 2) ∨ (u = 1 ∧ g = 2) := by omega
  rcases this with ⟨rfl, rfl⟩ | ⟨rfl, rfl⟩ | ⟨rfl, rfl⟩
  · exact (MX_swp st r y _).1
  · exact (MX_swp st r y _).2.1
  · exact (MX_swp st r y _).2.2
theorem chQ_mono (st : Nat → Nat) (r y : Nat) (s : Nat → Nat) (P i : Nat) (q : Nat × Nat) : (chQ st r y s P i q).1 ≤ (chQ st r y s P (i + 1) q).1 := (Fs_ge st r (y + 1) (ad s i (st y)) (3 * P + i) _).2
theorem chQ_can (st : Nat → Nat) (r y : Nat) {s : Nat → Nat} (P : Nat) (q : Nat × Nat) {u : Nat} (h : ∀ z, u ≤ z → z < 3 → s z = 0) : chQ st r y s P 3 q = chQ st r y s P (min (u + 1) 3) q := by
  have stay : ∀ g, u < g → g < 3 → MX st r (y + 1) (ad s u (st y)) + 1 ≤ (chQ st r y s P g q).1 → chQ st r y s P (g + 1) q = chQ st r y s P g q := by
    intro g hu hg hq
    show Fs st r (y + 1) (ad s g (st y)) (3 * P + g) _ = _
    exact Fs_id st _ _ _ _ _ (by rw [MX_un st r (y + 1) (st y) hu hg h]; exact hq)
  have base : MX st r (y + 1) (ad s u (st y)) + 1 ≤ (chQ st r y s P (u + 1) q).1 := (Fs_ge st r (y + 1) (ad s u (st y)) (3 * P + u) _).1
  have : u = 0 ∨ u = 1 ∨ 2 ≤ u := by omega
  rcases this with rfl | rfl | hu
  · rw [Nat.min_eq_left (by omega)]
    have e1 := stay 1 (by omega) (by omega) base
    have e2 := stay 2 (by omega) (by omega) (by rw [e1]; exact base)
    rw [e2, e1]
  · rw [Nat.min_eq_left (by omega)]
    exact stay 2 (by omega) (by omega) base
  · rw [Nat.min_eq_right (by omega)]
/-- what is left to lay -/
def bh (st : Nat → Nat) : Nat → Nat → Nat
  | 0, _ => 0
  | r + 1, y => st y + bh st r (y + 1)
def mis (L : Nat) (s : Nat → Nat) : Nat := (L - s 0) + (L - s 1) + (L - s 2)
theorem prune (st : Nat → Nat) (L : Nat) : ∀ (r y : Nat) (s : Nat → Nat), L ≤ MX st r y s → mis L s ≤ bh st r y
  | 0, y, s, h => by
    have h' : L ≤ min (min (s 0) (s 1)) (s 2) := h
    obtain ⟨a, c⟩ := Nat.le_min.mp h'
    obtain ⟨a, b⟩ := Nat.le_min.mp a
    show L - s 0 + (L - s 1) + (L - s 2) ≤ 0
    omega
  | r + 1, y, s, h => by
    have key : ∀ g, g < 3 → L ≤ MX st r (y + 1) (ad s g (st y)) → mis L s ≤ bh st (r + 1) y := by
      intro g hg hL
      have ih := prune st L r (y + 1) (ad s g (st y)) hL
      have e : mis L s ≤ mis L (ad s g (st y)) + st y := by
        unfold mis ad
        have : g = 0 ∨ g = 1 ∨ g = 2 := by omega
        rcases this with rfl | rfl | rfl
        · simp (decide := true) only [if_true, if_false]; omega
        · simp (decide := true) only [if_true, if_false]; omega
        · simp (decide := true) only [if_true, if_false]; omega
      show mis L s ≤ st y + bh st r (y + 1)
      omega
    have h' : L ≤ max (max (MX st r (y + 1) (ad s 0 (st y))) (MX st r (y + 1) (ad s 1 (st y)))) (MX st r (y + 1) (ad s 2 (st y))) := h
    rcases Nat.le_total (max (MX st r (y + 1) (ad s 0 (st y))) (MX st r (y + 1) (ad s 1 (st y)))) (MX st r (y + 1) (ad s 2 (st y))) with c | c
    · rw [Nat.max_eq_right c] at h'; exact key 2 (by omega) h'
    · rw [Nat.max_eq_left c] at h'
      rcases Nat.le_total (MX st r (y + 1) (ad s 0 (st y))) (MX st r (y + 1) (ad s 1 (st y))) with d | d
      · rw [Nat.max_eq_right d] at h'; exact key 1 (by omega) h'
      · rw [Nat.max_eq_left d] at h'; exact key 0 (by omega) h'
/-- the class's memory in its search -/
def BS (st : Nat → Nat) (n y : Nat) (s : Nat → Nat) (P : Nat) (q : Nat × Nat) (τ : Sg) : Prop := τ.1 25 4 = nI n ∧ τ.1 25 6 = nI q.1 - 1 ∧ (∀ z, z < n → τ.1 26 z = nI (st z)) ∧ (∀ z, z ≤ n → τ.1 27 z = nI (bh st (n - z) z)) ∧ (∀ g, g < 3 → τ.1 28 g = nI (s g)) ∧ (∀ z, z < y → τ.1 29 z = nI (P / 3 ^ (y - 1 - z) % 3)) ∧ (q.1 ≠ 0 → ∀ z, z < n → τ.1 30 z = nI (q.2 / 3 ^ (n - 1 - z) % 3)) ∧ q.1 ≤ 20000
theorem missing_spec {st : Nat → Nat} {n y : Nat} {s : Nat → Nat} {P : Nat} {q : Nat × Nat} {τ : Sg} (h : BS st n y s P q τ) (hs : ∀ g, g < 3 → s g ≤ 20000) : fX2_missing τ = some (nI (mis q.1 s)) := by
  obtain ⟨h1, h2, h3, h4, h5, h6, h7, h8⟩ := h
  have hL : gf τ 25 6 + 1 = nI q.1 := by
    rw [gf_eq, h2, Int32.sub_add_cancel]
  unfold fX2_missing
  rw [lp_to (o := nI (mis q.1 s)) (fun i => (nI (if i = 0 then 0 else if i = 1 then q.1 - s 0 else if i = 2 then q.1 - s 0 + (q.1 - s 1) else mis q.1 s), nI i)) 3 (by omega)]
  · rfl
  · intro i hi
    show fX2_missing_B4 _ (nI i) τ = _
    unfold fX2_missing_B4
    rw [if_neg (by rw [show (3 : Int32) = nI 3 from rfl, nI_leI (by omega) (by omega)]; omega), gd_t (b3 hi), hL, ga_nI _ _ _ (by omega), h5 i hi]
    have := hs i hi
    rw [jmax_sub (by omega) (by omega), nI_add, nI_1]
    have : i = 0 ∨ i = 1 ∨ i = 2 := by omega
    rcases this with rfl | rfl | rfl
    · simp (decide := true) only [if_true, if_false, Nat.zero_add]
    · simp (decide := true) only [if_true, if_false]
    · simp (decide := true) only [if_true, if_false]
      rfl
  · show fX2_missing_B4 _ (nI 3) τ = _
    unfold fX2_missing_B4
    rw [if_pos (by decide)]
    rfl
  · rfl
