theorem b10 {y : Nat} (h : y < 10) : inb (nI y) 10 = true := by rw [inb_nI _ _ (by omega)]; exact decide_eq_true h
theorem dig (P g k : Nat) (hg : g < 3) : (3 * P + g) / 3 ^ (k + 1) = P / 3 ^ k := by
  rw [Nat.pow_succ, Nat.mul_comm (3 ^ k) 3, ← Nat.div_div_eq_div_mul]
  congr 1
  omega
theorem mn_le {s : Nat → Nat} {c : Nat} (h : ∀ g, g < 3 → s g ≤ c) : mn s ≤ c := Nat.le_trans (Nat.min_le_right _ _) (h 2 (by omega))
theorem jmin3 {s : Nat → Nat} (h : ∀ g, g < 3 → s g ≤ 20000) : jmin (nI (s 0)) (jmin (nI (s 1)) (nI (s 2))) = nI (mn s) := by
  have h0 := h 0 (by omega)
  have h1 := h 1 (by omega)
  have h2 := h 2 (by omega)
  have h3 : min (s 1) (s 2) ≤ 20000 := Nat.le_trans (Nat.min_le_left _ _) h1
  rw [jmin_nI (by omega) (by omega), jmin_nI (by omega) (by omega)]
  unfold mn
  rw [Nat.min_assoc]
theorem layFrom_spec {st : Nat → Nat} {n : Nat} (hn : n ≤ 9) (hst : ∀ z, z < n → st z ≤ 1191) : ∀ (r y u : Nat) (s : Nat → Nat) (P : Nat) (q : Nat × Nat) (τ : Sg) (m : Nat), y + r = n → r + 1 ≤ m → u ≤ 3 → (∀ g, u ≤ g → g < 3 → s g = 0) → (∀ g, g < 3 → s g ≤ 1191 * y) → BS st n y s P q τ → ∃ υ, fX2_layFrom m (nI y) (nI u) τ = some υ ∧ FE [28, 29, 30] [(25, 6)] τ υ ∧ BS st n y s P (Fs st r y s P q) υ := by
  intro r
  induction r with
  | zero =>
    intro y u s P q τ m hy hm hu h0 hs hS
    have hs2 : ∀ g, g < 3 → s g ≤ 20000 := fun g hg => by have := hs g hg; omega
    have yn : y = n := by omega
    subst yn
    have hms := missing_spec hS hs2
    obtain ⟨h1, h2, h3, h4, h5, h6, h7, h8⟩ := hS
    obtain ⟨m, rfl⟩ : ∃ k, m = k + 1 := ⟨m - 1, by omega⟩
    have hmn : mn s ≤ 1191 * y := mn_le hs
    show ∃ υ, fX2_layFrom_R (fX2_layFrom m) (nI y) (nI u) τ = some υ ∧ _ ∧ BS st y y s P (lf (mn s) P q) υ
    unfold fX2_layFrom_R
    rw [hms]
    simp only [Option.bind_some]
    have e27 : ga τ 27 (nI y) = nI 0 := by
      rw [ga_nI _ _ _ (by omega), h4 y (Nat.le_refl _), show y - y = 0 by omega]; rfl
    rw [gd_t (b10 (by omega)), e27]
    by_cases c : q.1 ≤ mn s
    · have c0 : q.1 ≤ s 0 := Nat.le_trans c (Nat.le_trans (Nat.min_le_left _ _) (Nat.min_le_left _ _))
      have c1 : q.1 ≤ s 1 := Nat.le_trans c (Nat.le_trans (Nat.min_le_left _ _) (Nat.min_le_right _ _))
      have c2 : q.1 ≤ s 2 := Nat.le_trans c (Nat.min_le_right _ _)
      have em : mis q.1 s = 0 := by unfold mis; omega
      have g0 : ga τ 28 0 = nI (s 0) := h5 0 (by omega)
      have g1 : ga τ 28 1 = nI (s 1) := h5 1 (by omega)
      have g2 : ga τ 28 2 = nI (s 2) := h5 2 (by omega)
      have g4 : ∀ v, gf (sup τ 25 6 v) 25 4 = nI y := fun v => h1
      rw [em, if_pos (by decide), gf_eq, h1, if_neg (by rw [nI_ltI (by omega) (by omega)]; omega), gd_t (by decide), gd_t (by decide), gd_t (by decide), g0, g1, g2, jmin3 hs2, g4, gd_t (show cpk 0 0 (nI y) 9 9 = true from cpk_ok (sp := 0) (dp := 0) (by omega) (by omega) (by omega) (by omega))]
      have el : lf (mn s) P q = (mn s + 1, P) := if_pos c
      rw [el]
      refine ⟨_, rfl, ?_, ?_⟩
      · exact ((FE_sup (c := 25) (j := 6) (v := nI (mn s))).trans FE_scp).up (by decide) (by decide)
      · have sc : ∀ d k, (scp (sup τ 25 6 (nI (mn s))) 29 30 0 0 (nI y)).1 d k = if d = 30 ∧ k < y then (sup τ 25 6 (nI (mn s))).1 29 k else (sup τ 25 6 (nI (mn s))).1 d k := fun d k => scp0 _ _ _ _ (by omega) d k
        refine ⟨?_, ?_, fun z hz => ?_, fun z hz => ?_, fun g hg => ?_, fun z hz => ?_, fun _ z hz => ?_, ?_⟩
        · rw [sc, if_neg (by omega)]; exact h1
        · rw [sc, if_neg (by omega), sup_at, if_pos ⟨rfl, rfl⟩]
          show nI (mn s) = nI (mn s + 1) - 1
          rw [st_s (by omega)]; rfl
        · rw [sc, if_neg (by omega)]; exact h3 z hz
        · rw [sc, if_neg (by omega)]; exact h4 z hz
        · rw [sc, if_neg (by omega)]; exact h5 g hg
        · rw [sc, if_neg (by omega)]; exact h6 z hz
        · rw [sc, if_pos ⟨rfl, hz⟩]; exact h6 z hz
        · show mn s + 1 ≤ 20000; omega
    · have em : ¬ mis q.1 s = 0 := by
        unfold mis
        intro z
        apply c
        exact Nat.le_min.mpr ⟨Nat.le_min.mpr ⟨by omega, by omega⟩, by omega⟩
      have hle : mis q.1 s < 2 ^ 31 := by unfold mis; omega
      rw [if_neg (by rw [nI_leI hle (by omega)]; omega)]
      have el : lf (mn s) P q = q := if_neg c
      rw [el]
      exact ⟨τ, rfl, FE.refl _ _ _, h1, h2, h3, h4, h5, h6, h7, h8⟩
  | succ r ih =>
    intro y u s P q τ m hy hm hu h0 hs hS
    have hs2 : ∀ g, g < 3 → s g ≤ 20000 := fun g hg => by have := hs g hg; omega
    have hms := missing_spec hS hs2
    have hS0 := hS
    obtain ⟨h1, h2, h3, h4, h5, h6, h7, h8⟩ := hS
    obtain ⟨m, rfl⟩ : ∃ k, m = k + 1 := ⟨m - 1, by omega⟩
    have hsty := hst y (by omega)
    show ∃ υ, fX2_layFrom_R (fX2_layFrom m) (nI y) (nI u) τ = some υ ∧ _ ∧ _
    unfold fX2_layFrom_R
    rw [hms]
    simp only [Option.bind_some]
    have hbh : ∀ r y, y + r ≤ n → bh st r y ≤ 1191 * r := by
      intro r
      induction r with
      | zero => intro y _; exact Nat.le_refl _
      | succ r ih2 =>
        intro y hy2
        have a := ih2 (y + 1) (by omega)
        have b := hst y (by omega)
        show st y + bh st r (y + 1) ≤ _
        omega
    have e27 : ga τ 27 (nI y) = nI (bh st (r + 1) y) := by
      rw [ga_nI _ _ _ (by omega), h4 y (by omega), show n - y = r + 1 by omega]
    have hb := hbh (r + 1) y (by omega)
    have hle : mis q.1 s < 2 ^ 31 := by unfold mis; omega
    rw [gd_t (b10 (by omega)), e27]
    by_cases c : mis q.1 s ≤ bh st (r + 1) y
    rotate_left
    · rw [if_neg (by rw [nI_leI hle (by omega)]; omega)]
      have : MX st (r + 1) y s + 1 ≤ q.1 := by
        rcases Nat.lt_or_ge (MX st (r + 1) y s) q.1 with z | z
        · exact z
        · exact absurd (prune st q.1 (r + 1) y s z) c
      rw [Fs_id st (r + 1) y s P q this]
      exact ⟨τ, rfl, FE.refl _ _ _, hS0⟩
    rw [if_pos (by rw [nI_leI hle (by omega)]; omega), gf_eq, h1, if_pos (by rw [nI_ltI (by omega) (by omega)]; omega), Fs_succ, chQ_can st r y P q h0]
    have key := lp_for (f := fun w : Int32 × Sg => fX2_layFrom_B70 (fX2_layFrom m) (nI y) (nI u) w.1 w.2) (P := fun i w => w.1 = nI i ∧ FE [28, 29, 30] [(25, 6)] τ w.2 ∧ BS st n y s P (chQ st r y s P i q) w.2) (Q := fun υ => FE [28, 29, 30] [(25, 6)] τ υ ∧ BS st n y s P (chQ st r y s P (min (u + 1) 3) q) υ) (min (u + 1) 3) (by have := Nat.min_le_right (u + 1) 3; omega) (s0 := (0, τ)) ⟨rfl, FE.refl _ _ _, hS0⟩ ?_ ?_
    · obtain ⟨υ, k1, k2, k3⟩ := key
      rw [k1]
      exact ⟨υ, rfl, k2, k3⟩
    · rintro g ⟨x, w⟩ hg ⟨hx, h2', h3'⟩
      dsimp only at hx h2' h3'
      subst hx
      have hgu : g < u + 1 := Nat.lt_of_lt_of_le hg (Nat.min_le_left _ _)
      have hg3 : g < 3 := Nat.lt_of_lt_of_le hg (Nat.min_le_right _ _)
      obtain ⟨b1, b2, b3', b4, b5', b6, b7, b8'⟩ := h3'
      -- the state as the child finds it
      have hch : BS st n (y + 1) (ad s g (st y)) (3 * P + g) (chQ st r y s P g q) (sup (sup w 29 y (nI g)) 28 g (nI (s g + st y))) := by
        refine ⟨b1, b2, fun z hz => b3' z hz, fun z hz => b4 z hz, fun h hh => ?_, fun z hz => ?_, fun hq z hz => b7 hq z hz, b8'⟩
        · rw [sup_at]
          by_cases e : h = g
          · subst e; rw [if_pos ⟨rfl, rfl⟩, ad_eq]
          · rw [if_neg (fun z => e z.2), ad_ne e, sup_ne (by decide)]; exact b5' h hh
        · rw [sup_ne (by decide), sup_at]
          by_cases e : z = y
          · subst e
            rw [if_pos ⟨rfl, rfl⟩, show z + 1 - 1 - z = 0 by omega, Nat.pow_zero, Nat.div_one, show (3 * P + g) % 3 = g by omega]
          · rw [if_neg (fun k => e k.2), b6 z (by omega), show y + 1 - 1 - z = y - 1 - z + 1 by omega, dig P g _ hg3]
      obtain ⟨φ, f1, f2, f3⟩ := ih (y + 1) (if g = u then u + 1 else u) (ad s g (st y)) (3 * P + g) (chQ st r y s P g q) _ m (by omega) (by omega) (by split <;> omega) (fun h hh h3 => by
          have hne : h ≠ g := by
            by_cases e : g = u
            · rw [if_pos e] at hh; omega
            · rw [if_neg e] at hh; omega
          rw [ad_ne hne]
          apply h0 h _ h3
          by_cases e : g = u
          · rw [if_pos e] at hh; omega
          · rw [if_neg e] at hh; omega) (fun h hh => by
          have := hs h hh
          by_cases e : h = g
          · subst e; rw [ad_eq]; omega
          · rw [ad_ne e]; omega) hch
      obtain ⟨d1, d2, d3, d4, d5, d6, d7, d8⟩ := f3
      have d5g : φ.1 28 g = nI (s g + st y) := by rw [d5 g hg3, ad_eq]
      refine ⟨(nI (g + 1), sup φ 28 g (nI (s g))), ?_, rfl, ?_, ?_⟩
      · show fX2_layFrom_B70 (fX2_layFrom m) (nI y) (nI u) (nI g) w = _
        unfold fX2_layFrom_B70 fX2_layFrom_J118
        rw [if_neg (by rw [nI_ltI (by omega) (by omega)]; omega), if_neg (by rw [show (3 : Int32) = nI 3 from rfl, nI_leI (by omega) (by omega)]; omega), gd_t (b9 (by omega)), gd_t (b3 hg3), gd_t (b9 (by omega)), gd_t (b3 hg3), sa_nI _ _ _ _ (by omega), sa_nI _ _ _ _ (by omega), ga_nI _ _ _ (by omega), ga_nI _ _ _ (by omega), sup_ne (σ := w) (c := 29) (d := 28) (by decide), sup_ne (σ := w) (c := 29) (d := 26) (by decide), b5' g hg3, b3' y (by omega), nI_add, nI_1, nI_1, nI_1]
        have fin : ∀ u', u' = nI (if g = u then u + 1 else u) → ((fX2_layFrom m (nI (y + 1)) u' (sup (sup w 29 y (nI g)) 28 g (nI (s g + st y)))).bind fun q13 => gd (inb (nI g) 3) (gd (inb (nI y) 9) (gd (inb (nI g) 3) (some (Sum.inl (nI (g + 1), sa q13 28 (nI g) (ga q13 28 (nI g) - ga q13 26 (nI y)))))))) = (some (Sum.inl (nI (g + 1), sup φ 28 g (nI (s g)))) : Option ((Int32 × Sg) ⊕ Sg)) := by
          rintro u' rfl
          rw [f1]
          simp only [Option.bind_some]
          rw [gd_t (b3 hg3), gd_t (b9 (by omega)), gd_t (b3 hg3), sa_nI _ _ _ _ (by omega), ga_nI _ _ _ (by omega), ga_nI _ _ _ (by omega), d5g, d3 y (by omega), pk_sub (by omega), show s g + st y - st y = s g by omega]
        by_cases e : g = u
        · rw [if_pos (by rw [e])]
          exact fin _ (by rw [if_pos e])
        · rw [if_neg (fun z => e ((nI_eq (by omega) (by omega)).mp z))]
          exact fin _ (by rw [if_neg e])
      · intro d j hd he
        have hd28 : d ≠ 28 := fun z => hd (by rw [z]; simp)
        have hd29 : d ≠ 29 := fun z => hd (by rw [z]; simp)
        show (sup φ 28 g (nI (s g))).1 d j = _
        rw [sup_ne hd28, f2 d j hd he, sup_ne hd28, sup_ne hd29]
        exact h2' d j hd he
      · show BS st n y s P (Fs st r (y + 1) (ad s g (st y)) (3 * P + g) (chQ st r y s P g q)) (sup φ 28 g (nI (s g)))
        refine ⟨d1, d2, fun z hz => d3 z hz, fun z hz => d4 z hz, fun h hh => ?_, fun z hz => ?_, fun hq z hz => d7 hq z hz, d8⟩
        · rw [sup_at]
          by_cases e : h = g
          · subst e; rw [if_pos ⟨rfl, rfl⟩]
          · rw [if_neg (fun z => e z.2), d5 h hh, ad_ne e]
        · rw [sup_ne (by decide), d6 z (by omega), show y + 1 - 1 - z = y - 1 - z + 1 by omega, dig P g _ hg3]
    · rintro ⟨x, w⟩ ⟨hx, h2', h3'⟩
      dsimp only at hx h2' h3'
      subst hx
      refine ⟨w, ?_, h2', h3'⟩
      show fX2_layFrom_B70 (fX2_layFrom m) (nI y) (nI u) (nI (min (u + 1) 3)) w = _
      unfold fX2_layFrom_B70
      by_cases e : u < 3
      · rw [Nat.min_eq_left (by omega)]
        rw [if_pos (by rw [nI_ltI (by omega) (by omega)]; omega)]
      · rw [Nat.min_eq_right (by omega), if_neg (by rw [nI_ltI (by omega) (by omega)]; omega), if_pos (by decide)]
