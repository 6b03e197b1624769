/-! cheapest: the reference -/
theorem and_not {p m : Nat} (h : sub2 p m) : nI m &&& (nI p ^^^ (-1)) = nI (m ^^^ p) := by
  apply b_ext
  intro i hi
  rw [b_and, b_xor, bt_nI _ _ hi, bt_nI _ _ hi, bt_nI _ _ hi, b_m1 i hi, Nat.testBit_xor]
  have := h i
  cases hp : p.testBit i
  · cases m.testBit i <;> rfl
  · rw [this hp]; rfl
theorem tog_spec {k : Nat} {W : Nat → Nat} {σ : Sg} (hB : WBd k W) (hk : k ≤ 512) (h : MW W σ) {m : Nat} (hm : m < 512) (v1 : Int32) (h0 : σ.1 47 m = 0) : ∃ τ, lpO (fun w : Int32 × Sg => fX11_layTogether_B30 v1 (nI m) w.1 w.2) FUEL (0, σ) = some τ ∧ FE [47] [] σ τ ∧ (∀ j, j ≠ m → τ.1 47 j = σ.1 47 j) ∧ τ.1 47 m = nI (tgs (stW W) (W 3) m) := by
  have h9 := hB.2.2.2.1
  refine lp_for (P := fun i (w : Int32 × Sg) => w.1 = nI i ∧ FE [47] [] σ w.2 ∧ (∀ j, j ≠ m → w.2.1 47 j = σ.1 47 j) ∧ w.2.1 47 m = nI (fb_sm (fun y => if m.testBit y = true then stW W y else 0) i)) (W 3) (by omega) ⟨rfl, FE.refl _ _ _, fun _ _ => rfl, h0⟩ ?_ ?_
  · rintro i ⟨x, w⟩ hi ⟨rfl, h2, h3, h4⟩
    dsimp only at h2 h3 h4
    have hw : MW W w := h.fr h2 (by decide)
    have hbit : m / 2 ^ i % 2 = 0 ∨ m / 2 ^ i % 2 = 1 := by omega
    refine ⟨(nI (i + 1), sup w 47 m (nI (fb_sm (fun y => if m.testBit y = true then stW W y else 0) (i + 1)))), ?_, rfl, h2.same FE_supC, ?_, ?_⟩
    · show fX11_layTogether_B30 v1 (nI m) (nI i) w = _
      unfold fX11_layTogether_B30 fX11_layTogether_J65
      rw [gd_t i77_3, mk3 hw, if_neg (by rw [nI_leI (by omega) (by omega)]; omega), gd_t (b512 hm), bit_nI (by omega) (by omega), mstrength_spec hB hk hw hi, Option.bind_some, gd_t (b512 hm), gd_t (b512 hm), ga_nI _ _ _ (by omega), sa_nI _ _ _ _ (by omega), sa_nI _ _ _ _ (by omega), h4, nI_1, fb_sm_succ, nI_add]
      rcases hbit with e | e
      · rw [e, if_neg (show ¬ nI 0 = (1 : Int32) by decide), if_neg (fun z => by rw [tb_1] at z; omega), show (0 : Int32) = nI 0 from rfl, nI_add]
      · rw [e, if_pos (show nI 1 = (1 : Int32) from rfl), if_pos ((tb_1 m i).mpr e)]
    · intro j hj
      show (sup w 47 m _).1 47 j = _
      rw [sup_at, if_neg (fun z => hj z.2)]; exact h3 j hj
    · show (sup w 47 m _).1 47 m = _
      rw [sup_at, if_pos ⟨rfl, rfl⟩]
  · rintro ⟨x, w⟩ ⟨rfl, h2, h3, h4⟩
    dsimp only at h2 h3 h4
    have hw : MW W w := h.fr h2 (by decide)
    refine ⟨w, ?_, h2, h3, h4⟩
    show fX11_layTogether_B30 v1 (nI m) (nI (W 3)) w = _
    unfold fX11_layTogether_B30
    rw [gd_t i77_3, mk3 hw, if_pos (by rw [nI_leI (by omega) (by omega)]; omega)]
/-- the most strands, of parts above one -/
def PtG (st : Nat → Nat) (n need : Nat) (g : Nat → Nat) (m part c : Nat) : Prop := c ≤ m ∧ (∀ p, sub2 p m → part < p → need ≤ tgs st n p → g (m ^^^ p) + 1 ≤ c) ∧ (c = 0 ∨ ∃ p, sub2 p m ∧ 0 < p ∧ need ≤ tgs st n p ∧ c = g (m ^^^ p) + 1)
theorem part_spec {st : Nat → Nat} {n need m : Nat} {g : Nat → Nat} {σ : Sg} (hm : m < 512) (hneed : need < 2 ^ 20) (htl : ∀ p, p ≤ m → σ.1 47 p = nI (tgs st n p) ∧ tgs st n p < 2 ^ 20) (hg : ∀ q, q < m → σ.1 48 q = nI (g q) ∧ g q ≤ q) (h0 : σ.1 48 m = 0) : ∃ τ, lpO (fun w : Int32 × Sg => fX11_layTogether_B75 (nI need) (nI m) w.1 w.2) FUEL (nI m, σ) = some τ ∧ FE [48] [] σ τ ∧ (∀ j, j ≠ m → τ.1 48 j = σ.1 48 j) ∧ ∃ c, τ.1 48 m = nI c ∧ PtG st n need g m 0 c := by
  refine lp_mea (P := fun w : Int32 × Sg => FE [48] [] σ w.2 ∧ (∀ j, j ≠ m → w.2.1 48 j = σ.1 48 j) ∧ ∃ part c, w.1 = nI part ∧ sub2 part m ∧ w.2.1 48 m = nI c ∧ PtG st n need g m part c) (μ := fun w => w.1.toNatClampNeg) ?_ FUEL (nI m, σ) ?_ ?_
  · rintro ⟨x, w⟩ ⟨h2, h3, part, c, hx, hs, hc, hcm, hp1, hp2⟩
    dsimp only at h2 h3 hx hc
    subst hx
    have hpl := sub2_le hs
    by_cases cz : part = 0
    · subst cz
      right
      refine ⟨w, ?_, h2, h3, c, hc, hcm, hp1, hp2⟩
      show fX11_layTogether_B75 (nI need) (nI m) (nI 0) w = _
      unfold fX11_layTogether_B75
      rw [if_pos (by decide)]
    · left
      have hlt := sub2_lt hs (by omega)
      have hnp : (part - 1) &&& m ≤ part - 1 := Nat.and_le_left
      have t47 : w.1 47 part = nI (tgs st n part) := by rw [h2 47 part (by decide) (by simp)]; exact (htl part hpl).1
      have tl := (htl part hpl).2
      have g48 : w.1 48 (m ^^^ part) = nI (g (m ^^^ part)) := by rw [h3 _ (by omega)]; exact (hg _ hlt).1
      have gl := (hg _ hlt).2
      -- with the number t for this part
      have fin : ∀ t, (t = 0 ∨ (need ≤ tgs st n part ∧ t = g (m ^^^ part) + 1)) → (need ≤ tgs st n part → t = g (m ^^^ part) + 1) → fX11_layTogether_B75 (nI need) (nI m) (nI part) w = fX11_layTogether_J105 (nI need) (nI m) (nI part) (nI t) w → ∃ s1, fX11_layTogether_B75 (nI need) (nI m) (nI part) w = some (.inl s1) ∧ (FE [48] [] σ s1.2 ∧ (∀ j, j ≠ m → s1.2.1 48 j = σ.1 48 j) ∧ ∃ part c, s1.1 = nI part ∧ sub2 part m ∧ s1.2.1 48 m = nI c ∧ PtG st n need g m part c) ∧ s1.1.toNatClampNeg < (nI part).toNatClampNeg := by
        intro t ht ht2 e
        have htm : t ≤ m := by
          rcases ht with z | ⟨_, z⟩
          · omega
          · omega
        have val : fX11_layTogether_J105 (nI need) (nI m) (nI part) (nI t) w = some (.inl (nI ((part - 1) &&& m), sup w 48 m (nI (max c t)))) := by
          unfold fX11_layTogether_J105 fX11_layTogether_J134
          rw [gd_t (b512 hm), gd_t (b512 hm), gd_t (b512 hm), gd_t (b512 hm), ga_nI _ _ _ (by omega), hc, sa_nI _ _ _ _ (by omega), sa_nI _ _ _ _ (by omega), st_s (by omega), fa_and]
          by_cases d : t ≤ c
          · rw [if_pos ((nI_leI (by omega) (by omega)).mpr d), Nat.max_eq_left d]
          · rw [if_neg (fun z => d ((nI_leI (by omega) (by omega)).mp z)), Nat.max_eq_right (by omega)]
        refine ⟨_, e.trans val, ⟨h2.same FE_supC, fun j hj => ?_, (part - 1) &&& m, max c t, rfl, and_sub _ _, ?_, Nat.max_le.mpr ⟨hcm, htm⟩, fun p ps plt pn => ?_, ?_⟩, ?_⟩
        · show (sup w 48 m _).1 48 j = _
          rw [sup_at, if_neg (fun z => hj z.2)]; exact h3 j hj
        · show (sup w 48 m _).1 48 m = _
          rw [sup_at, if_pos ⟨rfl, rfl⟩]
        · by_cases d : part < p
          · exact Nat.le_trans (hp1 p ps d pn) (Nat.le_max_left _ _)
          · by_cases d2 : p = part
            · subst d2
              rw [ht2 pn]; exact Nat.le_max_right _ _
            · have := nx_sub part part m p (Nat.le_refl _) hs ps (by omega)
              omega
        · rcases Nat.le_total c t with d | d
          · rw [Nat.max_eq_right d]
            rcases ht with z | ⟨z1, z2⟩
            · exact Or.inl z
            · exact Or.inr ⟨part, hs, by omega, z1, z2⟩
          · rw [Nat.max_eq_left d]; exact hp2
        · show (nI ((part - 1) &&& m)).toNatClampNeg < (nI part).toNatClampNeg
          rw [nI_clamp (by omega), nI_clamp (by omega)]
          omega
      have un : fX11_layTogether_B75 (nI need) (nI m) (nI part) w = if nI (tgs st n part) < nI need then fX11_layTogether_J105 (nI need) (nI m) (nI part) 0 w else fX11_layTogether_J105 (nI need) (nI m) (nI part) (nI (g (m ^^^ part) + 1)) w := by
        unfold fX11_layTogether_B75
        rw [if_neg (by rw [show (0 : Int32) = nI 0 from rfl, nI_leI (by omega) (by omega)]; omega), gd_t (b512 (by omega)), and_not hs, gd_t (b512 (by omega)), ga_nI _ _ _ (by omega), ga_nI _ _ _ (by omega), t47, g48, nI_1]
      by_cases d : tgs st n part < need
      · rw [if_pos ((nI_ltI (by omega) (by omega)).mpr d)] at un
        exact fin 0 (Or.inl rfl) (fun z => absurd d (by omega)) un
      · rw [if_neg (fun z => d ((nI_ltI (by omega) (by omega)).mp z))] at un
        exact fin _ (Or.inr ⟨by omega, rfl⟩) (fun _ => rfl) un
  · exact ⟨FE.refl _ _ _, fun _ _ => rfl, m, 0, rfl, sub2.refl m, h0, Nat.zero_le _, fun p ps plt _ => by have := sub2_le ps; omega, Or.inl rfl⟩
  · show (nI m).toNatClampNeg < 100000
    rw [nI_clamp (by omega)]; omega
theorem MaxG_cong {st : Nat → Nat} {n need m : Nat} {g g' : Nat → Nat} (e : ∀ z, z ≤ m → g' z = g z) (h : MaxG st n need g m) : MaxG st n need g' m := by
  obtain ⟨h1, h2⟩ := h
  have em := e m (Nat.le_refl _)
  have ey : ∀ p, sub2 p m → 0 < p → g' (m ^^^ p) = g (m ^^^ p) := fun p hp h0 => e _ (Nat.le_of_lt (sub2_lt hp h0))
  refine ⟨fun p hp h0 hn => by rw [ey p hp h0, em]; exact h1 p hp h0 hn, ?_⟩
  rcases h2 with z | ⟨p, hp, h0, hn, z⟩
  · left; rw [em]; exact z
  · right; exact ⟨p, hp, h0, hn, by rw [ey p hp h0, em]; exact z⟩
theorem tgs_le {k : Nat} {W : Nat → Nat} (hB : WBd k W) (m : Nat) : tgs (stW W) (W 3) m ≤ 10719 := by
  have h9 := hB.2.2.2.1
  have := fb_sm_bound (f := fun y => if m.testBit y = true then stW W y else 0) (c := 1191) (n := W 3) (fun y hy => by
    have := stW_le hB hy
    split <;> omega)
  have h2 : W 3 * 1191 ≤ 9 * 1191 := Nat.mul_le_mul_right _ h9
  unfold tgs
  omega
theorem layTog_spec {k : Nat} {W : Nat → Nat} {σ : Sg} (hB : WBd k W) (hk : k ≤ 512) (h : MW W σ) {need : Nat} (hneed : need ≤ 10000) : ∃ τ, fX11_layTogether (nI need) σ = some τ ∧ FE [47, 48] [] σ τ ∧ ∃ g : Nat → Nat, ∀ q, q < 2 ^ W 3 → τ.1 48 q = nI (g q) ∧ g q ≤ q ∧ MaxG (stW W) (W 3) need g q := by
  have h9 := hB.2.2.2.1
  have hp := p2_le h9
  unfold fX11_layTogether
  have key := lp_for (f := fun w : Int32 × Sg => fX11_layTogether_B2 (nI need) w.1 w.2) (P := fun m w => w.1 = nI m ∧ FE [47, 48] [] σ w.2 ∧ (∀ q, q < m → w.2.1 47 q = nI (tgs (stW W) (W 3) q)) ∧ ∃ g : Nat → Nat, ∀ q, q < m → w.2.1 48 q = nI (g q) ∧ g q ≤ q ∧ MaxG (stW W) (W 3) need g q) (Q := fun τ => FE [47, 48] [] σ τ ∧ ∃ g : Nat → Nat, ∀ q, q < 2 ^ W 3 → τ.1 48 q = nI (g q) ∧ g q ≤ q ∧ MaxG (stW W) (W 3) need g q) (2 ^ W 3) (by omega) (s0 := (0, σ)) ⟨rfl, FE.refl _ _ _, fun q hq => absurd hq (Nat.not_lt_zero _), fun _ => 0, fun q hq => absurd hq (Nat.not_lt_zero _)⟩ ?_ ?_
  · obtain ⟨τ, k1, k2, k3⟩ := key
    rw [k1, Option.bind_some]
    exact ⟨τ, rfl, k2, k3⟩
  · rintro m ⟨x, w⟩ hm ⟨rfl, h2, h3, g, h4⟩
    dsimp only at h2 h3 h4
    have hw : MW W w := h.fr h2 (by decide)
    have f1 : FE [47, 48] [] w (sup (sup w 47 m 0) 48 m 0) := ((FE_supC (c := 47) (j := m) (v := 0)).trans FE_supC).up (by decide) (by decide)
    obtain ⟨α, a1, a2, a3, a4⟩ := tog_spec hB hk (hw.fr f1 (by decide)) (m := m) (by omega) (nI need) (by rw [sup_ne (by decide), sup_at, if_pos ⟨rfl, rfl⟩])
    have w48 : ∀ j, α.1 48 j = if j = m then 0 else w.1 48 j := fun j => by
      rw [a2 48 j (by decide) (by simp), sup_at, sup_ne (σ := w) (c := 47) (d := 48) (by decide)]
      by_cases c : j = m
      · rw [if_pos ⟨rfl, c⟩, if_pos c]
      · rw [if_neg (fun z => c z.2), if_neg c]
    have w47 : ∀ q, q ≤ m → α.1 47 q = nI (tgs (stW W) (W 3) q) := fun q hq => by
      by_cases c : q = m
      · rw [c]; exact a4
      · rw [a3 q c, sup_ne (by decide), sup_at, if_neg (fun z => c z.2)]; exact h3 q (by omega)
    obtain ⟨β, b1, b2', b3', c, c1, c2, c3, c4⟩ := part_spec (st := stW W) (n := W 3) (need := need) (m := m) (g := g) (σ := α) (by omega) (by omega) (fun p hp => ⟨w47 p hp, by have := tgs_le hB p; omega⟩) (fun q hq => ⟨by rw [w48, if_neg (by omega)]; exact (h4 q hq).1, (h4 q hq).2.1⟩) (by rw [w48, if_pos rfl])
    refine ⟨(nI (m + 1), β), ?_, rfl, ?_, fun q hq => ?_, updN g m c, fun q hq => ?_⟩
    · show fX11_layTogether_B2 (nI need) (nI m) w = _
      unfold fX11_layTogether_B2
      rw [gd_t i77_3, mk3 hw, shl1_nI (by omega), if_neg (by rw [nI_leI (by omega) (by omega)]; omega), gd_t (b512 (by omega)), gd_t (b512 (by omega)), sa_nI _ _ _ _ (by omega), sa_nI _ _ _ _ (by omega), a1, Option.bind_some, b1, Option.bind_some, nI_1]
    · exact h2.same ((f1.trans (a2.trans b2')).up (by decide) (by decide))
    · show β.1 47 q = _
      rw [b2' 47 q (by decide) (by simp)]; exact w47 q (by omega)
    · show β.1 48 q = _ ∧ _
      by_cases d : q = m
      · subst d
        have e0 : updN g q c q = c := updN_eq _ _ _
        have ep : ∀ p, sub2 p q → 0 < p → updN g q c (q ^^^ p) = g (q ^^^ p) := fun p hp h0 => updN_ne (by have := sub2_lt hp h0; omega)
        rw [e0]
        refine ⟨c1, c2, fun p hp h0 hn => ?_, ?_⟩
        · rw [e0, ep p hp h0]; exact c3 p hp h0 hn
        · rcases c4 with z | ⟨p, hp, h0, hn, z⟩
          · left; rw [e0]; exact z
          · right; exact ⟨p, hp, h0, hn, by rw [e0, ep p hp h0]; exact z⟩
      · have eq : ∀ z, z ≤ q → updN g m c z = g z := fun z hz => updN_ne (by omega)
        have hq' : q < m := by omega
        rw [eq q (Nat.le_refl _), b3' q d, w48, if_neg d]
        exact ⟨(h4 q hq').1, (h4 q hq').2.1, MaxG_cong eq (h4 q hq').2.2⟩
  · rintro ⟨x, w⟩ ⟨rfl, h2, h3, g, h4⟩
    dsimp only at h2 h3 h4
    have hw : MW W w := h.fr h2 (by decide)
    refine ⟨w, ?_, h2, g, h4⟩
    show fX11_layTogether_B2 (nI need) (nI (2 ^ W 3)) w = _
    unfold fX11_layTogether_B2
    rw [gd_t i77_3, mk3 hw, shl1_nI (by omega), if_pos (by rw [nI_leI (by omega) (by omega)]; omega)]
theorem mcost_spec {k : Nat} {W : Nat → Nat} {σ : Sg} (hB : WBd k W) (h : MW W σ) {m : Nat} (hm : m < 512) : fX11_costOf (nI m) σ = some (nI (cst W m)) := by
  have h9 := hB.2.2.2.1
  unfold fX11_costOf
  rw [lp_to (o := nI (cst W m)) (fun i => (nI (fb_sm (fun y => m / 2 ^ y % 2 * W (5 + 2 * W (15 + 7 * y)) * W (16 + 7 * y)) i), nI i)) (W 3) (by omega)]
  · rfl
  · intro i hi
    have hbit : m / 2 ^ i % 2 = 0 ∨ m / 2 ^ i % 2 = 1 := by omega
    show fX11_costOf_B4 (nI m) _ (nI i) σ = _
    unfold fX11_costOf_B4 fX11_costOf_J40
    rw [gd_t i77_3, mk3 h, if_neg (by rw [nI_leI (by omega) (by omega)]; omega), bit_nI (by omega) (by omega), priceOf_spec hB h hi, of_2 h hi h9]
    simp only [Option.bind_some]
    rw [nI_1, fb_sm_succ]
    rcases hbit with e | e
    · rw [e, if_neg (show ¬ nI 0 = (1 : Int32) by decide), Nat.zero_mul, Nat.zero_mul, show (0 : Int32) = nI 0 from rfl, nI_add]
    · rw [e, if_pos (show nI 1 = (1 : Int32) from rfl), Nat.one_mul, pk_mul, nI_add]
  · show fX11_costOf_B4 (nI m) _ (nI (W 3)) σ = _
    unfold fX11_costOf_B4
    rw [gd_t i77_3, mk3 h, if_pos (by rw [nI_leI (by omega) (by omega)]; omega)]
    rfl
  · rfl
def okG (g : Nat → Nat) (m : Nat) : Bool := decide (3 ≤ g m)
theorem mfar {b : Nat} (hb : b < 2 ^ 31) : ¬ nI b = (-1000000 : Int32) := fun z => by
  have := nI_pos (n := b) hb
  rw [z] at this
  exact this (by decide)
theorem msel_spec {k : Nat} {W : Nat → Nat} {σ : Sg} (hB : WBd k W) (h : MW W σ) {g : Nat → Nat} (hg : ∀ q, q < 2 ^ W 3 → σ.1 48 q = nI (g q) ∧ g q ≤ q) (v2 : Int32) : lpO (fun w : Int32 × Int32 => fX11_cheapest_B56 v2 w.1 w.2 σ) FUEL ((-1000000), 0) = some (encM (bsel (cst W) (okG g) (2 ^ W 3))) := by
  have h9 := hB.2.2.2.1
  have hp := p2_le h9
  refine lp_to (fun i => (encM (bsel (cst W) (okG g) i), nI i)) (2 ^ W 3) (by omega) ?_ ?_ rfl
  · intro i hi
    obtain ⟨g1, g2⟩ := hg i hi
    have hbl : bsel (cst W) (okG g) i < 512 := by
      by_cases c : i = 0
      · rw [c]; show 0 < 512; omega
      · have := bsel_lt (cst W) (okG g) (i := i) (by omega); omega
    have c1 := cst_le hB i
    have c2 := cst_le hB (bsel (cst W) (okG g) i)
    have hbs : bsel (cst W) (okG g) (i + 1) = if okG g i = true ∧ (bsel (cst W) (okG g) i = 0 ∨ cst W i < cst W (bsel (cst W) (okG g) i)) then i else bsel (cst W) (okG g) i := rfl
    show fX11_cheapest_B56 v2 (encM (bsel (cst W) (okG g) i)) (nI i) σ = some (.inl (encM (bsel (cst W) (okG g) (i + 1)), nI (i + 1)))
    unfold fX11_cheapest_B56
    rw [gd_t i77_3, mk3 h, shl1_nI (by omega), if_neg (by rw [nI_leI (by omega) (by omega)]; omega), gd_t (b512 (by omega)), ga_nI _ _ _ (by omega), g1, show (3 : Int32) = nI 3 from rfl, hbs]
    unfold fX11_cheapest_J85 fX11_cheapest_J117 fX11_cheapest_J112 fX11_cheapest_J118
    rw [nI_1]
    by_cases d : g i < 3
    · have ho : ¬ (okG g i = true ∧ (bsel (cst W) (okG g) i = 0 ∨ cst W i < cst W (bsel (cst W) (okG g) i))) := by
        rintro ⟨z, _⟩
        have := of_decide_eq_true z
        omega
      rw [if_pos ((nI_ltI (by omega) (by omega)).mpr d), if_neg ho, if_pos rfl]
    · have ho : okG g i = true := decide_eq_true (by omega)
      rw [if_neg (fun z => d ((nI_ltI (by omega) (by omega)).mp z)), if_neg one_ne]
      by_cases b0 : bsel (cst W) (okG g) i = 0
      · rw [b0, if_pos (show encM 0 = (-1000000 : Int32) from rfl), if_pos ⟨ho, Or.inl rfl⟩]
        have : encM i = nI i := if_neg (by omega)
        rw [this]
      · have e4 : encM (bsel (cst W) (okG g) i) = nI (bsel (cst W) (okG g) i) := if_neg b0
        rw [e4, if_neg (mfar (by omega)), mcost_spec hB h (by omega), mcost_spec hB h hbl, Option.bind_some, Option.bind_some]
        by_cases d2 : cst W (bsel (cst W) (okG g) i) ≤ cst W i
        · rw [if_pos ((nI_leI (by omega) (by omega)).mpr d2), if_neg, e4]
          rintro ⟨_, z | z⟩
          · exact b0 z
          · omega
        · rw [if_neg (fun z => d2 ((nI_leI (by omega) (by omega)).mp z)), if_pos ⟨ho, Or.inr (by omega)⟩]
          have : encM i = nI i := if_neg (by omega)
          rw [this]
  · show fX11_cheapest_B56 v2 _ (nI (2 ^ W 3)) σ = _
    unfold fX11_cheapest_B56
    rw [gd_t i77_3, mk3 h, shl1_nI (by omega), if_pos (by rw [nI_leI (by omega) (by omega)]; omega)]
theorem cst_0 (W : Nat → Nat) : cst W 0 = 0 := by
  unfold cst
  rw [fb_sm_cong (g := fun _ => 0) (fun y _ => by rw [Nat.zero_div, Nat.zero_mod, Nat.zero_mul, Nat.zero_mul])]
  exact fb_sm_0 _
theorem ok_cheapest : OK_cheapest Inv := by
  intro k b σ a1 a2 hk hI
  obtain ⟨⟨t, W, ⟨t1, wt, wm, w0, hB, hT, hS, hM⟩, _⟩, _⟩ := hI.2.2.2.2
  have hC : CW W σ := ⟨hT, hS⟩
  have h9 := hB.2.2.2.1
  have hp := p2_le h9
  have hp0 : 0 < 2 ^ W 3 := Nat.pow_pos (by decide)
  have e1 : gf σ 8 0 = nI t := wt
  have e2 : gf (sup σ 38 0 0) 38 7 = nI t := wm
  have e := small_in a2 1 (by omega)
  rw [show (nI 1).toInt64 = (1 : Int64) from rfl] at e
  by_cases ht : t = 0
  · subst ht
    refine ⟨(-1000002, σ), (-1000002, sup σ 38 0 0), ?_, ?_, rfl, hI.up.thr 0⟩
    · unfold fX10_cheapest; rw [e1, if_pos (show nI 0 = (0 : Int32) from rfl)]
    · show fX11_cheapest a1 a2 σ = _
      unfold fX11_cheapest; rw [e2, if_pos (show nI 0 = (0 : Int32) from rfl)]
  by_cases c1 : 0 ≤ a1 ∧ a1 ≤ 9999
  rotate_left
  · refine ⟨(-1000001, σ), (-1000001, sup σ 38 0 0), ?_, ?_, rfl, hI.up.thr 0⟩
    · unfold fX10_cheapest fX10_cheapest_J29; rw [e1, if_neg (q0 ht), isLoad_c, if_neg c1, Option.bind_some, if_pos rfl]
    · show fX11_cheapest a1 a2 σ = _
      unfold fX11_cheapest fX11_cheapest_J32; rw [e2, if_neg (q0 ht), isLoad_m, if_neg c1, Option.bind_some, if_pos rfl]
  by_cases c2 : ∃ j, j ≤ 1 ∧ a2 = nI j
  rotate_left
  · refine ⟨(-1000001, σ), (-1000001, sup σ 38 0 0), ?_, ?_, rfl, hI.up.thr 0⟩
    · unfold fX10_cheapest fX10_cheapest_J29; rw [e1, if_neg (q0 ht), isLoad_c, if_pos c1, Option.bind_some, if_neg one_ne]
      by_cases d1 : a2 < 0
      · rw [if_pos d1]
      · have d2 : ¬ a2 ≤ 1 := by
          have := (small_no (by omega) c2).resolve_left d1
          rw [fa_le]; rw [fa_lt] at this; exact Int.not_le.mpr this
        rw [if_neg d1, if_neg d2]
    · show fX11_cheapest a1 a2 σ = _
      unfold fX11_cheapest fX11_cheapest_J32; rw [e2, if_neg (q0 ht), isLoad_m, if_pos c1, Option.bind_some, if_neg one_ne, in_spec, if_neg (fun z => c2 (e.mp z)), Option.bind_some, if_pos rfl]
  obtain ⟨L, hL, rfl⟩ := load_of c1
  have cz := c2
  obtain ⟨j, hj, rfl⟩ := c2
  have ccA : fX10_cheapest (nI L) (nI j) σ = (fX3_search (nI L) σ).bind (fun q7 => if (0 : Int32) ≤ q7.1 then (if nI j = 0 then ((fX9_priceOf q7.1 q7.2).bind (fun q11 => some (q11, q7.2))) else (some (q7.1, q7.2))) else (some ((-1000000), q7.2))) := by
    unfold fX10_cheapest
    rw [e1, if_neg (q0 ht), isLoad_c, if_pos c1, Option.bind_some, if_neg one_ne, if_neg (nI_pos (by omega)), if_pos (show nI j ≤ (1 : Int32) from (nI_leI (b := 1) (by omega) (by omega)).mpr hj)]
  have mmA : ∀ τ : Sg, gf (sup τ 38 0 0) 38 7 = nI t → fX11_cheapest (nI L) (nI j) τ = if nI L = 0 then some (0, sup τ 38 0 0) else (fX11_layTogether ((nI L + 2) / 3) (sup τ 38 0 0)).bind (fun q9 => (lpO (fun w : Int32 × Int32 => fX11_cheapest_B56 (nI j) w.1 w.2 q9) FUEL ((-1000000), 0)).bind (fun o22 => if o22 = (-1000000) then (fX11_cheapest_J136 o22 q9) else (if nI j = 1 then (fX11_cheapest_J136 o22 q9) else ((fX11_costOf o22 q9).bind (fun q25 => some (q25, q9)))))) := by
    intro τ h
    unfold fX11_cheapest
    rw [h, if_neg (q0 ht), isLoad_m, if_pos c1, Option.bind_some, if_neg one_ne, in_spec, if_pos (e.mpr cz), Option.bind_some, if_neg one_ne]
  by_cases l0 : L = 0
  · subst l0
    refine ⟨(0, σ), (0, sup σ 38 0 0), ?_, ?_, rfl, hI.up.thr 0⟩
    · rw [ccA]
      have : fX3_search (nI 0) σ = some (0, σ) := by
        unfold fX3_search
        rw [if_pos (by decide)]
      rw [this, Option.bind_some]
      dsimp only
      rw [if_pos (by decide), show (0 : Int32) = nI 0 from rfl, cprice_spec hB hC (by omega), Option.bind_some, cst_0]
      split <;> rfl
    · show fX11_cheapest (nI 0) (nI j) σ = _
      rw [mmA σ e2, if_pos (show nI 0 = (0 : Int32) from rfl)]
  obtain ⟨f, τ, s1, s2, s3⟩ := csearch_spec hB (by omega) hC hL (by omega)
  have fτ := s2.trans (FE_sup (c := 38) (j := 0) (v := 0))
  have hMτ : MW W (sup τ 38 0 0) := (show MW W σ from hM).fr fτ (by decide)
  obtain ⟨φ, g1, g2, g, g3⟩ := layTog_spec hB (by omega) hMτ (need := (L + 2) / 3) (by omega)
  have hMφ : MW W φ := hMτ.fr g2 (by decide)
  have hCτ : CW W τ := hC.fr s2 (by decide)
  have hU : Inv (k + 1) b φ := hI.up.fr (fτ.trans g2) (by decide)
  have e2' : gf (sup τ 38 0 0) 38 7 = nI t := by
    rw [gf_eq, sup_at, if_neg (by decide), s2 38 7 (by decide) (by simp)]; exact wm
  have same : bsel (cst W) (okF f) (2 ^ W 3) = bsel (cst W) (okG g) (2 ^ W 3) := bsel_cong (fun m hm => by
    unfold okF okG
    have := f_iff_g (st := stW W) (n := W 3) (need := (L + 2) / 3) (f := f) (g := g) (by omega) (by omega) (fun y hy => by have := stW_le hB hy; omega) s3 (fun m hm => (g3 m hm).2.2) hm
    simp only [this])
  have hbl := bsel_lt (cst W) (okG g) hp0
  have ey : (nI L + 2) / 3 = nI ((L + 2) / 3) := by
    rw [show (2 : Int32) = nI 2 from rfl, show (3 : Int32) = nI 3 from rfl, nI_add, pk_div (by omega) (by omega) (by omega)]
  have cc := ccA
  rw [s1, Option.bind_some, same] at cc
  have mm := mmA τ e2'
  rw [if_neg (q0 l0), ey, g1, Option.bind_some, msel_spec hB hMφ (fun q hq => ⟨(g3 q hq).1, (g3 q hq).2.1⟩), Option.bind_some] at mm
  dsimp only at cc
  generalize bsel (cst W) (okG g) (2 ^ W 3) = B at cc mm hbl
  unfold fX11_cheapest_J136 at mm
  by_cases b0 : B = 0
  · subst b0
    rw [if_neg (show ¬ (0 : Int32) ≤ encC 0 by decide)] at cc
    rw [if_pos (show encM 0 = (-1000000 : Int32) from rfl)] at mm
    exact ⟨_, _, cc, mm, rfl, hU⟩
  · have x1 : encC B = nI B := if_neg b0
    have x2 : encM B = nI B := if_neg b0
    rw [x1, if_pos (nI_pos' (by omega)), cprice_spec hB hCτ (by omega), Option.bind_some] at cc
    rw [x2, if_neg (mfar (by omega)), mcost_spec hB hMφ (by omega), Option.bind_some] at mm
    by_cases ca : j = 0
    · subst ca
      rw [if_pos (show nI 0 = (0 : Int32) from rfl)] at cc
      rw [if_neg (show ¬ nI 0 = (1 : Int32) by decide)] at mm
      exact ⟨_, _, cc, mm, rfl, hU⟩
    · have : j = 1 := by omega
      subst this
      rw [if_neg (show ¬ nI 1 = (0 : Int32) by decide)] at cc
      rw [if_pos (show nI 1 = (1 : Int32) from rfl)] at mm
      exact ⟨_, _, cc, mm, rfl, hU⟩
