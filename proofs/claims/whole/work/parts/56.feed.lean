/-! feed -/
theorem byte_of (x : Int64) : ∃ v, v < 256 ∧ (x &&& 255).toInt32 = nI v ∧ i2b (i2b x.toInt32) = i2b (nI v) := by
  obtain ⟨n, hn, rfl⟩ := wb_of x
  have e : lN n &&& 255 = lN (n % 2 ^ 8) := wb_mask (k := 8) hn (by decide)
  refine ⟨n % 2 ^ 8, Nat.mod_lt _ (by decide), by rw [e, lN_i], ?_⟩
  rw [lN_i]
  unfold i2b
  rw [fb_byte_twice, ← fa_byte_low (nI n)]
  have e2 : nI n &&& (255 : Int32) = nI (n % 2 ^ 8) := fa_mask n 8
  rw [e2]
theorem nI_dec {n : Nat} (h : 1 ≤ n) : nI n + (-1) = nI (n - 1) := by
  have : nI n = nI (n - 1) + 1 := by rw [nI_1, show n - 1 + 1 = n by omega]
  rw [this, Int32.add_assoc, show (1 : Int32) + (-1) = 0 by decide, Int32.add_zero]
/-- the place a feed loop is at: m - i bytes to go -/
theorem feed_c {n m : Nat} (hm : m ≤ 8) (hn : n + m ≤ 400) (a : Int64) {σ : Sg} (e : σ.1 6 1 = nI n) : ∃ τ, lpO (fun w : Int32 × Sg => fX10_feed_B36 a w.1 w.2) FUEL (nI m - 1, σ) = some τ ∧ FE [7] [(6, 1)] σ τ ∧ τ.1 6 1 = nI (n + m) ∧ ∀ j, τ.1 7 j = if n ≤ j ∧ j < n + m then i2b (i2b (jlshr a (8 * nI (m - 1 - (j - n)))).toInt32) else σ.1 7 j := by
  refine lp_for (P := fun i (w : Int32 × Sg) => w.1 = nI (m - i) - 1 ∧ FE [7] [(6, 1)] σ w.2 ∧ w.2.1 6 1 = nI (n + i) ∧ ∀ j, w.2.1 7 j = if n ≤ j ∧ j < n + i then i2b (i2b (jlshr a (8 * nI (m - 1 - (j - n)))).toInt32) else σ.1 7 j) m (by omega) ⟨rfl, FE.refl _ _ _, e, fun j => by rw [if_neg (by omega)]⟩ ?_ ?_
  · rintro i ⟨x, w⟩ hi ⟨h1, h2, h3, h4⟩
    dsimp only at h1 h2 h3 h4
    subst h1
    refine ⟨(nI (m - (i + 1)) - 1, sup (sup w 7 (n + i) (i2b (i2b (jlshr a (8 * nI (m - 1 - i))).toInt32))) 6 1 (nI (n + (i + 1)))), ?_, rfl, ?_, ?_, ?_⟩
    · show fX10_feed_B36 a (nI (m - i) - 1) w = _
      rw [st_s (by omega)]
      unfold fX10_feed_B36 fX8_add
      rw [if_neg (nI_pos (by omega)), gf_eq, h3, gd_t (b400 (by omega)), sa_nI _ _ _ _ (by omega), show m - i - 1 = m - 1 - i by omega]
      simp only [Option.bind_some]
      have g : ∀ v, gf (sup w 7 (n + i) v) 6 1 = nI (n + i) := fun v => h3
      rw [g, nI_1, show n + i + 1 = n + (i + 1) by omega, show m - (i + 1) = m - 1 - i by omega]
      by_cases c : m - 1 - i = 0
      · rw [c]; rfl
      · rw [nI_dec (by omega), st_s (by omega)]
    · exact fun d k hd he => by
        show (sup (sup w 7 (n + i) _) 6 1 _).1 d k = _
        rw [sup_at, if_neg (fun z => he (by rw [z.1, z.2]; simp)), sup_at, if_neg (fun z => hd (by rw [z.1]; simp))]
        exact h2 d k hd he
    · show (sup (sup w 7 (n + i) _) 6 1 _).1 6 1 = _
      rw [sup_at, if_pos ⟨rfl, rfl⟩]
    · intro j
      show (sup (sup w 7 (n + i) _) 6 1 _).1 7 j = _
      rw [sup_ne (by decide), sup_at, h4 j]
      by_cases c : j = n + i
      · rw [if_pos ⟨rfl, c⟩, if_pos (by omega), show j - n = i by omega]
      · rw [if_neg (fun z => c z.2)]
        by_cases d : n ≤ j ∧ j < n + i
        · rw [if_pos d, if_pos (by omega)]
        · rw [if_neg d, if_neg (by omega)]
  · rintro ⟨x, w⟩ ⟨h1, h2, h3, h4⟩
    dsimp only at h1 h2 h3 h4
    subst h1
    refine ⟨w, ?_, h2, h3, h4⟩
    show fX10_feed_B36 a (nI (m - m) - 1) w = _
    unfold fX10_feed_B36
    rw [show m - m = 0 by omega, if_pos (by decide)]
theorem feed_m {n m : Nat} (hm : m ≤ 8) (hn : n + m ≤ 400) (a : Int64) {σ : Sg} (e : σ.1 38 11 = nI n) : ∃ τ, lpO (fun w : Int32 × Sg => fX11_feed_B40 a w.1 w.2) FUEL (nI m - 1, σ) = some τ ∧ FE [45] [(38, 11)] σ τ ∧ τ.1 38 11 = nI (n + m) ∧ ∀ j, τ.1 45 j = if n ≤ j ∧ j < n + m then (jlshr a (8 * nI (m - 1 - (j - n))) &&& 255).toInt32 else σ.1 45 j := by
  refine lp_for (P := fun i (w : Int32 × Sg) => w.1 = nI (m - i) - 1 ∧ FE [45] [(38, 11)] σ w.2 ∧ w.2.1 38 11 = nI (n + i) ∧ ∀ j, w.2.1 45 j = if n ≤ j ∧ j < n + i then (jlshr a (8 * nI (m - 1 - (j - n))) &&& 255).toInt32 else σ.1 45 j) m (by omega) ⟨rfl, FE.refl _ _ _, e, fun j => by rw [if_neg (by omega)]⟩ ?_ ?_
  · rintro i ⟨x, w⟩ hi ⟨h1, h2, h3, h4⟩
    dsimp only at h1 h2 h3 h4
    subst h1
    refine ⟨(nI (m - (i + 1)) - 1, sup (sup w 45 (n + i) (jlshr a (8 * nI (m - 1 - i)) &&& 255).toInt32) 38 11 (nI (n + (i + 1)))), ?_, rfl, ?_, ?_, ?_⟩
    · show fX11_feed_B40 a (nI (m - i) - 1) w = _
      rw [st_s (by omega)]
      unfold fX11_feed_B40
      rw [if_neg (nI_pos (by omega)), gf_eq, h3, gd_t (b400 (by omega)), sa_nI _ _ _ _ (by omega), show m - i - 1 = m - 1 - i by omega]
      have g : ∀ v, gf (sup w 45 (n + i) v) 38 11 = nI (n + i) := fun v => h3
      rw [g, nI_1, show n + i + 1 = n + (i + 1) by omega, show m - (i + 1) = m - 1 - i by omega]
      by_cases c : m - 1 - i = 0
      · rw [c]; rfl
      · rw [nI_dec (by omega), st_s (by omega)]
    · exact fun d k hd he => by
        show (sup (sup w 45 (n + i) _) 38 11 _).1 d k = _
        rw [sup_at, if_neg (fun z => he (by rw [z.1, z.2]; simp)), sup_at, if_neg (fun z => hd (by rw [z.1]; simp))]
        exact h2 d k hd he
    · show (sup (sup w 45 (n + i) _) 38 11 _).1 38 11 = _
      rw [sup_at, if_pos ⟨rfl, rfl⟩]
    · intro j
      show (sup (sup w 45 (n + i) _) 38 11 _).1 45 j = _
      rw [sup_ne (by decide), sup_at, h4 j]
      by_cases c : j = n + i
      · rw [if_pos ⟨rfl, c⟩, if_pos (by omega), show j - n = i by omega]
      · rw [if_neg (fun z => c z.2)]
        by_cases d : n ≤ j ∧ j < n + i
        · rw [if_pos d, if_pos (by omega)]
        · rw [if_neg d, if_neg (by omega)]
  · rintro ⟨x, w⟩ ⟨h1, h2, h3, h4⟩
    dsimp only at h1 h2 h3 h4
    subst h1
    refine ⟨w, ?_, h2, h3, h4⟩
    show fX11_feed_B40 a (nI (m - m) - 1) w = _
    unfold fX11_feed_B40
    rw [show m - m = 0 by omega, if_pos (by decide)]
theorem ok_feed : OK_feed Inv := by
  intro k b σ a1 a2 hk hI
  obtain ⟨n, hn, t1, t2, t3⟩ := hI.2.1
  have z1 : (1 : Int32).toInt = 1 := rfl
  have z8 : (8 : Int32).toInt = 8 := rfl
  have e : ((1 : Int64) ≤ a2.toInt64 ∧ a2.toInt64 ≤ (8 : Int64)) ↔ (1 ≤ a2 ∧ a2 ≤ 8) := wide_in a2 1 8
  by_cases h : 1 ≤ a2 ∧ a2 ≤ 8
  rotate_left
  · refine ⟨(-1000001, σ), (-1000001, sup σ 38 0 0), ?_, ?_, rfl, hI.up.thr 0⟩
    · unfold fX10_feed fX10_feed_J11
      by_cases c : a2 < 1
      · rw [if_pos c]
      · rw [if_neg c, if_neg (fun z => h ⟨by rw [fa_lt] at c; rw [fa_le]; omega, z⟩)]
    · show fX11_feed a1 a2 σ = _
      unfold fX11_feed
      simp only [in_spec, e, Option.bind_some]
      rw [if_neg h, if_pos rfl]
  have c1 : ¬ a2 < 1 := by have := h.1; rw [fa_le] at this; rw [fa_lt]; omega
  obtain ⟨m, hm31, rfl⟩ := nI_of (x := a2) (by rw [lt0_iff]; rw [fa_lt] at c1; omega)
  have hm : m ≤ 8 := (nI_leI (b := 8) hm31 (by omega)).mp h.2
  have hm1 : 1 ≤ m := (nI_leI (a := 1) (by omega) hm31).mp h.1
  have room : fX8_hasRoom (nI m) σ = some (if 400 < n + m then 0 else 1) := by
    unfold fX8_hasRoom
    rw [gf_eq, t1, nI_add, show (400 : Int32) = nI 400 from rfl]
    by_cases c : 400 < n + m
    · rw [if_pos ((nI_ltI (by omega) (by omega)).mpr c), if_pos c]
    · rw [if_neg (fun z => c ((nI_ltI (by omega) (by omega)).mp z)), if_neg c]
  have mpre : ∀ τ : Sg, τ.1 38 11 = nI n → fX11_feed a1 (nI m) τ = if n + m ≤ 400 then (lpO (fun w => fX11_feed_B40 a1 w.1 w.2) FUEL (nI m - 1, sup τ 38 0 0)).bind (fun o7 => some (gf o7 38 11, o7)) else some (-1000003, sup τ 38 0 0) := by
    intro τ ht
    unfold fX11_feed
    simp only [in_spec, e, Option.bind_some]
    have g : gf (sup τ 38 0 0) 38 11 = nI n := ht
    rw [if_pos h, if_neg one_ne, g, nI_add, show (400 : Int32) = nI 400 from rfl]
    by_cases c : n + m ≤ 400
    · rw [if_pos ((nI_leI (by omega) (by omega)).mpr c), if_pos c]
    · rw [if_neg (fun z => c ((nI_leI (by omega) (by omega)).mp z)), if_neg c]
  by_cases c : 400 < n + m
  · refine ⟨(-1000003, σ), (-1000003, sup σ 38 0 0), ?_, ?_, rfl, hI.up.thr 0⟩
    · unfold fX10_feed
      rw [if_neg c1, if_pos h.2, room, if_pos c]
      rfl
    · show fX11_feed a1 (nI m) σ = _
      rw [mpre σ t2, if_neg (by omega)]
  obtain ⟨τ, p1, p2, p3, p4⟩ := feed_c hm (by omega) a1 t1
  have t2' : τ.1 38 11 = nI n := (p2 38 11 (by decide) (by simp)).trans t2
  obtain ⟨υ, r1, r2, r3, r4⟩ := feed_m (n := n) (σ := sup τ 38 0 0) hm (by omega) a1 t2'
  have f1 : FE [7, 45] [(6, 1), (38, 0), (38, 11)] σ υ := (p2.trans (FE_sup (c := 38) (j := 0) (v := 0))).trans r2
  have hU := hI.up
  refine ⟨(nI (n + m), τ), (nI (n + m), υ), ?_, ?_, rfl, ⟨hU.1.fr f1 (by decide), ?_, hU.2.2.1.fr f1 (by decide), hU.2.2.2.1.fr f1 (by decide), hU.2.2.2.2.fr f1 (by decide) (by decide) (by decide)⟩⟩
  · unfold fX10_feed
    rw [if_neg c1, if_pos h.2, room, if_neg c]
    simp only [Option.bind_some, one_ne, if_false]
    rw [p1]
    simp only [Option.bind_some]
    rw [gf_eq, p3]
  · show fX11_feed a1 (nI m) τ = _
    rw [mpre τ t2', if_pos (by omega), r1]
    simp only [Option.bind_some]
    rw [gf_eq, r3]
  · refine ⟨n + m, by omega, ?_, r3, fun j hj => ?_⟩
    · rw [r2 6 1 (by decide) (by simp), sup_ne (by decide), p3]
    · rw [r4 j, r2 7 j (by decide) (by simp), sup_ne (σ := τ) (c := 38) (d := 7) (by decide), p4 j]
      by_cases d : n ≤ j
      · rw [if_pos ⟨d, hj⟩, if_pos ⟨d, hj⟩]
        obtain ⟨v, v1, v2, v3⟩ := byte_of (jlshr a1 (8 * nI (m - 1 - (j - n))))
        exact ⟨v, v1, v2, v3⟩
      · rw [if_neg (by omega), if_neg (by omega), sup_ne (by decide), p2 45 j (by decide) (by simp)]
        exact t3 j (by omega)
/-! images -/
theorem scp0 (σ : Sg) (q0 q1 n : Nat) (hn : n < 2 ^ 31) (d k : Nat) : (scp σ q0 q1 0 0 (nI n)).1 d k = if d = q1 ∧ k < n then σ.1 q0 k else σ.1 d k := by
  rw [show (0 : Int32) = nI 0 from rfl, scp_at _ _ _ (by omega) (by omega) hn]
  by_cases c : d = q1 ∧ k < n
  · rw [if_pos c, if_pos ⟨c.1, by omega, by omega⟩, show 0 + (k - 0) = k by omega]
  · rw [if_neg c, if_neg (fun z => c ⟨z.1, by omega⟩)]
theorem scp5 (σ : Sg) (q0 q1 d k : Nat) : (scp σ q0 q1 0 0 5).1 d k = if d = q1 ∧ k < 5 then σ.1 q0 k else σ.1 d k := scp0 σ q0 q1 5 (by omega) d k
theorem scp9 (σ : Sg) (q0 q1 d k : Nat) : (scp σ q0 q1 0 0 9).1 d k = if d = q1 ∧ k < 9 then σ.1 q0 k else σ.1 d k := scp0 σ q0 q1 9 (by omega) d k
theorem scp36 (σ : Sg) (q0 q1 d k : Nat) : (scp σ q0 q1 0 0 36).1 d k = if d = q1 ∧ k < 36 then σ.1 q0 k else σ.1 d k := scp0 σ q0 q1 36 (by omega) d k
/-- τ's walk at d is σ's at s -/
def Cpy (d s : Nat) (σ τ : Sg) : Prop := (∀ j, j < 5 → τ.1 d j = σ.1 s j) ∧ (∀ j, j < 5 → τ.1 (d + 1) j = σ.1 (s + 1) j) ∧ (∀ j, j < 5 → τ.1 (d + 2) j = σ.1 (s + 2) j) ∧ (∀ j, j < 9 → τ.1 (d + 3) j = σ.1 (s + 3) j) ∧ (∀ j, j < 9 → τ.1 (d + 4) j = σ.1 (s + 4) j) ∧ (∀ j, j < 9 → τ.1 (d + 5) j = σ.1 (s + 5) j) ∧ (∀ j, j < 36 → τ.1 (d + 6) j = σ.1 (s + 6) j)
theorem Cpy.trep {d s : Nat} {σ τ : Sg} (h : Cpy d s σ τ) {W : Nat → Nat} (h5 : W 2 ≤ 5) (h9 : W 3 ≤ 9) (t : TRep σ s W) : TRep τ d W := by
  obtain ⟨c0, c1, c2, c3, c4, c5, c6⟩ := h
  obtain ⟨t0, t1, t2, t3, t4, t5⟩ := t
  refine ⟨(c0 1 (by omega)).trans t0, (c0 2 (by omega)).trans t1, (c0 3 (by omega)).trans t2, (c0 4 (by omega)).trans t3, fun p hp => ⟨(c1 p (by omega)).trans (t4 p hp).1, (c2 p (by omega)).trans (t4 p hp).2⟩, fun y hy => ⟨(c3 y (by omega)).trans (t5 y hy).1, (c4 y (by omega)).trans (t5 y hy).2.1, (c5 y (by omega)).trans (t5 y hy).2.2⟩⟩
theorem Cpy.srep {d s : Nat} {σ τ : Sg} (h : Cpy d s σ τ) {W : Nat → Nat} (h9 : W 3 ≤ 9) (t : SRep (σ.1 (s + 6)) 0 W) : SRep (τ.1 (d + 6)) 0 W := t.cong h9 (fun j hj => by rw [show 0 + j = j by omega]; exact h.2.2.2.2.2.2 j hj)
theorem becomeAs_8_15_spec {σ : Sg} (h : σ.1 15 0 = 0 ∨ σ.1 15 0 = 1) : ∃ τ, fX9_becomeAs_8_15 σ = some τ ∧ FE [8,9,10,11,12,13,14] [] σ τ ∧ Cpy 8 15 σ τ := by
  unfold fX9_becomeAs_8_15
  rw [gd_t (show isz (gf σ 15 0) = true from isz_01 h), gd_t (show cpk 0 0 5 5 5 = true by decide), gd_t (show cpk 0 0 5 5 5 = true by decide), gd_t (show cpk 0 0 9 9 9 = true by decide), gd_t (show cpk 0 0 9 9 9 = true by decide), gd_t (show cpk 0 0 9 9 9 = true by decide), gd_t (show cpk 0 0 36 36 36 = true by decide)]
  refine ⟨_, rfl, fun a j ha _ => ?_, ?_⟩
  · have n0 : a ≠ 8 := fun z => ha (by rw [z]; simp)
    have n1 : a ≠ 9 := fun z => ha (by rw [z]; simp)
    have n2 : a ≠ 10 := fun z => ha (by rw [z]; simp)
    have n3 : a ≠ 11 := fun z => ha (by rw [z]; simp)
    have n4 : a ≠ 12 := fun z => ha (by rw [z]; simp)
    have n5 : a ≠ 13 := fun z => ha (by rw [z]; simp)
    have n6 : a ≠ 14 := fun z => ha (by rw [z]; simp)
    rw [scp36, if_neg (fun z => n6 z.1), scp9, if_neg (fun z => n5 z.1), scp9, if_neg (fun z => n4 z.1), scp9, if_neg (fun z => n3 z.1), scp5, if_neg (fun z => n2 z.1), scp5, if_neg (fun z => n1 z.1), sup_ne n0, sup_ne n0, sup_ne n0, sup_ne n0, sup_ne n0]
  · refine ⟨fun j hj => ?_, fun j hj => ?_, fun j hj => ?_, fun j hj => ?_, fun j hj => ?_, fun j hj => ?_, fun j hj => ?_⟩
    · have : j = 0 ∨ j = 1 ∨ j = 2 ∨ j = 3 ∨ j = 4 := by omega
      rcases this with rfl | rfl | rfl | rfl | rfl <;> rfl
    · simp [scp5, scp9, scp36, sup_at, hj]
    · simp [scp5, scp9, scp36, sup_at, hj]
    · simp [scp5, scp9, scp36, sup_at, hj]
    · simp [scp5, scp9, scp36, sup_at, hj]
    · simp [scp5, scp9, scp36, sup_at, hj]
    · simp [scp5, scp9, scp36, sup_at, hj]
theorem becomeAs_52_8_spec {σ : Sg} (h : σ.1 8 0 = 0 ∨ σ.1 8 0 = 1) : ∃ τ, fX9_becomeAs_52_8 σ = some τ ∧ FE [52,53,54,55,56,57,58] [] σ τ ∧ Cpy 52 8 σ τ := by
  unfold fX9_becomeAs_52_8
  rw [gd_t (show isz (gf σ 8 0) = true from isz_01 h), gd_t (show cpk 0 0 5 5 5 = true by decide), gd_t (show cpk 0 0 5 5 5 = true by decide), gd_t (show cpk 0 0 9 9 9 = true by decide), gd_t (show cpk 0 0 9 9 9 = true by decide), gd_t (show cpk 0 0 9 9 9 = true by decide), gd_t (show cpk 0 0 36 36 36 = true by decide)]
  refine ⟨_, rfl, fun a j ha _ => ?_, ?_⟩
  · have n0 : a ≠ 52 := fun z => ha (by rw [z]; simp)
    have n1 : a ≠ 53 := fun z => ha (by rw [z]; simp)
    have n2 : a ≠ 54 := fun z => ha (by rw [z]; simp)
    have n3 : a ≠ 55 := fun z => ha (by rw [z]; simp)
    have n4 : a ≠ 56 := fun z => ha (by rw [z]; simp)
    have n5 : a ≠ 57 := fun z => ha (by rw [z]; simp)
    have n6 : a ≠ 58 := fun z => ha (by rw [z]; simp)
    rw [scp36, if_neg (fun z => n6 z.1), scp9, if_neg (fun z => n5 z.1), scp9, if_neg (fun z => n4 z.1), scp9, if_neg (fun z => n3 z.1), scp5, if_neg (fun z => n2 z.1), scp5, if_neg (fun z => n1 z.1), sup_ne n0, sup_ne n0, sup_ne n0, sup_ne n0, sup_ne n0]
  · refine ⟨fun j hj => ?_, fun j hj => ?_, fun j hj => ?_, fun j hj => ?_, fun j hj => ?_, fun j hj => ?_, fun j hj => ?_⟩
    · have : j = 0 ∨ j = 1 ∨ j = 2 ∨ j = 3 ∨ j = 4 := by omega
      rcases this with rfl | rfl | rfl | rfl | rfl <;> rfl
    · simp [scp5, scp9, scp36, sup_at, hj]
    · simp [scp5, scp9, scp36, sup_at, hj]
    · simp [scp5, scp9, scp36, sup_at, hj]
    · simp [scp5, scp9, scp36, sup_at, hj]
    · simp [scp5, scp9, scp36, sup_at, hj]
    · simp [scp5, scp9, scp36, sup_at, hj]
theorem becomeAs_59_8_spec {σ : Sg} (h : σ.1 8 0 = 0 ∨ σ.1 8 0 = 1) : ∃ τ, fX9_becomeAs_59_8 σ = some τ ∧ FE [59,60,61,62,63,64,65] [] σ τ ∧ Cpy 59 8 σ τ := by
  unfold fX9_becomeAs_59_8
  rw [gd_t (show isz (gf σ 8 0) = true from isz_01 h), gd_t (show cpk 0 0 5 5 5 = true by decide), gd_t (show cpk 0 0 5 5 5 = true by decide), gd_t (show cpk 0 0 9 9 9 = true by decide), gd_t (show cpk 0 0 9 9 9 = true by decide), gd_t (show cpk 0 0 9 9 9 = true by decide), gd_t (show cpk 0 0 36 36 36 = true by decide)]
  refine ⟨_, rfl, fun a j ha _ => ?_, ?_⟩
  · have n0 : a ≠ 59 := fun z => ha (by rw [z]; simp)
    have n1 : a ≠ 60 := fun z => ha (by rw [z]; simp)
    have n2 : a ≠ 61 := fun z => ha (by rw [z]; simp)
    have n3 : a ≠ 62 := fun z => ha (by rw [z]; simp)
    have n4 : a ≠ 63 := fun z => ha (by rw [z]; simp)
    have n5 : a ≠ 64 := fun z => ha (by rw [z]; simp)
    have n6 : a ≠ 65 := fun z => ha (by rw [z]; simp)
    rw [scp36, if_neg (fun z => n6 z.1), scp9, if_neg (fun z => n5 z.1), scp9, if_neg (fun z => n4 z.1), scp9, if_neg (fun z => n3 z.1), scp5, if_neg (fun z => n2 z.1), scp5, if_neg (fun z => n1 z.1), sup_ne n0, sup_ne n0, sup_ne n0, sup_ne n0, sup_ne n0]
  · refine ⟨fun j hj => ?_, fun j hj => ?_, fun j hj => ?_, fun j hj => ?_, fun j hj => ?_, fun j hj => ?_, fun j hj => ?_⟩
    · have : j = 0 ∨ j = 1 ∨ j = 2 ∨ j = 3 ∨ j = 4 := by omega
      rcases this with rfl | rfl | rfl | rfl | rfl <;> rfl
    · simp [scp5, scp9, scp36, sup_at, hj]
    · simp [scp5, scp9, scp36, sup_at, hj]
    · simp [scp5, scp9, scp36, sup_at, hj]
    · simp [scp5, scp9, scp36, sup_at, hj]
    · simp [scp5, scp9, scp36, sup_at, hj]
    · simp [scp5, scp9, scp36, sup_at, hj]
theorem becomeAs_8_52_spec {σ : Sg} (h : σ.1 52 0 = 0 ∨ σ.1 52 0 = 1) : ∃ τ, fX9_becomeAs_8_52 σ = some τ ∧ FE [8,9,10,11,12,13,14] [] σ τ ∧ Cpy 8 52 σ τ := by
  unfold fX9_becomeAs_8_52
  rw [gd_t (show isz (gf σ 52 0) = true from isz_01 h), gd_t (show cpk 0 0 5 5 5 = true by decide), gd_t (show cpk 0 0 5 5 5 = true by decide), gd_t (show cpk 0 0 9 9 9 = true by decide), gd_t (show cpk 0 0 9 9 9 = true by decide), gd_t (show cpk 0 0 9 9 9 = true by decide), gd_t (show cpk 0 0 36 36 36 = true by decide)]
  refine ⟨_, rfl, fun a j ha _ => ?_, ?_⟩
  · have n0 : a ≠ 8 := fun z => ha (by rw [z]; simp)
    have n1 : a ≠ 9 := fun z => ha (by rw [z]; simp)
    have n2 : a ≠ 10 := fun z => ha (by rw [z]; simp)
    have n3 : a ≠ 11 := fun z => ha (by rw [z]; simp)
    have n4 : a ≠ 12 := fun z => ha (by rw [z]; simp)
    have n5 : a ≠ 13 := fun z => ha (by rw [z]; simp)
    have n6 : a ≠ 14 := fun z => ha (by rw [z]; simp)
    rw [scp36, if_neg (fun z => n6 z.1), scp9, if_neg (fun z => n5 z.1), scp9, if_neg (fun z => n4 z.1), scp9, if_neg (fun z => n3 z.1), scp5, if_neg (fun z => n2 z.1), scp5, if_neg (fun z => n1 z.1), sup_ne n0, sup_ne n0, sup_ne n0, sup_ne n0, sup_ne n0]
  · refine ⟨fun j hj => ?_, fun j hj => ?_, fun j hj => ?_, fun j hj => ?_, fun j hj => ?_, fun j hj => ?_, fun j hj => ?_⟩
    · have : j = 0 ∨ j = 1 ∨ j = 2 ∨ j = 3 ∨ j = 4 := by omega
      rcases this with rfl | rfl | rfl | rfl | rfl <;> rfl
    · simp [scp5, scp9, scp36, sup_at, hj]
    · simp [scp5, scp9, scp36, sup_at, hj]
    · simp [scp5, scp9, scp36, sup_at, hj]
    · simp [scp5, scp9, scp36, sup_at, hj]
    · simp [scp5, scp9, scp36, sup_at, hj]
    · simp [scp5, scp9, scp36, sup_at, hj]
theorem becomeAs_8_59_spec {σ : Sg} (h : σ.1 59 0 = 0 ∨ σ.1 59 0 = 1) : ∃ τ, fX9_becomeAs_8_59 σ = some τ ∧ FE [8,9,10,11,12,13,14] [] σ τ ∧ Cpy 8 59 σ τ := by
  unfold fX9_becomeAs_8_59
  rw [gd_t (show isz (gf σ 59 0) = true from isz_01 h), gd_t (show cpk 0 0 5 5 5 = true by decide), gd_t (show cpk 0 0 5 5 5 = true by decide), gd_t (show cpk 0 0 9 9 9 = true by decide), gd_t (show cpk 0 0 9 9 9 = true by decide), gd_t (show cpk 0 0 9 9 9 = true by decide), gd_t (show cpk 0 0 36 36 36 = true by decide)]
  refine ⟨_, rfl, fun a j ha _ => ?_, ?_⟩
  · have n0 : a ≠ 8 := fun z => ha (by rw [z]; simp)
    have n1 : a ≠ 9 := fun z => ha (by rw [z]; simp)
    have n2 : a ≠ 10 := fun z => ha (by rw [z]; simp)
    have n3 : a ≠ 11 := fun z => ha (by rw [z]; simp)
    have n4 : a ≠ 12 := fun z => ha (by rw [z]; simp)
    have n5 : a ≠ 13 := fun z => ha (by rw [z]; simp)
    have n6 : a ≠ 14 := fun z => ha (by rw [z]; simp)
    rw [scp36, if_neg (fun z => n6 z.1), scp9, if_neg (fun z => n5 z.1), scp9, if_neg (fun z => n4 z.1), scp9, if_neg (fun z => n3 z.1), scp5, if_neg (fun z => n2 z.1), scp5, if_neg (fun z => n1 z.1), sup_ne n0, sup_ne n0, sup_ne n0, sup_ne n0, sup_ne n0]
  · refine ⟨fun j hj => ?_, fun j hj => ?_, fun j hj => ?_, fun j hj => ?_, fun j hj => ?_, fun j hj => ?_, fun j hj => ?_⟩
    · have : j = 0 ∨ j = 1 ∨ j = 2 ∨ j = 3 ∨ j = 4 := by omega
      rcases this with rfl | rfl | rfl | rfl | rfl <;> rfl
    · simp [scp5, scp9, scp36, sup_at, hj]
    · simp [scp5, scp9, scp36, sup_at, hj]
    · simp [scp5, scp9, scp36, sup_at, hj]
    · simp [scp5, scp9, scp36, sup_at, hj]
    · simp [scp5, scp9, scp36, sup_at, hj]
    · simp [scp5, scp9, scp36, sup_at, hj]
