/-! copies of whole rows -/
theorem scp_at (σ : Sg) (q0 q1 : Nat) {sp dp n : Nat} (h1 : sp < 2 ^ 31) (h2 : dp < 2 ^ 31) (h3 : n < 2 ^ 31) (d k : Nat) : (scp σ q0 q1 (nI sp) (nI dp) (nI n)).1 d k = if d = q1 ∧ dp ≤ k ∧ k < dp + n then σ.1 q0 (sp + (k - dp)) else σ.1 d k := by
  unfold scp scel
  rw [nI_clamp h1, nI_clamp h2, nI_clamp h3]
  by_cases hd : d = q1
  · subst hd
    show (if d = d then va_cpy (σ.1 q0) (σ.1 d) sp dp n else σ.1 d) k = _
    rw [if_pos rfl]
    unfold va_cpy
    by_cases hk : dp ≤ k ∧ k < dp + n
    · rw [if_pos hk, if_pos ⟨rfl, hk⟩]
    · rw [if_neg hk, if_neg (fun z => hk z.2)]
  · show (if d = q1 then va_cpy (σ.1 q0) (σ.1 q1) sp dp n else σ.1 d) k = _
    rw [if_neg hd, if_neg (fun z => hd z.1)]
theorem FE_scp {σ : Sg} {q0 q1 : Nat} {sp dp n : Int32} : FE [q1] [] σ (scp σ q0 q1 sp dp n) := fun d k hd _ => by
  have : d ≠ q1 := fun z => hd (by rw [z]; simp)
  unfold scp scel
  show (if d = q1 then _ else σ.1 d) k = _
  rw [if_neg this]
theorem cpk_ok {sp dp n n0 n1 : Nat} (h1 : sp + n ≤ n0) (h2 : dp + n ≤ n1) (h3 : n0 < 2 ^ 30) (h4 : n1 < 2 ^ 30) : cpk (nI sp) (nI dp) (nI n) n0 n1 = true := by
  unfold cpk
  apply decide_eq_true
  rw [nI_clamp (by omega), nI_clamp (by omega), nI_clamp (by omega)]
  exact ⟨nI_pos (by omega), nI_pos (by omega), nI_pos (by omega), by omega, by omega⟩
/-! what acts change, by field -/
def fv (c v : Nat) : Int32 := if c = 0 then nI v - 1 else nI v
def updN (W : Nat → Nat) (i v : Nat) : Nat → Nat := fun j => if j = i then v else W j
theorem updN_eq (W : Nat → Nat) (i v : Nat) : updN W i v i = v := if_pos rfl
theorem updN_ne {W : Nat → Nat} {i v j : Nat} (h : j ≠ i) : updN W i v j = W j := if_neg h
theorem SRep_iff (s : Nat → Int32) (o : Nat) (W : Nat → Nat) : SRep s o W ↔ ∀ y, y < W 3 → ∀ c, c < 4 → s (o + 9 * c + y) = fv c (W (17 + c + 7 * y)) := by
  constructor
  · intro h y hy c hc
    have : c = 0 ∨ c = 1 ∨ c = 2 ∨ c = 3 := by omega
    rcases this with rfl | rfl | rfl | rfl
    · exact (h y hy).1
    · exact (h y hy).2.1
    · exact (h y hy).2.2.1
    · exact (h y hy).2.2.2
  · intro h y hy
    exact ⟨h y hy 0 (by omega), h y hy 1 (by omega), h y hy 2 (by omega), h y hy 3 (by omega)⟩
theorem MRep_iff (w : Nat → Int32) (W : Nat → Nat) : MRep w W ↔ (w 0 = nI (W 0) ∧ w 1 = nI (W 1) ∧ w 2 = nI (W 2) ∧ w 3 = nI (W 3) ∧ (∀ p, p < W 2 → w (4 + 2 * p) = nI (W (4 + 2 * p)) ∧ w (5 + 2 * p) = nI (W (5 + 2 * p))) ∧ ∀ y, y < W 3 → (∀ c, c < 3 → w (14 + c + 7 * y) = nI (W (14 + c + 7 * y))) ∧ ∀ c, c < 4 → w (17 + c + 7 * y) = fv c (W (17 + c + 7 * y))) := by
  unfold MRep
  constructor
  · rintro ⟨h0, h1, h2, h3, h4, h5⟩
    refine ⟨h0, h1, h2, h3, h4, fun y hy => ⟨fun c hc => ?_, fun c hc => ?_⟩⟩
    · have : c = 0 ∨ c = 1 ∨ c = 2 := by omega
      rcases this with rfl | rfl | rfl
      · exact (h5 y hy).1
      · exact (h5 y hy).2.1
      · exact (h5 y hy).2.2.1
    · have : c = 0 ∨ c = 1 ∨ c = 2 ∨ c = 3 := by omega
      rcases this with rfl | rfl | rfl | rfl
      · exact (h5 y hy).2.2.2.1
      · exact (h5 y hy).2.2.2.2.1
      · exact (h5 y hy).2.2.2.2.2.1
      · exact (h5 y hy).2.2.2.2.2.2
  · rintro ⟨h0, h1, h2, h3, h4, h5⟩
    refine ⟨h0, h1, h2, h3, h4, fun y hy => ?_⟩
    obtain ⟨a, b⟩ := h5 y hy
    exact ⟨a 0 (by omega), a 1 (by omega), a 2 (by omega), b 0 (by omega), b 1 (by omega), b 2 (by omega), b 3 (by omega)⟩
theorem SRep.cong {s s' : Nat → Int32} {o o' : Nat} {W : Nat → Nat} (h : SRep s o W) (h9 : W 3 ≤ 9) (e : ∀ j, j < 36 → s' (o' + j) = s (o + j)) : SRep s' o' W := by
  rw [SRep_iff] at h ⊢
  intro y hy c hc
  rw [← h y hy c hc, show o' + 9 * c + y = o' + (9 * c + y) by omega, e _ (by omega), show o + (9 * c + y) = o + 9 * c + y by omega]
theorem MRep.cong {w w' : Nat → Int32} {W : Nat → Nat} (h : MRep w W) (h5 : W 2 ≤ 5) (h9 : W 3 ≤ 9) (e : ∀ j, j < 77 → w' j = w j) : MRep w' W := by
  rw [MRep_iff] at h ⊢
  obtain ⟨a0, a1, a2, a3, a4, a5⟩ := h
  refine ⟨by rw [e 0 (by omega)]; exact a0, by rw [e 1 (by omega)]; exact a1, by rw [e 2 (by omega)]; exact a2, by rw [e 3 (by omega)]; exact a3, fun p hp => ⟨?_, ?_⟩, fun y hy => ⟨fun c hc => ?_, fun c hc => ?_⟩⟩
  · rw [e _ (by omega)]; exact (a4 p hp).1
  · rw [e _ (by omega)]; exact (a4 p hp).2
  · rw [e _ (by omega)]; exact (a5 y hy).1 c hc
  · rw [e _ (by omega)]; exact (a5 y hy).2 c hc
theorem Same.refl (W : Nat → Nat) : Same W W := ⟨rfl, rfl, rfl, rfl, fun _ _ => ⟨rfl, rfl⟩, fun _ _ => ⟨rfl, rfl, rfl⟩⟩
theorem Same.symm {W V : Nat → Nat} (h : Same W V) : Same V W := by
  obtain ⟨a0, a1, a2, a3, a4, a5⟩ := h
  exact ⟨a0.symm, a1.symm, a2.symm, a3.symm, fun p hp => ⟨(a4 p (by omega)).1.symm, (a4 p (by omega)).2.symm⟩, fun y hy => ⟨(a5 y (by omega)).1.symm, (a5 y (by omega)).2.1.symm, (a5 y (by omega)).2.2.symm⟩⟩
theorem Same.trans {W V U : Nat → Nat} (h : Same W V) (g : Same V U) : Same W U := by
  obtain ⟨a0, a1, a2, a3, a4, a5⟩ := h
  obtain ⟨b0, b1, b2, b3, b4, b5⟩ := g
  exact ⟨a0.trans b0, a1.trans b1, a2.trans b2, a3.trans b3, fun p hp => ⟨(a4 p hp).1.trans (b4 p (by omega)).1, (a4 p hp).2.trans (b4 p (by omega)).2⟩, fun y hy => ⟨(a5 y hy).1.trans (b5 y (by omega)).1, (a5 y hy).2.1.trans (b5 y (by omega)).2.1, (a5 y hy).2.2.trans (b5 y (by omega)).2.2⟩⟩
theorem Same.put {W : Nat → Nat} {y c v : Nat} (h5 : W 2 ≤ 5) (hc : c < 4) : Same (updN W (17 + c + 7 * y) v) W := by
  have e2 : updN W (17 + c + 7 * y) v 2 = W 2 := updN_ne (by omega)
  have e3 : updN W (17 + c + 7 * y) v 3 = W 3 := updN_ne (by omega)
  refine ⟨updN_ne (by omega), updN_ne (by omega), e2, e3, fun p hp => ⟨updN_ne ?_, updN_ne ?_⟩, fun z _ => ⟨updN_ne (by omega), updN_ne (by omega), updN_ne (by omega)⟩⟩
  · rw [e2] at hp; omega
  · rw [e2] at hp; omega
theorem WBd.put {k : Nat} {W : Nat → Nat} (h : WBd k W) {y c v : Nat} (hc : c < 4) (hv : (c = 0 → v ≤ 3) ∧ (c = 1 → v ≤ 2) ∧ (c = 2 → v ≤ 5 * k) ∧ (c = 3 → v ≤ 1)) : WBd k (updN W (17 + c + 7 * y) v) := by
  obtain ⟨h0, h1, h2, h3, h4, h5⟩ := h
  have e2 : updN W (17 + c + 7 * y) v 2 = W 2 := updN_ne (by omega)
  have e3 : updN W (17 + c + 7 * y) v 3 = W 3 := updN_ne (by omega)
  refine ⟨by rw [updN_ne (by omega)]; exact h0, by rw [updN_ne (by omega)]; exact h1, by rw [e2]; exact h2, by rw [e3]; exact h3, fun p hp => ?_, fun z hz => ?_⟩
  · rw [e2] at hp
    rw [updN_ne (by omega), updN_ne (by omega)]
    exact h4 p hp
  · rw [e3] at hz
    obtain ⟨a1, a2, a3, a4, a5, a6, a7⟩ := h5 z hz
    rw [e2, updN_ne (j := 14 + 7 * z) (by omega), updN_ne (j := 15 + 7 * z) (by omega), updN_ne (j := 16 + 7 * z) (by omega)]
    refine ⟨a1, a2, a3, ?_, ?_, ?_, ?_⟩
    · unfold updN; split <;> omega
    · unfold updN; split <;> omega
    · unfold updN; split <;> omega
    · unfold updN; split <;> omega
theorem SRep.put {s : Nat → Int32} {W : Nat → Nat} (h : SRep s 0 W) (h9 : W 3 ≤ 9) {y c v : Nat} (hy : y < 9) (hc : c < 4) : SRep (fun j => if j = 9 * c + y then fv c v else s j) 0 (updN W (17 + c + 7 * y) v) := by
  rw [SRep_iff] at h ⊢
  have e3 : updN W (17 + c + 7 * y) v 3 = W 3 := updN_ne (by omega)
  rw [e3]
  intro z hz d hd
  show (if 0 + 9 * d + z = 9 * c + y then fv c v else s (0 + 9 * d + z)) = _
  by_cases e : d = c ∧ z = y
  · obtain ⟨rfl, rfl⟩ := e
    rw [if_pos (by omega), updN_eq]
  · rw [if_neg (by omega), updN_ne (by omega)]
    exact h z hz d hd
theorem MRep.put {w : Nat → Int32} {W : Nat → Nat} (h : MRep w W) (h5 : W 2 ≤ 5) {y c v : Nat} (hc : c < 4) : MRep (fun j => if j = 17 + c + 7 * y then fv c v else w j) (updN W (17 + c + 7 * y) v) := by
  rw [MRep_iff] at h ⊢
  obtain ⟨a0, a1, a2, a3, a4, a5⟩ := h
  have e2 : updN W (17 + c + 7 * y) v 2 = W 2 := updN_ne (by omega)
  have e3 : updN W (17 + c + 7 * y) v 3 = W 3 := updN_ne (by omega)
  rw [e2, e3]
  refine ⟨?_, ?_, ?_, ?_, fun p hp => ⟨?_, ?_⟩, fun z hz => ⟨fun d hd => ?_, fun d hd => ?_⟩⟩
  · rw [if_neg (by omega), updN_ne (by omega)]; exact a0
  · rw [if_neg (by omega), updN_ne (by omega)]; exact a1
  · rw [if_neg (by omega)]; exact a2
  · rw [if_neg (by omega)]; exact a3
  · rw [if_neg (by omega), updN_ne (by omega)]; exact (a4 p hp).1
  · rw [if_neg (by omega), updN_ne (by omega)]; exact (a4 p hp).2
  · rw [if_neg (by omega), updN_ne (by omega)]; exact (a5 z hz).1 d hd
  · by_cases e : d = c ∧ z = y
    · obtain ⟨rfl, rfl⟩ := e
      rw [if_pos rfl, updN_eq]
    · rw [if_neg (by omega), updN_ne (by omega)]
      exact (a5 z hz).2 d hd
theorem TRep.same {σ : Sg} {b : Nat} {W V : Nat → Nat} (h : TRep σ b W) (e : Same W V) : TRep σ b V := by
  obtain ⟨a0, a1, a2, a3, a4, a5⟩ := e
  obtain ⟨b0, b1, b2, b3, b4, b5⟩ := h
  refine ⟨by rw [← a0]; exact b0, by rw [← a1]; exact b1, by rw [← a2]; exact b2, by rw [← a3]; exact b3, fun p hp => ?_, fun y hy => ?_⟩
  · have hp' : p < W 2 := by omega
    rw [← (a4 p hp').1, ← (a4 p hp').2]; exact b4 p hp'
  · have hy' : y < W 3 := by omega
    rw [← (a5 y hy').1, ← (a5 y hy').2.1, ← (a5 y hy').2.2]; exact b5 y hy'
theorem sup_row (σ : Sg) (c j : Nat) (v : Int32) : (sup σ c j v).1 c = fun i => if i = j then v else σ.1 c i := by
  funext i
  rw [sup_at]
  by_cases h : i = j
  · rw [if_pos ⟨rfl, h⟩, if_pos h]
  · rw [if_neg (fun z => h z.2), if_neg h]
theorem CW.put {k : Nat} {W : Nat → Nat} {σ : Sg} (h : CW W σ) (hB : WBd k W) {y c v : Nat} (hy : y < 9) (hc : c < 4) : CW (updN W (17 + c + 7 * y) v) (sup σ 14 (9 * c + y) (fv c v)) := by
  refine ⟨?_, ?_⟩
  · have : TRep (sup σ 14 (9 * c + y) (fv c v)) 8 W := h.1
    exact this.same (Same.put hB.2.2.1 hc).symm
  · rw [sup_row]
    exact h.2.put hB.2.2.2.1 hy hc
theorem MW.put {k : Nat} {W : Nat → Nat} {σ : Sg} (h : MW W σ) (hB : WBd k W) {y c v : Nat} (hc : c < 4) : MW (updN W (17 + c + 7 * y) v) (sup σ 42 (17 + c + 7 * y) (fv c v)) := by
  show MRep _ _
  rw [sup_row]
  exact MRep.put h hB.2.2.1 hc
theorem ARel.same {k n s : Nat} {W W' : Nat → Nat} {V : Nat → Nat → Nat} {σ : Sg} (h : ARel k n s W V σ) (e : Same W' W) : ARel k n s W' V σ := by
  obtain ⟨h0, h1, h2, h3, h4, h5⟩ := h
  exact ⟨h0, h1, h2, h3, h4, fun i hi => ⟨e.trans (h5 i hi).1, (h5 i hi).2⟩⟩
/-! keep -/
theorem keep_c {n s : Nat} {σ : Sg} (hn : n ≤ 24) (hs : s < 24) (e1 : σ.1 23 1 = nI s) (e2 : σ.1 23 2 = nI n) : ∃ τ, fX0_keep σ = some τ ∧ FE [24] [(23, 1), (23, 2)] σ τ ∧ τ.1 23 1 = nI ((s + 1) % 24) ∧ τ.1 23 2 = nI (min (n + 1) 24) ∧ ∀ j, τ.1 24 j = if 36 * s ≤ j ∧ j < 36 * s + 36 then σ.1 14 (j - 36 * s) else σ.1 24 j := by
  have hm : nI s * 36 = nI (s * 36) := by rw [show (36 : Int32) = nI 36 from rfl, pk_mul]
  have h24 : ∀ j, (scp σ 14 24 (nI 0) (nI (s * 36)) (nI 36)).1 24 j = if 36 * s ≤ j ∧ j < 36 * s + 36 then σ.1 14 (j - 36 * s) else σ.1 24 j := by
    intro j
    rw [scp_at _ _ _ (by omega) (by omega) (by omega)]
    by_cases c : 36 * s ≤ j ∧ j < 36 * s + 36
    · rw [if_pos ⟨rfl, by omega, by omega⟩, if_pos c, show 0 + (j - s * 36) = j - 36 * s by omega]
    · rw [if_neg (by omega), if_neg c]
  unfold fX0_keep fX0_keep_J41
  rw [gf_eq, e1, hm, gd_t (show cpk 0 (nI (s * 36)) 36 36 864 = true from cpk_ok (sp := 0) (dp := s * 36) (n := 36) (by omega) (by omega) (by omega) (by omega))]
  have g1 : gf (scp σ 14 24 0 (nI (s * 36)) 36) 23 1 = nI s := e1
  have g2 : ∀ x, gf (sup (scp σ 14 24 0 (nI (s * 36)) 36) 23 1 x) 23 2 = nI n := fun x => e2
  rw [g1]
  simp only [g2]
  have hmin : jmin (nI n + 1) 24 = nI (min (n + 1) 24) := by
    unfold jmin
    rw [nI_1, show (24 : Int32) = nI 24 from rfl]
    by_cases c : 24 < n + 1
    · rw [if_pos ((nI_ltI (by omega) (by omega)).mpr c), Nat.min_eq_right (by omega)]
    · rw [if_neg (fun z => c ((nI_ltI (by omega) (by omega)).mp z)), Nat.min_eq_left (by omega)]
  rw [hmin]
  have fin : ∀ x : Int32, x = nI ((s + 1) % 24) → ∃ τ, some (sup (sup (scp σ 14 24 0 (nI (s * 36)) 36) 23 1 x) 23 2 (nI (min (n + 1) 24))) = some τ ∧ FE [24] [(23, 1), (23, 2)] σ τ ∧ τ.1 23 1 = nI ((s + 1) % 24) ∧ τ.1 23 2 = nI (min (n + 1) 24) ∧ ∀ j, τ.1 24 j = if 36 * s ≤ j ∧ j < 36 * s + 36 then σ.1 14 (j - 36 * s) else σ.1 24 j := by
    intro x hx
    refine ⟨_, rfl, (FE_scp.trans FE_sup).trans FE_sup, ?_, ?_, fun j => ?_⟩
    · rw [sup_at, sup_at, ← hx]; simp
    · rw [sup_at]; simp
    · rw [sup_ne (by decide), sup_ne (by decide)]; exact h24 j
  by_cases c : s = 23
  · subst c
    rw [if_pos (by decide)]
    exact fin _ rfl
  · rw [if_neg (show ¬ nI s = (23 : Int32) from fun z => c ((nI_eq (b := 23) (by omega) (by omega)).mp z)), nI_1]
    exact fin _ (by rw [Nat.mod_eq_of_lt (by omega)])
theorem b1848 {y : Nat} (h : y < 1848) : inb (nI y) 1848 = true := by rw [inb_nI _ _ (by omega)]; exact decide_eq_true h
theorem keep_m1 {n : Nat} {σ : Sg} (hn : n < 24) (e : σ.1 38 9 = nI n) : ∃ τ, fX11_keep_J49 σ = some τ ∧ FE [44] [(38, 9)] σ τ ∧ τ.1 38 9 = nI (n + 1) ∧ ∀ j, τ.1 44 j = if 77 * n ≤ j ∧ j < 77 * n + 77 then σ.1 42 (j - 77 * n) else σ.1 44 j := by
  unfold fX11_keep_J49
  have key := lp_for (f := fun w : Int32 × Sg => fX11_keep_B51 w.1 w.2) (P := fun i w => w.1 = nI i ∧ FE [44] [] σ w.2 ∧ ∀ j, w.2.1 44 j = if 77 * n ≤ j ∧ j < 77 * n + i then σ.1 42 (j - 77 * n) else σ.1 44 j) (Q := fun τ => FE [44] [] σ τ ∧ ∀ j, τ.1 44 j = if 77 * n ≤ j ∧ j < 77 * n + 77 then σ.1 42 (j - 77 * n) else σ.1 44 j) 77 (by omega) (s0 := (0, σ)) ⟨rfl, FE.refl _ _ _, fun j => by rw [if_neg (by omega)]⟩ ?_ ?_
  · obtain ⟨τ, h1, h2, h3⟩ := key
    rw [h1]
    refine ⟨sup τ 38 9 (gf τ 38 9 + 1), rfl, h2.trans FE_sup, ?_, fun j => ?_⟩
    · rw [sup_at, if_pos ⟨rfl, rfl⟩, gf_eq, h2 38 9 (by decide) (by simp), e, nI_1]
    · rw [sup_ne (by decide)]; exact h3 j
  · rintro i ⟨x, w⟩ hi ⟨rfl, h2, h3⟩
    dsimp only at h2 h3
    have e9 : gf w 38 9 = nI n := (h2 38 9 (by decide) (by simp)).trans e
    refine ⟨(nI (i + 1), sup w 44 (77 * n + i) (σ.1 42 i)), ?_, rfl, h2.same FE_supC, ?_⟩
    · show fX11_keep_B51 (nI i) w = _
      unfold fX11_keep_B51
      rw [show (77 : Int32) = nI 77 from rfl, if_neg (by rw [nI_leI (by omega) (by omega)]; omega), gd_t (b77 hi), e9, pk_mul, nI_add, gd_t (b1848 (by omega)), sa_nI _ _ _ _ (by omega), ga_nI _ _ _ (by omega), h2 42 i (by decide) (by simp), nI_1]
    · intro j
      show (sup w 44 (77 * n + i) (σ.1 42 i)).1 44 j = _
      rw [sup_at, h3 j]
      by_cases hj : j = 77 * n + i
      · rw [if_pos ⟨rfl, hj⟩, if_pos (by omega), show j - 77 * n = i by omega]
      · rw [if_neg (fun z => hj z.2)]
        by_cases hj2 : 77 * n ≤ j ∧ j < 77 * n + i
        · rw [if_pos hj2, if_pos (by omega)]
        · rw [if_neg hj2, if_neg (by omega)]
  · rintro ⟨x, w⟩ ⟨rfl, h2, h3⟩
    refine ⟨w, ?_, h2, h3⟩
    show fX11_keep_B51 (nI 77) w = _
    unfold fX11_keep_B51
    rw [if_pos (by decide)]
theorem keep_m0 (σ : Sg) : ∃ τ, lpO (fun w : Int32 × Sg => fX11_keep_B11 w.1 w.2) FUEL (0, σ) = some τ ∧ FE [44] [] σ τ ∧ ∀ j, τ.1 44 j = if j < 1771 then σ.1 44 (j + 77) else σ.1 44 j := by
  refine lp_for (P := fun i w => w.1 = nI i ∧ FE [44] [] σ w.2 ∧ ∀ j, w.2.1 44 j = if j < i then σ.1 44 (j + 77) else σ.1 44 j) 1771 (by omega) ⟨rfl, FE.refl _ _ _, fun j => by rw [if_neg (by omega)]⟩ ?_ ?_
  · rintro i ⟨x, w⟩ hi ⟨rfl, h2, h3⟩
    dsimp only at h2 h3
    refine ⟨(nI (i + 1), sup w 44 i (σ.1 44 (i + 77))), ?_, rfl, h2.same FE_supC, ?_⟩
    · show fX11_keep_B11 (nI i) w = _
      unfold fX11_keep_B11
      rw [show (1771 : Int32) = nI 1771 from rfl, show (77 : Int32) = nI 77 from rfl, if_neg (by rw [nI_leI (by omega) (by omega)]; omega), nI_add, gd_t (b1848 (by omega)), gd_t (b1848 (by omega)), sa_nI _ _ _ _ (by omega), ga_nI _ _ _ (by omega), h3, if_neg (by omega), nI_1]
    · intro j
      show (sup w 44 i (σ.1 44 (i + 77))).1 44 j = _
      rw [sup_at, h3 j]
      by_cases hj : j = i
      · subst hj; rw [if_pos ⟨rfl, rfl⟩, if_pos (by omega)]
      · rw [if_neg (fun z => hj z.2)]
        by_cases hj2 : j < i
        · rw [if_pos hj2, if_pos (by omega)]
        · rw [if_neg hj2, if_neg (by omega)]
  · rintro ⟨x, w⟩ ⟨rfl, h2, h3⟩
    refine ⟨w, ?_, h2, h3⟩
    show fX11_keep_B11 (nI 1771) w = _
    unfold fX11_keep_B11
    rw [if_pos (by decide)]
/-- both sides keep the walk -/
theorem keep_spec {k t n s : Nat} {W : Nat → Nat} {V : Nat → Nat → Nat} {σ : Sg} (hW : WRel k t W σ) (hA : ARel k n s W V σ) : ∃ τ, fX0_keep σ = some τ ∧ FE [24] [(23, 1), (23, 2)] σ τ ∧ ∀ υ, FE [14] [(38, 0)] τ υ → ∃ φ, fX11_keep υ = some φ ∧ FE [44] [(38, 9)] υ φ ∧ ∃ n' s' V', ARel k n' s' W V' φ := by
  obtain ⟨t1, wt, wm, w0, hB, hT, hS, hM⟩ := hW
  obtain ⟨hn, hs, a1, a2, a3, a4⟩ := hA
  have h9 := hB.2.2.2.1
  have h5 := hB.2.2.1
  obtain ⟨τ, c1, c2, c3, c4, c5⟩ := keep_c hn hs a2 a1
  refine ⟨τ, c1, c2, fun υ fu => ?_⟩
  have u42 : ∀ j, υ.1 42 j = σ.1 42 j := fun j => (fu 42 j (by decide) (by simp)).trans (c2 42 j (by decide) (by simp))
  have u44 : ∀ j, υ.1 44 j = σ.1 44 j := fun j => (fu 44 j (by decide) (by simp)).trans (c2 44 j (by decide) (by simp))
  have u24 : ∀ j, υ.1 24 j = if 36 * s ≤ j ∧ j < 36 * s + 36 then σ.1 14 (j - 36 * s) else σ.1 24 j := fun j => (fu 24 j (by decide) (by simp)).trans (c5 j)
  have u9 : υ.1 38 9 = nI n := ((fu 38 9 (by decide) (by simp)).trans (c2 38 9 (by decide) (by simp))).trans a3
  have u231 : υ.1 23 1 = nI ((s + 1) % 24) := (fu 23 1 (by decide) (by simp)).trans c3
  have u232 : υ.1 23 2 = nI (min (n + 1) 24) := (fu 23 2 (by decide) (by simp)).trans c4
  have hs24 : (s + 1) % 24 < 24 := Nat.mod_lt _ (by omega)
  unfold fX11_keep
  rw [gf_eq, u9]
  by_cases hn24 : n = 24
  · subst hn24
    rw [if_pos (show nI 24 = (24 : Int32) from rfl)]
    obtain ⟨ψ, p1, p2, p3⟩ := keep_m0 υ
    rw [p1]
    simp only [Option.bind_some]
    have p9 : gf ψ 38 9 - 1 = nI 23 := by rw [gf_eq, p2 38 9 (by decide) (by simp), u9]; rfl
    rw [p9]
    obtain ⟨φ, f1, f2, f3, f4⟩ := keep_m1 (n := 23) (σ := sup ψ 38 9 (nI 23)) (by omega) (by rw [sup_at]; simp)
    have fe : FE [44] [(38, 9)] υ φ := ((p2.trans FE_sup).trans f2).up (fun d hd => by simpa using hd) (fun q hq => Or.inl (by simpa using hq))
    refine ⟨φ, f1, fe, 24, (s + 1) % 24, fun i => if i = 23 then W else V (i + 1), by omega, hs24, ?_, ?_, f3, ?_⟩
    · rw [fe 23 2 (by decide) (by simp), u232]; rfl
    · rw [fe 23 1 (by decide) (by simp), u231]
    · intro i hi
      have g24 : φ.1 24 = υ.1 24 := funext fun j => fe 24 j (by decide) (by simp)
      by_cases hi2 : i = 23
      · subst hi2
        simp only [if_true]
        refine ⟨Same.refl _, hB, ?_, ?_⟩
        · refine hM.cong h5 h9 (fun j hj => ?_)
          rw [f4, if_pos (by omega), sup_ne (by decide), p2 42 _ (by decide) (by simp), u42, show 77 * 23 + j - 77 * 23 = j by omega]
        · rw [g24]
          refine hS.cong h9 (fun j hj => ?_)
          rw [u24, show (((s + 1) % 24 + 24 - 24 + 23) % 24) = s by omega, if_pos (by omega), show 36 * s + j - 36 * s = 0 + j by omega]
      · simp only [hi2, if_false]
        obtain ⟨v1, v2, v3, v4⟩ := a4 (i + 1) (by omega)
        refine ⟨v1, v2, ?_, ?_⟩
        · refine v3.cong v2.2.2.1 v2.2.2.2.1 (fun j hj => ?_)
          rw [f4, if_neg (by omega), sup_ne (by decide), p3, if_pos (by omega), u44, show 77 * i + j + 77 = 77 * (i + 1) + j by omega]
        · rw [g24]
          refine v4.cong v2.2.2.2.1 (fun j hj => ?_)
          rw [u24, show ((s + 1) % 24 + 24 - 24 + i) % 24 = (s + 24 - 24 + (i + 1)) % 24 by omega, if_neg]
          have : (s + 24 - 24 + (i + 1)) % 24 ≠ s := by omega
          omega
  · rw [if_neg (show ¬ nI n = (24 : Int32) from fun z => hn24 ((nI_eq (b := 24) (by omega) (by omega)).mp z))]
    obtain ⟨φ, f1, f2, f3, f4⟩ := keep_m1 (n := n) (σ := υ) (by omega) u9
    refine ⟨φ, f1, f2, n + 1, (s + 1) % 24, fun i => if i = n then W else V i, by omega, hs24, ?_, ?_, f3, ?_⟩
    · rw [f2 23 2 (by decide) (by simp), u232, Nat.min_eq_left (by omega)]
    · rw [f2 23 1 (by decide) (by simp), u231]
    · intro i hi
      have g24 : φ.1 24 = υ.1 24 := funext fun j => f2 24 j (by decide) (by simp)
      by_cases hi2 : i = n
      · subst hi2
        simp only [if_true]
        refine ⟨Same.refl _, hB, ?_, ?_⟩
        · refine hM.cong h5 h9 (fun j hj => ?_)
          rw [f4, if_pos (by omega), u42, show 77 * i + j - 77 * i = j by omega]
        · rw [g24]
          refine hS.cong h9 (fun j hj => ?_)
          rw [u24, show (((s + 1) % 24 + 24 - (i + 1) + i) % 24) = s by omega, if_pos (by omega), show 36 * s + j - 36 * s = 0 + j by omega]
      · simp only [hi2, if_false]
        obtain ⟨v1, v2, v3, v4⟩ := a4 i (by omega)
        refine ⟨v1, v2, ?_, ?_⟩
        · refine v3.cong v2.2.2.1 v2.2.2.2.1 (fun j hj => ?_)
          rw [f4, if_neg (by omega), u44]
        · rw [g24]
          refine v4.cong v2.2.2.2.1 (fun j hj => ?_)
          rw [u24, show ((s + 1) % 24 + 24 - (n + 1) + i) % 24 = (s + 24 - n + i) % 24 by omega, if_neg]
          have : (s + 24 - n + i) % 24 ≠ s := by omega
          omega
