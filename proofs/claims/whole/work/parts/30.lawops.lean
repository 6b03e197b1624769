abbrev cL : ByteArray := code
/-- what the pure part owes: under I each call of the class and of the reference answers alike, and I stays -/
def OK_row (I : Nat → (Nat → Bool) → Sg → Prop) : Prop := ∀ (k : Nat) (b : Nat → Bool) (σ : Sg) (a1 : Int32) (a2 : Int32) (a3 : Int32), k < 512 → I k b σ → ∃ q1 q2, fX10_row a1 a2 a3 σ = some q1 ∧ fX11_row a1 a2 a3 q1.2 = some q2 ∧ q1.1 = q2.1 ∧ I (k + 1) b q2.2
def OK_set (I : Nat → (Nat → Bool) → Sg → Prop) : Prop := ∀ (k : Nat) (b : Nat → Bool) (σ : Sg) (a1 : Int32) (a2 : Int32) (a3 : Int32), k < 512 → I k b σ → ∃ q1 q2, fX10_set a1 a2 a3 σ = some q1 ∧ fX11_set a1 a2 a3 q1.2 = some q2 ∧ q1.1 = q2.1 ∧ I (k + 1) b q2.2
def OK_copy (I : Nat → (Nat → Bool) → Sg → Prop) : Prop := ∀ (k : Nat) (b : Nat → Bool) (σ : Sg) (a1 : Int32) (a2 : Int32) (a3 : Int32) (a4 : Int32) (a5 : Int32), k < 512 → I k b σ → ∃ q1 q2, fX10_copy a1 a2 a3 a4 a5 σ = some q1 ∧ fX11_copy a1 a2 a3 a4 a5 q1.2 = some q2 ∧ q1.1 = q2.1 ∧ I (k + 1) b q2.2
def OK_drop (I : Nat → (Nat → Bool) → Sg → Prop) : Prop := ∀ (k : Nat) (b : Nat → Bool) (σ : Sg) (a1 : Int32), k < 512 → I k b σ → ∃ q1 q2, fX10_drop a1 σ = some q1 ∧ fX11_drop a1 q1.2 = some q2 ∧ q1.1 = q2.1 ∧ I (k + 1) b q2.2
def OK_feed (I : Nat → (Nat → Bool) → Sg → Prop) : Prop := ∀ (k : Nat) (b : Nat → Bool) (σ : Sg) (a1 : Int64) (a2 : Int32), k < 512 → I k b σ → ∃ q1 q2, fX10_feed a1 a2 σ = some q1 ∧ fX11_feed a1 a2 q1.2 = some q2 ∧ q1.1 = q2.1 ∧ I (k + 1) b q2.2
def OK_walk (I : Nat → (Nat → Bool) → Sg → Prop) : Prop := ∀ (k : Nat) (b : Nat → Bool) (σ : Sg) , k < 512 → I k b σ → ∃ q1 q2, fX10_walk  σ = some q1 ∧ fX11_walk  q1.2 = some q2 ∧ q1.1 = q2.1 ∧ I (k + 1) b q2.2
def OK_fault (I : Nat → (Nat → Bool) → Sg → Prop) : Prop := ∀ (k : Nat) (b : Nat → Bool) (σ : Sg) , k < 512 → I k b σ → ∃ q1 q2, fX10_fault  σ = some q1 ∧ fX11_fault  σ = some q2 ∧ q1 = q2.1 ∧ I (k + 1) b q2.2
def OK_lay (I : Nat → (Nat → Bool) → Sg → Prop) : Prop := ∀ (k : Nat) (b : Nat → Bool) (σ : Sg) (a1 : Int32) (a2 : Int32), k < 512 → I k b σ → ∃ q1 q2, fX10_lay a1 a2 σ = some q1 ∧ fX11_lay a1 a2 q1.2 = some q2 ∧ q1.1 = q2.1 ∧ I (k + 1) b q2.2
def OK_pitch (I : Nat → (Nat → Bool) → Sg → Prop) : Prop := ∀ (k : Nat) (b : Nat → Bool) (σ : Sg) (a1 : Int32), k < 512 → I k b σ → ∃ q1 q2, fX10_pitch a1 σ = some q1 ∧ fX11_pitch a1 q1.2 = some q2 ∧ q1.1 = q2.1 ∧ I (k + 1) b q2.2
def OK_vow (I : Nat → (Nat → Bool) → Sg → Prop) : Prop := ∀ (k : Nat) (b : Nat → Bool) (σ : Sg) (a1 : Int32) (a2 : Int32), k < 512 → I k b σ → ∃ q1 q2, fX10_vow a1 a2 σ = some q1 ∧ fX11_vow a1 a2 q1.2 = some q2 ∧ q1.1 = q2.1 ∧ I (k + 1) b q2.2
def OK_splice (I : Nat → (Nat → Bool) → Sg → Prop) : Prop := ∀ (k : Nat) (b : Nat → Bool) (σ : Sg) (a1 : Int32), k < 512 → I k b σ → ∃ q1 q2, fX10_splice a1 σ = some q1 ∧ fX11_splice a1 q1.2 = some q2 ∧ q1.1 = q2.1 ∧ I (k + 1) b q2.2
def OK_pull (I : Nat → (Nat → Bool) → Sg → Prop) : Prop := ∀ (k : Nat) (b : Nat → Bool) (σ : Sg) (a1 : Int32) (a2 : Int32), k < 512 → I k b σ → ∃ q1 q2, fX10_pull a1 a2 σ = some q1 ∧ fX11_pull a1 a2 q1.2 = some q2 ∧ q1.1 = q2.1 ∧ I (k + 1) b q2.2
def OK_year (I : Nat → (Nat → Bool) → Sg → Prop) : Prop := ∀ (k : Nat) (b : Nat → Bool) (σ : Sg) (a1 : Int32), k < 512 → I k b σ → ∃ q1 q2, fX10_year a1 σ = some q1 ∧ fX11_year a1 q1.2 = some q2 ∧ q1.1 = q2.1 ∧ I (k + 1) b q2.2
def OK_undo (I : Nat → (Nat → Bool) → Sg → Prop) : Prop := ∀ (k : Nat) (b : Nat → Bool) (σ : Sg) , k < 512 → I k b σ → ∃ q1 q2, fX10_undo  σ = some q1 ∧ fX11_undo  q1.2 = some q2 ∧ q1.1 = q2.1 ∧ I (k + 1) b q2.2
def OK_yarn (I : Nat → (Nat → Bool) → Sg → Prop) : Prop := ∀ (k : Nat) (b : Nat → Bool) (σ : Sg) (a1 : Int32) (a2 : Int32), k < 512 → I k b σ → ∃ q1 q2, fX10_yarn a1 a2 σ = some q1 ∧ fX11_yarn a1 a2 σ = some q2 ∧ q1 = q2.1 ∧ I (k + 1) b q2.2
def OK_bears (I : Nat → (Nat → Bool) → Sg → Prop) : Prop := ∀ (k : Nat) (b : Nat → Bool) (σ : Sg) (a1 : Int32), k < 512 → I k b σ → ∃ q1 q2, fX10_bears a1 σ = some q1 ∧ fX11_bears a1 σ = some q2 ∧ q1 = q2.1 ∧ I (k + 1) b q2.2
def OK_best (I : Nat → (Nat → Bool) → Sg → Prop) : Prop := ∀ (k : Nat) (b : Nat → Bool) (σ : Sg) (a1 : Int32), k < 512 → I k b σ → ∃ q1 q2, fX10_best a1 σ = some q1 ∧ fX11_best a1 q1.2 = some q2 ∧ q1.1 = q2.1 ∧ I (k + 1) b q2.2
def OK_cheapest (I : Nat → (Nat → Bool) → Sg → Prop) : Prop := ∀ (k : Nat) (b : Nat → Bool) (σ : Sg) (a1 : Int32) (a2 : Int32), k < 512 → I k b σ → ∃ q1 q2, fX10_cheapest a1 a2 σ = some q1 ∧ fX11_cheapest a1 a2 q1.2 = some q2 ∧ q1.1 = q2.1 ∧ I (k + 1) b q2.2
def OK_odds (I : Nat → (Nat → Bool) → Sg → Prop) : Prop := ∀ (k : Nat) (b : Nat → Bool) (σ : Sg) (a1 : Int32) (a2 : Int32), k < 512 → I k b σ → ∃ q1 q2, fX10_odds a1 a2 σ = some q1 ∧ fX11_odds a1 a2 q1.2 = some q2 ∧ q1.1 = q2.1 ∧ I (k + 1) b q2.2
def OK_risk (I : Nat → (Nat → Bool) → Sg → Prop) : Prop := ∀ (k : Nat) (b : Nat → Bool) (σ : Sg) (a1 : Int32) (a2 : Int32) (a3 : Int32), k < 512 → I k b σ → ∃ q1 q2, fX10_risk a1 a2 a3 σ = some q1 ∧ fX11_risk a1 a2 a3 q1.2 = some q2 ∧ q1.1 = q2.1 ∧ I (k + 1) b q2.2
def OK_whose (I : Nat → (Nat → Bool) → Sg → Prop) : Prop := ∀ (k : Nat) (b : Nat → Bool) (σ : Sg) (a1 : Int32) (a2 : Int32), k < 512 → I k b σ → ∃ q1 q2, fX10_whose a1 a2 σ = some q1 ∧ fX11_whose a1 a2 σ = some q2 ∧ q1 = q2.1 ∧ I (k + 1) b q2.2
def OK_geese (I : Nat → (Nat → Bool) → Sg → Prop) : Prop := ∀ (k : Nat) (b : Nat → Bool) (σ : Sg) (a1 : Int32), k < 512 → I k b σ → ∃ q1 q2, fX10_geese a1 σ = some q1 ∧ fX11_geese a1 σ = some q2 ∧ q1 = q2.1 ∧ I (k + 1) b q2.2
def OK_fathoms (I : Nat → (Nat → Bool) → Sg → Prop) : Prop := ∀ (k : Nat) (b : Nat → Bool) (σ : Sg) (a1 : Int32), k < 512 → I k b σ → ∃ q1 q2, fX10_fathoms a1 σ = some q1 ∧ fX11_fathoms a1 σ = some q2 ∧ q1 = q2.1 ∧ I (k + 1) b q2.2
def OK_image (I : Nat → (Nat → Bool) → Sg → Prop) : Prop := ∀ (k : Nat) (b : Nat → Bool) (σ : Sg) (a1 : Int32), k < 512 → I k b σ → ∃ q1 q2, fX10_image b a1 σ = some q1 ∧ fX11_image a1 q1.2 = some q2 ∧ q1.1 = q2.1 ∧ I (k + 1) (imgB b a1 σ) q2.2
def OK_restore (I : Nat → (Nat → Bool) → Sg → Prop) : Prop := ∀ (k : Nat) (b : Nat → Bool) (σ : Sg) (a1 : Int32), k < 512 → I k b σ → ∃ q1 q2, fX10_restore b a1 σ = some q1 ∧ fX11_restore a1 q1.2 = some q2 ∧ q1.1 = q2.1 ∧ I (k + 1) b q2.2
def OK_kind (I : Nat → (Nat → Bool) → Sg → Prop) : Prop := ∀ (k : Nat) (b : Nat → Bool) (σ : Sg) (a1 : Int32), k < 512 → I k b σ → ∃ q1 q2, fX10_kind a1 σ = some q1 ∧ fX11_kind a1 σ = some q2 ∧ q1 = q2.1 ∧ I (k + 1) b q2.2
def OK_as (I : Nat → (Nat → Bool) → Sg → Prop) : Prop := ∀ (k : Nat) (b : Nat → Bool) (σ : Sg) (a1 : Int32) (a2 : Int32), k < 512 → I k b σ → ∃ q1 q2, fX10_as a1 a2 σ = some q1 ∧ fX11_as a1 a2 q1.2 = some q2 ∧ q1.1 = q2.1 ∧ I (k + 1) b q2.2
def OK_ask (I : Nat → (Nat → Bool) → Sg → Prop) : Prop := ∀ (k : Nat) (b : Nat → Bool) (σ : Sg) (a1 : Int32) (a2 : Int32), k < 512 → I k b σ → ∃ q1 q2, fX10_ask a1 a2 σ = some q1 ∧ fX11_ask a1 a2 q1.2 = some q2 ∧ q1.1 = q2.1 ∧ I (k + 1) b q2.2
def OK_trace (I : Nat → (Nat → Bool) → Sg → Prop) : Prop := ∀ (k : Nat) (b : Nat → Bool) (σ : Sg) (a1 : Int32), k < 512 → I k b σ → ∃ q1 q2, fX10_trace a1 σ = some q1 ∧ fX11_trace a1 σ = some q2 ∧ q1 = q2.1 ∧ I (k + 1) b q2.2
def OK_count (I : Nat → (Nat → Bool) → Sg → Prop) : Prop := ∀ (k : Nat) (b : Nat → Bool) (σ : Sg) (a1 : Int32), k < 512 → I k b σ → ∃ q1 q2, fX10_count a1 σ = some q1 ∧ fX11_count a1 σ = some q2 ∧ q1 = q2.1 ∧ I (k + 1) b q2.2
def OK_status (I : Nat → (Nat → Bool) → Sg → Prop) : Prop := ∀ (k : Nat) (b : Nat → Bool) (σ : Sg) , k < 512 → I k b σ → ∃ q1 q2, fX10_status  σ = some q1 ∧ fX11_status  σ = some q2 ∧ q1 = q2.1 ∧ I (k + 1) b q2.2
section WArows
variable {p : Program} {l : Launch} {e : Env} {R : Room} {s : State} {m : MethodId} {args : Array Value} {below : List Frame} {meth : Method} {c : Code} {cc : ByteArray} {own : String} {nL : Nat} {ret : Option FieldType} {E : En} {Q : State → Prop} {nc ns pc : Nat} {L : List (Option Value)} {st : List Value} {σ : Sg}
theorem wa_sld (cx : CX p s m args meth c cc own nL ret E) {b Lx j : Nat} {xs : Nat → Int32} {i : Int32} (hX : va_X b Lx xs s s.heap) (hb : b < s.heap.size) (hA : ¬ AE E s.heap.size b) (hLx : Lx < 2 ^ 31) (hj : j < Lx) (hi : i = nI j) (hd : decode cc pc = .ok (.iaload, 1)) (k : WA p l e R s m args below meth c nL E nc ns Q (pc + 1) L (.int (xs j) :: st) σ) : WA p l e R s m args below meth c nL E nc ns Q (pc) L (.int i :: .ref b :: st) σ := by
  subst hi
  intro H locs ls hP hD hS hl
  refine va_sld cx.1 cx.2.1 hX hb hA hS (vp_in_nI hj hLx) hd ?_
  rw [nI_clamp (by omega)]
  exact k H locs ls hP hD hS hl
theorem wa_slen (cx : CX p s m args meth c cc own nL ret E) {b Lx : Nat} {xs : Nat → Int32} (hX : va_X b Lx xs s s.heap) (hb : b < s.heap.size) (hA : ¬ AE E s.heap.size b) (hd : decode cc pc = .ok (.arraylength, 1)) (k : WA p l e R s m args below meth c nL E nc ns Q (pc + 1) L (.int (nI Lx) :: st) σ) : WA p l e R s m args below meth c nL E nc ns Q (pc) L (.ref b :: st) σ := fun H locs ls hP hD hS hl => va_slen cx.1 cx.2.1 hX hb hA hS hd (k H locs ls hP hD hS hl)
end WArows
theorem ix_add (n k : Nat) : nI n + nI k = nI (n + k) := nI_add n k
/-- the script, and that the world doesn't touch it -/
def SCR (s : State) (E : En) (b Lx : Nat) (xs : Nat → Int32) : Prop := va_X b Lx xs s s.heap ∧ b < s.heap.size ∧ ¬ AE E s.heap.size b ∧ Lx < 2 ^ 31
section CALLI
variable {p : Program} {l : Launch} {e : Env} {R : Room} {s : State} {m : MethodId} {args : Array Value} {below : List Frame} {meth : Method} {c : Code} {cc : ByteArray} {own : String} {nL : Nat} {ret : Option FieldType} {E : En} {Q : State → Prop} {nc ns pc : Nat} {L : List (Option Value)} {st : List Value} {σ : Sg}
theorem wa_callI (cx : CX p s m args meth c cc own nL ret E) {idx : Nat} {rest : List Value} {q : Int32 × Sg} {bb : Nat → Bool} (hNF : NF s) (As : List Value) (hC : ∀ sz : Nat, Met l yX10_image (Cond.code yX10_image cX10_image 3 (some .int) :: gw) (rmc 2 7 84) (PcI E sz σ (.ref (eA E 0) :: As)) (QcI E sz bb q) 7 84 (AE E sz)) (hlk : Cond.methodLink own idx yX10_image ∈ gw) (hf : nc + 7 ≤ R.cells ∧ ns + 84 ≤ R.slots) (hd : decode cc pc = .ok (.invokevirtual idx, 3)) (hn : As.length = 1) (hst : st = As.reverse ++ .ref (eA E 0) :: rest) (hrs : (rest.map fun v => v.category).sum ≤ 8) (hR : 2 + 1 ≤ R.frames ∧ 8 + (3 + 11) + 48 * 2 ≤ R.locals)
    (k : ∀ F : En, CX p s m args meth c cc own nL ret F → AE F s.heap.size = AE E s.heap.size → EX E F → IC F → kept F = bb → WA p l e R s m args below meth c nL F (nc + 7) (ns + 84) Q (pc + 3) L (.int q.1 :: rest) q.2) : WA p l e R s m args below meth c nL E nc ns Q pc L st σ := by
  intro H locs ls hP hD hS hl
  subst hst
  obtain ⟨hi1, hi2, hi3, hi4, hi5⟩ := mi_X10_image
  have ht := cx.2.2.2.2.1
  have hws : ∀ w ∈ wsV own idx yX10_image.cls yX10_image (Cond.code yX10_image cX10_image 3 (some .int) :: gw), w ∈ gw := by
    intro w hw
    unfold wsV at hw
    rcases List.mem_append.mp hw with h | h
    · simp only [List.mem_cons, List.not_mem_nil, or_false] at h
      rcases h with rfl | rfl | rfl | rfl
      · exact hlk
      · exact hi1
      · exact hi2
      · exact hi3
    · rcases List.mem_cons.mp h with rfl | h
      · exact hi4
      · exact h
  obtain ⟨i, hiL, hi⟩ := wl_at (σ := σ) (cx.bl 0 rfl)
  have hrec := va_recv (q := (RX10, TX10, 12)) (ci := 9) cx.2.2.2.2.2.1 hP rfl hi
  have hr := va_runV (As := As) (rest := rest) (C := yX10_image.cls) (g := F0 m pc ls (As.reverse ++ .ref (eA E 0) :: rest)) (b := eA E 0) (H := H) (locs := locs) (cells := nc) (slots := ns) (e := e) (below := below) (meth := meth) ⟨cx.1, cx.2.1, cx.2.2.1, cx.2.2.2.1, ht⟩ (hC H.size) (cwV 1 ht (gi_of hws) rfl rfl rfl ⟨rfl, hi5⟩ hR) ⟨PcI_blind, hrec, fun U hU hW => ⟨⟨rfl, by rw [hU], by rw [hU]; exact hP, va_K.moved hW.alike cx.2.2.2.2.2.1, hD.weaken (fun _ _ _ _ => trivial), cx.2.2.2.2.2.2.2.2.1.move hS hU hW, cx.2.2.2.2.2.2.2.2.2⟩, hNF.move hW⟩⟩ rfl hn hl.1 rfl (lv_room hrs) hd hf
  intro T hT X
  obtain ⟨v, st₀, t, T1, Lx, h0, X1, hLx, e1, e2, ⟨hv, ⟨F, hX, hIF, hkF, hP1, hD1⟩, hz, hk⟩, stp⟩ := hr T hT X
  cases hv
  rw [h0] at hz hk
  have hup := AE_up (E := E) hS.1
  have hS1 : va_S (AE E s.heap.size) s.heap T1.heap (locs ++ Lx) := by
    refine ⟨Nat.le_trans hS.1 (by rw [e1]; exact hz), fun q g1 g2 => ?_, fun q hq => ?_⟩
    · rw [e1, hk q (Nat.lt_of_lt_of_le g1 hS.1) (fun z => g2 (hup q z))]
      exact hS.2.1 q g1 g2
    · rcases List.mem_append.mp hq with h | h
      · exact hS.2.2 q h
      · exact hup _ (hLx q h)
  have hD2 : va_D (AE E s.heap.size) (wl F q.2) := hD1.weaken (fun _ x _ h => hup x.1 h)
  have hAF := AE_ex hX hD2
  obtain ⟨t2, a2, b2⟩ := k F (CX_ex cx hX hAF) hAF hX hIF hkF T1.heap (locs ++ Lx) ls (by rw [e1]; exact hP1) (by rw [hAF]; exact hD2) (by rw [hAF]; exact hS1) hl T1 rfl X1
  exact ⟨t2, stp t2 a2, b2⟩
end CALLI
section LAWC
variable {p : Program} {l : Launch} {e : Env} {s : State} {m : MethodId} {args : Array Value} {below : List Frame} {meth : Method} {c : Code} {E : En} {Q : State → Prop} {nc ns b Lx kk : Nat} {xs : Nat → Int32} {σ : Sg} {I : Nat → (Nat → Bool) → Sg → Prop}
set_option maxHeartbeats 4000000 in
set_option maxRecDepth 100000 in
theorem law_c0 (hop : OK_row I) (cx : CX p s m args meth c code RL 4 ret E) (SC : SCR s E b Lx xs) (hk : 6 * kk + 6 ≤ Lx) (hk5 : kk < 512) (hI : I kk (kept E) σ) (hn : nc ≤ 600000 ∧ ns ≤ 7302249) (K : ∀ σ1 : Sg, I (kk + 1) (kept E) σ1 → WA p l e room_1 s m args below meth c 4 E (nc) (ns) Q 1075 [some (.ref b), some (.ref (eA E 0)), some (.ref (eA E 38)), some (.int (nI (6 * kk)))] [] σ1) : WA p l e room_1 s m args below meth c 4 E (nc) (ns) Q 172 [some (.ref b), some (.ref (eA E 0)), some (.ref (eA E 38)), some (.int (nI (6 * kk)))] [] σ := by
  obtain ⟨q1, q2, h1, h2, h3, hI1⟩ := hop kk (kept E) σ (xs (6 * kk + 1)) (xs (6 * kk + 2)) (xs (6 * kk + 3)) hk5 hI
  refine wa_aload_n (pc := 172) cx 1 dL_law_172 rfl rfl ?_
  refine wa_aload_n (pc := 173) cx 0 dL_law_173 rfl rfl ?_
  refine wa_iload_n (pc := 174) cx 3 dL_law_174 rfl rfl ?_
  refine wa_iconst (pc := 175) (v := 1) cx dL_law_175 (by decide) ?_
  refine wa_iadd (pc := 176) cx dL_law_176 ?_
  refine wa_sld (j := 6 * kk + 1) (pc := 177) cx SC.1 SC.2.1 SC.2.2.1 SC.2.2.2 (by omega) (ix_add (6 * kk) 1) dL_law_177 ?_
  refine wa_aload_n (pc := 178) cx 0 dL_law_178 rfl rfl ?_
  refine wa_iload_n (pc := 179) cx 3 dL_law_179 rfl rfl ?_
  refine wa_iconst (pc := 180) (v := 2) cx dL_law_180 (by decide) ?_
  refine wa_iadd (pc := 181) cx dL_law_181 ?_
  refine wa_sld (j := 6 * kk + 2) (pc := 182) cx SC.1 SC.2.1 SC.2.2.1 SC.2.2.2 (by omega) (ix_add (6 * kk) 2) dL_law_182 ?_
  refine wa_aload_n (pc := 183) cx 0 dL_law_183 rfl rfl ?_
  refine wa_iload_n (pc := 184) cx 3 dL_law_184 rfl rfl ?_
  refine wa_iconst (pc := 185) (v := 3) cx dL_law_185 (by decide) ?_
  refine wa_iadd (pc := 186) cx dL_law_186 ?_
  refine wa_sld (j := 6 * kk + 3) (pc := 187) cx SC.1 SC.2.1 SC.2.2.1 SC.2.2.2 (by omega) (ix_add (6 * kk) 3) dL_law_187 ?_
  refine wa_callVi (pc := 188) cx [.int (xs (6 * kk + 1)), .int (xs (6 * kk + 2)), .int (xs (6 * kk + 3))] (ct_X10_row l E _ _ _ _ _ h1) mi_X10_row tw_345 lk_0 rfl (cx.bl 0 rfl) rfl rfl (Nat.le_of_ble_eq_true rfl) ⟨Nat.le_of_ble_eq_true rfl, Nat.le_of_ble_eq_true rfl⟩ hn dL_law_188 ?_
  refine wa_aload_n (pc := 191) cx 2 dL_law_191 rfl rfl ?_
  refine wa_aload_n (pc := 192) cx 0 dL_law_192 rfl rfl ?_
  refine wa_iload_n (pc := 193) cx 3 dL_law_193 rfl rfl ?_
  refine wa_iconst (pc := 194) (v := 1) cx dL_law_194 (by decide) ?_
  refine wa_iadd (pc := 195) cx dL_law_195 ?_
  refine wa_sld (j := 6 * kk + 1) (pc := 196) cx SC.1 SC.2.1 SC.2.2.1 SC.2.2.2 (by omega) (ix_add (6 * kk) 1) dL_law_196 ?_
  refine wa_aload_n (pc := 197) cx 0 dL_law_197 rfl rfl ?_
  refine wa_iload_n (pc := 198) cx 3 dL_law_198 rfl rfl ?_
  refine wa_iconst (pc := 199) (v := 2) cx dL_law_199 (by decide) ?_
  refine wa_iadd (pc := 200) cx dL_law_200 ?_
  refine wa_sld (j := 6 * kk + 2) (pc := 201) cx SC.1 SC.2.1 SC.2.2.1 SC.2.2.2 (by omega) (ix_add (6 * kk) 2) dL_law_201 ?_
  refine wa_aload_n (pc := 202) cx 0 dL_law_202 rfl rfl ?_
  refine wa_iload_n (pc := 203) cx 3 dL_law_203 rfl rfl ?_
  refine wa_iconst (pc := 204) (v := 3) cx dL_law_204 (by decide) ?_
  refine wa_iadd (pc := 205) cx dL_law_205 ?_
  refine wa_sld (j := 6 * kk + 3) (pc := 206) cx SC.1 SC.2.1 SC.2.2.1 SC.2.2.2 (by omega) (ix_add (6 * kk) 3) dL_law_206 ?_
  refine wa_callVi (pc := 207) cx [.int (xs (6 * kk + 1)), .int (xs (6 * kk + 2)), .int (xs (6 * kk + 3))] (ct_X11_row l E _ _ _ _ _ h2) mi_X11_row tw_944 lk_38 rfl (cx.bl 38 rfl) rfl rfl (Nat.le_of_ble_eq_true rfl) ⟨Nat.le_of_ble_eq_true rfl, Nat.le_of_ble_eq_true rfl⟩ hn dL_law_207 ?_
  refine wa_icmp_eq (pc := 210) cx 1075 dL_law_210 rfl (fun _ => ?_) (fun h => absurd h3 h)
  exact K q2.2 hI1
set_option maxHeartbeats 4000000 in
set_option maxRecDepth 100000 in
theorem law_c1 (hop : OK_set I) (cx : CX p s m args meth c code RL 4 ret E) (SC : SCR s E b Lx xs) (hk : 6 * kk + 6 ≤ Lx) (hk5 : kk < 512) (hI : I kk (kept E) σ) (hn : nc ≤ 600000 ∧ ns ≤ 7302249) (K : ∀ σ1 : Sg, I (kk + 1) (kept E) σ1 → WA p l e room_1 s m args below meth c 4 E (nc) (ns) Q 1075 [some (.ref b), some (.ref (eA E 0)), some (.ref (eA E 38)), some (.int (nI (6 * kk)))] [] σ1) : WA p l e room_1 s m args below meth c 4 E (nc) (ns) Q 215 [some (.ref b), some (.ref (eA E 0)), some (.ref (eA E 38)), some (.int (nI (6 * kk)))] [] σ := by
  obtain ⟨q1, q2, h1, h2, h3, hI1⟩ := hop kk (kept E) σ (xs (6 * kk + 1)) (xs (6 * kk + 2)) (xs (6 * kk + 3)) hk5 hI
  refine wa_aload_n (pc := 215) cx 1 dL_law_215 rfl rfl ?_
  refine wa_aload_n (pc := 216) cx 0 dL_law_216 rfl rfl ?_
  refine wa_iload_n (pc := 217) cx 3 dL_law_217 rfl rfl ?_
  refine wa_iconst (pc := 218) (v := 1) cx dL_law_218 (by decide) ?_
  refine wa_iadd (pc := 219) cx dL_law_219 ?_
  refine wa_sld (j := 6 * kk + 1) (pc := 220) cx SC.1 SC.2.1 SC.2.2.1 SC.2.2.2 (by omega) (ix_add (6 * kk) 1) dL_law_220 ?_
  refine wa_aload_n (pc := 221) cx 0 dL_law_221 rfl rfl ?_
  refine wa_iload_n (pc := 222) cx 3 dL_law_222 rfl rfl ?_
  refine wa_iconst (pc := 223) (v := 2) cx dL_law_223 (by decide) ?_
  refine wa_iadd (pc := 224) cx dL_law_224 ?_
  refine wa_sld (j := 6 * kk + 2) (pc := 225) cx SC.1 SC.2.1 SC.2.2.1 SC.2.2.2 (by omega) (ix_add (6 * kk) 2) dL_law_225 ?_
  refine wa_aload_n (pc := 226) cx 0 dL_law_226 rfl rfl ?_
  refine wa_iload_n (pc := 227) cx 3 dL_law_227 rfl rfl ?_
  refine wa_iconst (pc := 228) (v := 3) cx dL_law_228 (by decide) ?_
  refine wa_iadd (pc := 229) cx dL_law_229 ?_
  refine wa_sld (j := 6 * kk + 3) (pc := 230) cx SC.1 SC.2.1 SC.2.2.1 SC.2.2.2 (by omega) (ix_add (6 * kk) 3) dL_law_230 ?_
  refine wa_callVi (pc := 231) cx [.int (xs (6 * kk + 1)), .int (xs (6 * kk + 2)), .int (xs (6 * kk + 3))] (ct_X10_set l E _ _ _ _ _ h1) mi_X10_set tw_367 lk_0 rfl (cx.bl 0 rfl) rfl rfl (Nat.le_of_ble_eq_true rfl) ⟨Nat.le_of_ble_eq_true rfl, Nat.le_of_ble_eq_true rfl⟩ hn dL_law_231 ?_
  refine wa_aload_n (pc := 234) cx 2 dL_law_234 rfl rfl ?_
  refine wa_aload_n (pc := 235) cx 0 dL_law_235 rfl rfl ?_
  refine wa_iload_n (pc := 236) cx 3 dL_law_236 rfl rfl ?_
  refine wa_iconst (pc := 237) (v := 1) cx dL_law_237 (by decide) ?_
  refine wa_iadd (pc := 238) cx dL_law_238 ?_
  refine wa_sld (j := 6 * kk + 1) (pc := 239) cx SC.1 SC.2.1 SC.2.2.1 SC.2.2.2 (by omega) (ix_add (6 * kk) 1) dL_law_239 ?_
  refine wa_aload_n (pc := 240) cx 0 dL_law_240 rfl rfl ?_
  refine wa_iload_n (pc := 241) cx 3 dL_law_241 rfl rfl ?_
  refine wa_iconst (pc := 242) (v := 2) cx dL_law_242 (by decide) ?_
  refine wa_iadd (pc := 243) cx dL_law_243 ?_
  refine wa_sld (j := 6 * kk + 2) (pc := 244) cx SC.1 SC.2.1 SC.2.2.1 SC.2.2.2 (by omega) (ix_add (6 * kk) 2) dL_law_244 ?_
  refine wa_aload_n (pc := 245) cx 0 dL_law_245 rfl rfl ?_
  refine wa_iload_n (pc := 246) cx 3 dL_law_246 rfl rfl ?_
  refine wa_iconst (pc := 247) (v := 3) cx dL_law_247 (by decide) ?_
  refine wa_iadd (pc := 248) cx dL_law_248 ?_
  refine wa_sld (j := 6 * kk + 3) (pc := 249) cx SC.1 SC.2.1 SC.2.2.1 SC.2.2.2 (by omega) (ix_add (6 * kk) 3) dL_law_249 ?_
  refine wa_callVi (pc := 250) cx [.int (xs (6 * kk + 1)), .int (xs (6 * kk + 2)), .int (xs (6 * kk + 3))] (ct_X11_set l E _ _ _ _ _ h2) mi_X11_set tw_962 lk_38 rfl (cx.bl 38 rfl) rfl rfl (Nat.le_of_ble_eq_true rfl) ⟨Nat.le_of_ble_eq_true rfl, Nat.le_of_ble_eq_true rfl⟩ hn dL_law_250 ?_
  refine wa_icmp_eq (pc := 253) cx 1075 dL_law_253 rfl (fun _ => ?_) (fun h => absurd h3 h)
  exact K q2.2 hI1
set_option maxHeartbeats 4000000 in
set_option maxRecDepth 100000 in
theorem law_c2 (hop : OK_copy I) (cx : CX p s m args meth c code RL 4 ret E) (SC : SCR s E b Lx xs) (hk : 6 * kk + 6 ≤ Lx) (hk5 : kk < 512) (hI : I kk (kept E) σ) (hn : nc ≤ 600000 ∧ ns ≤ 7302249) (K : ∀ σ1 : Sg, I (kk + 1) (kept E) σ1 → WA p l e room_1 s m args below meth c 4 E (nc) (ns) Q 1075 [some (.ref b), some (.ref (eA E 0)), some (.ref (eA E 38)), some (.int (nI (6 * kk)))] [] σ1) : WA p l e room_1 s m args below meth c 4 E (nc) (ns) Q 258 [some (.ref b), some (.ref (eA E 0)), some (.ref (eA E 38)), some (.int (nI (6 * kk)))] [] σ := by
  obtain ⟨q1, q2, h1, h2, h3, hI1⟩ := hop kk (kept E) σ (xs (6 * kk + 1)) (xs (6 * kk + 2)) (xs (6 * kk + 3)) (xs (6 * kk + 4)) (xs (6 * kk + 5)) hk5 hI
  refine wa_aload_n (pc := 258) cx 1 dL_law_258 rfl rfl ?_
  refine wa_aload_n (pc := 259) cx 0 dL_law_259 rfl rfl ?_
  refine wa_iload_n (pc := 260) cx 3 dL_law_260 rfl rfl ?_
  refine wa_iconst (pc := 261) (v := 1) cx dL_law_261 (by decide) ?_
  refine wa_iadd (pc := 262) cx dL_law_262 ?_
  refine wa_sld (j := 6 * kk + 1) (pc := 263) cx SC.1 SC.2.1 SC.2.2.1 SC.2.2.2 (by omega) (ix_add (6 * kk) 1) dL_law_263 ?_
  refine wa_aload_n (pc := 264) cx 0 dL_law_264 rfl rfl ?_
  refine wa_iload_n (pc := 265) cx 3 dL_law_265 rfl rfl ?_
  refine wa_iconst (pc := 266) (v := 2) cx dL_law_266 (by decide) ?_
  refine wa_iadd (pc := 267) cx dL_law_267 ?_
  refine wa_sld (j := 6 * kk + 2) (pc := 268) cx SC.1 SC.2.1 SC.2.2.1 SC.2.2.2 (by omega) (ix_add (6 * kk) 2) dL_law_268 ?_
  refine wa_aload_n (pc := 269) cx 0 dL_law_269 rfl rfl ?_
  refine wa_iload_n (pc := 270) cx 3 dL_law_270 rfl rfl ?_
  refine wa_iconst (pc := 271) (v := 3) cx dL_law_271 (by decide) ?_
  refine wa_iadd (pc := 272) cx dL_law_272 ?_
  refine wa_sld (j := 6 * kk + 3) (pc := 273) cx SC.1 SC.2.1 SC.2.2.1 SC.2.2.2 (by omega) (ix_add (6 * kk) 3) dL_law_273 ?_
  refine wa_aload_n (pc := 274) cx 0 dL_law_274 rfl rfl ?_
  refine wa_iload_n (pc := 275) cx 3 dL_law_275 rfl rfl ?_
  refine wa_iconst (pc := 276) (v := 4) cx dL_law_276 (by decide) ?_
  refine wa_iadd (pc := 277) cx dL_law_277 ?_
  refine wa_sld (j := 6 * kk + 4) (pc := 278) cx SC.1 SC.2.1 SC.2.2.1 SC.2.2.2 (by omega) (ix_add (6 * kk) 4) dL_law_278 ?_
  refine wa_aload_n (pc := 279) cx 0 dL_law_279 rfl rfl ?_
  refine wa_iload_n (pc := 280) cx 3 dL_law_280 rfl rfl ?_
  refine wa_iconst (pc := 281) (v := 5) cx dL_law_281 (by decide) ?_
  refine wa_iadd (pc := 282) cx dL_law_282 ?_
  refine wa_sld (j := 6 * kk + 5) (pc := 283) cx SC.1 SC.2.1 SC.2.2.1 SC.2.2.2 (by omega) (ix_add (6 * kk) 5) dL_law_283 ?_
  refine wa_callVi (pc := 284) cx [.int (xs (6 * kk + 1)), .int (xs (6 * kk + 2)), .int (xs (6 * kk + 3)), .int (xs (6 * kk + 4)), .int (xs (6 * kk + 5))] (ct_X10_copy l E _ _ _ _ _ _ _ h1) mi_X10_copy tw_383 lk_0 rfl (cx.bl 0 rfl) rfl rfl (Nat.le_of_ble_eq_true rfl) ⟨Nat.le_of_ble_eq_true rfl, Nat.le_of_ble_eq_true rfl⟩ hn dL_law_284 ?_
  refine wa_aload_n (pc := 287) cx 2 dL_law_287 rfl rfl ?_
  refine wa_aload_n (pc := 288) cx 0 dL_law_288 rfl rfl ?_
  refine wa_iload_n (pc := 289) cx 3 dL_law_289 rfl rfl ?_
  refine wa_iconst (pc := 290) (v := 1) cx dL_law_290 (by decide) ?_
  refine wa_iadd (pc := 291) cx dL_law_291 ?_
  refine wa_sld (j := 6 * kk + 1) (pc := 292) cx SC.1 SC.2.1 SC.2.2.1 SC.2.2.2 (by omega) (ix_add (6 * kk) 1) dL_law_292 ?_
  refine wa_aload_n (pc := 293) cx 0 dL_law_293 rfl rfl ?_
  refine wa_iload_n (pc := 294) cx 3 dL_law_294 rfl rfl ?_
  refine wa_iconst (pc := 295) (v := 2) cx dL_law_295 (by decide) ?_
  refine wa_iadd (pc := 296) cx dL_law_296 ?_
  refine wa_sld (j := 6 * kk + 2) (pc := 297) cx SC.1 SC.2.1 SC.2.2.1 SC.2.2.2 (by omega) (ix_add (6 * kk) 2) dL_law_297 ?_
  refine wa_aload_n (pc := 298) cx 0 dL_law_298 rfl rfl ?_
  refine wa_iload_n (pc := 299) cx 3 dL_law_299 rfl rfl ?_
  refine wa_iconst (pc := 300) (v := 3) cx dL_law_300 (by decide) ?_
  refine wa_iadd (pc := 301) cx dL_law_301 ?_
  refine wa_sld (j := 6 * kk + 3) (pc := 302) cx SC.1 SC.2.1 SC.2.2.1 SC.2.2.2 (by omega) (ix_add (6 * kk) 3) dL_law_302 ?_
  refine wa_aload_n (pc := 303) cx 0 dL_law_303 rfl rfl ?_
  refine wa_iload_n (pc := 304) cx 3 dL_law_304 rfl rfl ?_
  refine wa_iconst (pc := 305) (v := 4) cx dL_law_305 (by decide) ?_
  refine wa_iadd (pc := 306) cx dL_law_306 ?_
  refine wa_sld (j := 6 * kk + 4) (pc := 307) cx SC.1 SC.2.1 SC.2.2.1 SC.2.2.2 (by omega) (ix_add (6 * kk) 4) dL_law_307 ?_
  refine wa_aload_n (pc := 308) cx 0 dL_law_308 rfl rfl ?_
  refine wa_iload_n (pc := 309) cx 3 dL_law_309 rfl rfl ?_
  refine wa_iconst (pc := 310) (v := 5) cx dL_law_310 (by decide) ?_
  refine wa_iadd (pc := 311) cx dL_law_311 ?_
  refine wa_sld (j := 6 * kk + 5) (pc := 312) cx SC.1 SC.2.1 SC.2.2.1 SC.2.2.2 (by omega) (ix_add (6 * kk) 5) dL_law_312 ?_
  refine wa_callVi (pc := 313) cx [.int (xs (6 * kk + 1)), .int (xs (6 * kk + 2)), .int (xs (6 * kk + 3)), .int (xs (6 * kk + 4)), .int (xs (6 * kk + 5))] (ct_X11_copy l E _ _ _ _ _ _ _ h2) mi_X11_copy tw_966 lk_38 rfl (cx.bl 38 rfl) rfl rfl (Nat.le_of_ble_eq_true rfl) ⟨Nat.le_of_ble_eq_true rfl, Nat.le_of_ble_eq_true rfl⟩ hn dL_law_313 ?_
  refine wa_icmp_eq (pc := 316) cx 1075 dL_law_316 rfl (fun _ => ?_) (fun h => absurd h3 h)
  exact K q2.2 hI1
set_option maxHeartbeats 4000000 in
set_option maxRecDepth 100000 in
theorem law_c3 (hop : OK_drop I) (cx : CX p s m args meth c code RL 4 ret E) (SC : SCR s E b Lx xs) (hk : 6 * kk + 6 ≤ Lx) (hk5 : kk < 512) (hI : I kk (kept E) σ) (hn : nc ≤ 600000 ∧ ns ≤ 7302249) (K : ∀ σ1 : Sg, I (kk + 1) (kept E) σ1 → WA p l e room_1 s m args below meth c 4 E (nc) (ns) Q 1075 [some (.ref b), some (.ref (eA E 0)), some (.ref (eA E 38)), some (.int (nI (6 * kk)))] [] σ1) : WA p l e room_1 s m args below meth c 4 E (nc) (ns) Q 321 [some (.ref b), some (.ref (eA E 0)), some (.ref (eA E 38)), some (.int (nI (6 * kk)))] [] σ := by
  obtain ⟨q1, q2, h1, h2, h3, hI1⟩ := hop kk (kept E) σ (xs (6 * kk + 1)) hk5 hI
  refine wa_aload_n (pc := 321) cx 1 dL_law_321 rfl rfl ?_
  refine wa_aload_n (pc := 322) cx 0 dL_law_322 rfl rfl ?_
  refine wa_iload_n (pc := 323) cx 3 dL_law_323 rfl rfl ?_
  refine wa_iconst (pc := 324) (v := 1) cx dL_law_324 (by decide) ?_
  refine wa_iadd (pc := 325) cx dL_law_325 ?_
  refine wa_sld (j := 6 * kk + 1) (pc := 326) cx SC.1 SC.2.1 SC.2.2.1 SC.2.2.2 (by omega) (ix_add (6 * kk) 1) dL_law_326 ?_
  refine wa_callVi (pc := 327) cx [.int (xs (6 * kk + 1))] (ct_X10_drop l E _ _ _ h1) mi_X10_drop tw_398 lk_0 rfl (cx.bl 0 rfl) rfl rfl (Nat.le_of_ble_eq_true rfl) ⟨Nat.le_of_ble_eq_true rfl, Nat.le_of_ble_eq_true rfl⟩ hn dL_law_327 ?_
  refine wa_aload_n (pc := 330) cx 2 dL_law_330 rfl rfl ?_
  refine wa_aload_n (pc := 331) cx 0 dL_law_331 rfl rfl ?_
  refine wa_iload_n (pc := 332) cx 3 dL_law_332 rfl rfl ?_
  refine wa_iconst (pc := 333) (v := 1) cx dL_law_333 (by decide) ?_
  refine wa_iadd (pc := 334) cx dL_law_334 ?_
  refine wa_sld (j := 6 * kk + 1) (pc := 335) cx SC.1 SC.2.1 SC.2.2.1 SC.2.2.2 (by omega) (ix_add (6 * kk) 1) dL_law_335 ?_
  refine wa_callVi (pc := 336) cx [.int (xs (6 * kk + 1))] (ct_X11_drop l E _ _ _ h2) mi_X11_drop tw_970 lk_38 rfl (cx.bl 38 rfl) rfl rfl (Nat.le_of_ble_eq_true rfl) ⟨Nat.le_of_ble_eq_true rfl, Nat.le_of_ble_eq_true rfl⟩ hn dL_law_336 ?_
  refine wa_icmp_eq (pc := 339) cx 1075 dL_law_339 rfl (fun _ => ?_) (fun h => absurd h3 h)
  exact K q2.2 hI1
set_option maxHeartbeats 4000000 in
set_option maxRecDepth 100000 in
theorem law_c4 (hop : OK_feed I) (cx : CX p s m args meth c code RL 4 ret E) (SC : SCR s E b Lx xs) (hk : 6 * kk + 6 ≤ Lx) (hk5 : kk < 512) (hI : I kk (kept E) σ) (hn : nc ≤ 600000 ∧ ns ≤ 7302249) (K : ∀ σ1 : Sg, I (kk + 1) (kept E) σ1 → WA p l e room_1 s m args below meth c 4 E (nc) (ns) Q 1075 [some (.ref b), some (.ref (eA E 0)), some (.ref (eA E 38)), some (.int (nI (6 * kk)))] [] σ1) : WA p l e room_1 s m args below meth c 4 E (nc) (ns) Q 344 [some (.ref b), some (.ref (eA E 0)), some (.ref (eA E 38)), some (.int (nI (6 * kk)))] [] σ := by
  obtain ⟨q1, q2, h1, h2, h3, hI1⟩ := hop kk (kept E) σ ((jlshl ((xs (6 * kk + 1)).toInt64) 32 ||| ((xs (6 * kk + 2)).toInt64 &&& 4294967295))) (xs (6 * kk + 3)) hk5 hI
  refine wa_aload_n (pc := 344) cx 1 dL_law_344 rfl rfl ?_
  refine wa_aload_n (pc := 345) cx 0 dL_law_345 rfl rfl ?_
  refine wa_iload_n (pc := 346) cx 3 dL_law_346 rfl rfl ?_
  refine wa_iconst (pc := 347) (v := 1) cx dL_law_347 (by decide) ?_
  refine wa_iadd (pc := 348) cx dL_law_348 ?_
  refine wa_sld (j := 6 * kk + 1) (pc := 349) cx SC.1 SC.2.1 SC.2.2.1 SC.2.2.2 (by omega) (ix_add (6 * kk) 1) dL_law_349 ?_
  refine wa_i2l (pc := 350) cx dL_law_350 ?_
  refine wa_bipush (pc := 351) (v := 32) cx dL_law_351 (by decide) ?_
  refine wa_lshl (pc := 353) cx dL_law_353 ?_
  refine wa_aload_n (pc := 354) cx 0 dL_law_354 rfl rfl ?_
  refine wa_iload_n (pc := 355) cx 3 dL_law_355 rfl rfl ?_
  refine wa_iconst (pc := 356) (v := 2) cx dL_law_356 (by decide) ?_
  refine wa_iadd (pc := 357) cx dL_law_357 ?_
  refine wa_sld (j := 6 * kk + 2) (pc := 358) cx SC.1 SC.2.1 SC.2.2.1 SC.2.2.2 (by omega) (ix_add (6 * kk) 2) dL_law_358 ?_
  refine wa_i2l (pc := 359) cx dL_law_359 ?_
  refine wa_ldc2 (pc := 360) (v := 4294967295) cx dL_law_360 tw_1271 ?_
  refine wa_land (pc := 363) cx dL_law_363 ?_
  refine wa_lor (pc := 364) cx dL_law_364 ?_
  refine wa_aload_n (pc := 365) cx 0 dL_law_365 rfl rfl ?_
  refine wa_iload_n (pc := 366) cx 3 dL_law_366 rfl rfl ?_
  refine wa_iconst (pc := 367) (v := 3) cx dL_law_367 (by decide) ?_
  refine wa_iadd (pc := 368) cx dL_law_368 ?_
  refine wa_sld (j := 6 * kk + 3) (pc := 369) cx SC.1 SC.2.1 SC.2.2.1 SC.2.2.2 (by omega) (ix_add (6 * kk) 3) dL_law_369 ?_
  refine wa_callVi (pc := 370) cx [.long ((jlshl ((xs (6 * kk + 1)).toInt64) 32 ||| ((xs (6 * kk + 2)).toInt64 &&& 4294967295))), .int (xs (6 * kk + 3))] (ct_X10_feed l E _ _ _ _ h1) mi_X10_feed tw_410 lk_0 rfl (cx.bl 0 rfl) rfl rfl (Nat.le_of_ble_eq_true rfl) ⟨Nat.le_of_ble_eq_true rfl, Nat.le_of_ble_eq_true rfl⟩ hn dL_law_370 ?_
  refine wa_aload_n (pc := 373) cx 2 dL_law_373 rfl rfl ?_
  refine wa_aload_n (pc := 374) cx 0 dL_law_374 rfl rfl ?_
  refine wa_iload_n (pc := 375) cx 3 dL_law_375 rfl rfl ?_
  refine wa_iconst (pc := 376) (v := 1) cx dL_law_376 (by decide) ?_
  refine wa_iadd (pc := 377) cx dL_law_377 ?_
  refine wa_sld (j := 6 * kk + 1) (pc := 378) cx SC.1 SC.2.1 SC.2.2.1 SC.2.2.2 (by omega) (ix_add (6 * kk) 1) dL_law_378 ?_
  refine wa_i2l (pc := 379) cx dL_law_379 ?_
  refine wa_bipush (pc := 380) (v := 32) cx dL_law_380 (by decide) ?_
  refine wa_lshl (pc := 382) cx dL_law_382 ?_
  refine wa_aload_n (pc := 383) cx 0 dL_law_383 rfl rfl ?_
  refine wa_iload_n (pc := 384) cx 3 dL_law_384 rfl rfl ?_
  refine wa_iconst (pc := 385) (v := 2) cx dL_law_385 (by decide) ?_
  refine wa_iadd (pc := 386) cx dL_law_386 ?_
  refine wa_sld (j := 6 * kk + 2) (pc := 387) cx SC.1 SC.2.1 SC.2.2.1 SC.2.2.2 (by omega) (ix_add (6 * kk) 2) dL_law_387 ?_
  refine wa_i2l (pc := 388) cx dL_law_388 ?_
  refine wa_ldc2 (pc := 389) (v := 4294967295) cx dL_law_389 tw_1271 ?_
  refine wa_land (pc := 392) cx dL_law_392 ?_
  refine wa_lor (pc := 393) cx dL_law_393 ?_
  refine wa_aload_n (pc := 394) cx 0 dL_law_394 rfl rfl ?_
  refine wa_iload_n (pc := 395) cx 3 dL_law_395 rfl rfl ?_
  refine wa_iconst (pc := 396) (v := 3) cx dL_law_396 (by decide) ?_
  refine wa_iadd (pc := 397) cx dL_law_397 ?_
  refine wa_sld (j := 6 * kk + 3) (pc := 398) cx SC.1 SC.2.1 SC.2.2.1 SC.2.2.2 (by omega) (ix_add (6 * kk) 3) dL_law_398 ?_
  refine wa_callVi (pc := 399) cx [.long ((jlshl ((xs (6 * kk + 1)).toInt64) 32 ||| ((xs (6 * kk + 2)).toInt64 &&& 4294967295))), .int (xs (6 * kk + 3))] (ct_X11_feed l E _ _ _ _ h2) mi_X11_feed tw_974 lk_38 rfl (cx.bl 38 rfl) rfl rfl (Nat.le_of_ble_eq_true rfl) ⟨Nat.le_of_ble_eq_true rfl, Nat.le_of_ble_eq_true rfl⟩ hn dL_law_399 ?_
  refine wa_icmp_eq (pc := 402) cx 1075 dL_law_402 rfl (fun _ => ?_) (fun h => absurd h3 h)
  exact K q2.2 hI1
set_option maxHeartbeats 4000000 in
set_option maxRecDepth 100000 in
theorem law_c5 (hop : OK_walk I) (cx : CX p s m args meth c code RL 4 ret E) (SC : SCR s E b Lx xs) (hk : 6 * kk + 6 ≤ Lx) (hk5 : kk < 512) (hI : I kk (kept E) σ) (hn : nc ≤ 600000 ∧ ns ≤ 7302249) (K : ∀ σ1 : Sg, I (kk + 1) (kept E) σ1 → WA p l e room_1 s m args below meth c 4 E (nc) (ns) Q 1075 [some (.ref b), some (.ref (eA E 0)), some (.ref (eA E 38)), some (.int (nI (6 * kk)))] [] σ1) : WA p l e room_1 s m args below meth c 4 E (nc) (ns) Q 407 [some (.ref b), some (.ref (eA E 0)), some (.ref (eA E 38)), some (.int (nI (6 * kk)))] [] σ := by
  obtain ⟨q1, q2, h1, h2, h3, hI1⟩ := hop kk (kept E) σ  hk5 hI
  refine wa_aload_n (pc := 407) cx 1 dL_law_407 rfl rfl ?_
  refine wa_callVi (pc := 408) cx [] (ct_X10_walk l E _  _ h1) mi_X10_walk tw_423 lk_0 rfl (cx.bl 0 rfl) rfl rfl (Nat.le_of_ble_eq_true rfl) ⟨Nat.le_of_ble_eq_true rfl, Nat.le_of_ble_eq_true rfl⟩ hn dL_law_408 ?_
  refine wa_aload_n (pc := 411) cx 2 dL_law_411 rfl rfl ?_
  refine wa_callVi (pc := 412) cx [] (ct_X11_walk l E _  _ h2) mi_X11_walk tw_981 lk_38 rfl (cx.bl 38 rfl) rfl rfl (Nat.le_of_ble_eq_true rfl) ⟨Nat.le_of_ble_eq_true rfl, Nat.le_of_ble_eq_true rfl⟩ hn dL_law_412 ?_
  refine wa_icmp_eq (pc := 415) cx 1075 dL_law_415 rfl (fun _ => ?_) (fun h => absurd h3 h)
  exact K q2.2 hI1
set_option maxHeartbeats 4000000 in
set_option maxRecDepth 100000 in
theorem law_c6 (hop : OK_fault I) (cx : CX p s m args meth c code RL 4 ret E) (SC : SCR s E b Lx xs) (hk : 6 * kk + 6 ≤ Lx) (hk5 : kk < 512) (hI : I kk (kept E) σ) (hn : nc ≤ 600000 ∧ ns ≤ 7302249) (K : ∀ σ1 : Sg, I (kk + 1) (kept E) σ1 → WA p l e room_1 s m args below meth c 4 E (nc) (ns) Q 1075 [some (.ref b), some (.ref (eA E 0)), some (.ref (eA E 38)), some (.int (nI (6 * kk)))] [] σ1) : WA p l e room_1 s m args below meth c 4 E (nc) (ns) Q 420 [some (.ref b), some (.ref (eA E 0)), some (.ref (eA E 38)), some (.int (nI (6 * kk)))] [] σ := by
  obtain ⟨q1, q2, h1, h2, h3, hI1⟩ := hop kk (kept E) σ  hk5 hI
  refine wa_aload_n (pc := 420) cx 1 dL_law_420 rfl rfl ?_
  refine wa_callVi (pc := 421) cx [] (ct_X10_fault l E _  _ h1) mi_X10_fault tw_555 lk_0 rfl (cx.bl 0 rfl) rfl rfl (Nat.le_of_ble_eq_true rfl) ⟨Nat.le_of_ble_eq_true rfl, Nat.le_of_ble_eq_true rfl⟩ hn dL_law_421 ?_
  refine wa_aload_n (pc := 424) cx 2 dL_law_424 rfl rfl ?_
  refine wa_callVi (pc := 425) cx [] (ct_X11_fault l E _  _ h2) mi_X11_fault tw_1052 lk_38 rfl (cx.bl 38 rfl) rfl rfl (Nat.le_of_ble_eq_true rfl) ⟨Nat.le_of_ble_eq_true rfl, Nat.le_of_ble_eq_true rfl⟩ hn dL_law_425 ?_
  refine wa_icmp_eq (pc := 428) cx 1075 dL_law_428 rfl (fun _ => ?_) (fun h => absurd h3 h)
  exact K q2.2 hI1
set_option maxHeartbeats 4000000 in
set_option maxRecDepth 100000 in
theorem law_c7 (hop : OK_lay I) (cx : CX p s m args meth c code RL 4 ret E) (SC : SCR s E b Lx xs) (hk : 6 * kk + 6 ≤ Lx) (hk5 : kk < 512) (hI : I kk (kept E) σ) (hn : nc ≤ 600000 ∧ ns ≤ 7302249) (K : ∀ σ1 : Sg, I (kk + 1) (kept E) σ1 → WA p l e room_1 s m args below meth c 4 E (nc) (ns) Q 1075 [some (.ref b), some (.ref (eA E 0)), some (.ref (eA E 38)), some (.int (nI (6 * kk)))] [] σ1) : WA p l e room_1 s m args below meth c 4 E (nc) (ns) Q 433 [some (.ref b), some (.ref (eA E 0)), some (.ref (eA E 38)), some (.int (nI (6 * kk)))] [] σ := by
  obtain ⟨q1, q2, h1, h2, h3, hI1⟩ := hop kk (kept E) σ (xs (6 * kk + 1)) (xs (6 * kk + 2)) hk5 hI
  refine wa_aload_n (pc := 433) cx 1 dL_law_433 rfl rfl ?_
  refine wa_aload_n (pc := 434) cx 0 dL_law_434 rfl rfl ?_
  refine wa_iload_n (pc := 435) cx 3 dL_law_435 rfl rfl ?_
  refine wa_iconst (pc := 436) (v := 1) cx dL_law_436 (by decide) ?_
  refine wa_iadd (pc := 437) cx dL_law_437 ?_
  refine wa_sld (j := 6 * kk + 1) (pc := 438) cx SC.1 SC.2.1 SC.2.2.1 SC.2.2.2 (by omega) (ix_add (6 * kk) 1) dL_law_438 ?_
  refine wa_aload_n (pc := 439) cx 0 dL_law_439 rfl rfl ?_
  refine wa_iload_n (pc := 440) cx 3 dL_law_440 rfl rfl ?_
  refine wa_iconst (pc := 441) (v := 2) cx dL_law_441 (by decide) ?_
  refine wa_iadd (pc := 442) cx dL_law_442 ?_
  refine wa_sld (j := 6 * kk + 2) (pc := 443) cx SC.1 SC.2.1 SC.2.2.1 SC.2.2.2 (by omega) (ix_add (6 * kk) 2) dL_law_443 ?_
  refine wa_callVi (pc := 444) cx [.int (xs (6 * kk + 1)), .int (xs (6 * kk + 2))] (ct_X10_lay l E _ _ _ _ h1) mi_X10_lay tw_559 lk_0 rfl (cx.bl 0 rfl) rfl rfl (Nat.le_of_ble_eq_true rfl) ⟨Nat.le_of_ble_eq_true rfl, Nat.le_of_ble_eq_true rfl⟩ hn dL_law_444 ?_
  refine wa_aload_n (pc := 447) cx 2 dL_law_447 rfl rfl ?_
  refine wa_aload_n (pc := 448) cx 0 dL_law_448 rfl rfl ?_
  refine wa_iload_n (pc := 449) cx 3 dL_law_449 rfl rfl ?_
  refine wa_iconst (pc := 450) (v := 1) cx dL_law_450 (by decide) ?_
  refine wa_iadd (pc := 451) cx dL_law_451 ?_
  refine wa_sld (j := 6 * kk + 1) (pc := 452) cx SC.1 SC.2.1 SC.2.2.1 SC.2.2.2 (by omega) (ix_add (6 * kk) 1) dL_law_452 ?_
  refine wa_aload_n (pc := 453) cx 0 dL_law_453 rfl rfl ?_
  refine wa_iload_n (pc := 454) cx 3 dL_law_454 rfl rfl ?_
  refine wa_iconst (pc := 455) (v := 2) cx dL_law_455 (by decide) ?_
  refine wa_iadd (pc := 456) cx dL_law_456 ?_
  refine wa_sld (j := 6 * kk + 2) (pc := 457) cx SC.1 SC.2.1 SC.2.2.1 SC.2.2.2 (by omega) (ix_add (6 * kk) 2) dL_law_457 ?_
  refine wa_callVi (pc := 458) cx [.int (xs (6 * kk + 1)), .int (xs (6 * kk + 2))] (ct_X11_lay l E _ _ _ _ h2) mi_X11_lay tw_1056 lk_38 rfl (cx.bl 38 rfl) rfl rfl (Nat.le_of_ble_eq_true rfl) ⟨Nat.le_of_ble_eq_true rfl, Nat.le_of_ble_eq_true rfl⟩ hn dL_law_458 ?_
  refine wa_icmp_eq (pc := 461) cx 1075 dL_law_461 rfl (fun _ => ?_) (fun h => absurd h3 h)
  exact K q2.2 hI1
set_option maxHeartbeats 4000000 in
set_option maxRecDepth 100000 in
theorem law_c8 (hop : OK_pitch I) (cx : CX p s m args meth c code RL 4 ret E) (SC : SCR s E b Lx xs) (hk : 6 * kk + 6 ≤ Lx) (hk5 : kk < 512) (hI : I kk (kept E) σ) (hn : nc ≤ 600000 ∧ ns ≤ 7302249) (K : ∀ σ1 : Sg, I (kk + 1) (kept E) σ1 → WA p l e room_1 s m args below meth c 4 E (nc) (ns) Q 1075 [some (.ref b), some (.ref (eA E 0)), some (.ref (eA E 38)), some (.int (nI (6 * kk)))] [] σ1) : WA p l e room_1 s m args below meth c 4 E (nc) (ns) Q 466 [some (.ref b), some (.ref (eA E 0)), some (.ref (eA E 38)), some (.int (nI (6 * kk)))] [] σ := by
  obtain ⟨q1, q2, h1, h2, h3, hI1⟩ := hop kk (kept E) σ (xs (6 * kk + 1)) hk5 hI
  refine wa_aload_n (pc := 466) cx 1 dL_law_466 rfl rfl ?_
  refine wa_aload_n (pc := 467) cx 0 dL_law_467 rfl rfl ?_
  refine wa_iload_n (pc := 468) cx 3 dL_law_468 rfl rfl ?_
  refine wa_iconst (pc := 469) (v := 1) cx dL_law_469 (by decide) ?_
  refine wa_iadd (pc := 470) cx dL_law_470 ?_
  refine wa_sld (j := 6 * kk + 1) (pc := 471) cx SC.1 SC.2.1 SC.2.2.1 SC.2.2.2 (by omega) (ix_add (6 * kk) 1) dL_law_471 ?_
  refine wa_callVi (pc := 472) cx [.int (xs (6 * kk + 1))] (ct_X10_pitch l E _ _ _ h1) mi_X10_pitch tw_575 lk_0 rfl (cx.bl 0 rfl) rfl rfl (Nat.le_of_ble_eq_true rfl) ⟨Nat.le_of_ble_eq_true rfl, Nat.le_of_ble_eq_true rfl⟩ hn dL_law_472 ?_
  refine wa_aload_n (pc := 475) cx 2 dL_law_475 rfl rfl ?_
  refine wa_aload_n (pc := 476) cx 0 dL_law_476 rfl rfl ?_
  refine wa_iload_n (pc := 477) cx 3 dL_law_477 rfl rfl ?_
  refine wa_iconst (pc := 478) (v := 1) cx dL_law_478 (by decide) ?_
  refine wa_iadd (pc := 479) cx dL_law_479 ?_
  refine wa_sld (j := 6 * kk + 1) (pc := 480) cx SC.1 SC.2.1 SC.2.2.1 SC.2.2.2 (by omega) (ix_add (6 * kk) 1) dL_law_480 ?_
  refine wa_callVi (pc := 481) cx [.int (xs (6 * kk + 1))] (ct_X11_pitch l E _ _ _ h2) mi_X11_pitch tw_1077 lk_38 rfl (cx.bl 38 rfl) rfl rfl (Nat.le_of_ble_eq_true rfl) ⟨Nat.le_of_ble_eq_true rfl, Nat.le_of_ble_eq_true rfl⟩ hn dL_law_481 ?_
  refine wa_icmp_eq (pc := 484) cx 1075 dL_law_484 rfl (fun _ => ?_) (fun h => absurd h3 h)
  exact K q2.2 hI1
set_option maxHeartbeats 4000000 in
set_option maxRecDepth 100000 in
theorem law_c9 (hop : OK_vow I) (cx : CX p s m args meth c code RL 4 ret E) (SC : SCR s E b Lx xs) (hk : 6 * kk + 6 ≤ Lx) (hk5 : kk < 512) (hI : I kk (kept E) σ) (hn : nc ≤ 600000 ∧ ns ≤ 7302249) (K : ∀ σ1 : Sg, I (kk + 1) (kept E) σ1 → WA p l e room_1 s m args below meth c 4 E (nc) (ns) Q 1075 [some (.ref b), some (.ref (eA E 0)), some (.ref (eA E 38)), some (.int (nI (6 * kk)))] [] σ1) : WA p l e room_1 s m args below meth c 4 E (nc) (ns) Q 489 [some (.ref b), some (.ref (eA E 0)), some (.ref (eA E 38)), some (.int (nI (6 * kk)))] [] σ := by
  obtain ⟨q1, q2, h1, h2, h3, hI1⟩ := hop kk (kept E) σ (xs (6 * kk + 1)) (xs (6 * kk + 2)) hk5 hI
  refine wa_aload_n (pc := 489) cx 1 dL_law_489 rfl rfl ?_
  refine wa_aload_n (pc := 490) cx 0 dL_law_490 rfl rfl ?_
  refine wa_iload_n (pc := 491) cx 3 dL_law_491 rfl rfl ?_
  refine wa_iconst (pc := 492) (v := 1) cx dL_law_492 (by decide) ?_
  refine wa_iadd (pc := 493) cx dL_law_493 ?_
  refine wa_sld (j := 6 * kk + 1) (pc := 494) cx SC.1 SC.2.1 SC.2.2.1 SC.2.2.2 (by omega) (ix_add (6 * kk) 1) dL_law_494 ?_
  refine wa_aload_n (pc := 495) cx 0 dL_law_495 rfl rfl ?_
  refine wa_iload_n (pc := 496) cx 3 dL_law_496 rfl rfl ?_
  refine wa_iconst (pc := 497) (v := 2) cx dL_law_497 (by decide) ?_
  refine wa_iadd (pc := 498) cx dL_law_498 ?_
  refine wa_sld (j := 6 * kk + 2) (pc := 499) cx SC.1 SC.2.1 SC.2.2.1 SC.2.2.2 (by omega) (ix_add (6 * kk) 2) dL_law_499 ?_
  refine wa_callVi (pc := 500) cx [.int (xs (6 * kk + 1)), .int (xs (6 * kk + 2))] (ct_X10_vow l E _ _ _ _ h1) mi_X10_vow tw_591 lk_0 rfl (cx.bl 0 rfl) rfl rfl (Nat.le_of_ble_eq_true rfl) ⟨Nat.le_of_ble_eq_true rfl, Nat.le_of_ble_eq_true rfl⟩ hn dL_law_500 ?_
  refine wa_aload_n (pc := 503) cx 2 dL_law_503 rfl rfl ?_
  refine wa_aload_n (pc := 504) cx 0 dL_law_504 rfl rfl ?_
  refine wa_iload_n (pc := 505) cx 3 dL_law_505 rfl rfl ?_
  refine wa_iconst (pc := 506) (v := 1) cx dL_law_506 (by decide) ?_
  refine wa_iadd (pc := 507) cx dL_law_507 ?_
  refine wa_sld (j := 6 * kk + 1) (pc := 508) cx SC.1 SC.2.1 SC.2.2.1 SC.2.2.2 (by omega) (ix_add (6 * kk) 1) dL_law_508 ?_
  refine wa_aload_n (pc := 509) cx 0 dL_law_509 rfl rfl ?_
  refine wa_iload_n (pc := 510) cx 3 dL_law_510 rfl rfl ?_
  refine wa_iconst (pc := 511) (v := 2) cx dL_law_511 (by decide) ?_
  refine wa_iadd (pc := 512) cx dL_law_512 ?_
  refine wa_sld (j := 6 * kk + 2) (pc := 513) cx SC.1 SC.2.1 SC.2.2.1 SC.2.2.2 (by omega) (ix_add (6 * kk) 2) dL_law_513 ?_
  refine wa_callVi (pc := 514) cx [.int (xs (6 * kk + 1)), .int (xs (6 * kk + 2))] (ct_X11_vow l E _ _ _ _ h2) mi_X11_vow tw_1094 lk_38 rfl (cx.bl 38 rfl) rfl rfl (Nat.le_of_ble_eq_true rfl) ⟨Nat.le_of_ble_eq_true rfl, Nat.le_of_ble_eq_true rfl⟩ hn dL_law_514 ?_
  refine wa_icmp_eq (pc := 517) cx 1075 dL_law_517 rfl (fun _ => ?_) (fun h => absurd h3 h)
  exact K q2.2 hI1
set_option maxHeartbeats 4000000 in
set_option maxRecDepth 100000 in
theorem law_c10 (hop : OK_splice I) (cx : CX p s m args meth c code RL 4 ret E) (SC : SCR s E b Lx xs) (hk : 6 * kk + 6 ≤ Lx) (hk5 : kk < 512) (hI : I kk (kept E) σ) (hn : nc ≤ 600000 ∧ ns ≤ 7302249) (K : ∀ σ1 : Sg, I (kk + 1) (kept E) σ1 → WA p l e room_1 s m args below meth c 4 E (nc) (ns) Q 1075 [some (.ref b), some (.ref (eA E 0)), some (.ref (eA E 38)), some (.int (nI (6 * kk)))] [] σ1) : WA p l e room_1 s m args below meth c 4 E (nc) (ns) Q 522 [some (.ref b), some (.ref (eA E 0)), some (.ref (eA E 38)), some (.int (nI (6 * kk)))] [] σ := by
  obtain ⟨q1, q2, h1, h2, h3, hI1⟩ := hop kk (kept E) σ (xs (6 * kk + 1)) hk5 hI
  refine wa_aload_n (pc := 522) cx 1 dL_law_522 rfl rfl ?_
  refine wa_aload_n (pc := 523) cx 0 dL_law_523 rfl rfl ?_
  refine wa_iload_n (pc := 524) cx 3 dL_law_524 rfl rfl ?_
  refine wa_iconst (pc := 525) (v := 1) cx dL_law_525 (by decide) ?_
  refine wa_iadd (pc := 526) cx dL_law_526 ?_
  refine wa_sld (j := 6 * kk + 1) (pc := 527) cx SC.1 SC.2.1 SC.2.2.1 SC.2.2.2 (by omega) (ix_add (6 * kk) 1) dL_law_527 ?_
  refine wa_callVi (pc := 528) cx [.int (xs (6 * kk + 1))] (ct_X10_splice l E _ _ _ h1) mi_X10_splice tw_595 lk_0 rfl (cx.bl 0 rfl) rfl rfl (Nat.le_of_ble_eq_true rfl) ⟨Nat.le_of_ble_eq_true rfl, Nat.le_of_ble_eq_true rfl⟩ hn dL_law_528 ?_
  refine wa_aload_n (pc := 531) cx 2 dL_law_531 rfl rfl ?_
  refine wa_aload_n (pc := 532) cx 0 dL_law_532 rfl rfl ?_
  refine wa_iload_n (pc := 533) cx 3 dL_law_533 rfl rfl ?_
  refine wa_iconst (pc := 534) (v := 1) cx dL_law_534 (by decide) ?_
  refine wa_iadd (pc := 535) cx dL_law_535 ?_
  refine wa_sld (j := 6 * kk + 1) (pc := 536) cx SC.1 SC.2.1 SC.2.2.1 SC.2.2.2 (by omega) (ix_add (6 * kk) 1) dL_law_536 ?_
  refine wa_callVi (pc := 537) cx [.int (xs (6 * kk + 1))] (ct_X11_splice l E _ _ _ h2) mi_X11_splice tw_1098 lk_38 rfl (cx.bl 38 rfl) rfl rfl (Nat.le_of_ble_eq_true rfl) ⟨Nat.le_of_ble_eq_true rfl, Nat.le_of_ble_eq_true rfl⟩ hn dL_law_537 ?_
  refine wa_icmp_eq (pc := 540) cx 1075 dL_law_540 rfl (fun _ => ?_) (fun h => absurd h3 h)
  exact K q2.2 hI1
set_option maxHeartbeats 4000000 in
set_option maxRecDepth 100000 in
theorem law_c11 (hop : OK_pull I) (cx : CX p s m args meth c code RL 4 ret E) (SC : SCR s E b Lx xs) (hk : 6 * kk + 6 ≤ Lx) (hk5 : kk < 512) (hI : I kk (kept E) σ) (hn : nc ≤ 600000 ∧ ns ≤ 7302249) (K : ∀ σ1 : Sg, I (kk + 1) (kept E) σ1 → WA p l e room_1 s m args below meth c 4 E (nc) (ns) Q 1075 [some (.ref b), some (.ref (eA E 0)), some (.ref (eA E 38)), some (.int (nI (6 * kk)))] [] σ1) : WA p l e room_1 s m args below meth c 4 E (nc) (ns) Q 545 [some (.ref b), some (.ref (eA E 0)), some (.ref (eA E 38)), some (.int (nI (6 * kk)))] [] σ := by
  obtain ⟨q1, q2, h1, h2, h3, hI1⟩ := hop kk (kept E) σ (xs (6 * kk + 1)) (xs (6 * kk + 2)) hk5 hI
  refine wa_aload_n (pc := 545) cx 1 dL_law_545 rfl rfl ?_
  refine wa_aload_n (pc := 546) cx 0 dL_law_546 rfl rfl ?_
  refine wa_iload_n (pc := 547) cx 3 dL_law_547 rfl rfl ?_
  refine wa_iconst (pc := 548) (v := 1) cx dL_law_548 (by decide) ?_
  refine wa_iadd (pc := 549) cx dL_law_549 ?_
  refine wa_sld (j := 6 * kk + 1) (pc := 550) cx SC.1 SC.2.1 SC.2.2.1 SC.2.2.2 (by omega) (ix_add (6 * kk) 1) dL_law_550 ?_
  refine wa_aload_n (pc := 551) cx 0 dL_law_551 rfl rfl ?_
  refine wa_iload_n (pc := 552) cx 3 dL_law_552 rfl rfl ?_
  refine wa_iconst (pc := 553) (v := 2) cx dL_law_553 (by decide) ?_
  refine wa_iadd (pc := 554) cx dL_law_554 ?_
  refine wa_sld (j := 6 * kk + 2) (pc := 555) cx SC.1 SC.2.1 SC.2.2.1 SC.2.2.2 (by omega) (ix_add (6 * kk) 2) dL_law_555 ?_
  refine wa_callVi (pc := 556) cx [.int (xs (6 * kk + 1)), .int (xs (6 * kk + 2))] (ct_X10_pull l E _ _ _ _ h1) mi_X10_pull tw_599 lk_0 rfl (cx.bl 0 rfl) rfl rfl (Nat.le_of_ble_eq_true rfl) ⟨Nat.le_of_ble_eq_true rfl, Nat.le_of_ble_eq_true rfl⟩ hn dL_law_556 ?_
  refine wa_aload_n (pc := 559) cx 2 dL_law_559 rfl rfl ?_
  refine wa_aload_n (pc := 560) cx 0 dL_law_560 rfl rfl ?_
  refine wa_iload_n (pc := 561) cx 3 dL_law_561 rfl rfl ?_
  refine wa_iconst (pc := 562) (v := 1) cx dL_law_562 (by decide) ?_
  refine wa_iadd (pc := 563) cx dL_law_563 ?_
  refine wa_sld (j := 6 * kk + 1) (pc := 564) cx SC.1 SC.2.1 SC.2.2.1 SC.2.2.2 (by omega) (ix_add (6 * kk) 1) dL_law_564 ?_
  refine wa_aload_n (pc := 565) cx 0 dL_law_565 rfl rfl ?_
  refine wa_iload_n (pc := 566) cx 3 dL_law_566 rfl rfl ?_
  refine wa_iconst (pc := 567) (v := 2) cx dL_law_567 (by decide) ?_
  refine wa_iadd (pc := 568) cx dL_law_568 ?_
  refine wa_sld (j := 6 * kk + 2) (pc := 569) cx SC.1 SC.2.1 SC.2.2.1 SC.2.2.2 (by omega) (ix_add (6 * kk) 2) dL_law_569 ?_
  refine wa_callVi (pc := 570) cx [.int (xs (6 * kk + 1)), .int (xs (6 * kk + 2))] (ct_X11_pull l E _ _ _ _ h2) mi_X11_pull tw_1102 lk_38 rfl (cx.bl 38 rfl) rfl rfl (Nat.le_of_ble_eq_true rfl) ⟨Nat.le_of_ble_eq_true rfl, Nat.le_of_ble_eq_true rfl⟩ hn dL_law_570 ?_
  refine wa_icmp_eq (pc := 573) cx 1075 dL_law_573 rfl (fun _ => ?_) (fun h => absurd h3 h)
  exact K q2.2 hI1
set_option maxHeartbeats 4000000 in
set_option maxRecDepth 100000 in
theorem law_c12 (hop : OK_year I) (cx : CX p s m args meth c code RL 4 ret E) (SC : SCR s E b Lx xs) (hk : 6 * kk + 6 ≤ Lx) (hk5 : kk < 512) (hI : I kk (kept E) σ) (hn : nc ≤ 600000 ∧ ns ≤ 7302249) (K : ∀ σ1 : Sg, I (kk + 1) (kept E) σ1 → WA p l e room_1 s m args below meth c 4 E (nc) (ns) Q 1075 [some (.ref b), some (.ref (eA E 0)), some (.ref (eA E 38)), some (.int (nI (6 * kk)))] [] σ1) : WA p l e room_1 s m args below meth c 4 E (nc) (ns) Q 578 [some (.ref b), some (.ref (eA E 0)), some (.ref (eA E 38)), some (.int (nI (6 * kk)))] [] σ := by
  obtain ⟨q1, q2, h1, h2, h3, hI1⟩ := hop kk (kept E) σ (xs (6 * kk + 1)) hk5 hI
  refine wa_aload_n (pc := 578) cx 1 dL_law_578 rfl rfl ?_
  refine wa_aload_n (pc := 579) cx 0 dL_law_579 rfl rfl ?_
  refine wa_iload_n (pc := 580) cx 3 dL_law_580 rfl rfl ?_
  refine wa_iconst (pc := 581) (v := 1) cx dL_law_581 (by decide) ?_
  refine wa_iadd (pc := 582) cx dL_law_582 ?_
  refine wa_sld (j := 6 * kk + 1) (pc := 583) cx SC.1 SC.2.1 SC.2.2.1 SC.2.2.2 (by omega) (ix_add (6 * kk) 1) dL_law_583 ?_
  refine wa_callVi (pc := 584) cx [.int (xs (6 * kk + 1))] (ct_X10_year l E _ _ _ h1) mi_X10_year tw_650 lk_0 rfl (cx.bl 0 rfl) rfl rfl (Nat.le_of_ble_eq_true rfl) ⟨Nat.le_of_ble_eq_true rfl, Nat.le_of_ble_eq_true rfl⟩ hn dL_law_584 ?_
  refine wa_aload_n (pc := 587) cx 2 dL_law_587 rfl rfl ?_
  refine wa_aload_n (pc := 588) cx 0 dL_law_588 rfl rfl ?_
  refine wa_iload_n (pc := 589) cx 3 dL_law_589 rfl rfl ?_
  refine wa_iconst (pc := 590) (v := 1) cx dL_law_590 (by decide) ?_
  refine wa_iadd (pc := 591) cx dL_law_591 ?_
  refine wa_sld (j := 6 * kk + 1) (pc := 592) cx SC.1 SC.2.1 SC.2.2.1 SC.2.2.2 (by omega) (ix_add (6 * kk) 1) dL_law_592 ?_
  refine wa_callVi (pc := 593) cx [.int (xs (6 * kk + 1))] (ct_X11_year l E _ _ _ h2) mi_X11_year tw_1136 lk_38 rfl (cx.bl 38 rfl) rfl rfl (Nat.le_of_ble_eq_true rfl) ⟨Nat.le_of_ble_eq_true rfl, Nat.le_of_ble_eq_true rfl⟩ hn dL_law_593 ?_
  refine wa_icmp_eq (pc := 596) cx 1075 dL_law_596 rfl (fun _ => ?_) (fun h => absurd h3 h)
  exact K q2.2 hI1
set_option maxHeartbeats 4000000 in
set_option maxRecDepth 100000 in
theorem law_c13 (hop : OK_undo I) (cx : CX p s m args meth c code RL 4 ret E) (SC : SCR s E b Lx xs) (hk : 6 * kk + 6 ≤ Lx) (hk5 : kk < 512) (hI : I kk (kept E) σ) (hn : nc ≤ 600000 ∧ ns ≤ 7302249) (K : ∀ σ1 : Sg, I (kk + 1) (kept E) σ1 → WA p l e room_1 s m args below meth c 4 E (nc) (ns) Q 1075 [some (.ref b), some (.ref (eA E 0)), some (.ref (eA E 38)), some (.int (nI (6 * kk)))] [] σ1) : WA p l e room_1 s m args below meth c 4 E (nc) (ns) Q 601 [some (.ref b), some (.ref (eA E 0)), some (.ref (eA E 38)), some (.int (nI (6 * kk)))] [] σ := by
  obtain ⟨q1, q2, h1, h2, h3, hI1⟩ := hop kk (kept E) σ  hk5 hI
  refine wa_aload_n (pc := 601) cx 1 dL_law_601 rfl rfl ?_
  refine wa_callVi (pc := 602) cx [] (ct_X10_undo l E _  _ h1) mi_X10_undo tw_662 lk_0 rfl (cx.bl 0 rfl) rfl rfl (Nat.le_of_ble_eq_true rfl) ⟨Nat.le_of_ble_eq_true rfl, Nat.le_of_ble_eq_true rfl⟩ hn dL_law_602 ?_
  refine wa_aload_n (pc := 605) cx 2 dL_law_605 rfl rfl ?_
  refine wa_callVi (pc := 606) cx [] (ct_X11_undo l E _  _ h2) mi_X11_undo tw_1144 lk_38 rfl (cx.bl 38 rfl) rfl rfl (Nat.le_of_ble_eq_true rfl) ⟨Nat.le_of_ble_eq_true rfl, Nat.le_of_ble_eq_true rfl⟩ hn dL_law_606 ?_
  refine wa_icmp_eq (pc := 609) cx 1075 dL_law_609 rfl (fun _ => ?_) (fun h => absurd h3 h)
  exact K q2.2 hI1
set_option maxHeartbeats 4000000 in
set_option maxRecDepth 100000 in
theorem law_c14 (hop : OK_yarn I) (cx : CX p s m args meth c code RL 4 ret E) (SC : SCR s E b Lx xs) (hk : 6 * kk + 6 ≤ Lx) (hk5 : kk < 512) (hI : I kk (kept E) σ) (hn : nc ≤ 600000 ∧ ns ≤ 7302249) (K : ∀ σ1 : Sg, I (kk + 1) (kept E) σ1 → WA p l e room_1 s m args below meth c 4 E (nc) (ns) Q 1075 [some (.ref b), some (.ref (eA E 0)), some (.ref (eA E 38)), some (.int (nI (6 * kk)))] [] σ1) : WA p l e room_1 s m args below meth c 4 E (nc) (ns) Q 614 [some (.ref b), some (.ref (eA E 0)), some (.ref (eA E 38)), some (.int (nI (6 * kk)))] [] σ := by
  obtain ⟨q1, q2, h1, h2, h3, hI1⟩ := hop kk (kept E) σ (xs (6 * kk + 1)) (xs (6 * kk + 2)) hk5 hI
  refine wa_aload_n (pc := 614) cx 1 dL_law_614 rfl rfl ?_
  refine wa_aload_n (pc := 615) cx 0 dL_law_615 rfl rfl ?_
  refine wa_iload_n (pc := 616) cx 3 dL_law_616 rfl rfl ?_
  refine wa_iconst (pc := 617) (v := 1) cx dL_law_617 (by decide) ?_
  refine wa_iadd (pc := 618) cx dL_law_618 ?_
  refine wa_sld (j := 6 * kk + 1) (pc := 619) cx SC.1 SC.2.1 SC.2.2.1 SC.2.2.2 (by omega) (ix_add (6 * kk) 1) dL_law_619 ?_
  refine wa_aload_n (pc := 620) cx 0 dL_law_620 rfl rfl ?_
  refine wa_iload_n (pc := 621) cx 3 dL_law_621 rfl rfl ?_
  refine wa_iconst (pc := 622) (v := 2) cx dL_law_622 (by decide) ?_
  refine wa_iadd (pc := 623) cx dL_law_623 ?_
  refine wa_sld (j := 6 * kk + 2) (pc := 624) cx SC.1 SC.2.1 SC.2.2.1 SC.2.2.2 (by omega) (ix_add (6 * kk) 2) dL_law_624 ?_
  refine wa_callVi (pc := 625) cx [.int (xs (6 * kk + 1)), .int (xs (6 * kk + 2))] (ct_X10_yarn l E _ _ _ _ h1) mi_X10_yarn tw_670 lk_0 rfl (cx.bl 0 rfl) rfl rfl (Nat.le_of_ble_eq_true rfl) ⟨Nat.le_of_ble_eq_true rfl, Nat.le_of_ble_eq_true rfl⟩ hn dL_law_625 ?_
  refine wa_aload_n (pc := 628) cx 2 dL_law_628 rfl rfl ?_
  refine wa_aload_n (pc := 629) cx 0 dL_law_629 rfl rfl ?_
  refine wa_iload_n (pc := 630) cx 3 dL_law_630 rfl rfl ?_
  refine wa_iconst (pc := 631) (v := 1) cx dL_law_631 (by decide) ?_
  refine wa_iadd (pc := 632) cx dL_law_632 ?_
  refine wa_sld (j := 6 * kk + 1) (pc := 633) cx SC.1 SC.2.1 SC.2.2.1 SC.2.2.2 (by omega) (ix_add (6 * kk) 1) dL_law_633 ?_
  refine wa_aload_n (pc := 634) cx 0 dL_law_634 rfl rfl ?_
  refine wa_iload_n (pc := 635) cx 3 dL_law_635 rfl rfl ?_
  refine wa_iconst (pc := 636) (v := 2) cx dL_law_636 (by decide) ?_
  refine wa_iadd (pc := 637) cx dL_law_637 ?_
  refine wa_sld (j := 6 * kk + 2) (pc := 638) cx SC.1 SC.2.1 SC.2.2.1 SC.2.2.2 (by omega) (ix_add (6 * kk) 2) dL_law_638 ?_
  refine wa_callVi (pc := 639) cx [.int (xs (6 * kk + 1)), .int (xs (6 * kk + 2))] (ct_X11_yarn l E _ _ _ _ h2) mi_X11_yarn tw_1148 lk_38 rfl (cx.bl 38 rfl) rfl rfl (Nat.le_of_ble_eq_true rfl) ⟨Nat.le_of_ble_eq_true rfl, Nat.le_of_ble_eq_true rfl⟩ hn dL_law_639 ?_
  refine wa_icmp_eq (pc := 642) cx 1075 dL_law_642 rfl (fun _ => ?_) (fun h => absurd h3 h)
  exact K q2.2 hI1
set_option maxHeartbeats 4000000 in
set_option maxRecDepth 100000 in
theorem law_c15 (hop : OK_bears I) (cx : CX p s m args meth c code RL 4 ret E) (SC : SCR s E b Lx xs) (hk : 6 * kk + 6 ≤ Lx) (hk5 : kk < 512) (hI : I kk (kept E) σ) (hn : nc ≤ 600000 ∧ ns ≤ 7302249) (K : ∀ σ1 : Sg, I (kk + 1) (kept E) σ1 → WA p l e room_1 s m args below meth c 4 E (nc) (ns) Q 1075 [some (.ref b), some (.ref (eA E 0)), some (.ref (eA E 38)), some (.int (nI (6 * kk)))] [] σ1) : WA p l e room_1 s m args below meth c 4 E (nc) (ns) Q 647 [some (.ref b), some (.ref (eA E 0)), some (.ref (eA E 38)), some (.int (nI (6 * kk)))] [] σ := by
  obtain ⟨q1, q2, h1, h2, h3, hI1⟩ := hop kk (kept E) σ (xs (6 * kk + 1)) hk5 hI
  refine wa_aload_n (pc := 647) cx 1 dL_law_647 rfl rfl ?_
  refine wa_aload_n (pc := 648) cx 0 dL_law_648 rfl rfl ?_
  refine wa_iload_n (pc := 649) cx 3 dL_law_649 rfl rfl ?_
  refine wa_iconst (pc := 650) (v := 1) cx dL_law_650 (by decide) ?_
  refine wa_iadd (pc := 651) cx dL_law_651 ?_
  refine wa_sld (j := 6 * kk + 1) (pc := 652) cx SC.1 SC.2.1 SC.2.2.1 SC.2.2.2 (by omega) (ix_add (6 * kk) 1) dL_law_652 ?_
  refine wa_callVi (pc := 653) cx [.int (xs (6 * kk + 1))] (ct_X10_bears l E _ _ _ h1) mi_X10_bears tw_674 lk_0 rfl (cx.bl 0 rfl) rfl rfl (Nat.le_of_ble_eq_true rfl) ⟨Nat.le_of_ble_eq_true rfl, Nat.le_of_ble_eq_true rfl⟩ hn dL_law_653 ?_
  refine wa_aload_n (pc := 656) cx 2 dL_law_656 rfl rfl ?_
  refine wa_aload_n (pc := 657) cx 0 dL_law_657 rfl rfl ?_
  refine wa_iload_n (pc := 658) cx 3 dL_law_658 rfl rfl ?_
  refine wa_iconst (pc := 659) (v := 1) cx dL_law_659 (by decide) ?_
  refine wa_iadd (pc := 660) cx dL_law_660 ?_
  refine wa_sld (j := 6 * kk + 1) (pc := 661) cx SC.1 SC.2.1 SC.2.2.1 SC.2.2.2 (by omega) (ix_add (6 * kk) 1) dL_law_661 ?_
  refine wa_callVi (pc := 662) cx [.int (xs (6 * kk + 1))] (ct_X11_bears l E _ _ _ h2) mi_X11_bears tw_1153 lk_38 rfl (cx.bl 38 rfl) rfl rfl (Nat.le_of_ble_eq_true rfl) ⟨Nat.le_of_ble_eq_true rfl, Nat.le_of_ble_eq_true rfl⟩ hn dL_law_662 ?_
  refine wa_icmp_eq (pc := 665) cx 1075 dL_law_665 rfl (fun _ => ?_) (fun h => absurd h3 h)
  exact K q2.2 hI1
set_option maxHeartbeats 4000000 in
set_option maxRecDepth 100000 in
theorem law_c16 (hop : OK_best I) (cx : CX p s m args meth c code RL 4 ret E) (SC : SCR s E b Lx xs) (hk : 6 * kk + 6 ≤ Lx) (hk5 : kk < 512) (hI : I kk (kept E) σ) (hn : nc ≤ 600000 ∧ ns ≤ 7302249) (K : ∀ σ1 : Sg, I (kk + 1) (kept E) σ1 → WA p l e room_1 s m args below meth c 4 E (nc) (ns) Q 1075 [some (.ref b), some (.ref (eA E 0)), some (.ref (eA E 38)), some (.int (nI (6 * kk)))] [] σ1) : WA p l e room_1 s m args below meth c 4 E (nc) (ns) Q 670 [some (.ref b), some (.ref (eA E 0)), some (.ref (eA E 38)), some (.int (nI (6 * kk)))] [] σ := by
  obtain ⟨q1, q2, h1, h2, h3, hI1⟩ := hop kk (kept E) σ (xs (6 * kk + 1)) hk5 hI
  refine wa_aload_n (pc := 670) cx 1 dL_law_670 rfl rfl ?_
  refine wa_aload_n (pc := 671) cx 0 dL_law_671 rfl rfl ?_
  refine wa_iload_n (pc := 672) cx 3 dL_law_672 rfl rfl ?_
  refine wa_iconst (pc := 673) (v := 1) cx dL_law_673 (by decide) ?_
  refine wa_iadd (pc := 674) cx dL_law_674 ?_
  refine wa_sld (j := 6 * kk + 1) (pc := 675) cx SC.1 SC.2.1 SC.2.2.1 SC.2.2.2 (by omega) (ix_add (6 * kk) 1) dL_law_675 ?_
  refine wa_callVi (pc := 676) cx [.int (xs (6 * kk + 1))] (ct_X10_best l E _ _ _ h1) mi_X10_best tw_679 lk_0 rfl (cx.bl 0 rfl) rfl rfl (Nat.le_of_ble_eq_true rfl) ⟨Nat.le_of_ble_eq_true rfl, Nat.le_of_ble_eq_true rfl⟩ hn dL_law_676 ?_
  refine wa_aload_n (pc := 679) cx 2 dL_law_679 rfl rfl ?_
  refine wa_aload_n (pc := 680) cx 0 dL_law_680 rfl rfl ?_
  refine wa_iload_n (pc := 681) cx 3 dL_law_681 rfl rfl ?_
  refine wa_iconst (pc := 682) (v := 1) cx dL_law_682 (by decide) ?_
  refine wa_iadd (pc := 683) cx dL_law_683 ?_
  refine wa_sld (j := 6 * kk + 1) (pc := 684) cx SC.1 SC.2.1 SC.2.2.1 SC.2.2.2 (by omega) (ix_add (6 * kk) 1) dL_law_684 ?_
  refine wa_callVi (pc := 685) cx [.int (xs (6 * kk + 1))] (ct_X11_best l E _ _ _ h2) mi_X11_best tw_1158 lk_38 rfl (cx.bl 38 rfl) rfl rfl (Nat.le_of_ble_eq_true rfl) ⟨Nat.le_of_ble_eq_true rfl, Nat.le_of_ble_eq_true rfl⟩ hn dL_law_685 ?_
  refine wa_icmp_eq (pc := 688) cx 1075 dL_law_688 rfl (fun _ => ?_) (fun h => absurd h3 h)
  exact K q2.2 hI1
set_option maxHeartbeats 4000000 in
set_option maxRecDepth 100000 in
theorem law_c17 (hop : OK_cheapest I) (cx : CX p s m args meth c code RL 4 ret E) (SC : SCR s E b Lx xs) (hk : 6 * kk + 6 ≤ Lx) (hk5 : kk < 512) (hI : I kk (kept E) σ) (hn : nc ≤ 600000 ∧ ns ≤ 7302249) (K : ∀ σ1 : Sg, I (kk + 1) (kept E) σ1 → WA p l e room_1 s m args below meth c 4 E (nc) (ns) Q 1075 [some (.ref b), some (.ref (eA E 0)), some (.ref (eA E 38)), some (.int (nI (6 * kk)))] [] σ1) : WA p l e room_1 s m args below meth c 4 E (nc) (ns) Q 693 [some (.ref b), some (.ref (eA E 0)), some (.ref (eA E 38)), some (.int (nI (6 * kk)))] [] σ := by
  obtain ⟨q1, q2, h1, h2, h3, hI1⟩ := hop kk (kept E) σ (xs (6 * kk + 1)) (xs (6 * kk + 2)) hk5 hI
  refine wa_aload_n (pc := 693) cx 1 dL_law_693 rfl rfl ?_
  refine wa_aload_n (pc := 694) cx 0 dL_law_694 rfl rfl ?_
  refine wa_iload_n (pc := 695) cx 3 dL_law_695 rfl rfl ?_
  refine wa_iconst (pc := 696) (v := 1) cx dL_law_696 (by decide) ?_
  refine wa_iadd (pc := 697) cx dL_law_697 ?_
  refine wa_sld (j := 6 * kk + 1) (pc := 698) cx SC.1 SC.2.1 SC.2.2.1 SC.2.2.2 (by omega) (ix_add (6 * kk) 1) dL_law_698 ?_
  refine wa_aload_n (pc := 699) cx 0 dL_law_699 rfl rfl ?_
  refine wa_iload_n (pc := 700) cx 3 dL_law_700 rfl rfl ?_
  refine wa_iconst (pc := 701) (v := 2) cx dL_law_701 (by decide) ?_
  refine wa_iadd (pc := 702) cx dL_law_702 ?_
  refine wa_sld (j := 6 * kk + 2) (pc := 703) cx SC.1 SC.2.1 SC.2.2.1 SC.2.2.2 (by omega) (ix_add (6 * kk) 2) dL_law_703 ?_
  refine wa_callVi (pc := 704) cx [.int (xs (6 * kk + 1)), .int (xs (6 * kk + 2))] (ct_X10_cheapest l E _ _ _ _ h1) mi_X10_cheapest tw_699 lk_0 rfl (cx.bl 0 rfl) rfl rfl (Nat.le_of_ble_eq_true rfl) ⟨Nat.le_of_ble_eq_true rfl, Nat.le_of_ble_eq_true rfl⟩ hn dL_law_704 ?_
  refine wa_aload_n (pc := 707) cx 2 dL_law_707 rfl rfl ?_
  refine wa_aload_n (pc := 708) cx 0 dL_law_708 rfl rfl ?_
  refine wa_iload_n (pc := 709) cx 3 dL_law_709 rfl rfl ?_
  refine wa_iconst (pc := 710) (v := 1) cx dL_law_710 (by decide) ?_
  refine wa_iadd (pc := 711) cx dL_law_711 ?_
  refine wa_sld (j := 6 * kk + 1) (pc := 712) cx SC.1 SC.2.1 SC.2.2.1 SC.2.2.2 (by omega) (ix_add (6 * kk) 1) dL_law_712 ?_
  refine wa_aload_n (pc := 713) cx 0 dL_law_713 rfl rfl ?_
  refine wa_iload_n (pc := 714) cx 3 dL_law_714 rfl rfl ?_
  refine wa_iconst (pc := 715) (v := 2) cx dL_law_715 (by decide) ?_
  refine wa_iadd (pc := 716) cx dL_law_716 ?_
  refine wa_sld (j := 6 * kk + 2) (pc := 717) cx SC.1 SC.2.1 SC.2.2.1 SC.2.2.2 (by omega) (ix_add (6 * kk) 2) dL_law_717 ?_
  refine wa_callVi (pc := 718) cx [.int (xs (6 * kk + 1)), .int (xs (6 * kk + 2))] (ct_X11_cheapest l E _ _ _ _ h2) mi_X11_cheapest tw_1170 lk_38 rfl (cx.bl 38 rfl) rfl rfl (Nat.le_of_ble_eq_true rfl) ⟨Nat.le_of_ble_eq_true rfl, Nat.le_of_ble_eq_true rfl⟩ hn dL_law_718 ?_
  refine wa_icmp_eq (pc := 721) cx 1075 dL_law_721 rfl (fun _ => ?_) (fun h => absurd h3 h)
  exact K q2.2 hI1
set_option maxHeartbeats 4000000 in
set_option maxRecDepth 100000 in
theorem law_c18 (hop : OK_odds I) (cx : CX p s m args meth c code RL 4 ret E) (SC : SCR s E b Lx xs) (hk : 6 * kk + 6 ≤ Lx) (hk5 : kk < 512) (hI : I kk (kept E) σ) (hn : nc ≤ 600000 ∧ ns ≤ 7302249) (K : ∀ σ1 : Sg, I (kk + 1) (kept E) σ1 → WA p l e room_1 s m args below meth c 4 E (nc) (ns) Q 1075 [some (.ref b), some (.ref (eA E 0)), some (.ref (eA E 38)), some (.int (nI (6 * kk)))] [] σ1) : WA p l e room_1 s m args below meth c 4 E (nc) (ns) Q 726 [some (.ref b), some (.ref (eA E 0)), some (.ref (eA E 38)), some (.int (nI (6 * kk)))] [] σ := by
  obtain ⟨q1, q2, h1, h2, h3, hI1⟩ := hop kk (kept E) σ (xs (6 * kk + 1)) (xs (6 * kk + 2)) hk5 hI
  refine wa_aload_n (pc := 726) cx 1 dL_law_726 rfl rfl ?_
  refine wa_aload_n (pc := 727) cx 0 dL_law_727 rfl rfl ?_
  refine wa_iload_n (pc := 728) cx 3 dL_law_728 rfl rfl ?_
  refine wa_iconst (pc := 729) (v := 1) cx dL_law_729 (by decide) ?_
  refine wa_iadd (pc := 730) cx dL_law_730 ?_
  refine wa_sld (j := 6 * kk + 1) (pc := 731) cx SC.1 SC.2.1 SC.2.2.1 SC.2.2.2 (by omega) (ix_add (6 * kk) 1) dL_law_731 ?_
  refine wa_aload_n (pc := 732) cx 0 dL_law_732 rfl rfl ?_
  refine wa_iload_n (pc := 733) cx 3 dL_law_733 rfl rfl ?_
  refine wa_iconst (pc := 734) (v := 2) cx dL_law_734 (by decide) ?_
  refine wa_iadd (pc := 735) cx dL_law_735 ?_
  refine wa_sld (j := 6 * kk + 2) (pc := 736) cx SC.1 SC.2.1 SC.2.2.1 SC.2.2.2 (by omega) (ix_add (6 * kk) 2) dL_law_736 ?_
  refine wa_callVi (pc := 737) cx [.int (xs (6 * kk + 1)), .int (xs (6 * kk + 2))] (ct_X10_odds l E _ _ _ _ h1) mi_X10_odds tw_720 lk_0 rfl (cx.bl 0 rfl) rfl rfl (Nat.le_of_ble_eq_true rfl) ⟨Nat.le_of_ble_eq_true rfl, Nat.le_of_ble_eq_true rfl⟩ hn dL_law_737 ?_
  refine wa_aload_n (pc := 740) cx 2 dL_law_740 rfl rfl ?_
  refine wa_aload_n (pc := 741) cx 0 dL_law_741 rfl rfl ?_
  refine wa_iload_n (pc := 742) cx 3 dL_law_742 rfl rfl ?_
  refine wa_iconst (pc := 743) (v := 1) cx dL_law_743 (by decide) ?_
  refine wa_iadd (pc := 744) cx dL_law_744 ?_
  refine wa_sld (j := 6 * kk + 1) (pc := 745) cx SC.1 SC.2.1 SC.2.2.1 SC.2.2.2 (by omega) (ix_add (6 * kk) 1) dL_law_745 ?_
  refine wa_aload_n (pc := 746) cx 0 dL_law_746 rfl rfl ?_
  refine wa_iload_n (pc := 747) cx 3 dL_law_747 rfl rfl ?_
  refine wa_iconst (pc := 748) (v := 2) cx dL_law_748 (by decide) ?_
  refine wa_iadd (pc := 749) cx dL_law_749 ?_
  refine wa_sld (j := 6 * kk + 2) (pc := 750) cx SC.1 SC.2.1 SC.2.2.1 SC.2.2.2 (by omega) (ix_add (6 * kk) 2) dL_law_750 ?_
  refine wa_callVi (pc := 751) cx [.int (xs (6 * kk + 1)), .int (xs (6 * kk + 2))] (ct_X11_odds l E _ _ _ _ h2) mi_X11_odds tw_1182 lk_38 rfl (cx.bl 38 rfl) rfl rfl (Nat.le_of_ble_eq_true rfl) ⟨Nat.le_of_ble_eq_true rfl, Nat.le_of_ble_eq_true rfl⟩ hn dL_law_751 ?_
  refine wa_icmp_eq (pc := 754) cx 1075 dL_law_754 rfl (fun _ => ?_) (fun h => absurd h3 h)
  exact K q2.2 hI1
set_option maxHeartbeats 4000000 in
set_option maxRecDepth 100000 in
theorem law_c19 (hop : OK_risk I) (cx : CX p s m args meth c code RL 4 ret E) (SC : SCR s E b Lx xs) (hk : 6 * kk + 6 ≤ Lx) (hk5 : kk < 512) (hI : I kk (kept E) σ) (hn : nc ≤ 600000 ∧ ns ≤ 7302249) (K : ∀ σ1 : Sg, I (kk + 1) (kept E) σ1 → WA p l e room_1 s m args below meth c 4 E (nc) (ns) Q 1075 [some (.ref b), some (.ref (eA E 0)), some (.ref (eA E 38)), some (.int (nI (6 * kk)))] [] σ1) : WA p l e room_1 s m args below meth c 4 E (nc) (ns) Q 759 [some (.ref b), some (.ref (eA E 0)), some (.ref (eA E 38)), some (.int (nI (6 * kk)))] [] σ := by
  obtain ⟨q1, q2, h1, h2, h3, hI1⟩ := hop kk (kept E) σ (xs (6 * kk + 1)) (xs (6 * kk + 2)) (xs (6 * kk + 3)) hk5 hI
  refine wa_aload_n (pc := 759) cx 1 dL_law_759 rfl rfl ?_
  refine wa_aload_n (pc := 760) cx 0 dL_law_760 rfl rfl ?_
  refine wa_iload_n (pc := 761) cx 3 dL_law_761 rfl rfl ?_
  refine wa_iconst (pc := 762) (v := 1) cx dL_law_762 (by decide) ?_
  refine wa_iadd (pc := 763) cx dL_law_763 ?_
  refine wa_sld (j := 6 * kk + 1) (pc := 764) cx SC.1 SC.2.1 SC.2.2.1 SC.2.2.2 (by omega) (ix_add (6 * kk) 1) dL_law_764 ?_
  refine wa_aload_n (pc := 765) cx 0 dL_law_765 rfl rfl ?_
  refine wa_iload_n (pc := 766) cx 3 dL_law_766 rfl rfl ?_
  refine wa_iconst (pc := 767) (v := 2) cx dL_law_767 (by decide) ?_
  refine wa_iadd (pc := 768) cx dL_law_768 ?_
  refine wa_sld (j := 6 * kk + 2) (pc := 769) cx SC.1 SC.2.1 SC.2.2.1 SC.2.2.2 (by omega) (ix_add (6 * kk) 2) dL_law_769 ?_
  refine wa_aload_n (pc := 770) cx 0 dL_law_770 rfl rfl ?_
  refine wa_iload_n (pc := 771) cx 3 dL_law_771 rfl rfl ?_
  refine wa_iconst (pc := 772) (v := 3) cx dL_law_772 (by decide) ?_
  refine wa_iadd (pc := 773) cx dL_law_773 ?_
  refine wa_sld (j := 6 * kk + 3) (pc := 774) cx SC.1 SC.2.1 SC.2.2.1 SC.2.2.2 (by omega) (ix_add (6 * kk) 3) dL_law_774 ?_
  refine wa_callVi (pc := 775) cx [.int (xs (6 * kk + 1)), .int (xs (6 * kk + 2)), .int (xs (6 * kk + 3))] (ct_X10_risk l E _ _ _ _ _ h1) mi_X10_risk tw_742 lk_0 rfl (cx.bl 0 rfl) rfl rfl (Nat.le_of_ble_eq_true rfl) ⟨Nat.le_of_ble_eq_true rfl, Nat.le_of_ble_eq_true rfl⟩ hn dL_law_775 ?_
  refine wa_aload_n (pc := 778) cx 2 dL_law_778 rfl rfl ?_
  refine wa_aload_n (pc := 779) cx 0 dL_law_779 rfl rfl ?_
  refine wa_iload_n (pc := 780) cx 3 dL_law_780 rfl rfl ?_
  refine wa_iconst (pc := 781) (v := 1) cx dL_law_781 (by decide) ?_
  refine wa_iadd (pc := 782) cx dL_law_782 ?_
  refine wa_sld (j := 6 * kk + 1) (pc := 783) cx SC.1 SC.2.1 SC.2.2.1 SC.2.2.2 (by omega) (ix_add (6 * kk) 1) dL_law_783 ?_
  refine wa_aload_n (pc := 784) cx 0 dL_law_784 rfl rfl ?_
  refine wa_iload_n (pc := 785) cx 3 dL_law_785 rfl rfl ?_
  refine wa_iconst (pc := 786) (v := 2) cx dL_law_786 (by decide) ?_
  refine wa_iadd (pc := 787) cx dL_law_787 ?_
  refine wa_sld (j := 6 * kk + 2) (pc := 788) cx SC.1 SC.2.1 SC.2.2.1 SC.2.2.2 (by omega) (ix_add (6 * kk) 2) dL_law_788 ?_
  refine wa_aload_n (pc := 789) cx 0 dL_law_789 rfl rfl ?_
  refine wa_iload_n (pc := 790) cx 3 dL_law_790 rfl rfl ?_
  refine wa_iconst (pc := 791) (v := 3) cx dL_law_791 (by decide) ?_
  refine wa_iadd (pc := 792) cx dL_law_792 ?_
  refine wa_sld (j := 6 * kk + 3) (pc := 793) cx SC.1 SC.2.1 SC.2.2.1 SC.2.2.2 (by omega) (ix_add (6 * kk) 3) dL_law_793 ?_
  refine wa_callVi (pc := 794) cx [.int (xs (6 * kk + 1)), .int (xs (6 * kk + 2)), .int (xs (6 * kk + 3))] (ct_X11_risk l E _ _ _ _ _ h2) mi_X11_risk tw_1194 lk_38 rfl (cx.bl 38 rfl) rfl rfl (Nat.le_of_ble_eq_true rfl) ⟨Nat.le_of_ble_eq_true rfl, Nat.le_of_ble_eq_true rfl⟩ hn dL_law_794 ?_
  refine wa_icmp_eq (pc := 797) cx 1075 dL_law_797 rfl (fun _ => ?_) (fun h => absurd h3 h)
  exact K q2.2 hI1
set_option maxHeartbeats 4000000 in
set_option maxRecDepth 100000 in
theorem law_c20 (hop : OK_whose I) (cx : CX p s m args meth c code RL 4 ret E) (SC : SCR s E b Lx xs) (hk : 6 * kk + 6 ≤ Lx) (hk5 : kk < 512) (hI : I kk (kept E) σ) (hn : nc ≤ 600000 ∧ ns ≤ 7302249) (K : ∀ σ1 : Sg, I (kk + 1) (kept E) σ1 → WA p l e room_1 s m args below meth c 4 E (nc) (ns) Q 1075 [some (.ref b), some (.ref (eA E 0)), some (.ref (eA E 38)), some (.int (nI (6 * kk)))] [] σ1) : WA p l e room_1 s m args below meth c 4 E (nc) (ns) Q 802 [some (.ref b), some (.ref (eA E 0)), some (.ref (eA E 38)), some (.int (nI (6 * kk)))] [] σ := by
  obtain ⟨q1, q2, h1, h2, h3, hI1⟩ := hop kk (kept E) σ (xs (6 * kk + 1)) (xs (6 * kk + 2)) hk5 hI
  refine wa_aload_n (pc := 802) cx 1 dL_law_802 rfl rfl ?_
  refine wa_aload_n (pc := 803) cx 0 dL_law_803 rfl rfl ?_
  refine wa_iload_n (pc := 804) cx 3 dL_law_804 rfl rfl ?_
  refine wa_iconst (pc := 805) (v := 1) cx dL_law_805 (by decide) ?_
  refine wa_iadd (pc := 806) cx dL_law_806 ?_
  refine wa_sld (j := 6 * kk + 1) (pc := 807) cx SC.1 SC.2.1 SC.2.2.1 SC.2.2.2 (by omega) (ix_add (6 * kk) 1) dL_law_807 ?_
  refine wa_aload_n (pc := 808) cx 0 dL_law_808 rfl rfl ?_
  refine wa_iload_n (pc := 809) cx 3 dL_law_809 rfl rfl ?_
  refine wa_iconst (pc := 810) (v := 2) cx dL_law_810 (by decide) ?_
  refine wa_iadd (pc := 811) cx dL_law_811 ?_
  refine wa_sld (j := 6 * kk + 2) (pc := 812) cx SC.1 SC.2.1 SC.2.2.1 SC.2.2.2 (by omega) (ix_add (6 * kk) 2) dL_law_812 ?_
  refine wa_callVi (pc := 813) cx [.int (xs (6 * kk + 1)), .int (xs (6 * kk + 2))] (ct_X10_whose l E _ _ _ _ h1) mi_X10_whose tw_754 lk_0 rfl (cx.bl 0 rfl) rfl rfl (Nat.le_of_ble_eq_true rfl) ⟨Nat.le_of_ble_eq_true rfl, Nat.le_of_ble_eq_true rfl⟩ hn dL_law_813 ?_
  refine wa_aload_n (pc := 816) cx 2 dL_law_816 rfl rfl ?_
  refine wa_aload_n (pc := 817) cx 0 dL_law_817 rfl rfl ?_
  refine wa_iload_n (pc := 818) cx 3 dL_law_818 rfl rfl ?_
  refine wa_iconst (pc := 819) (v := 1) cx dL_law_819 (by decide) ?_
  refine wa_iadd (pc := 820) cx dL_law_820 ?_
  refine wa_sld (j := 6 * kk + 1) (pc := 821) cx SC.1 SC.2.1 SC.2.2.1 SC.2.2.2 (by omega) (ix_add (6 * kk) 1) dL_law_821 ?_
  refine wa_aload_n (pc := 822) cx 0 dL_law_822 rfl rfl ?_
  refine wa_iload_n (pc := 823) cx 3 dL_law_823 rfl rfl ?_
  refine wa_iconst (pc := 824) (v := 2) cx dL_law_824 (by decide) ?_
  refine wa_iadd (pc := 825) cx dL_law_825 ?_
  refine wa_sld (j := 6 * kk + 2) (pc := 826) cx SC.1 SC.2.1 SC.2.2.1 SC.2.2.2 (by omega) (ix_add (6 * kk) 2) dL_law_826 ?_
  refine wa_callVi (pc := 827) cx [.int (xs (6 * kk + 1)), .int (xs (6 * kk + 2))] (ct_X11_whose l E _ _ _ _ h2) mi_X11_whose tw_1199 lk_38 rfl (cx.bl 38 rfl) rfl rfl (Nat.le_of_ble_eq_true rfl) ⟨Nat.le_of_ble_eq_true rfl, Nat.le_of_ble_eq_true rfl⟩ hn dL_law_827 ?_
  refine wa_icmp_eq (pc := 830) cx 1075 dL_law_830 rfl (fun _ => ?_) (fun h => absurd h3 h)
  exact K q2.2 hI1
set_option maxHeartbeats 4000000 in
set_option maxRecDepth 100000 in
theorem law_c21 (hop : OK_geese I) (cx : CX p s m args meth c code RL 4 ret E) (SC : SCR s E b Lx xs) (hk : 6 * kk + 6 ≤ Lx) (hk5 : kk < 512) (hI : I kk (kept E) σ) (hn : nc ≤ 600000 ∧ ns ≤ 7302249) (K : ∀ σ1 : Sg, I (kk + 1) (kept E) σ1 → WA p l e room_1 s m args below meth c 4 E (nc) (ns) Q 1075 [some (.ref b), some (.ref (eA E 0)), some (.ref (eA E 38)), some (.int (nI (6 * kk)))] [] σ1) : WA p l e room_1 s m args below meth c 4 E (nc) (ns) Q 835 [some (.ref b), some (.ref (eA E 0)), some (.ref (eA E 38)), some (.int (nI (6 * kk)))] [] σ := by
  obtain ⟨q1, q2, h1, h2, h3, hI1⟩ := hop kk (kept E) σ (xs (6 * kk + 1)) hk5 hI
  refine wa_aload_n (pc := 835) cx 1 dL_law_835 rfl rfl ?_
  refine wa_aload_n (pc := 836) cx 0 dL_law_836 rfl rfl ?_
  refine wa_iload_n (pc := 837) cx 3 dL_law_837 rfl rfl ?_
  refine wa_iconst (pc := 838) (v := 1) cx dL_law_838 (by decide) ?_
  refine wa_iadd (pc := 839) cx dL_law_839 ?_
  refine wa_sld (j := 6 * kk + 1) (pc := 840) cx SC.1 SC.2.1 SC.2.2.1 SC.2.2.2 (by omega) (ix_add (6 * kk) 1) dL_law_840 ?_
  refine wa_callVi (pc := 841) cx [.int (xs (6 * kk + 1))] (ct_X10_geese l E _ _ _ h1) mi_X10_geese tw_760 lk_0 rfl (cx.bl 0 rfl) rfl rfl (Nat.le_of_ble_eq_true rfl) ⟨Nat.le_of_ble_eq_true rfl, Nat.le_of_ble_eq_true rfl⟩ hn dL_law_841 ?_
  refine wa_aload_n (pc := 844) cx 2 dL_law_844 rfl rfl ?_
  refine wa_aload_n (pc := 845) cx 0 dL_law_845 rfl rfl ?_
  refine wa_iload_n (pc := 846) cx 3 dL_law_846 rfl rfl ?_
  refine wa_iconst (pc := 847) (v := 1) cx dL_law_847 (by decide) ?_
  refine wa_iadd (pc := 848) cx dL_law_848 ?_
  refine wa_sld (j := 6 * kk + 1) (pc := 849) cx SC.1 SC.2.1 SC.2.2.1 SC.2.2.2 (by omega) (ix_add (6 * kk) 1) dL_law_849 ?_
  refine wa_callVi (pc := 850) cx [.int (xs (6 * kk + 1))] (ct_X11_geese l E _ _ _ h2) mi_X11_geese tw_1203 lk_38 rfl (cx.bl 38 rfl) rfl rfl (Nat.le_of_ble_eq_true rfl) ⟨Nat.le_of_ble_eq_true rfl, Nat.le_of_ble_eq_true rfl⟩ hn dL_law_850 ?_
  refine wa_icmp_eq (pc := 853) cx 1075 dL_law_853 rfl (fun _ => ?_) (fun h => absurd h3 h)
  exact K q2.2 hI1
set_option maxHeartbeats 4000000 in
set_option maxRecDepth 100000 in
theorem law_c22 (hop : OK_fathoms I) (cx : CX p s m args meth c code RL 4 ret E) (SC : SCR s E b Lx xs) (hk : 6 * kk + 6 ≤ Lx) (hk5 : kk < 512) (hI : I kk (kept E) σ) (hn : nc ≤ 600000 ∧ ns ≤ 7302249) (K : ∀ σ1 : Sg, I (kk + 1) (kept E) σ1 → WA p l e room_1 s m args below meth c 4 E (nc) (ns) Q 1075 [some (.ref b), some (.ref (eA E 0)), some (.ref (eA E 38)), some (.int (nI (6 * kk)))] [] σ1) : WA p l e room_1 s m args below meth c 4 E (nc) (ns) Q 858 [some (.ref b), some (.ref (eA E 0)), some (.ref (eA E 38)), some (.int (nI (6 * kk)))] [] σ := by
  obtain ⟨q1, q2, h1, h2, h3, hI1⟩ := hop kk (kept E) σ (xs (6 * kk + 1)) hk5 hI
  refine wa_aload_n (pc := 858) cx 1 dL_law_858 rfl rfl ?_
  refine wa_aload_n (pc := 859) cx 0 dL_law_859 rfl rfl ?_
  refine wa_iload_n (pc := 860) cx 3 dL_law_860 rfl rfl ?_
  refine wa_iconst (pc := 861) (v := 1) cx dL_law_861 (by decide) ?_
  refine wa_iadd (pc := 862) cx dL_law_862 ?_
  refine wa_sld (j := 6 * kk + 1) (pc := 863) cx SC.1 SC.2.1 SC.2.2.1 SC.2.2.2 (by omega) (ix_add (6 * kk) 1) dL_law_863 ?_
  refine wa_callVi (pc := 864) cx [.int (xs (6 * kk + 1))] (ct_X10_fathoms l E _ _ _ h1) mi_X10_fathoms tw_770 lk_0 rfl (cx.bl 0 rfl) rfl rfl (Nat.le_of_ble_eq_true rfl) ⟨Nat.le_of_ble_eq_true rfl, Nat.le_of_ble_eq_true rfl⟩ hn dL_law_864 ?_
  refine wa_aload_n (pc := 867) cx 2 dL_law_867 rfl rfl ?_
  refine wa_aload_n (pc := 868) cx 0 dL_law_868 rfl rfl ?_
  refine wa_iload_n (pc := 869) cx 3 dL_law_869 rfl rfl ?_
  refine wa_iconst (pc := 870) (v := 1) cx dL_law_870 (by decide) ?_
  refine wa_iadd (pc := 871) cx dL_law_871 ?_
  refine wa_sld (j := 6 * kk + 1) (pc := 872) cx SC.1 SC.2.1 SC.2.2.1 SC.2.2.2 (by omega) (ix_add (6 * kk) 1) dL_law_872 ?_
  refine wa_callVi (pc := 873) cx [.int (xs (6 * kk + 1))] (ct_X11_fathoms l E _ _ _ h2) mi_X11_fathoms tw_1207 lk_38 rfl (cx.bl 38 rfl) rfl rfl (Nat.le_of_ble_eq_true rfl) ⟨Nat.le_of_ble_eq_true rfl, Nat.le_of_ble_eq_true rfl⟩ hn dL_law_873 ?_
  refine wa_icmp_eq (pc := 876) cx 1075 dL_law_876 rfl (fun _ => ?_) (fun h => absurd h3 h)
  exact K q2.2 hI1
set_option maxHeartbeats 4000000 in
set_option maxRecDepth 100000 in
theorem law_c23 (hop : OK_image I) (hNF : NF s) (cx : CX p s m args meth c code RL 4 ret E) (SC : SCR s E b Lx xs) (hk : 6 * kk + 6 ≤ Lx) (hk5 : kk < 512) (hIC : IC E) (hI : I kk (kept E) σ) (hn : nc + 7 ≤ 600000 ∧ ns + 84 ≤ 7302249) (K : ∀ (F : En) (σ1 : Sg), CX p s m args meth c code RL 4 ret F → AE F s.heap.size = AE E s.heap.size → EX E F → IC F → I (kk + 1) (kept F) σ1 → WA p l e room_1 s m args below meth c 4 F (nc + 7) (ns + 84) Q 1075 [some (.ref b), some (.ref (eA F 0)), some (.ref (eA F 38)), some (.int (nI (6 * kk)))] [] σ1) : WA p l e room_1 s m args below meth c 4 E (nc) (ns) Q 881 [some (.ref b), some (.ref (eA E 0)), some (.ref (eA E 38)), some (.int (nI (6 * kk)))] [] σ := by
  obtain ⟨q1, q2, h1, h2, h3, hI1⟩ := hop kk (kept E) σ (xs (6 * kk + 1)) hk5 hI
  refine wa_aload_n (pc := 881) cx 1 dL_law_881 rfl rfl ?_
  refine wa_aload_n (pc := 882) cx 0 dL_law_882 rfl rfl ?_
  refine wa_iload_n (pc := 883) cx 3 dL_law_883 rfl rfl ?_
  refine wa_iconst (pc := 884) (v := 1) cx dL_law_884 (by decide) ?_
  refine wa_iadd (pc := 885) cx dL_law_885 ?_
  refine wa_sld (j := 6 * kk + 1) (pc := 886) cx SC.1 SC.2.1 SC.2.2.1 SC.2.2.2 (by omega) (ix_add (6 * kk) 1) dL_law_886 ?_
  refine wa_callI (pc := 887) cx hNF [.int (xs (6 * kk + 1))] (ct_X10_image l E hIC σ _ q1 h1) tw_774 hn dL_law_887 rfl rfl (Nat.le_of_ble_eq_true rfl) ⟨Nat.le_of_ble_eq_true rfl, Nat.le_of_ble_eq_true rfl⟩ (fun F cf hAF hX hIF hkF => ?_)
  have SC : SCR s F b Lx xs := ⟨SC.1, SC.2.1, by rw [hAF]; exact SC.2.2.1, SC.2.2.2⟩
  have e0 : eA F 0 = eA E 0 := (hX.2.2.1 0 (cx.bl 0 rfl)).2
  have e38 : eA F 38 = eA E 38 := (hX.2.2.1 38 (cx.bl 38 rfl)).2
  rw [← e0, ← e38]
  refine wa_aload_n (pc := 890) cf 2 dL_law_890 rfl rfl ?_
  refine wa_aload_n (pc := 891) cf 0 dL_law_891 rfl rfl ?_
  refine wa_iload_n (pc := 892) cf 3 dL_law_892 rfl rfl ?_
  refine wa_iconst (pc := 893) (v := 1) cf dL_law_893 (by decide) ?_
  refine wa_iadd (pc := 894) cf dL_law_894 ?_
  refine wa_sld (j := 6 * kk + 1) (pc := 895) cf SC.1 SC.2.1 SC.2.2.1 SC.2.2.2 (by omega) (ix_add (6 * kk) 1) dL_law_895 ?_
  refine wa_callVi (E := F) (pc := 896) cf [.int (xs (6 * kk + 1))] (ct_X11_image l F _ _ _ h2) mi_X11_image tw_1215 lk_38 rfl (cf.bl 38 rfl) rfl rfl (Nat.le_of_ble_eq_true rfl) ⟨Nat.le_of_ble_eq_true rfl, Nat.le_of_ble_eq_true rfl⟩ ⟨hn.1, hn.2⟩ dL_law_896 ?_
  refine wa_icmp_eq (pc := 899) cf 1075 dL_law_899 rfl (fun _ => ?_) (fun h => absurd h3 h)
  exact K F q2.2 cf hAF hX hIF (by rw [hkF]; exact hI1)
set_option maxHeartbeats 4000000 in
set_option maxRecDepth 100000 in
theorem law_c24 (hop : OK_restore I) (cx : CX p s m args meth c code RL 4 ret E) (SC : SCR s E b Lx xs) (hk : 6 * kk + 6 ≤ Lx) (hk5 : kk < 512) (hIC : IC E) (hI : I kk (kept E) σ) (hn : nc ≤ 600000 ∧ ns ≤ 7302249) (K : ∀ σ1 : Sg, I (kk + 1) (kept E) σ1 → WA p l e room_1 s m args below meth c 4 E (nc) (ns) Q 1075 [some (.ref b), some (.ref (eA E 0)), some (.ref (eA E 38)), some (.int (nI (6 * kk)))] [] σ1) : WA p l e room_1 s m args below meth c 4 E (nc) (ns) Q 904 [some (.ref b), some (.ref (eA E 0)), some (.ref (eA E 38)), some (.int (nI (6 * kk)))] [] σ := by
  obtain ⟨q1, q2, h1, h2, h3, hI1⟩ := hop kk (kept E) σ (xs (6 * kk + 1)) hk5 hI
  refine wa_aload_n (pc := 904) cx 1 dL_law_904 rfl rfl ?_
  refine wa_aload_n (pc := 905) cx 0 dL_law_905 rfl rfl ?_
  refine wa_iload_n (pc := 906) cx 3 dL_law_906 rfl rfl ?_
  refine wa_iconst (pc := 907) (v := 1) cx dL_law_907 (by decide) ?_
  refine wa_iadd (pc := 908) cx dL_law_908 ?_
  refine wa_sld (j := 6 * kk + 1) (pc := 909) cx SC.1 SC.2.1 SC.2.2.1 SC.2.2.2 (by omega) (ix_add (6 * kk) 1) dL_law_909 ?_
  refine wa_callVi (pc := 910) cx [.int (xs (6 * kk + 1))] (ct_X10_restore l E hIC _ _ _ h1) mi_X10_restore tw_778 lk_0 rfl (cx.bl 0 rfl) rfl rfl (Nat.le_of_ble_eq_true rfl) ⟨Nat.le_of_ble_eq_true rfl, Nat.le_of_ble_eq_true rfl⟩ hn dL_law_910 ?_
  refine wa_aload_n (pc := 913) cx 2 dL_law_913 rfl rfl ?_
  refine wa_aload_n (pc := 914) cx 0 dL_law_914 rfl rfl ?_
  refine wa_iload_n (pc := 915) cx 3 dL_law_915 rfl rfl ?_
  refine wa_iconst (pc := 916) (v := 1) cx dL_law_916 (by decide) ?_
  refine wa_iadd (pc := 917) cx dL_law_917 ?_
  refine wa_sld (j := 6 * kk + 1) (pc := 918) cx SC.1 SC.2.1 SC.2.2.1 SC.2.2.2 (by omega) (ix_add (6 * kk) 1) dL_law_918 ?_
  refine wa_callVi (pc := 919) cx [.int (xs (6 * kk + 1))] (ct_X11_restore l E _ _ _ h2) mi_X11_restore tw_1219 lk_38 rfl (cx.bl 38 rfl) rfl rfl (Nat.le_of_ble_eq_true rfl) ⟨Nat.le_of_ble_eq_true rfl, Nat.le_of_ble_eq_true rfl⟩ hn dL_law_919 ?_
  refine wa_icmp_eq (pc := 922) cx 1075 dL_law_922 rfl (fun _ => ?_) (fun h => absurd h3 h)
  exact K q2.2 hI1
set_option maxHeartbeats 4000000 in
set_option maxRecDepth 100000 in
theorem law_c25 (hop : OK_kind I) (cx : CX p s m args meth c code RL 4 ret E) (SC : SCR s E b Lx xs) (hk : 6 * kk + 6 ≤ Lx) (hk5 : kk < 512) (hI : I kk (kept E) σ) (hn : nc ≤ 600000 ∧ ns ≤ 7302249) (K : ∀ σ1 : Sg, I (kk + 1) (kept E) σ1 → WA p l e room_1 s m args below meth c 4 E (nc) (ns) Q 1075 [some (.ref b), some (.ref (eA E 0)), some (.ref (eA E 38)), some (.int (nI (6 * kk)))] [] σ1) : WA p l e room_1 s m args below meth c 4 E (nc) (ns) Q 927 [some (.ref b), some (.ref (eA E 0)), some (.ref (eA E 38)), some (.int (nI (6 * kk)))] [] σ := by
  obtain ⟨q1, q2, h1, h2, h3, hI1⟩ := hop kk (kept E) σ (xs (6 * kk + 1)) hk5 hI
  refine wa_aload_n (pc := 927) cx 1 dL_law_927 rfl rfl ?_
  refine wa_aload_n (pc := 928) cx 0 dL_law_928 rfl rfl ?_
  refine wa_iload_n (pc := 929) cx 3 dL_law_929 rfl rfl ?_
  refine wa_iconst (pc := 930) (v := 1) cx dL_law_930 (by decide) ?_
  refine wa_iadd (pc := 931) cx dL_law_931 ?_
  refine wa_sld (j := 6 * kk + 1) (pc := 932) cx SC.1 SC.2.1 SC.2.2.1 SC.2.2.2 (by omega) (ix_add (6 * kk) 1) dL_law_932 ?_
  refine wa_callVi (pc := 933) cx [.int (xs (6 * kk + 1))] (ct_X10_kind l E _ _ _ h1) mi_X10_kind tw_782 lk_0 rfl (cx.bl 0 rfl) rfl rfl (Nat.le_of_ble_eq_true rfl) ⟨Nat.le_of_ble_eq_true rfl, Nat.le_of_ble_eq_true rfl⟩ hn dL_law_933 ?_
  refine wa_aload_n (pc := 936) cx 2 dL_law_936 rfl rfl ?_
  refine wa_aload_n (pc := 937) cx 0 dL_law_937 rfl rfl ?_
  refine wa_iload_n (pc := 938) cx 3 dL_law_938 rfl rfl ?_
  refine wa_iconst (pc := 939) (v := 1) cx dL_law_939 (by decide) ?_
  refine wa_iadd (pc := 940) cx dL_law_940 ?_
  refine wa_sld (j := 6 * kk + 1) (pc := 941) cx SC.1 SC.2.1 SC.2.2.1 SC.2.2.2 (by omega) (ix_add (6 * kk) 1) dL_law_941 ?_
  refine wa_callVi (pc := 942) cx [.int (xs (6 * kk + 1))] (ct_X11_kind l E _ _ _ h2) mi_X11_kind tw_1223 lk_38 rfl (cx.bl 38 rfl) rfl rfl (Nat.le_of_ble_eq_true rfl) ⟨Nat.le_of_ble_eq_true rfl, Nat.le_of_ble_eq_true rfl⟩ hn dL_law_942 ?_
  refine wa_icmp_eq (pc := 945) cx 1075 dL_law_945 rfl (fun _ => ?_) (fun h => absurd h3 h)
  exact K q2.2 hI1
set_option maxHeartbeats 4000000 in
set_option maxRecDepth 100000 in
theorem law_c26 (hop : OK_as I) (cx : CX p s m args meth c code RL 4 ret E) (SC : SCR s E b Lx xs) (hk : 6 * kk + 6 ≤ Lx) (hk5 : kk < 512) (hI : I kk (kept E) σ) (hn : nc ≤ 600000 ∧ ns ≤ 7302249) (K : ∀ σ1 : Sg, I (kk + 1) (kept E) σ1 → WA p l e room_1 s m args below meth c 4 E (nc) (ns) Q 1075 [some (.ref b), some (.ref (eA E 0)), some (.ref (eA E 38)), some (.int (nI (6 * kk)))] [] σ1) : WA p l e room_1 s m args below meth c 4 E (nc) (ns) Q 950 [some (.ref b), some (.ref (eA E 0)), some (.ref (eA E 38)), some (.int (nI (6 * kk)))] [] σ := by
  obtain ⟨q1, q2, h1, h2, h3, hI1⟩ := hop kk (kept E) σ (xs (6 * kk + 1)) (xs (6 * kk + 2)) hk5 hI
  refine wa_aload_n (pc := 950) cx 1 dL_law_950 rfl rfl ?_
  refine wa_aload_n (pc := 951) cx 0 dL_law_951 rfl rfl ?_
  refine wa_iload_n (pc := 952) cx 3 dL_law_952 rfl rfl ?_
  refine wa_iconst (pc := 953) (v := 1) cx dL_law_953 (by decide) ?_
  refine wa_iadd (pc := 954) cx dL_law_954 ?_
  refine wa_sld (j := 6 * kk + 1) (pc := 955) cx SC.1 SC.2.1 SC.2.2.1 SC.2.2.2 (by omega) (ix_add (6 * kk) 1) dL_law_955 ?_
  refine wa_aload_n (pc := 956) cx 0 dL_law_956 rfl rfl ?_
  refine wa_iload_n (pc := 957) cx 3 dL_law_957 rfl rfl ?_
  refine wa_iconst (pc := 958) (v := 2) cx dL_law_958 (by decide) ?_
  refine wa_iadd (pc := 959) cx dL_law_959 ?_
  refine wa_sld (j := 6 * kk + 2) (pc := 960) cx SC.1 SC.2.1 SC.2.2.1 SC.2.2.2 (by omega) (ix_add (6 * kk) 2) dL_law_960 ?_
  refine wa_callVi (pc := 961) cx [.int (xs (6 * kk + 1)), .int (xs (6 * kk + 2))] (ct_X10_as l E _ _ _ _ h1) mi_X10_as tw_786 lk_0 rfl (cx.bl 0 rfl) rfl rfl (Nat.le_of_ble_eq_true rfl) ⟨Nat.le_of_ble_eq_true rfl, Nat.le_of_ble_eq_true rfl⟩ hn dL_law_961 ?_
  refine wa_aload_n (pc := 964) cx 2 dL_law_964 rfl rfl ?_
  refine wa_aload_n (pc := 965) cx 0 dL_law_965 rfl rfl ?_
  refine wa_iload_n (pc := 966) cx 3 dL_law_966 rfl rfl ?_
  refine wa_iconst (pc := 967) (v := 1) cx dL_law_967 (by decide) ?_
  refine wa_iadd (pc := 968) cx dL_law_968 ?_
  refine wa_sld (j := 6 * kk + 1) (pc := 969) cx SC.1 SC.2.1 SC.2.2.1 SC.2.2.2 (by omega) (ix_add (6 * kk) 1) dL_law_969 ?_
  refine wa_aload_n (pc := 970) cx 0 dL_law_970 rfl rfl ?_
  refine wa_iload_n (pc := 971) cx 3 dL_law_971 rfl rfl ?_
  refine wa_iconst (pc := 972) (v := 2) cx dL_law_972 (by decide) ?_
  refine wa_iadd (pc := 973) cx dL_law_973 ?_
  refine wa_sld (j := 6 * kk + 2) (pc := 974) cx SC.1 SC.2.1 SC.2.2.1 SC.2.2.2 (by omega) (ix_add (6 * kk) 2) dL_law_974 ?_
  refine wa_callVi (pc := 975) cx [.int (xs (6 * kk + 1)), .int (xs (6 * kk + 2))] (ct_X11_as l E _ _ _ _ h2) mi_X11_as tw_1227 lk_38 rfl (cx.bl 38 rfl) rfl rfl (Nat.le_of_ble_eq_true rfl) ⟨Nat.le_of_ble_eq_true rfl, Nat.le_of_ble_eq_true rfl⟩ hn dL_law_975 ?_
  refine wa_icmp_eq (pc := 978) cx 1075 dL_law_978 rfl (fun _ => ?_) (fun h => absurd h3 h)
  exact K q2.2 hI1
set_option maxHeartbeats 4000000 in
set_option maxRecDepth 100000 in
theorem law_c27 (hop : OK_ask I) (cx : CX p s m args meth c code RL 4 ret E) (SC : SCR s E b Lx xs) (hk : 6 * kk + 6 ≤ Lx) (hk5 : kk < 512) (hI : I kk (kept E) σ) (hn : nc ≤ 600000 ∧ ns ≤ 7302249) (K : ∀ σ1 : Sg, I (kk + 1) (kept E) σ1 → WA p l e room_1 s m args below meth c 4 E (nc) (ns) Q 1075 [some (.ref b), some (.ref (eA E 0)), some (.ref (eA E 38)), some (.int (nI (6 * kk)))] [] σ1) : WA p l e room_1 s m args below meth c 4 E (nc) (ns) Q 983 [some (.ref b), some (.ref (eA E 0)), some (.ref (eA E 38)), some (.int (nI (6 * kk)))] [] σ := by
  obtain ⟨q1, q2, h1, h2, h3, hI1⟩ := hop kk (kept E) σ (xs (6 * kk + 1)) (xs (6 * kk + 2)) hk5 hI
  refine wa_aload_n (pc := 983) cx 1 dL_law_983 rfl rfl ?_
  refine wa_aload_n (pc := 984) cx 0 dL_law_984 rfl rfl ?_
  refine wa_iload_n (pc := 985) cx 3 dL_law_985 rfl rfl ?_
  refine wa_iconst (pc := 986) (v := 1) cx dL_law_986 (by decide) ?_
  refine wa_iadd (pc := 987) cx dL_law_987 ?_
  refine wa_sld (j := 6 * kk + 1) (pc := 988) cx SC.1 SC.2.1 SC.2.2.1 SC.2.2.2 (by omega) (ix_add (6 * kk) 1) dL_law_988 ?_
  refine wa_aload_n (pc := 989) cx 0 dL_law_989 rfl rfl ?_
  refine wa_iload_n (pc := 990) cx 3 dL_law_990 rfl rfl ?_
  refine wa_iconst (pc := 991) (v := 2) cx dL_law_991 (by decide) ?_
  refine wa_iadd (pc := 992) cx dL_law_992 ?_
  refine wa_sld (j := 6 * kk + 2) (pc := 993) cx SC.1 SC.2.1 SC.2.2.1 SC.2.2.2 (by omega) (ix_add (6 * kk) 2) dL_law_993 ?_
  refine wa_callVi (pc := 994) cx [.int (xs (6 * kk + 1)), .int (xs (6 * kk + 2))] (ct_X10_ask l E _ _ _ _ h1) mi_X10_ask tw_795 lk_0 rfl (cx.bl 0 rfl) rfl rfl (Nat.le_of_ble_eq_true rfl) ⟨Nat.le_of_ble_eq_true rfl, Nat.le_of_ble_eq_true rfl⟩ hn dL_law_994 ?_
  refine wa_aload_n (pc := 997) cx 2 dL_law_997 rfl rfl ?_
  refine wa_aload_n (pc := 998) cx 0 dL_law_998 rfl rfl ?_
  refine wa_iload_n (pc := 999) cx 3 dL_law_999 rfl rfl ?_
  refine wa_iconst (pc := 1000) (v := 1) cx dL_law_1000 (by decide) ?_
  refine wa_iadd (pc := 1001) cx dL_law_1001 ?_
  refine wa_sld (j := 6 * kk + 1) (pc := 1002) cx SC.1 SC.2.1 SC.2.2.1 SC.2.2.2 (by omega) (ix_add (6 * kk) 1) dL_law_1002 ?_
  refine wa_aload_n (pc := 1003) cx 0 dL_law_1003 rfl rfl ?_
  refine wa_iload_n (pc := 1004) cx 3 dL_law_1004 rfl rfl ?_
  refine wa_iconst (pc := 1005) (v := 2) cx dL_law_1005 (by decide) ?_
  refine wa_iadd (pc := 1006) cx dL_law_1006 ?_
  refine wa_sld (j := 6 * kk + 2) (pc := 1007) cx SC.1 SC.2.1 SC.2.2.1 SC.2.2.2 (by omega) (ix_add (6 * kk) 2) dL_law_1007 ?_
  refine wa_callVi (pc := 1008) cx [.int (xs (6 * kk + 1)), .int (xs (6 * kk + 2))] (ct_X11_ask l E _ _ _ _ h2) mi_X11_ask tw_1235 lk_38 rfl (cx.bl 38 rfl) rfl rfl (Nat.le_of_ble_eq_true rfl) ⟨Nat.le_of_ble_eq_true rfl, Nat.le_of_ble_eq_true rfl⟩ hn dL_law_1008 ?_
  refine wa_icmp_eq (pc := 1011) cx 1075 dL_law_1011 rfl (fun _ => ?_) (fun h => absurd h3 h)
  exact K q2.2 hI1
set_option maxHeartbeats 4000000 in
set_option maxRecDepth 100000 in
theorem law_c28 (hop : OK_trace I) (cx : CX p s m args meth c code RL 4 ret E) (SC : SCR s E b Lx xs) (hk : 6 * kk + 6 ≤ Lx) (hk5 : kk < 512) (hI : I kk (kept E) σ) (hn : nc ≤ 600000 ∧ ns ≤ 7302249) (K : ∀ σ1 : Sg, I (kk + 1) (kept E) σ1 → WA p l e room_1 s m args below meth c 4 E (nc) (ns) Q 1075 [some (.ref b), some (.ref (eA E 0)), some (.ref (eA E 38)), some (.int (nI (6 * kk)))] [] σ1) : WA p l e room_1 s m args below meth c 4 E (nc) (ns) Q 1016 [some (.ref b), some (.ref (eA E 0)), some (.ref (eA E 38)), some (.int (nI (6 * kk)))] [] σ := by
  obtain ⟨q1, q2, h1, h2, h3, hI1⟩ := hop kk (kept E) σ (xs (6 * kk + 1)) hk5 hI
  refine wa_aload_n (pc := 1016) cx 1 dL_law_1016 rfl rfl ?_
  refine wa_aload_n (pc := 1017) cx 0 dL_law_1017 rfl rfl ?_
  refine wa_iload_n (pc := 1018) cx 3 dL_law_1018 rfl rfl ?_
  refine wa_iconst (pc := 1019) (v := 1) cx dL_law_1019 (by decide) ?_
  refine wa_iadd (pc := 1020) cx dL_law_1020 ?_
  refine wa_sld (j := 6 * kk + 1) (pc := 1021) cx SC.1 SC.2.1 SC.2.2.1 SC.2.2.2 (by omega) (ix_add (6 * kk) 1) dL_law_1021 ?_
  refine wa_callVi (pc := 1022) cx [.int (xs (6 * kk + 1))] (ct_X10_trace l E _ _ _ h1) mi_X10_trace tw_824 lk_0 rfl (cx.bl 0 rfl) rfl rfl (Nat.le_of_ble_eq_true rfl) ⟨Nat.le_of_ble_eq_true rfl, Nat.le_of_ble_eq_true rfl⟩ hn dL_law_1022 ?_
  refine wa_aload_n (pc := 1025) cx 2 dL_law_1025 rfl rfl ?_
  refine wa_aload_n (pc := 1026) cx 0 dL_law_1026 rfl rfl ?_
  refine wa_iload_n (pc := 1027) cx 3 dL_law_1027 rfl rfl ?_
  refine wa_iconst (pc := 1028) (v := 1) cx dL_law_1028 (by decide) ?_
  refine wa_iadd (pc := 1029) cx dL_law_1029 ?_
  refine wa_sld (j := 6 * kk + 1) (pc := 1030) cx SC.1 SC.2.1 SC.2.2.1 SC.2.2.2 (by omega) (ix_add (6 * kk) 1) dL_law_1030 ?_
  refine wa_callVi (pc := 1031) cx [.int (xs (6 * kk + 1))] (ct_X11_trace l E _ _ _ h2) mi_X11_trace tw_1259 lk_38 rfl (cx.bl 38 rfl) rfl rfl (Nat.le_of_ble_eq_true rfl) ⟨Nat.le_of_ble_eq_true rfl, Nat.le_of_ble_eq_true rfl⟩ hn dL_law_1031 ?_
  refine wa_icmp_eq (pc := 1034) cx 1075 dL_law_1034 rfl (fun _ => ?_) (fun h => absurd h3 h)
  exact K q2.2 hI1
set_option maxHeartbeats 4000000 in
set_option maxRecDepth 100000 in
theorem law_c29 (hop : OK_count I) (cx : CX p s m args meth c code RL 4 ret E) (SC : SCR s E b Lx xs) (hk : 6 * kk + 6 ≤ Lx) (hk5 : kk < 512) (hI : I kk (kept E) σ) (hn : nc ≤ 600000 ∧ ns ≤ 7302249) (K : ∀ σ1 : Sg, I (kk + 1) (kept E) σ1 → WA p l e room_1 s m args below meth c 4 E (nc) (ns) Q 1075 [some (.ref b), some (.ref (eA E 0)), some (.ref (eA E 38)), some (.int (nI (6 * kk)))] [] σ1) : WA p l e room_1 s m args below meth c 4 E (nc) (ns) Q 1039 [some (.ref b), some (.ref (eA E 0)), some (.ref (eA E 38)), some (.int (nI (6 * kk)))] [] σ := by
  obtain ⟨q1, q2, h1, h2, h3, hI1⟩ := hop kk (kept E) σ (xs (6 * kk + 1)) hk5 hI
  refine wa_aload_n (pc := 1039) cx 1 dL_law_1039 rfl rfl ?_
  refine wa_aload_n (pc := 1040) cx 0 dL_law_1040 rfl rfl ?_
  refine wa_iload_n (pc := 1041) cx 3 dL_law_1041 rfl rfl ?_
  refine wa_iconst (pc := 1042) (v := 1) cx dL_law_1042 (by decide) ?_
  refine wa_iadd (pc := 1043) cx dL_law_1043 ?_
  refine wa_sld (j := 6 * kk + 1) (pc := 1044) cx SC.1 SC.2.1 SC.2.2.1 SC.2.2.2 (by omega) (ix_add (6 * kk) 1) dL_law_1044 ?_
  refine wa_callVi (pc := 1045) cx [.int (xs (6 * kk + 1))] (ct_X10_count l E _ _ _ h1) mi_X10_count tw_828 lk_0 rfl (cx.bl 0 rfl) rfl rfl (Nat.le_of_ble_eq_true rfl) ⟨Nat.le_of_ble_eq_true rfl, Nat.le_of_ble_eq_true rfl⟩ hn dL_law_1045 ?_
  refine wa_aload_n (pc := 1048) cx 2 dL_law_1048 rfl rfl ?_
  refine wa_aload_n (pc := 1049) cx 0 dL_law_1049 rfl rfl ?_
  refine wa_iload_n (pc := 1050) cx 3 dL_law_1050 rfl rfl ?_
  refine wa_iconst (pc := 1051) (v := 1) cx dL_law_1051 (by decide) ?_
  refine wa_iadd (pc := 1052) cx dL_law_1052 ?_
  refine wa_sld (j := 6 * kk + 1) (pc := 1053) cx SC.1 SC.2.1 SC.2.2.1 SC.2.2.2 (by omega) (ix_add (6 * kk) 1) dL_law_1053 ?_
  refine wa_callVi (pc := 1054) cx [.int (xs (6 * kk + 1))] (ct_X11_count l E _ _ _ h2) mi_X11_count tw_1263 lk_38 rfl (cx.bl 38 rfl) rfl rfl (Nat.le_of_ble_eq_true rfl) ⟨Nat.le_of_ble_eq_true rfl, Nat.le_of_ble_eq_true rfl⟩ hn dL_law_1054 ?_
  refine wa_icmp_eq (pc := 1057) cx 1075 dL_law_1057 rfl (fun _ => ?_) (fun h => absurd h3 h)
  exact K q2.2 hI1
set_option maxHeartbeats 4000000 in
set_option maxRecDepth 100000 in
theorem law_c30 (hop : OK_status I) (cx : CX p s m args meth c code RL 4 ret E) (SC : SCR s E b Lx xs) (hk : 6 * kk + 6 ≤ Lx) (hk5 : kk < 512) (hI : I kk (kept E) σ) (hn : nc ≤ 600000 ∧ ns ≤ 7302249) (K : ∀ σ1 : Sg, I (kk + 1) (kept E) σ1 → WA p l e room_1 s m args below meth c 4 E (nc) (ns) Q 1075 [some (.ref b), some (.ref (eA E 0)), some (.ref (eA E 38)), some (.int (nI (6 * kk)))] [] σ1) : WA p l e room_1 s m args below meth c 4 E (nc) (ns) Q 1062 [some (.ref b), some (.ref (eA E 0)), some (.ref (eA E 38)), some (.int (nI (6 * kk)))] [] σ := by
  obtain ⟨q1, q2, h1, h2, h3, hI1⟩ := hop kk (kept E) σ  hk5 hI
  refine wa_aload_n (pc := 1062) cx 1 dL_law_1062 rfl rfl ?_
  refine wa_callVi (pc := 1063) cx [] (ct_X10_status l E _  _ h1) mi_X10_status tw_845 lk_0 rfl (cx.bl 0 rfl) rfl rfl (Nat.le_of_ble_eq_true rfl) ⟨Nat.le_of_ble_eq_true rfl, Nat.le_of_ble_eq_true rfl⟩ hn dL_law_1063 ?_
  refine wa_aload_n (pc := 1066) cx 2 dL_law_1066 rfl rfl ?_
  refine wa_callVi (pc := 1067) cx [] (ct_X11_status l E _  _ h2) mi_X11_status tw_1267 lk_38 rfl (cx.bl 38 rfl) rfl rfl (Nat.le_of_ble_eq_true rfl) ⟨Nat.le_of_ble_eq_true rfl, Nat.le_of_ble_eq_true rfl⟩ hn dL_law_1067 ?_
  refine wa_icmp_eq (pc := 1070) cx 1075 dL_law_1070 rfl (fun _ => ?_) (fun h => absurd h3 h)
  exact K q2.2 hI1
end LAWC
