/-! THE CLAIM OUT OF ONE WALK OF THE LAW'S BODY. Your part is whole_start (and what it stands on); all else here is the same for every law, but numbers. -/
def R_law : String := "VowRopeLaw"
def lw_P (b : Addr) (xs : List Int32) (args : Array Value) (s : State) : Prop := args = #[.ref b] ∧ s.IntsAt b xs ∧ xs.length ≤ 3072 ∧ (Jvm.Cond.and given_1 narrow_1).before args s = true
def lw_Q (_ : Array Value) (s : State) (o : Outcome) (t : State) : Prop := o = .returned (some (.int 1)) ∧ Framed s o t [] 600000 7302249
def lw_Z (below : List Frame) (a : Array Value) (s : State) : State → Prop := fun t => ∃ o, t.status = .running ∧ Ended t below o ∧ lw_Q a s o t
/-- the law's own end, with 1 on the stack, nothing written that was there before, its room as the claim has it -/
theorem lw_ret {p : Program} {l : Launch} {e : Env} {s : State} {m : MethodId} {below : List Frame} {meth : Method} {c : Code} {b : Nat} (hx : p.tables.exec = Jvm.exec) (hb : c.code = code) (hr : meth.sig.returnType = ret) (hlocks : meth.locks = false) {pc : Nat} {H : Heap} {ls : Array Slot} (hdg : decode code pc = .ok (.ireturn, 1)) : W p l e room_1 s m #[Value.ref b] below meth c H [] 600000 7302249 (lw_Z below #[Value.ref b] s) (F0 m pc ls [.int 1]) := by
  intro T hT X
  obtain ⟨fs, hret, hrun, hended, hW, hframe⟩ := X.leave (v := some (.int 1)) (hlocks := hlocks) (fun h => by rw [hr] at h; cases h)
  have hmeth' : T.vm.method? m = some meth := X.method'
  refine ⟨T.setFrames fs, ?_, .returned (some (.int 1)), hrun, hended, rfl, ⟨_, rfl⟩, hW, hframe⟩
  jvm_step X.here [X.here.top, hx, hb, hdg, hmeth', hr, ret, narrow_b1]
  (try refine ⟨rfl, ?_⟩); (try refine ⟨rfl, ?_⟩)
  first | (intro acts; rw [hret _ acts rfl rfl rfl]) | rw [hret _ _ rfl rfl rfl]
  exact Steps.refl _
/-- what holds at the law's entry: the machine, the code, the tables' words (any of lw_tbl by 'hts w (by decide +kernel)'), the script of L ints xs at the cell b, what the Statement gives of the start (any of its parts by flat_of_before) -/
def lw_At (p : Program) (s : State) (m : MethodId) (meth : Method) (c : Code) (b L : Nat) (xs : Nat → Int32) : Prop :=
  p.tables.exec = Jvm.exec ∧ c.code = code ∧ meth.sig.returnType = ret ∧ c.maxLocals = 4 ∧ s.vm.findClass R_law = some m.cls ∧ (∀ w ∈ lw_tbl, w.before #[Value.ref b] s = true) ∧ va_X b L xs s s.heap ∧ b < s.heap.size ∧ meth.locks = false ∧ (Jvm.Cond.and given_1 narrow_1).before #[Value.ref b] s = true

def OKS (I : Nat → (Nat → Bool) → Sg → Prop) : Prop := (∀ k b σ, I k b σ → I (k + 1) b σ) ∧ OK_row I ∧ OK_set I ∧ OK_copy I ∧ OK_drop I ∧ OK_feed I ∧ OK_walk I ∧ OK_fault I ∧ OK_lay I ∧ OK_pitch I ∧ OK_vow I ∧ OK_splice I ∧ OK_pull I ∧ OK_year I ∧ OK_undo I ∧ OK_yarn I ∧ OK_bears I ∧ OK_best I ∧ OK_cheapest I ∧ OK_odds I ∧ OK_risk I ∧ OK_whose I ∧ OK_geese I ∧ OK_fathoms I ∧ OK_image I ∧ OK_restore I ∧ OK_kind I ∧ OK_as I ∧ OK_ask I ∧ OK_trace I ∧ OK_count I ∧ OK_status I
theorem lw_end {p : Program} {l : Launch} {e : Env} {s : State} {m : MethodId} {below : List Frame} {meth : Method} {c : Code} {b : Nat} {E : En} {nc ns : Nat} {L : List (Option Value)} {σ : Sg} (cx : CX p s m #[Value.ref b] meth c code RL 4 ret E) (hge : ∀ q, q ∈ eL E → s.heap.size ≤ eA E q) (h1 : nc ≤ 600000) (h2 : ns ≤ 7302249) : WA p l e room_1 s m #[Value.ref b] below meth c 4 E nc ns (lw_Z below #[Value.ref b] s) 1082 L [.int 1] σ := by
  intro H locs ls hP hD hS hl
  refine va_forget (fun q hq => ?_) ?_
  · rcases hS.2.2 q hq with ⟨z, hz, e⟩ | h
    · rw [e]; exact hge z hz
    · exact h
  · exact W.widen h1 h2 (lw_ret cx.1 cx.2.1 cx.2.2.2.2.2.2.1 cx.2.2.2.2.2.2.2.1 dL_law_1082)
theorem AE_ge {E : En} {sz x : Nat} (hge : ∀ q, q ∈ eL E → sz ≤ eA E q) (h : AE E sz x) : sz ≤ x := by
  rcases h with ⟨z, hz, rfl⟩ | h
  · exact hge z hz
  · exact h
theorem law_cond {n k : Nat} (hn : n ≤ 3072) (hk : 6 * k ≤ n + 6) (h : ¬ nI n - 6 < nI (6 * k)) : 6 * k + 6 ≤ n := by
  rw [Int32.lt_iff_toInt_lt, show (6 : Int32) = nI 6 from rfl, pk_sub_toInt (by omega) (by omega), nI_toInt (by omega)] at h
  omega
set_option maxHeartbeats 4000000 in
set_option maxRecDepth 100000 in
theorem law_loop {p : Program} {l : Launch} {e : Env} {s : State} {m : MethodId} {below : List Frame} {meth : Method} {c : Code} {b Lx : Nat} {xs : Nat → Int32} {I : Nat → (Nat → Bool) → Sg → Prop} (hs : OKS I) (hNF : NF s) (hL : Lx ≤ 3072) (hX : va_X b Lx xs s s.heap) (hbl : b < s.heap.size) : ∀ (n kk : Nat) (E : En) (σ : Sg) (nc ns : Nat), Lx ≤ 6 * (kk + n) → 6 * kk ≤ Lx → nc ≤ 52 + 7 * kk → ns ≤ 6357 + 84 * kk → CX p s m #[Value.ref b] meth c code RL 4 ret E → IC E → (∀ q, q ∈ eL E → s.heap.size ≤ eA E q) → I kk (kept E) σ → WA p l e room_1 s m #[Value.ref b] below meth c 4 E nc ns (lw_Z below #[Value.ref b] s) 18 [some (.ref b), some (.ref (eA E 0)), some (.ref (eA E 38)), some (.int (nI (6 * kk)))] [] σ := by
  intro n
  induction n with
  | zero =>
    intro kk E σ nc ns h1 h2 h3 h4 cx hIC hge hI
    have SC : SCR s E b Lx xs := ⟨hX, hbl, fun h => absurd (AE_ge hge h) (Nat.not_le.mpr hbl), by omega⟩
    refine wa_iload_n (pc := 18) cx 3 dL_law_18 rfl rfl ?_
    refine wa_aload_n (pc := 19) cx 0 dL_law_19 rfl rfl ?_
    refine wa_slen (pc := 20) cx SC.1 SC.2.1 SC.2.2.1 dL_law_20 ?_
    refine wa_bipush (pc := 21) (v := 6) cx dL_law_21 (by decide) ?_
    refine wa_isub (pc := 23) cx dL_law_23 ?_
    refine wa_icmp_gt (pc := 24) cx 1081 dL_law_24 rfl (fun _ => ?_) (fun h => ?_)
    · refine wa_iconst (pc := 1081) (v := 1) cx dL_law_1081 (by decide) ?_
      exact lw_end cx hge (by omega) (by omega)
    · have := law_cond hL (by omega) h
      omega
  | succ n ih =>
    intro kk E σ nc ns h1 h2 h3 h4 cx hIC hge hI
    have SC : SCR s E b Lx xs := ⟨hX, hbl, fun h => absurd (AE_ge hge h) (Nat.not_le.mpr hbl), by omega⟩
    refine wa_iload_n (pc := 18) cx 3 dL_law_18 rfl rfl ?_
    refine wa_aload_n (pc := 19) cx 0 dL_law_19 rfl rfl ?_
    refine wa_slen (pc := 20) cx SC.1 SC.2.1 SC.2.2.1 dL_law_20 ?_
    refine wa_bipush (pc := 21) (v := 6) cx dL_law_21 (by decide) ?_
    refine wa_isub (pc := 23) cx dL_law_23 ?_
    refine wa_icmp_gt (pc := 24) cx 1081 dL_law_24 rfl (fun _ => ?_) (fun h => ?_)
    · refine wa_iconst (pc := 1081) (v := 1) cx dL_law_1081 (by decide) ?_
      exact lw_end cx hge (by omega) (by omega)
    have hk := law_cond hL (by omega) h
    clear h
    have e6 : nI (6 * kk) + 6 = nI (6 * (kk + 1)) := ix_add (6 * kk) 6
    have K : ∀ σ1 : Sg, I (kk + 1) (kept E) σ1 → WA p l e room_1 s m #[Value.ref b] below meth c 4 E nc ns (lw_Z below #[Value.ref b] s) 1075 [some (.ref b), some (.ref (eA E 0)), some (.ref (eA E 38)), some (.int (nI (6 * kk)))] [] σ1 := by
      intro σ1 hI1
      refine wa_iinc (pc := 1075) (v := 6) cx 3 [some (.ref b), some (.ref (eA E 0)), some (.ref (eA E 38)), some (.int (nI (6 * kk) + 6))] dL_law_1075 (by decide) rfl (by decide) rfl rfl ?_
      refine wa_goto (pc := 1078) cx 18 dL_law_1078 rfl ?_
      rw [e6]
      exact ih (kk + 1) E σ1 nc ns (by omega) (by omega) (by omega) (by omega) cx hIC hge hI1
    have KI : ∀ (F : En) (σ1 : Sg), CX p s m #[Value.ref b] meth c code RL 4 ret F → AE F s.heap.size = AE E s.heap.size → EX E F → IC F → I (kk + 1) (kept F) σ1 → WA p l e room_1 s m #[Value.ref b] below meth c 4 F (nc + 7) (ns + 84) (lw_Z below #[Value.ref b] s) 1075 [some (.ref b), some (.ref (eA F 0)), some (.ref (eA F 38)), some (.int (nI (6 * kk)))] [] σ1 := by
      intro F σ1 cf hAF hXF hIF hI1
      refine wa_iinc (pc := 1075) (v := 6) cf 3 [some (.ref b), some (.ref (eA F 0)), some (.ref (eA F 38)), some (.int (nI (6 * kk) + 6))] dL_law_1075 (by decide) rfl (by decide) rfl rfl ?_
      refine wa_goto (pc := 1078) cf 18 dL_law_1078 rfl ?_
      rw [e6]
      refine ih (kk + 1) F σ1 (nc + 7) (ns + 84) (by omega) (by omega) (by omega) (by omega) cf hIF (fun q hq => ?_) hI1
      have : AE F s.heap.size (eA F q) := Or.inl ⟨q, hq, rfl⟩
      rw [hAF] at this
      exact AE_ge hge this
    have hk5 : kk < 512 := by omega
    have hn : nc ≤ 600000 ∧ ns ≤ 7302249 := ⟨by omega, by omega⟩
    have hn7 : nc + 7 ≤ 600000 ∧ ns + 84 ≤ 7302249 := ⟨by omega, by omega⟩
    refine wa_aload_n (pc := 27) cx 0 dL_law_27 rfl rfl ?_
    refine wa_iload_n (pc := 28) cx 3 dL_law_28 rfl rfl ?_
    refine wa_sld (j := 6 * kk) (pc := 29) cx SC.1 SC.2.1 SC.2.2.1 SC.2.2.2 (by omega) rfl dL_law_29 ?_
    refine wa_bipush (pc := 30) (v := 31) cx dL_law_30 (by decide) ?_
    refine wa_iand (pc := 32) cx dL_law_32 ?_
    generalize xs (6 * kk) &&& 31 = v
    by_cases c0 : v = 0
    · refine wa_tabIn (pc := 33) cx 172 dL_law_33 (by rw [c0]; decide) (by rw [c0]; decide) (by rw [c0]; rfl) rfl ?_
      exact law_c0 hs.2.1 cx SC hk hk5 hI hn K
    by_cases c1 : v = 1
    · refine wa_tabIn (pc := 33) cx 215 dL_law_33 (by rw [c1]; decide) (by rw [c1]; decide) (by rw [c1]; rfl) rfl ?_
      exact law_c1 hs.2.2.1 cx SC hk hk5 hI hn K
    by_cases c2 : v = 2
    · refine wa_tabIn (pc := 33) cx 258 dL_law_33 (by rw [c2]; decide) (by rw [c2]; decide) (by rw [c2]; rfl) rfl ?_
      exact law_c2 hs.2.2.2.1 cx SC hk hk5 hI hn K
    by_cases c3 : v = 3
    · refine wa_tabIn (pc := 33) cx 321 dL_law_33 (by rw [c3]; decide) (by rw [c3]; decide) (by rw [c3]; rfl) rfl ?_
      exact law_c3 hs.2.2.2.2.1 cx SC hk hk5 hI hn K
    by_cases c4 : v = 4
    · refine wa_tabIn (pc := 33) cx 344 dL_law_33 (by rw [c4]; decide) (by rw [c4]; decide) (by rw [c4]; rfl) rfl ?_
      exact law_c4 hs.2.2.2.2.2.1 cx SC hk hk5 hI hn K
    by_cases c5 : v = 5
    · refine wa_tabIn (pc := 33) cx 407 dL_law_33 (by rw [c5]; decide) (by rw [c5]; decide) (by rw [c5]; rfl) rfl ?_
      exact law_c5 hs.2.2.2.2.2.2.1 cx SC hk hk5 hI hn K
    by_cases c6 : v = 6
    · refine wa_tabIn (pc := 33) cx 420 dL_law_33 (by rw [c6]; decide) (by rw [c6]; decide) (by rw [c6]; rfl) rfl ?_
      exact law_c6 hs.2.2.2.2.2.2.2.1 cx SC hk hk5 hI hn K
    by_cases c7 : v = 7
    · refine wa_tabIn (pc := 33) cx 433 dL_law_33 (by rw [c7]; decide) (by rw [c7]; decide) (by rw [c7]; rfl) rfl ?_
      exact law_c7 hs.2.2.2.2.2.2.2.2.1 cx SC hk hk5 hI hn K
    by_cases c8 : v = 8
    · refine wa_tabIn (pc := 33) cx 466 dL_law_33 (by rw [c8]; decide) (by rw [c8]; decide) (by rw [c8]; rfl) rfl ?_
      exact law_c8 hs.2.2.2.2.2.2.2.2.2.1 cx SC hk hk5 hI hn K
    by_cases c9 : v = 9
    · refine wa_tabIn (pc := 33) cx 489 dL_law_33 (by rw [c9]; decide) (by rw [c9]; decide) (by rw [c9]; rfl) rfl ?_
      exact law_c9 hs.2.2.2.2.2.2.2.2.2.2.1 cx SC hk hk5 hI hn K
    by_cases c10 : v = 10
    · refine wa_tabIn (pc := 33) cx 522 dL_law_33 (by rw [c10]; decide) (by rw [c10]; decide) (by rw [c10]; rfl) rfl ?_
      exact law_c10 hs.2.2.2.2.2.2.2.2.2.2.2.1 cx SC hk hk5 hI hn K
    by_cases c11 : v = 11
    · refine wa_tabIn (pc := 33) cx 545 dL_law_33 (by rw [c11]; decide) (by rw [c11]; decide) (by rw [c11]; rfl) rfl ?_
      exact law_c11 hs.2.2.2.2.2.2.2.2.2.2.2.2.1 cx SC hk hk5 hI hn K
    by_cases c12 : v = 12
    · refine wa_tabIn (pc := 33) cx 578 dL_law_33 (by rw [c12]; decide) (by rw [c12]; decide) (by rw [c12]; rfl) rfl ?_
      exact law_c12 hs.2.2.2.2.2.2.2.2.2.2.2.2.2.1 cx SC hk hk5 hI hn K
    by_cases c13 : v = 13
    · refine wa_tabIn (pc := 33) cx 601 dL_law_33 (by rw [c13]; decide) (by rw [c13]; decide) (by rw [c13]; rfl) rfl ?_
      exact law_c13 hs.2.2.2.2.2.2.2.2.2.2.2.2.2.2.1 cx SC hk hk5 hI hn K
    by_cases c14 : v = 14
    · refine wa_tabIn (pc := 33) cx 614 dL_law_33 (by rw [c14]; decide) (by rw [c14]; decide) (by rw [c14]; rfl) rfl ?_
      exact law_c14 hs.2.2.2.2.2.2.2.2.2.2.2.2.2.2.2.1 cx SC hk hk5 hI hn K
    by_cases c15 : v = 15
    · refine wa_tabIn (pc := 33) cx 647 dL_law_33 (by rw [c15]; decide) (by rw [c15]; decide) (by rw [c15]; rfl) rfl ?_
      exact law_c15 hs.2.2.2.2.2.2.2.2.2.2.2.2.2.2.2.2.1 cx SC hk hk5 hI hn K
    by_cases c16 : v = 16
    · refine wa_tabIn (pc := 33) cx 670 dL_law_33 (by rw [c16]; decide) (by rw [c16]; decide) (by rw [c16]; rfl) rfl ?_
      exact law_c16 hs.2.2.2.2.2.2.2.2.2.2.2.2.2.2.2.2.2.1 cx SC hk hk5 hI hn K
    by_cases c17 : v = 17
    · refine wa_tabIn (pc := 33) cx 693 dL_law_33 (by rw [c17]; decide) (by rw [c17]; decide) (by rw [c17]; rfl) rfl ?_
      exact law_c17 hs.2.2.2.2.2.2.2.2.2.2.2.2.2.2.2.2.2.2.1 cx SC hk hk5 hI hn K
    by_cases c18 : v = 18
    · refine wa_tabIn (pc := 33) cx 726 dL_law_33 (by rw [c18]; decide) (by rw [c18]; decide) (by rw [c18]; rfl) rfl ?_
      exact law_c18 hs.2.2.2.2.2.2.2.2.2.2.2.2.2.2.2.2.2.2.2.1 cx SC hk hk5 hI hn K
    by_cases c19 : v = 19
    · refine wa_tabIn (pc := 33) cx 759 dL_law_33 (by rw [c19]; decide) (by rw [c19]; decide) (by rw [c19]; rfl) rfl ?_
      exact law_c19 hs.2.2.2.2.2.2.2.2.2.2.2.2.2.2.2.2.2.2.2.2.1 cx SC hk hk5 hI hn K
    by_cases c20 : v = 20
    · refine wa_tabIn (pc := 33) cx 802 dL_law_33 (by rw [c20]; decide) (by rw [c20]; decide) (by rw [c20]; rfl) rfl ?_
      exact law_c20 hs.2.2.2.2.2.2.2.2.2.2.2.2.2.2.2.2.2.2.2.2.2.1 cx SC hk hk5 hI hn K
    by_cases c21 : v = 21
    · refine wa_tabIn (pc := 33) cx 835 dL_law_33 (by rw [c21]; decide) (by rw [c21]; decide) (by rw [c21]; rfl) rfl ?_
      exact law_c21 hs.2.2.2.2.2.2.2.2.2.2.2.2.2.2.2.2.2.2.2.2.2.2.1 cx SC hk hk5 hI hn K
    by_cases c22 : v = 22
    · refine wa_tabIn (pc := 33) cx 858 dL_law_33 (by rw [c22]; decide) (by rw [c22]; decide) (by rw [c22]; rfl) rfl ?_
      exact law_c22 hs.2.2.2.2.2.2.2.2.2.2.2.2.2.2.2.2.2.2.2.2.2.2.2.1 cx SC hk hk5 hI hn K
    by_cases c23 : v = 23
    · refine wa_tabIn (pc := 33) cx 881 dL_law_33 (by rw [c23]; decide) (by rw [c23]; decide) (by rw [c23]; rfl) rfl ?_
      exact law_c23 hs.2.2.2.2.2.2.2.2.2.2.2.2.2.2.2.2.2.2.2.2.2.2.2.2.1 hNF cx SC hk hk5 hIC hI hn7 KI
    by_cases c24 : v = 24
    · refine wa_tabIn (pc := 33) cx 904 dL_law_33 (by rw [c24]; decide) (by rw [c24]; decide) (by rw [c24]; rfl) rfl ?_
      exact law_c24 hs.2.2.2.2.2.2.2.2.2.2.2.2.2.2.2.2.2.2.2.2.2.2.2.2.2.1 cx SC hk hk5 hIC hI hn K
    by_cases c25 : v = 25
    · refine wa_tabIn (pc := 33) cx 927 dL_law_33 (by rw [c25]; decide) (by rw [c25]; decide) (by rw [c25]; rfl) rfl ?_
      exact law_c25 hs.2.2.2.2.2.2.2.2.2.2.2.2.2.2.2.2.2.2.2.2.2.2.2.2.2.2.1 cx SC hk hk5 hI hn K
    by_cases c26 : v = 26
    · refine wa_tabIn (pc := 33) cx 950 dL_law_33 (by rw [c26]; decide) (by rw [c26]; decide) (by rw [c26]; rfl) rfl ?_
      exact law_c26 hs.2.2.2.2.2.2.2.2.2.2.2.2.2.2.2.2.2.2.2.2.2.2.2.2.2.2.2.1 cx SC hk hk5 hI hn K
    by_cases c27 : v = 27
    · refine wa_tabIn (pc := 33) cx 983 dL_law_33 (by rw [c27]; decide) (by rw [c27]; decide) (by rw [c27]; rfl) rfl ?_
      exact law_c27 hs.2.2.2.2.2.2.2.2.2.2.2.2.2.2.2.2.2.2.2.2.2.2.2.2.2.2.2.2.1 cx SC hk hk5 hI hn K
    by_cases c28 : v = 28
    · refine wa_tabIn (pc := 33) cx 1016 dL_law_33 (by rw [c28]; decide) (by rw [c28]; decide) (by rw [c28]; rfl) rfl ?_
      exact law_c28 hs.2.2.2.2.2.2.2.2.2.2.2.2.2.2.2.2.2.2.2.2.2.2.2.2.2.2.2.2.2.1 cx SC hk hk5 hI hn K
    by_cases c29 : v = 29
    · refine wa_tabIn (pc := 33) cx 1039 dL_law_33 (by rw [c29]; decide) (by rw [c29]; decide) (by rw [c29]; rfl) rfl ?_
      exact law_c29 hs.2.2.2.2.2.2.2.2.2.2.2.2.2.2.2.2.2.2.2.2.2.2.2.2.2.2.2.2.2.2.1 cx SC hk hk5 hI hn K
    by_cases c30 : v = 30
    · refine wa_tabIn (pc := 33) cx 1062 dL_law_33 (by rw [c30]; decide) (by rw [c30]; decide) (by rw [c30]; rfl) rfl ?_
      exact law_c30 hs.2.2.2.2.2.2.2.2.2.2.2.2.2.2.2.2.2.2.2.2.2.2.2.2.2.2.2.2.2.2.2 cx SC hk hk5 hI hn K
    have e0 : v.toInt ≠ 0 := fun z => c0 (Int32.toInt_inj.mp (z.trans (by decide)))
    have e1 : v.toInt ≠ 1 := fun z => c1 (Int32.toInt_inj.mp (z.trans (by decide)))
    have e2 : v.toInt ≠ 2 := fun z => c2 (Int32.toInt_inj.mp (z.trans (by decide)))
    have e3 : v.toInt ≠ 3 := fun z => c3 (Int32.toInt_inj.mp (z.trans (by decide)))
    have e4 : v.toInt ≠ 4 := fun z => c4 (Int32.toInt_inj.mp (z.trans (by decide)))
    have e5 : v.toInt ≠ 5 := fun z => c5 (Int32.toInt_inj.mp (z.trans (by decide)))
    have e6 : v.toInt ≠ 6 := fun z => c6 (Int32.toInt_inj.mp (z.trans (by decide)))
    have e7 : v.toInt ≠ 7 := fun z => c7 (Int32.toInt_inj.mp (z.trans (by decide)))
    have e8 : v.toInt ≠ 8 := fun z => c8 (Int32.toInt_inj.mp (z.trans (by decide)))
    have e9 : v.toInt ≠ 9 := fun z => c9 (Int32.toInt_inj.mp (z.trans (by decide)))
    have e10 : v.toInt ≠ 10 := fun z => c10 (Int32.toInt_inj.mp (z.trans (by decide)))
    have e11 : v.toInt ≠ 11 := fun z => c11 (Int32.toInt_inj.mp (z.trans (by decide)))
    have e12 : v.toInt ≠ 12 := fun z => c12 (Int32.toInt_inj.mp (z.trans (by decide)))
    have e13 : v.toInt ≠ 13 := fun z => c13 (Int32.toInt_inj.mp (z.trans (by decide)))
    have e14 : v.toInt ≠ 14 := fun z => c14 (Int32.toInt_inj.mp (z.trans (by decide)))
    have e15 : v.toInt ≠ 15 := fun z => c15 (Int32.toInt_inj.mp (z.trans (by decide)))
    have e16 : v.toInt ≠ 16 := fun z => c16 (Int32.toInt_inj.mp (z.trans (by decide)))
    have e17 : v.toInt ≠ 17 := fun z => c17 (Int32.toInt_inj.mp (z.trans (by decide)))
    have e18 : v.toInt ≠ 18 := fun z => c18 (Int32.toInt_inj.mp (z.trans (by decide)))
    have e19 : v.toInt ≠ 19 := fun z => c19 (Int32.toInt_inj.mp (z.trans (by decide)))
    have e20 : v.toInt ≠ 20 := fun z => c20 (Int32.toInt_inj.mp (z.trans (by decide)))
    have e21 : v.toInt ≠ 21 := fun z => c21 (Int32.toInt_inj.mp (z.trans (by decide)))
    have e22 : v.toInt ≠ 22 := fun z => c22 (Int32.toInt_inj.mp (z.trans (by decide)))
    have e23 : v.toInt ≠ 23 := fun z => c23 (Int32.toInt_inj.mp (z.trans (by decide)))
    have e24 : v.toInt ≠ 24 := fun z => c24 (Int32.toInt_inj.mp (z.trans (by decide)))
    have e25 : v.toInt ≠ 25 := fun z => c25 (Int32.toInt_inj.mp (z.trans (by decide)))
    have e26 : v.toInt ≠ 26 := fun z => c26 (Int32.toInt_inj.mp (z.trans (by decide)))
    have e27 : v.toInt ≠ 27 := fun z => c27 (Int32.toInt_inj.mp (z.trans (by decide)))
    have e28 : v.toInt ≠ 28 := fun z => c28 (Int32.toInt_inj.mp (z.trans (by decide)))
    have e29 : v.toInt ≠ 29 := fun z => c29 (Int32.toInt_inj.mp (z.trans (by decide)))
    have e30 : v.toInt ≠ 30 := fun z => c30 (Int32.toInt_inj.mp (z.trans (by decide)))
    refine wa_tabOut (pc := 33) cx 1075 dL_law_33 (by omega) rfl ?_
    exact K σ (hs.1 _ _ _ hI)
def neg8 : Nat → Int32 := upd (upd (upd (upd (upd (upd (upd (upd (fun _ => 0) 0 (-1)) 1 (-1)) 2 (-1)) 3 (-1)) 4 (-1)) 5 (-1)) 6 (-1)) 7 (-1)
/-- the world behind the two constructors -/
def sg0 : Sg := (fun c => if c = 3 then neg8 else if c = 39 then neg8 else if c = 34 then (fun j => if j = 3 then 1 else 0) else fun _ => 0, 0)
def en0 (D : va_G) (Y : Nat → ClassId) (h0 h1 : Nat) (a1 a2 tA kA kV : Nat → Nat) : En := (D, Y, fun c => if c = 0 then h0 else if c < 38 then a1 c else if c = 38 then h1 else a2 (c - 38), [0, 1, 2, 3, 4, 5, 6, 7, 8, 9, 10, 11, 12, 13, 14, 15, 16, 17, 18, 19, 20, 21, 22, 23, 24, 25, 26, 27, 28, 29, 30, 31, 32, 33, 34, 35, 36, 37, 38, 39, 40, 41, 42, 43, 44, 45, 46, 47, 48, 49, 50, 51], tA, kA, kV)
theorem en0_BL (D : va_G) (Y : Nat → ClassId) (h0 h1 : Nat) (a1 a2 tA kA kV : Nat → Nat) : BL (en0 D Y h0 h1 a1 a2 tA kA kV) := by
  have key : ∀ c, c < 52 → c ∈ [0, 1, 2, 3, 4, 5, 6, 7, 8, 9, 10, 11, 12, 13, 14, 15, 16, 17, 18, 19, 20, 21, 22, 23, 24, 25, 26, 27, 28, 29, 30, 31, 32, 33, 34, 35, 36, 37, 38, 39, 40, 41, 42, 43, 44, 45, 46, 47, 48, 49, 50, 51] := by decide +kernel
  exact key
theorem en0_kept (D : va_G) (Y : Nat → ClassId) (h0 h1 : Nat) (a1 a2 tA kA kV : Nat → Nat) : kept (en0 D Y h0 h1 a1 a2 tA kA kV) = fun _ => false := by
  funext j
  apply decide_eq_false
  intro h
  have key : ∀ c, c ∈ [0, 1, 2, 3, 4, 5, 6, 7, 8, 9, 10, 11, 12, 13, 14, 15, 16, 17, 18, 19, 20, 21, 22, 23, 24, 25, 26, 27, 28, 29, 30, 31, 32, 33, 34, 35, 36, 37, 38, 39, 40, 41, 42, 43, 44, 45, 46, 47, 48, 49, 50, 51] → c < 52 := by decide +kernel
  have := key _ h
  omega
theorem en0_IC (D : va_G) (Y : Nat → ClassId) (h0 h1 : Nat) (a1 a2 tA kA kV : Nat → Nat) : IC (en0 D Y h0 h1 a1 a2 tA kA kV) := by
  have key : ∀ c, c ∈ [0, 1, 2, 3, 4, 5, 6, 7, 8, 9, 10, 11, 12, 13, 14, 15, 16, 17, 18, 19, 20, 21, 22, 23, 24, 25, 26, 27, 28, 29, 30, 31, 32, 33, 34, 35, 36, 37, 38, 39, 40, 41, 42, 43, 44, 45, 46, 47, 48, 49, 50, 51] → c < 52 := by decide +kernel
  refine ⟨fun c hc => Nat.lt_trans (key c hc) (by decide), fun j hj c h1 h2 => ⟨fun hc => ?_, fun hc => ?_⟩⟩
  · have := key c hc
    omega
  · rw [en0_kept] at hc
    cases hc
set_option maxHeartbeats 4000000 in
set_option maxRecDepth 100000 in
theorem en0_wl (D : va_G) (Y : Nat → ClassId) (h0 h1 : Nat) (a1 a2 tA kA kV : Nat → Nat) : wk_X10_init Y h0 a1 ++ wk_X11_init Y h1 a2 = wl (en0 D Y h0 h1 a1 a2 tA kA kV) sg0 := by
  have e : lay (en0 D Y h0 h1 a1 a2 tA kA kV) sg0 22 = .inl (Y 3, 2, .inr (.inr (.inr (.inr (fun _ => none))))) := by
    show Sum.inl (Y 3, 2, Sum.inr (Sum.inr (Sum.inr (Sum.inr (fun j => if kept (en0 D Y h0 h1 a1 a2 tA kA kV) j = true then some (eA (en0 D Y h0 h1 a1 a2 tA kA kV) (52 + 7 * j)) else none))))) = _
    rw [en0_kept]
    rfl
  have e2 : wl (en0 D Y h0 h1 a1 a2 tA kA kV) sg0 = ([0, 1, 2, 3, 4, 5, 6, 7, 8, 9, 10, 11, 12, 13, 14, 15, 16, 17, 18, 19, 20, 21] : List Nat).map (fun c => (eA (en0 D Y h0 h1 a1 a2 tA kA kV) c, lay (en0 D Y h0 h1 a1 a2 tA kA kV) sg0 c)) ++ ((eA (en0 D Y h0 h1 a1 a2 tA kA kV) 22, lay (en0 D Y h0 h1 a1 a2 tA kA kV) sg0 22) :: ([23, 24, 25, 26, 27, 28, 29, 30, 31, 32, 33, 34, 35, 36, 37, 38, 39, 40, 41, 42, 43, 44, 45, 46, 47, 48, 49, 50, 51] : List Nat).map (fun c => (eA (en0 D Y h0 h1 a1 a2 tA kA kV) c, lay (en0 D Y h0 h1 a1 a2 tA kA kV) sg0 c))) := rfl
  rw [e2, e]
  rfl
theorem sf_mem1 : ∀ i, i < 3 → Cond.arrayOf (.static RX4 (snm i) "[I") .int ∈ flatC (Jvm.Cond.and given_1 narrow_1) := by decide +kernel
theorem sf_mem2 : ∀ i, i < 3 → Cond.eq (.length (.static RX4 (snm i) "[I")) (.int (Int32.ofNat 6)) ∈ flatC (Jvm.Cond.and given_1 narrow_1) := by decide +kernel
theorem sf_mem3 : ∀ i, i < 3 → ∀ j, j < 6 → Cond.eq (.elem (.static RX4 (snm i) "[I") (.int (Int32.ofNat j))) (.int ((stv i).getD j 0)) ∈ flatC (Jvm.Cond.and given_1 narrow_1) := by decide +kernel
theorem sf_mem4 : Cond.eq (.static RJ0 "COMPACT_STRINGS" "Z") (.int 1) ∈ flatC (Jvm.Cond.and given_1 narrow_1) := by decide +kernel
theorem sf_mem5 : Cond.isRef (.static RJ3 "SIOOBE_FORMATTER" "Ljava/util/function/BiFunction;") ∈ flatC (Jvm.Cond.and given_1 narrow_1) := by decide +kernel
theorem sf_mem6 : ∀ i, i < 8 → Cond.exactly (.string RX6 (kix i)) "java/lang/String" ∈ flatC (Jvm.Cond.and given_1 narrow_1) := by decide +kernel
theorem sf_mem7 : ∀ i, i < 8 → Cond.eq (.field (.string RX6 (kix i)) "java/lang/String" "coder" "B") (.int 0) ∈ flatC (Jvm.Cond.and given_1 narrow_1) := by decide +kernel
theorem sf_mem8 : ∀ i, i < 8 → Cond.arrayOf (.field (.string RX6 (kix i)) "java/lang/String" "value" "[B") .byte ∈ flatC (Jvm.Cond.and given_1 narrow_1) := by decide +kernel
theorem sf_mem9 : ∀ i, i < 8 → Cond.eq (.length (.field (.string RX6 (kix i)) "java/lang/String" "value" "[B")) (.int (Int32.ofNat (klen.getD i 0))) ∈ flatC (Jvm.Cond.and given_1 narrow_1) := by decide +kernel
theorem sf_mem10 : ∀ i, i < 8 → ∀ j, j < klen.getD i 0 → Cond.eq (.elem (.field (.string RX6 (kix i)) "java/lang/String" "value" "[B") (.int (Int32.ofNat j))) (.int ((kbyt.getD i []).getD j 0)) ∈ flatC (Jvm.Cond.and given_1 narrow_1) := by decide +kernel
theorem sf_mem11 : ∀ i, i < 8 → ∀ j, j < 8 → i ≠ j → (Cond.not (Cond.eq (.string RX6 (kix i)) (.string RX6 (kix j))) ∈ flatC (Jvm.Cond.and given_1 narrow_1) ∨ Cond.not (Cond.eq (.string RX6 (kix j)) (.string RX6 (kix i))) ∈ flatC (Jvm.Cond.and given_1 narrow_1)) := by decide +kernel
theorem sf_mem12 : ∀ i, i < 3 → Cond.laysStatic RX4 (snm i) "[I" ∈ lw_tbl := by decide +kernel
theorem sf_mem13 : Cond.laysStatic RJ0 "COMPACT_STRINGS" "Z" ∈ lw_tbl := by decide +kernel
theorem sf_mem14 : Cond.laysStatic RJ3 "SIOOBE_FORMATTER" "Ljava/util/function/BiFunction;" ∈ lw_tbl := by decide +kernel
theorem sf_mem15 : ∀ i, i < 8 → Cond.stringRef RX6 (kix i) (ktx i) ∈ lw_tbl := by decide +kernel
/-- static rows and texts at the start -/
theorem sf_start {s : State} {args : Array Value} (hts : ∀ w ∈ lw_tbl, w.before args s = true) (hgv : (Jvm.Cond.and given_1 narrow_1).before args s = true) : ∃ (tA kA kV : Nat → Nat), ∀ A : Nat → Prop, (∀ q, q < s.heap.size → ¬ A q) →
    (∀ i : Nat, i < 3 → va_Z RX4 (snm i) "[I" (.ref (tA i)) A s s.heap ∧ va_T .int (tA i) 6 (fun j => .int ((stv i).getD j 0)) A s s.heap) ∧ va_Z RJ0 "COMPACT_STRINGS" "Z" (.int 1) A s s.heap ∧ va_Zq RJ3 "SIOOBE_FORMATTER" "Ljava/util/function/BiFunction;" A s s.heap ∧ vk_S 8 klen kbyt kA kV A s s.heap ∧ ∀ i : Nat, i < 8 → vk_R RX6 (kix i) (ktx i) (kA i) s := by
  have hs := flat_of_before _ hgv
  have hA0 : ∀ a : Nat, a < s.heap.size → ¬ (fun q : Nat => s.heap.size ≤ q) a := fun a h => Nat.not_le.mpr h
  have nar : ∀ {A : Nat → Prop}, (∀ q, q < s.heap.size → ¬ A q) → ∀ q, A q → (fun q : Nat => s.heap.size ≤ q) q := fun {A} hA q hq => Nat.not_lt.mp (fun z => hA q z hq)
  have h0 : ∀ i : Nat, ∃ t : Nat, i < 3 → va_Z RX4 (snm i) "[I" (.ref t) (fun q : Nat => s.heap.size ≤ q) s s.heap ∧ va_T .int t 6 (fun j => .int ((stv i).getD j 0)) (fun q : Nat => s.heap.size ≤ q) s s.heap := by
    intro i
    by_cases hi : i < 3
    · obtain ⟨t, ht, hT⟩ := va_Tof (f := fun j => .int ((stv i).getD j 0)) (A := fun q : Nat => s.heap.size ≤ q) (N := 6) (by decide) (hs _ (sf_mem1 i hi)) (va_eqt (hs _ (sf_mem2 i hi))) (fun j hj => va_eqt (hs _ (sf_mem3 i hi j hj))) hA0
      exact ⟨t, fun _ => ⟨va_Zof (hts _ (sf_mem12 i hi)) (hts _ (gw_tbl tw_76)) ht hA0, hT⟩⟩
    · exact ⟨0, fun h => absurd h hi⟩
  obtain ⟨tA, htA⟩ := Classical.axiomOfChoice h0
  obtain ⟨kA, kV, hkS, hkR⟩ := vk_Sof (args := args) (s := s) (N := 8) (tm := fun i => .string RX6 (kix i)) (len := klen) (byt := kbyt) (A := fun q : Nat => s.heap.size ≤ q) klen_small (fun i hi => hs _ (sf_mem6 i hi)) (fun i hi => hs _ (sf_mem7 i hi)) (fun i hi => hs _ (sf_mem8 i hi)) (fun i hi => hs _ (sf_mem9 i hi)) (fun i hi j hj => hs _ (sf_mem10 i hi j hj)) (fun i j hi hj hij => (sf_mem11 i hi j hj hij).imp (hs _) (hs _)) hA0
  refine ⟨tA, kA, kV, fun A hA => ⟨fun i hi => ⟨(htA i hi).1.narrow (nar hA), (htA i hi).2.narrow (nar hA)⟩, va_Zof (hts _ sf_mem13) (hts _ (gw_tbl tw_70)) (va_eqi (hs _ sf_mem4)) hA, va_Zqof (hts _ sf_mem14) (hts _ (gw_tbl tw_72)) (hs _ sf_mem5) hA, hkS.narrow (nar hA), fun i hi => vk_R.of (hts _ (sf_mem15 i hi)) (hkR i hi)⟩⟩
theorem dc_start {s : State} {args : Array Value} (hts : ∀ w ∈ gw, w.before args s = true) : ∃ D : va_G, ∀ (k : Nat) (q : vw_C), vwCl[k]? = some q → u_Kn s q.1 q.2.1 q.2.2 (D.1 k) (D.2 k) := by
  obtain ⟨c0, i0, h0⟩ := u_known (C := RX0) (T := TX0) (N := 3) (n := 3) hts inX0 (hts (.instantiable RX0 3) tw_213)
  obtain ⟨c1, i1, h1⟩ := u_known (C := RX1) (T := TX1) (N := 2) (n := 2) hts inX1 (hts (.instantiable RX1 2) tw_294)
  obtain ⟨c2, i2, h2⟩ := u_known (C := RX2) (T := TX2) (N := 7) (n := 7) hts inX2 (hts (.instantiable RX2 7) tw_230)
  obtain ⟨c3, i3, h3⟩ := u_known (C := RX3) (T := TX3) (N := 2) (n := 2) hts inX3 (hts (.instantiable RX3 2) tw_260)
  obtain ⟨c4, i4, h4⟩ := u_known (C := RX5) (T := TX5) (N := 4) (n := 4) hts inX5 (hts (.instantiable RX5 4) tw_273)
  obtain ⟨c5, i5, h5⟩ := u_known (C := RX6) (T := TX6) (N := 2) (n := 2) hts inX6 (hts (.instantiable RX6 2) tw_103)
  obtain ⟨c6, i6, h6⟩ := u_known (C := RX7) (T := TX7) (N := 3) (n := 3) hts inX7 (hts (.instantiable RX7 3) tw_86)
  obtain ⟨c7, i7, h7⟩ := u_known (C := RX8) (T := TX8) (N := 6) (n := 6) hts inX8 (hts (.instantiable RX8 6) tw_109)
  obtain ⟨c8, i8, h8⟩ := u_known (C := RX9) (T := TX9) (N := 11) (n := 11) hts inX9 (hts (.instantiable RX9 11) tw_148)
  obtain ⟨c9, i9, h9⟩ := u_known (C := RX10) (T := TX10) (N := 12) (n := 12) hts inX10 (hts (.instantiable RX10 12) tw_78)
  obtain ⟨c10, i10, h10⟩ := u_known (C := RX11) (T := TX11) (N := 29) (n := 29) hts inX11 (hts (.instantiable RX11 29) tw_850)
  refine ⟨(fun k => ([c0, c1, c2, c3, c4, c5, c6, c7, c8, c9, c10] : List ClassId).getD k c0, fun k => ([i0, i1, i2, i3, i4, i5, i6, i7, i8, i9, i10] : List (Nat → Nat)).getD k i0), ?_⟩
  intro k q hq
  match k, hq with
  | 0, hq => cases hq; exact h0
  | 1, hq => cases hq; exact h1
  | 2, hq => cases hq; exact h2
  | 3, hq => cases hq; exact h3
  | 4, hq => cases hq; exact h4
  | 5, hq => cases hq; exact h5
  | 6, hq => cases hq; exact h6
  | 7, hq => cases hq; exact h7
  | 8, hq => cases hq; exact h8
  | 9, hq => cases hq; exact h9
  | 10, hq => cases hq; exact h10
  | k + 11, hq => simp [vwCl] at hq
theorem cy_start {s : State} {args : Array Value} (hts : ∀ w ∈ gw, w.before args s = true) (hov : va_AO "VowRope$Walk" s) : ∃ Y : Nat → ClassId, ∀ (k : Nat) (q : ClassId × FieldType), (tysY Y)[k]? = some q → ArrOfT s q.1 q.2 ∧ va_RA s q.1 q.2 := by
  obtain ⟨c0, k0, m0, a1, a2, a3⟩ := Cond.arrayClass_spec (hts _ tw_101)
  obtain ⟨c1, k1, m1, b1, b2, b3⟩ := Cond.arrayClass_spec (hts _ tw_137)
  obtain ⟨c2, k2, m2, d1, d2, d3⟩ := Cond.arrayClass_spec (hts _ tw_943)
  obtain ⟨m3, c3, k3, g1, g2, g3, g4, g5⟩ := Cond.arrayOver_spec hov
  refine ⟨fun k => match k with | 0 => c0 | 1 => c1 | 2 => c2 | _ => c3, ?_⟩
  intro k q hq
  match k, hq with
  | 0, hq => cases hq; exact ⟨fun n z => ⟨fun k h => (by cases h), k0, a2, m0, a3⟩, a1⟩
  | 1, hq => cases hq; exact ⟨fun n z => ⟨fun k h => (by cases h), k1, b2, m1, b3⟩, b1⟩
  | 2, hq => cases hq; exact ⟨fun n z => ⟨fun k h => (by cases h), k2, d2, m2, d3⟩, d1⟩
  | 3, hq => cases hq; exact ⟨fun n z => ⟨fun k h => (by cases h), k3, g3, m3, g4⟩, k3, m3, g3, g4, g1, g5⟩
  | k + 4, hq => simp [tysY] at hq
set_option maxHeartbeats 4000000 in
set_option maxRecDepth 100000 in
/-- THE LAW, from its entry, over the pure part -/
theorem whole_open {p : Program} {e : Env} {s : State} {m : MethodId} {below : List Frame} {meth : Method} {c : Code} (l : Launch) {b L : Nat} {xs : Nat → Int32} {I : Nat → (Nat → Bool) → Sg → Prop} (hs : OKS I) (hI0 : I 0 (fun _ => false) sg0) (hL : L ≤ 3072) (C0 : lw_At p s m meth c b L xs) : W p l e room_1 s m #[Value.ref b] below meth c s.heap [] 0 0 (lw_Z below #[Value.ref b] s) (entryFrame m ([Value.ref b] : List Value).toArray 4) := by
  obtain ⟨hx, hb, hr, hml, hown, hts0, hX, hbl, hlocks, hgv⟩ := C0
  have hts : ∀ w ∈ gw, w.before #[Value.ref b] s = true := fun w hw => hts0 w (gw_tbl hw)
  have hov : va_AO "VowRope$Walk" s := va_AO.of (hts0 _ tw_211)
  have hNF : NF s := ⟨hov, va_Nw.of rfl (hts0 _ tw_104), va_Nw.of rfl (hts0 _ tw_110), va_Nw.of rfl (hts0 _ tw_149), va_Nw.of rfl (hts0 _ tw_214), va_Nw.of rfl (hts0 _ tw_231), va_Nw.of rfl (hts0 _ tw_261), va_Nw.of rfl (hts0 _ tw_274), va_Nw.of rfl (hts0 _ tw_295)⟩
  obtain ⟨D, hD0⟩ := dc_start hts
  obtain ⟨Y, hY0⟩ := cy_start hts hov
  obtain ⟨tA, kA, kV, hSF⟩ := sf_start hts0 hgv
  have hK : va_K D vwCl (tysY Y) s := ⟨hD0, hY0⟩
  have cy : CY p s m #[Value.ref b] meth c code RL 4 D Y (fun q : Nat => s.heap.size ≤ q) := ⟨hx, hb, hml, hown, hts, hK, fun _ h => h, hNF⟩
  rw [lg_entry_eq]
  have hl := lv_entry [.ref b] (n := 4) (Nat.le_of_ble_eq_true rfl)
  suffices K : WB p l e room_1 s m #[Value.ref b] below meth c 4 D (fun q : Nat => s.heap.size ≤ q) (lw_Z below #[Value.ref b] s) 0 0 0 [some (.ref b), none, none, none] [] [] by
    refine K s.heap [] _ (fun k q h => by simp at h) ⟨fun i j p q h => by simp at h, fun k q h => by simp at h⟩ va_S.rf ⟨hl.1, hl.2.1, fun k v hk => ?_⟩
    have := entL_args [.ref b] 4 0 k v hk
    rw [Nat.zero_add] at this
    exact hl.2.2 (k, v) this
  refine wb_new (pc := 0) (C := RX10) (T := TX10) (N := 12) (ci := 9) (fs := [.null, .null, .null, .null, .null, .null, .null, .null, .null, .null, .int 0, .int 0]) cy tyX10 tw_77 tw_78 tw_58 inX10 tyX10_ok rfl (by decide +kernel) (Nat.le_of_ble_eq_true rfl) (Nat.le_of_ble_eq_true rfl) dL_law_0 (fun h0 => ?_)
  refine wb_dup (pc := 3) cy dL_law_3 rfl ?_
  refine wb_ctor (pc := 4) cy [] (ck_X10_init l D Y h0) mc_X10_init tw_79 rfl rfl (Nat.le_of_ble_eq_true rfl) ⟨Nat.le_of_ble_eq_true rfl, Nat.le_of_ble_eq_true rfl⟩ ⟨Nat.le_of_ble_eq_true rfl, Nat.le_of_ble_eq_true rfl⟩ dL_law_4 (fun a1 => ?_)
  refine wb_astore_n (pc := 7) cy 1 [some (.ref b), some (.ref h0), none, none] dL_law_7 rfl (by decide) rfl rfl ?_
  refine wb_new (pc := 8) (C := RX11) (T := TX11) (N := 29) (ci := 10) (fs := [.int 0, .int 0, .null, .null, .null, .null, .null, .int 0, .null, .int 0, .null, .int 0, .int 0, .int 0, .int 0, .int 0, .int 0, .int 0, .int 0, .int 0, .null, .long 0, .int 0, .null, .null, .null, .null, .null, .int 0]) cy tyX11 tw_849 tw_850 tw_68 inX11 tyX11_ok rfl (by decide +kernel) (Nat.le_of_ble_eq_true rfl) (Nat.le_of_ble_eq_true rfl) dL_law_8 (fun h1 => ?_)
  refine wb_dup (pc := 11) cy dL_law_11 rfl ?_
  refine wb_ctor (pc := 12) cy ([] ++ wk_X10_init Y h0 a1) (ck_X11_init l D Y h1) mc_X11_init tw_851 rfl rfl (Nat.le_of_ble_eq_true rfl) ⟨Nat.le_of_ble_eq_true rfl, Nat.le_of_ble_eq_true rfl⟩ ⟨Nat.le_of_ble_eq_true rfl, Nat.le_of_ble_eq_true rfl⟩ dL_law_12 (fun a2 => ?_)
  refine wb_astore_n (pc := 15) cy 2 [some (.ref b), some (.ref h0), some (.ref h1), none] dL_law_15 rfl (by decide) rfl rfl ?_
  refine wb_iconst (pc := 16) (v := 0) cy dL_law_16 (by decide) ?_
  refine wb_istore_n (pc := 17) cy 3 [some (.ref b), some (.ref h0), some (.ref h1), some (.int 0)] dL_law_17 rfl (by decide) rfl rfl ?_
  rw [List.nil_append, en0_wl D Y h0 h1 a1 a2 tA kA kV]
  intro H locs ls hP hDD hS hls
  generalize hE : en0 D Y h0 h1 a1 a2 tA kA kV = E at hP hDD
  have hge : ∀ q, q ∈ eL E → s.heap.size ≤ eA E q := by
    intro q hq
    obtain ⟨i, -, hi⟩ := wl_at (σ := sg0) hq
    exact hDD.2 i _ hi
  have hAE : AE E s.heap.size = fun q : Nat => s.heap.size ≤ q := by
    funext q
    exact propext ⟨fun h => AE_ge hge h, fun h => Or.inr h⟩
  have cx : CX p s m #[Value.ref b] meth c code RL 4 ret E := by
    refine ⟨hx, hb, hml, hown, hts, ?_, hr, hlocks, ?_, ?_⟩
    · rw [← hE]; exact hK
    · have h9 := hSF (AE E s.heap.size) (fun q hq h => by rw [hAE] at h; exact absurd h (Nat.not_le.mpr hq))
      unfold SF
      rw [← hE] at h9 ⊢
      exact h9
    · rw [← hE]; exact en0_BL D Y h0 h1 a1 a2 tA kA kV
  have hloop := law_loop (l := l) (e := e) (below := below) hs hNF hL hX hbl (L + 1) 0 E sg0 52 6357 (by omega) (by omega) (by omega) (by omega) cx (by rw [← hE]; exact en0_IC D Y h0 h1 a1 a2 tA kA kV) hge (by rw [← hE, en0_kept]; exact hI0)
  refine hloop H locs ls (by rw [← hE] at hP ⊢; exact hP) (by rw [hAE]; exact hDD) (by rw [hAE]; exact hS) ?_
  rw [← hE]
  exact hls
