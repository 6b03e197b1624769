/-- the cells of an image are there all or none -/
def IC (E : En) : Prop := (∀ c, c ∈ eL E → c < 66) ∧ ∀ j, j < 2 → ∀ c, 52 + 7 * j ≤ c → c < 59 + 7 * j → (c ∈ eL E ↔ kept E j = true)
/-- another place of the world: more cells -/
def EX (E F : En) : Prop := eD F = eD E ∧ eY F = eY E ∧ (∀ c, c ∈ eL E → c ∈ eL F ∧ eA F c = eA E c) ∧ eT F = eT E ∧ eK F = eK E ∧ eV F = eV E
def zer (σ : Sg) (j : Nat) : Sg := (fun c => if 52 + 7 * j ≤ c ∧ c < 59 + 7 * j then fun _ => 0 else σ.1 c, σ.2)
def nwE (E : En) (j q : Nat) (ad : Nat → Nat) : En := (eD E, eY E, fun c => if c = 52 + 7 * j then q else if 52 + 7 * j < c ∧ c < 59 + 7 * j then ad (c - (52 + 7 * j)) else eA E c, eL E ++ [52 + 7 * j, 53 + 7 * j, 54 + 7 * j, 55 + 7 * j, 56 + 7 * j, 57 + 7 * j, 58 + 7 * j], eT E, eK E, eV E)
def img (b : Nat → Bool) (k : Nat) (σ : Sg) : Sg := if b k = true then σ else zer σ k
/-- image and restore: b says which images are kept -/
def fX10_image (b : Nat → Bool) (a1 : Int32) (σ : Sg) : Option (Int32 × Sg) :=
  if a1 < 0 then some (-1000001, σ) else if a1 < 2 then (if gf σ 8 0 = 0 then some (-1000002, σ) else if a1 = 0 then (fX9_becomeAs_52_8 (img b 0 σ)).bind (fun q => some (1, q)) else (fX9_becomeAs_59_8 (img b 1 σ)).bind (fun q => some (1, q))) else some (-1000001, σ)
def fX10_restore (b : Nat → Bool) (a1 : Int32) (σ : Sg) : Option (Int32 × Sg) :=
  if a1 < 0 then some (-1000001, σ) else if a1 < 2 then (if a1 = 0 then (if b 0 = true then (fX9_becomeAs_8_52 σ).bind (fun q => (fX0_forgetAll q).bind (fun q2 => some (1, q2))) else some (-1000002, σ)) else (if b 1 = true then (fX9_becomeAs_8_59 σ).bind (fun q => (fX0_forgetAll q).bind (fun q2 => some (1, q2))) else some (-1000002, σ))) else some (-1000001, σ)
theorem two_lit {x : Int32} (h0 : ¬ x < 0) (h2 : x < 2) : x = 0 ∨ x = 1 := by
  obtain ⟨j, hj, rfl⟩ := nI_of h0
  have h3 : j < 2 := (nI_ltI hj (by decide)).mp h2
  rcases (by omega : j = 0 ∨ j = 1) with rfl | rfl
  · exact Or.inl rfl
  · exact Or.inr rfl
section WArows
variable {p : Program} {l : Launch} {e : Env} {R : Room} {s : State} {m : MethodId} {args : Array Value} {below : List Frame} {meth : Method} {c : Code} {cc : ByteArray} {own : String} {nL : Nat} {ret : Option FieldType} {E : En} {Q : State → Prop} {nc ns pc : Nat} {L : List (Option Value)} {st : List Value} {σ : Sg}
theorem wa_aaldW (cx : CX p s m args meth c cc own nL ret E) {i : Int32} (hm : 22 ∈ eL E) (hin : inb i 2 = true) (hd : decode cc pc = .ok (.aaload, 1)) (kt : kept E i.toNatClampNeg = true → WA p l e R s m args below meth c nL E nc ns Q (pc + 1) L (.ref (eA E (52 + 7 * i.toNatClampNeg)) :: st) σ) (kf : ¬ kept E i.toNatClampNeg = true → WA p l e R s m args below meth c nL E nc ns Q (pc + 1) L (.null :: st) σ) : WA p l e R s m args below meth c nL E nc ns Q (pc) L (.int i :: .ref (eA E 22) :: st) σ := by
  intro H locs ls hP hD hS hl
  obtain ⟨j, -, hj⟩ := wl_at (σ := σ) hm
  have hj2 : (wl E σ)[j]? = some (eA E 22, .inl (eY E 3, 2, .inr (.inr (.inr (.inr (fun j => if kept E j = true then some (eA E (52 + 7 * j)) else none)))))) := hj
  refine va_aldq cx.1 cx.2.1 cx.2.2.2.2.2.1 hP j 3 hj2 rfl (inb_vp hin) hd ?_
  by_cases h : kept E i.toNatClampNeg = true
  · rw [if_pos h]
    exact kt h H locs ls hP hD hS hl
  · rw [if_neg h]
    exact kf h H locs ls hP hD hS hl
theorem wa_astoreN (cx : CX p s m args meth c cc own nL ret E) {q : Fin 4} (i : Nat) (L1 : List (Option Value)) (hd : decode cc pc = .ok (.astore_n q, 1)) (hi : (q : Nat) = i) (hn : i < nL) (hok : okS L i = true) (hL : L.set i (some .null) = L1) (k : WA p l e R s m args below meth c nL E nc ns Q (pc + 1) L1 (st) σ) : WA p l e R s m args below meth c nL E nc ns Q (pc) L (.null :: st) σ := fun H locs ls hP hD hS hl => lv_astore_nN cx.1 cx.2.1 hd hi (lvh_has hl) hn rfl (fun ls1 h1 => k H locs ls1 hP hD hS (lvh_st hok hL h1))
theorem wa_aloadN (cx : CX p s m args meth c cc own nL ret E) {q : Fin 4} (i : Nat) (hd : decode cc pc = .ok (.aload_n q, 1)) (hi : (q : Nat) = i) (hL : L[i]? = some (some .null)) (k : WA p l e R s m args below meth c nL E nc ns Q (pc + 1) L (.null :: st) σ) : WA p l e R s m args below meth c nL E nc ns Q (pc) L (st) σ := fun H locs ls hP hD hS hl => lv_aload_nN cx.1 cx.2.1 hd hi (hl.2.2 i _ hL) (k H locs ls hP hD hS hl)
theorem wa_ifnn (cx : CX p s m args meth c cc own nL ret E) {x : Nat} {off : Int} (tgt : Nat) (hd : decode cc pc = .ok (.ifnonnull off, 3)) (ht : (pc : Int) + off = (tgt : Int)) (k : WA p l e R s m args below meth c nL E nc ns Q (tgt) L (st) σ) : WA p l e R s m args below meth c nL E nc ns Q (pc) L (.ref x :: st) σ := fun H locs ls hP hD hS hl => lv_ifnonnull cx.1 cx.2.1 hd ht (k H locs ls hP hD hS hl)
theorem wa_ifnnN (cx : CX p s m args meth c cc own nL ret E) {off : Int} (hd : decode cc pc = .ok (.ifnonnull off, 3)) (k : WA p l e R s m args below meth c nL E nc ns Q (pc + 3) L (st) σ) : WA p l e R s m args below meth c nL E nc ns Q (pc) L (.null :: st) σ := fun H locs ls hP hD hS hl => lv_ifnonnullN cx.1 cx.2.1 hd (k H locs ls hP hD hS hl)
end WArows
section WBrow2
variable {p : Program} {l : Launch} {e : Env} {R : Room} {s : State} {m : MethodId} {args : Array Value} {below : List Frame} {meth : Method} {c : Code} {cc : ByteArray} {own : String} {nL : Nat} {D : va_G} {Y : Nat → ClassId} {A : Nat → Prop} {Q : State → Prop} {nc ns pc : Nat} {L : List (Option Value)} {st : List Value} {ws : va_W}
theorem wb_aastW (cx : CY p s m args meth c cc own nL D Y A) {i0 iq b n q : Nat} {f : Nat → Option Nat} {x : Int32} {fs : List Value} (j : Nat) (he : ws[i0]? = some (b, .inl (Y 3, n, .inr (.inr (.inr (.inr f)))))) (hv : ws[iq]? = some (q, .inr (8, fs))) (hx : x.toNatClampNeg = j) (hin : inb x n = true) (hd : decode cc pc = .ok (.aastore, 1)) (k : WB p l e R s m args below meth c nL D A Q (nc) (ns) (pc + 1) L (st) (ws.set i0 (b, .inl (Y 3, n, .inr (.inr (.inr (.inr (va_up f j (some q))))))))) : WB p l e R s m args below meth c nL D A Q (nc) (ns) (pc) L (.ref q :: .int x :: .ref b :: st) (ws) := by
  subst hx
  exact fun H locs ls hP hD hS hl => va_astq (r := (RX9, TX9, 11)) cx.1 cx.2.1 cx.2.2.2.2.2.1 hP hD hS i0 3 iq 8 he rfl hv rfl (inb_vp hin) hd (fun H1 locs1 hP1 hD1 hS1 => k H1 locs1 ls hP1 hD1 hS1 hl)
end WBrow2
set_option maxHeartbeats 4000000 in
set_option maxRecDepth 100000 in
theorem ct_X10_restore (l : Launch) (E : En) (hI : IC E) (σ : Sg) (a1 : Int32) (q : Int32 × Sg) (hf : fX10_restore (kept E) a1 σ = some q) : CT l yX10_restore cX10_restore 3 (some .int) 2 E σ [.ref (eA E 0), .int a1] (some (.int q.1)) q.2 := by
  refine CT.of RX10 [some (.ref (eA E 0)), some (.int a1), none] rfl (by decide +kernel) (Nat.le_of_ble_eq_true rfl) rfl ?_
  intro p e s m args below meth c cx
  unfold fX10_restore at hf
  refine wa_iload_n (pc := 0) cx 1 dX10_restore_0 rfl rfl ?_
  refine wa_if_lt (pc := 1) cx 9 dX10_restore_1 rfl (fun c1 => ?_) (fun c1 => ?_)
  · have hf := (if_pos c1).symm.trans hf
    refine wa_ldc (pc := 9) (v := (-1000001)) cx dX10_restore_9 tw_353 ?_
    obtain rfl := Option.some.inj hf
    exact wa_iret (pc := 11) cx dX10_restore_11
  have hf := (if_neg c1).symm.trans hf
  refine wa_iload_n (pc := 4) cx 1 dX10_restore_4 rfl rfl ?_
  refine wa_iconst (pc := 5) (v := 2) cx dX10_restore_5 (by decide) ?_
  refine wa_icmp_lt (pc := 6) cx 12 dX10_restore_6 rfl (fun c2 => ?_) (fun c2 => ?_)
  rotate_left
  · have hf := (if_neg c2).symm.trans hf
    refine wa_ldc (pc := 9) (v := (-1000001)) cx dX10_restore_9 tw_353 ?_
    obtain rfl := Option.some.inj hf
    exact wa_iret (pc := 11) cx dX10_restore_11
  have hf := (if_pos c2).symm.trans hf
  refine wa_aload_n (pc := 12) cx 0 dX10_restore_12 rfl rfl ?_
  refine wa_getR (pc := 13) cx fl_X10_33 lk_0 rfl (cx.bl 0 rfl) dX10_restore_13 ?_
  refine wa_iload_n (pc := 16) cx 1 dX10_restore_16 rfl rfl ?_
  rcases two_lit c1 c2 with rfl | rfl
  · have hf := (if_pos rfl).symm.trans hf
    refine wa_aaldW (pc := 17) cx (cx.bl 22 rfl) (by decide) dX10_restore_17 (fun h => ?_) (fun h => ?_)
    · have hf := (if_pos h).symm.trans hf
      have hi : ∀ c, 52 ≤ c → c < 59 → c ∈ eL E := fun c h1 h2 => (hI.2 0 (by decide) c h1 h2).mpr h
      refine wa_astore_n (pc := 18) (x := eA E 52) cx 2 [some (.ref (eA E 0)), some (.int 0), some (.ref (eA E 52))] dX10_restore_18 rfl (by decide) rfl rfl ?_
      refine wa_aload_n (pc := 19) cx 2 dX10_restore_19 rfl rfl ?_
      refine wa_ifnn (pc := 20) cx 26 dX10_restore_20 rfl ?_
      refine wa_aload_n (pc := 26) cx 0 dX10_restore_26 rfl rfl ?_
      refine wa_getR (pc := 27) cx fl_X10_26 lk_0 rfl (cx.bl 0 rfl) dX10_restore_27 ?_
      refine wa_aload_n (pc := 30) cx 2 dX10_restore_30 rfl rfl ?_
      obtain ⟨q1, h1, hf⟩ := bd_some hf
      refine wa_callVv (pc := 31) cx [.ref (eA E 52)] (ct_X9_becomeAs_8_52 l E hi _ _ h1) mi_X9_becomeAs tw_546 lk_8 rfl (cx.bl 8 rfl) rfl rfl (Nat.le_of_ble_eq_true rfl) ⟨Nat.le_of_ble_eq_true rfl, Nat.le_of_ble_eq_true rfl⟩ ⟨Nat.zero_le _, Nat.zero_le _⟩ dX10_restore_31 ?_
      refine wa_aload_n (pc := 34) cx 0 dX10_restore_34 rfl rfl ?_
      refine wa_getR (pc := 35) cx fl_X10_40 lk_0 rfl (cx.bl 0 rfl) dX10_restore_35 ?_
      obtain ⟨q2, h2, hf⟩ := bd_some hf
      refine wa_callVv (pc := 38) cx [] (ct_X0_forgetAll l E _ _ h2) mi_X0_forgetAll tw_551 lk_23 rfl (cx.bl 23 rfl) rfl rfl (Nat.le_of_ble_eq_true rfl) ⟨Nat.le_of_ble_eq_true rfl, Nat.le_of_ble_eq_true rfl⟩ ⟨Nat.zero_le _, Nat.zero_le _⟩ dX10_restore_38 ?_
      refine wa_iconst (pc := 41) (v := 1) cx dX10_restore_41 (by decide) ?_
      obtain rfl := Option.some.inj hf
      exact wa_iret (pc := 42) cx dX10_restore_42
    · have hf := (if_neg h).symm.trans hf
      refine wa_astoreN (pc := 18) cx 2 [some (.ref (eA E 0)), some (.int 0), some .null] dX10_restore_18 rfl (by decide) rfl rfl ?_
      refine wa_aloadN (pc := 19) cx 2 dX10_restore_19 rfl rfl ?_
      refine wa_ifnnN (pc := 20) cx dX10_restore_20 ?_
      refine wa_ldc (pc := 23) (v := (-1000002)) cx dX10_restore_23 tw_579 ?_
      obtain rfl := Option.some.inj hf
      exact wa_iret (pc := 25) cx dX10_restore_25
  · have hf := (if_neg (show ¬ (1 : Int32) = 0 by decide)).symm.trans hf
    refine wa_aaldW (pc := 17) cx (cx.bl 22 rfl) (by decide) dX10_restore_17 (fun h => ?_) (fun h => ?_)
    · have hf := (if_pos h).symm.trans hf
      have hi : ∀ c, 59 ≤ c → c < 66 → c ∈ eL E := fun c h1 h2 => (hI.2 1 (by decide) c h1 h2).mpr h
      refine wa_astore_n (pc := 18) (x := eA E 59) cx 2 [some (.ref (eA E 0)), some (.int 1), some (.ref (eA E 59))] dX10_restore_18 rfl (by decide) rfl rfl ?_
      refine wa_aload_n (pc := 19) cx 2 dX10_restore_19 rfl rfl ?_
      refine wa_ifnn (pc := 20) cx 26 dX10_restore_20 rfl ?_
      refine wa_aload_n (pc := 26) cx 0 dX10_restore_26 rfl rfl ?_
      refine wa_getR (pc := 27) cx fl_X10_26 lk_0 rfl (cx.bl 0 rfl) dX10_restore_27 ?_
      refine wa_aload_n (pc := 30) cx 2 dX10_restore_30 rfl rfl ?_
      obtain ⟨q1, h1, hf⟩ := bd_some hf
      refine wa_callVv (pc := 31) cx [.ref (eA E 59)] (ct_X9_becomeAs_8_59 l E hi _ _ h1) mi_X9_becomeAs tw_546 lk_8 rfl (cx.bl 8 rfl) rfl rfl (Nat.le_of_ble_eq_true rfl) ⟨Nat.le_of_ble_eq_true rfl, Nat.le_of_ble_eq_true rfl⟩ ⟨Nat.zero_le _, Nat.zero_le _⟩ dX10_restore_31 ?_
      refine wa_aload_n (pc := 34) cx 0 dX10_restore_34 rfl rfl ?_
      refine wa_getR (pc := 35) cx fl_X10_40 lk_0 rfl (cx.bl 0 rfl) dX10_restore_35 ?_
      obtain ⟨q2, h2, hf⟩ := bd_some hf
      refine wa_callVv (pc := 38) cx [] (ct_X0_forgetAll l E _ _ h2) mi_X0_forgetAll tw_551 lk_23 rfl (cx.bl 23 rfl) rfl rfl (Nat.le_of_ble_eq_true rfl) ⟨Nat.le_of_ble_eq_true rfl, Nat.le_of_ble_eq_true rfl⟩ ⟨Nat.zero_le _, Nat.zero_le _⟩ dX10_restore_38 ?_
      refine wa_iconst (pc := 41) (v := 1) cx dX10_restore_41 (by decide) ?_
      obtain rfl := Option.some.inj hf
      exact wa_iret (pc := 42) cx dX10_restore_42
    · have hf := (if_neg h).symm.trans hf
      refine wa_astoreN (pc := 18) cx 2 [some (.ref (eA E 0)), some (.int 1), some .null] dX10_restore_18 rfl (by decide) rfl rfl ?_
      refine wa_aloadN (pc := 19) cx 2 dX10_restore_19 rfl rfl ?_
      refine wa_ifnnN (pc := 20) cx dX10_restore_20 ?_
      refine wa_ldc (pc := 23) (v := (-1000002)) cx dX10_restore_23 tw_579 ?_
      obtain rfl := Option.some.inj hf
      exact wa_iret (pc := 25) cx dX10_restore_25
theorem refs_apart : ∀ c, c < 66 → ∀ k, k ∈ (lkt c).2.2 → (k < 2 ∨ (∀ j, j < 2 → ¬ (52 + 7 * j ≤ c ∧ c < 59 + 7 * j) → ¬ (52 + 7 * j ≤ k - 2 ∧ k - 2 < 59 + 7 * j))) := by decide +kernel
theorem fvs_env {E F : En} {σ τ : Sg} {c : Nat} : ∀ (fl : List Nat) (j : Nat), (∀ k, k ∈ fl → k < 2 ∨ eA F (k - 2) = eA E (k - 2)) → σ.1 c = τ.1 c → σ.2 = τ.2 → fvs F τ c j fl = fvs E σ c j fl
  | [], _, _, _, _ => rfl
  | k :: r, j, h, h1, h2 => by
    have hr := fvs_env (E := E) (F := F) (σ := σ) (τ := τ) (c := c) r (j + 1) (fun q hq => h q (List.mem_cons_of_mem _ hq)) h1 h2
    show fvl F τ c j k :: _ = fvl E σ c j k :: _
    rw [hr]
    congr 1
    match k, h k List.mem_cons_self with
    | 0, _ => show Value.int _ = Value.int _; rw [h1]
    | 1, _ => show Value.long _ = Value.long _; rw [h2]
    | q + 2, hq =>
      rcases hq with hq | hq
      · omega
      · show Value.ref _ = Value.ref _
        have : eA F (q + 2 - 2) = eA E (q + 2 - 2) := hq
        rw [show q + 2 - 2 = q by omega] at this
        rw [this]
theorem nwE_out {E : En} {j q : Nat} {ad : Nat → Nat} {c : Nat} (h : ¬ (52 + 7 * j ≤ c ∧ c < 59 + 7 * j)) : eA (nwE E j q ad) c = eA E c := by
  show (if c = 52 + 7 * j then q else if 52 + 7 * j < c ∧ c < 59 + 7 * j then ad (c - (52 + 7 * j)) else eA E c) = eA E c
  rw [if_neg (by omega), if_neg (by omega)]
theorem zer_out {σ : Sg} {j c : Nat} (h : ¬ (52 + 7 * j ≤ c ∧ c < 59 + 7 * j)) : (zer σ j).1 c = σ.1 c := if_neg h
theorem lkt_big {c : Nat} (h : 66 ≤ c) : lkt c = (9, 0, []) := by
  unfold lkt
  rw [List.getD_eq_getElem?_getD, List.getElem?_eq_none (by show ltab.length ≤ c; have : ltab.length = 66 := rfl; omega)]
  rfl
theorem nwE_kept {E : En} {j q : Nat} {ad : Nat → Nat} (i : Nat) : kept (nwE E j q ad) i = (decide (i = j) || kept E i) := by
  unfold kept
  have : (52 + 7 * i ∈ eL (nwE E j q ad)) ↔ (i = j ∨ 52 + 7 * i ∈ eL E) := by
    show 52 + 7 * i ∈ eL E ++ _ ↔ _
    rw [List.mem_append]
    simp only [List.mem_cons, List.not_mem_nil, or_false]
    constructor
    · rintro (h | h)
      · exact Or.inr h
      · exact Or.inl (by omega)
    · rintro (h | h)
      · exact Or.inr (by omega)
      · exact Or.inl h
  simp only [this, Bool.decide_or]
theorem lay_env {E : En} {σ : Sg} {j q : Nat} {ad : Nat → Nat} {c : Nat} (hj : j < 2) (hc : ¬ (52 + 7 * j ≤ c ∧ c < 59 + 7 * j)) (h66 : c < 66) (h22 : c ≠ 22) : lay (nwE E j q ad) (zer σ j) c = lay E σ c := by
  have hkind : (lkt c).1 = 4 ∨ (lkt c).1 = 0 ∨ (lkt c).1 = 1 ∨ (lkt c).1 = 2 ∨ (lkt c).1 = 3 := by
    have key : ∀ c, c < 66 → ((lkt c).1 = 4 ∨ (lkt c).1 = 0 ∨ (lkt c).1 = 1 ∨ (lkt c).1 = 2 ∨ (lkt c).1 = 3) := by decide +kernel
    exact key c h66
  have h4 : (lkt c).1 ≠ 4 := by
    have key : ∀ c, c < 66 → c ≠ 22 → (lkt c).1 ≠ 4 := by decide +kernel
    exact key c h66 h22
  have hr := refs_apart c h66
  generalize hk : lkt c = t at hkind h4 hr
  obtain ⟨tg, n, fl⟩ := t
  dsimp only at hkind h4 hr
  rcases hkind with h | h | h | h | h
  · exact absurd h h4
  · subst h
    rw [lay_obj hk, lay_obj hk]
    congr 2
    refine fvs_env fl 0 (fun k hkf => ?_) (zer_out hc).symm rfl
    rcases hr k hkf with h | h
    · exact Or.inl h
    · exact Or.inr (nwE_out (h j hj hc))
  · subst h
    rw [lay_int hk, lay_int hk, zer_out hc]
    rfl
  · subst h
    rw [lay_byte hk, lay_byte hk, zer_out hc]
    rfl
  · subst h
    rw [lay_bool hk, lay_bool hk, zer_out hc]
    rfl
theorem lay_img {E : En} {σ : Sg} {j q : Nat} {ad : Nat → Nat} (hj : j < 2) : lay (nwE E j q ad) (zer σ j) 22 = .inl (eY E 3, 2, .inr (.inr (.inr (.inr (va_up (fun j => if kept E j = true then some (eA E (52 + 7 * j)) else none) j (some q)))))) := by
  show Sum.inl (eY E 3, 2, Sum.inr (Sum.inr (Sum.inr (Sum.inr (fun i => if kept (nwE E j q ad) i = true then some (eA (nwE E j q ad) (52 + 7 * i)) else none))))) = _
  congr 7
  funext i
  rw [nwE_kept]
  unfold va_up
  by_cases hi : i = j
  · subst hi
    rw [if_pos rfl, if_pos (by simp)]
    show some (if 52 + 7 * i = 52 + 7 * i then q else _) = _
    rw [if_pos rfl]
  · rw [if_neg hi]
    have e : (decide (i = j) || kept E i) = kept E i := by simp [hi]
    rw [e, nwE_out (by omega)]
theorem img_new {E : En} {σ : Sg} {j q i22 : Nat} {ad : Nat → Nat} {A : Nat → Prop} (hj : j < 2) (h66 : ∀ c, c ∈ eL E → c < 66) (hI : ∀ c, 52 + 7 * j ≤ c → c < 59 + 7 * j → c ∉ eL E) (hi : (eL E)[i22]? = some 22) (hD : va_D A (wl E σ)) (W9 : va_W) (h9 : W9 = [52 + 7 * j, 53 + 7 * j, 54 + 7 * j, 55 + 7 * j, 56 + 7 * j, 57 + 7 * j, 58 + 7 * j].map (fun c => (eA (nwE E j q ad) c, lay (nwE E j q ad) (zer σ j) c))) : (wl E σ ++ W9).set i22 (eA E 22, .inl (eY E 3, 2, .inr (.inr (.inr (.inr (va_up (fun j => if kept E j = true then some (eA E (52 + 7 * j)) else none) j (some q))))))) = wl (nwE E j q ad) (zer σ j) := by
  have hl : i22 < (wl E σ).length := by unfold wl; rw [List.length_map]; exact (List.getElem?_eq_some_iff.mp hi).1
  rw [List.set_append_left _ _ hl]
  have e2 : wl (nwE E j q ad) (zer σ j) = (eL E).map (fun c => (eA (nwE E j q ad) c, lay (nwE E j q ad) (zer σ j) c)) ++ W9 := by
    rw [h9, ← List.map_append]
    rfl
  rw [e2]
  congr 1
  apply List.ext_getElem?
  intro k
  have hout : ∀ c, c ∈ eL E → ¬ (52 + 7 * j ≤ c ∧ c < 59 + 7 * j) := fun c hc h => hI c h.1 h.2 hc
  by_cases hk : k = i22
  · subst hk
    rw [List.getElem?_set_self hl, List.getElem?_map, hi]
    show some _ = some (eA (nwE E j q ad) 22, lay (nwE E j q ad) (zer σ j) 22)
    rw [lay_img hj, nwE_out (by omega)]
  · rw [List.getElem?_set_ne (Ne.symm hk)]
    unfold wl
    rw [List.getElem?_map, List.getElem?_map]
    cases hc : (eL E)[k]? with
    | none => rfl
    | some d =>
      have hne : d ≠ 22 := by
        intro z
        subst z
        exact hk (hD.1 k i22 (eA E 22, lay E σ 22) (eA E 22, lay E σ 22) (by unfold wl; rw [List.getElem?_map, hc]; rfl) (by unfold wl; rw [List.getElem?_map, hi]; rfl) rfl)
      have hm := List.mem_of_getElem? hc
      show some (eA E d, lay E σ d) = some (eA (nwE E j q ad) d, lay (nwE E j q ad) (zer σ j) d)
      rw [lay_env hj (hout d hm) (h66 d hm) hne, nwE_out (hout d hm)]
