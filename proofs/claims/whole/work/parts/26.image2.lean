def imgB (b : Nat → Bool) (a1 : Int32) (σ : Sg) : Nat → Bool := if a1 < 0 then b else if a1 < 2 then (if gf σ 8 0 = 0 then b else fun i => decide (i = a1.toNatClampNeg) || b i) else b
def PcI (E : En) (sz : Nat) (σ : Sg) (av : List Value) : Array Value → State → Prop := fun v U => Pcq E sz σ av v U ∧ NF U
def QcI (E : En) (sz : Nat) (bb : Nat → Bool) (q : Int32 × Sg) : Array Value → State → Outcome → State → Prop := fun _ st oc t => oc = .returned (some (.int q.1)) ∧ (∃ F : En, EX E F ∧ IC F ∧ kept F = bb ∧ va_P (eD F) vwCl (wl F q.2) t.heap ∧ va_D (AE E sz) (wl F q.2)) ∧ va_F (AE E sz) st t
theorem EX.refl (E : En) : EX E E := ⟨rfl, rfl, fun _ h => ⟨h, rfl⟩, rfl, rfl, rfl⟩
theorem PcI_blind {E : En} {sz : Nat} {σ : Sg} {av : List Value} : FrameBlind (PcI E sz σ av) := fun a U g mk q => ⟨Pcq_blind a U g mk q.1, q.2.same rfl⟩
theorem EX_nwE {E : En} {j q : Nat} {ad : Nat → Nat} (hI : ∀ c, 52 + 7 * j ≤ c → c < 59 + 7 * j → c ∉ eL E) : EX E (nwE E j q ad) := ⟨rfl, rfl, fun c hc => ⟨List.mem_append_left _ hc, nwE_out (fun h => hI c h.1 h.2 hc)⟩, rfl, rfl, rfl⟩
theorem AE_ex {E F : En} {σ : Sg} {sz : Nat} (hX : EX E F) (hD : va_D (AE E sz) (wl F σ)) : AE F sz = AE E sz := by
  funext x
  apply propext
  constructor
  · rintro (⟨c, hc, rfl⟩ | h)
    · obtain ⟨i, -, hi⟩ := wl_at (σ := σ) hc
      exact hD.2 i _ hi
    · exact Or.inr h
  · rintro (⟨c, hc, rfl⟩ | h)
    · exact Or.inl ⟨c, (hX.2.2.1 c hc).1, (hX.2.2.1 c hc).2.symm⟩
    · exact Or.inr h
theorem CX_ex {p : Program} {s : State} {m : MethodId} {args : Array Value} {meth : Method} {c : Code} {cc : ByteArray} {own : String} {nL : Nat} {ret : Option FieldType} {E F : En} (cx : CX p s m args meth c cc own nL ret E) (hX : EX E F) (hA : AE F s.heap.size = AE E s.heap.size) : CX p s m args meth c cc own nL ret F := by
  obtain ⟨h1, h2, h3, h4, h5, h6, h7, h8, h9, h10⟩ := cx
  obtain ⟨x1, x2, x3, x4, x5, x6⟩ := hX
  refine ⟨h1, h2, h3, h4, h5, ?_, h7, h8, ?_, fun k hk => (x3 k (h10 k hk)).1⟩
  · show va_K (eD F) vwCl [(eY F 0, .int), (eY F 1, .byte), (eY F 2, .boolean), (eY F 3, .object "VowRope$Walk")] s
    rw [x1, x2]
    exact h6
  · unfold SF at h9 ⊢
    rw [hA, x4, x5, x6]
    exact h9
theorem IC_nwE {E : En} {j q : Nat} {ad : Nat → Nat} (hj : j < 2) (hI : IC E) : IC (nwE E j q ad) := by
  refine ⟨fun c hc => ?_, fun i hi c h1 h2 => ?_⟩
  · rcases List.mem_append.mp hc with h | h
    · exact hI.1 c h
    · simp only [List.mem_cons, List.not_mem_nil, or_false] at h
      omega
  · rw [nwE_kept]
    show c ∈ eL E ++ _ ↔ _
    rw [List.mem_append, hI.2 i hi c h1 h2]
    simp only [List.mem_cons, List.not_mem_nil, or_false, Bool.or_eq_true, decide_eq_true_eq]
    constructor
    · rintro (h | h)
      · exact Or.inr h
      · exact Or.inl (by omega)
    · rintro (h | h)
      · exact Or.inr (by omega)
      · exact Or.inl h
theorem wa_iretI {p : Program} {l : Launch} {e : Env} {R : Room} {s : State} {m : MethodId} {args : Array Value} {below : List Frame} {meth : Method} {c : Code} {cc : ByteArray} {own : String} {nL : Nat} {E F : En} {nc ns pc : Nat} {L : List (Option Value)} {σ : Sg} {v : Int32} {bb : Nat → Bool} (cx : CX p s m args meth c cc own nL (some .int) F) (hX : EX E F) (hI : IC F) (hb : kept F = bb) (hA : AE F s.heap.size = AE E s.heap.size) (h1 : nc ≤ 7) (h2 : ns ≤ 84) (hd : decode cc pc = .ok (.ireturn, 1)) : WA p l e R s m args below meth c nL F nc ns (MQ below (QcI E s.heap.size bb (v, σ)) args s 7 84 (AE E s.heap.size)) pc L [.int v] σ := by
  intro H locs ls hP hD hS hl
  rw [hA] at hD hS
  exact W.widen h1 h2 (W.iret cx.1 cx.2.1 cx.2.2.2.2.2.2.1 (fun t ht hW => ⟨rfl, ⟨F, hX, hI, hb, by rw [ht]; exact hP, hD⟩, hS.F ht⟩) hS.2.2 hd cx.2.2.2.2.2.2.2.1)
set_option maxHeartbeats 4000000 in
set_option maxRecDepth 100000 in
theorem ct_X10_image (l : Launch) (E : En) (hI : IC E) (σ : Sg) (a1 : Int32) (q : Int32 × Sg) (hf : fX10_image (kept E) a1 σ = some q) (sz : Nat) : Met l yX10_image (Cond.code yX10_image cX10_image 3 (some .int) :: gw) (rmc 2 7 84) (PcI E sz σ [.ref (eA E 0), .int a1]) (QcI E sz (imgB (kept E) a1 σ) q) 7 84 (AE E sz) := by
  refine Met.ofW (cc := cX10_image) (maxL := 3) (ret := some .int) (by decide +kernel) rfl ?_
  intro p e s m args below meth c s₁ B hmL hv
  obtain ⟨⟨rfl, hsz, hP, hK, hD, hSF, hBL⟩, hNF⟩ := hv
  subst hsz
  have hts : ∀ w ∈ gw, w.before ([Value.ref (eA E 0), .int a1] : List Value).toArray s = true := fun w hw => atoms_spec (ws := Cond.code yX10_image cX10_image 3 (some .int) :: gw) B.pre w (List.mem_cons_of_mem _ hw)
  have hfc : s.vm.findClass RX10 = some m.cls := findClass_of_methodNamed B.named
  have cx : CX p s m ([Value.ref (eA E 0), .int a1] : List Value).toArray meth c cX10_image RX10 3 (some .int) E := ⟨B.exec, B.bytes, hmL, hfc, hts, hK, B.returns, B.notSynchronized, hSF, hBL⟩
  rw [lg_entry_eq]
  have hl := lv_entry [.ref (eA E 0), .int a1] (n := 3) (Nat.le_of_ble_eq_true rfl)
  generalize ([Value.ref (eA E 0), .int a1] : List Value).toArray = args at cx ⊢
  suffices K : WA p l e (rmc 2 7 84) s m args below meth c 3 E 0 0 (MQ below (QcI E s.heap.size (imgB (kept E) a1 σ) q) args s 7 84 (AE E s.heap.size)) 0 [some (.ref (eA E 0)), some (.int a1), none] [] σ by
    refine K s.heap [] _ hP (AE_D hD) va_S.rf ⟨hl.1, hl.2.1, fun k v hk => ?_⟩
    have := entL_args [.ref (eA E 0), .int a1] 3 0 k v hk
    rw [Nat.zero_add] at this
    exact hl.2.2 (k, v) this
  clear hl hP hD
  unfold fX10_image at hf
  unfold imgB
  refine wa_iload_n (pc := 0) cx 1 dX10_image_0 rfl rfl ?_
  refine wa_if_lt (pc := 1) cx 9 dX10_image_1 rfl (fun c1 => ?_) (fun c1 => ?_)
  · have hf := (if_pos c1).symm.trans hf
    rw [if_pos c1]
    refine wa_ldc (pc := 9) (v := (-1000001)) cx dX10_image_9 tw_353 ?_
    obtain rfl := Option.some.inj hf
    exact wa_iretI (pc := 11) cx (EX.refl E) hI rfl rfl (Nat.zero_le _) (Nat.zero_le _) dX10_image_11
  have hf := (if_neg c1).symm.trans hf
  rw [if_neg c1]
  refine wa_iload_n (pc := 4) cx 1 dX10_image_4 rfl rfl ?_
  refine wa_iconst (pc := 5) (v := 2) cx dX10_image_5 (by decide) ?_
  refine wa_icmp_lt (pc := 6) cx 12 dX10_image_6 rfl (fun c2 => ?_) (fun c2 => ?_)
  rotate_left
  · have hf := (if_neg c2).symm.trans hf
    rw [if_neg c2]
    refine wa_ldc (pc := 9) (v := (-1000001)) cx dX10_image_9 tw_353 ?_
    obtain rfl := Option.some.inj hf
    exact wa_iretI (pc := 11) cx (EX.refl E) hI rfl rfl (Nat.zero_le _) (Nat.zero_le _) dX10_image_11
  have hf := (if_pos c2).symm.trans hf
  rw [if_pos c2]
  refine wa_aload_n (pc := 12) cx 0 dX10_image_12 rfl rfl ?_
  refine wa_getR (pc := 13) cx fl_X10_26 lk_0 rfl (cx.bl 0 rfl) dX10_image_13 ?_
  refine wa_getI (pc := 16) cx fl_X10_170 lk_8 rfl (cx.bl 8 rfl) dX10_image_16 ?_
  refine wa_if_ne (pc := 19) cx 25 dX10_image_19 rfl (fun c3 => ?_) (fun c3 => ?_)
  rotate_left
  · have hf := (if_pos c3).symm.trans hf
    rw [if_pos c3]
    refine wa_ldc (pc := 22) (v := (-1000002)) cx dX10_image_22 tw_579 ?_
    obtain rfl := Option.some.inj hf
    exact wa_iretI (pc := 24) cx (EX.refl E) hI rfl rfl (Nat.zero_le _) (Nat.zero_le _) dX10_image_24
  have hf := (if_neg c3).symm.trans hf
  rw [if_neg c3]
  refine wa_aload_n (pc := 25) cx 0 dX10_image_25 rfl rfl ?_
  refine wa_getR (pc := 26) cx fl_X10_33 lk_0 rfl (cx.bl 0 rfl) dX10_image_26 ?_
  refine wa_iload_n (pc := 29) cx 1 dX10_image_29 rfl rfl ?_
  rcases two_lit c1 c2 with rfl | rfl
  · have hf := (if_pos rfl).symm.trans hf
    refine wa_aaldW (pc := 30) cx (cx.bl 22 rfl) (by decide) dX10_image_30 (fun h => ?_) (fun h => ?_)
    · have h : kept E 0 = true := h
      have hi : ∀ c, 52 ≤ c → c < 59 → c ∈ eL E := fun c h1 h2 => (hI.2 0 (by decide) c h1 h2).mpr h
      have hbb : kept E = fun i => decide (i = (0 : Int32).toNatClampNeg) || kept E i := by
        funext i
        by_cases hi2 : i = 0
        · subst hi2
          rw [h]
          rfl
        · rw [show (0 : Int32).toNatClampNeg = 0 from rfl]
          simp [hi2]
      refine wa_astore_n (pc := 31) (x := eA E 52) cx 2 [some (.ref (eA E 0)), some (.int 0), some (.ref (eA E 52))] dX10_image_31 rfl (by decide) rfl rfl ?_
      refine wa_aload_n (pc := 32) cx 2 dX10_image_32 rfl rfl ?_
      refine wa_ifnn (pc := 33) cx 51 dX10_image_33 rfl ?_
      refine wa_aload_n (pc := 51) cx 2 dX10_image_51 rfl rfl ?_
      refine wa_aload_n (pc := 52) cx 0 dX10_image_52 rfl rfl ?_
      refine wa_getR (pc := 53) cx fl_X10_26 lk_0 rfl (cx.bl 0 rfl) dX10_image_53 ?_
      obtain ⟨q1, h1, hf⟩ := bd_some hf
      have h1 : fX9_becomeAs_52_8 σ = some q1 := by rw [show img (kept E) 0 σ = σ from if_pos h] at h1; exact h1
      refine wa_callVv (pc := 56) cx [.ref (eA E 8)] (ct_X9_becomeAs_52_8 l E hi _ _ h1) mi_X9_becomeAs tw_546 lk_52 rfl (hi 52 (by decide) (by decide)) rfl rfl (Nat.le_of_ble_eq_true rfl) ⟨Nat.le_of_ble_eq_true rfl, Nat.le_of_ble_eq_true rfl⟩ ⟨Nat.zero_le _, Nat.zero_le _⟩ dX10_image_56 ?_
      refine wa_iconst (pc := 59) (v := 1) cx dX10_image_59 (by decide) ?_
      obtain rfl := Option.some.inj hf
      exact wa_iretI (pc := 60) cx (EX.refl E) hI hbb rfl (Nat.zero_le _) (Nat.zero_le _) dX10_image_60
    · have h : ¬ kept E 0 = true := h
      have hno : ∀ c, 52 + 7 * 0 ≤ c → c < 59 + 7 * 0 → c ∉ eL E := fun c h1 h2 hc => h ((hI.2 0 (by decide) c h1 h2).mp hc)
      refine wa_astoreN (pc := 31) cx 2 [some (.ref (eA E 0)), some (.int 0), some .null] dX10_image_31 rfl (by decide) rfl rfl ?_
      refine wa_aloadN (pc := 32) cx 2 dX10_image_32 rfl rfl ?_
      refine wa_ifnnN (pc := 33) cx dX10_image_33 ?_
      have cy : CY p s m args meth c cX10_image RX10 3 (eD E) (eY E) (AE E s.heap.size) := ⟨cx.1, cx.2.1, cx.2.2.1, cx.2.2.2.1, cx.2.2.2.2.1, cx.2.2.2.2.2.1, fun q h => Or.inr h, hNF⟩
      show WB p l e (rmc 2 7 84) s m args below meth c 3 (eD E) (AE E s.heap.size) _ 0 0 36 [some (.ref (eA E 0)), some (.int 0), some .null] [] (wl E σ)
      refine wb_new (pc := 36) (C := RX9) (T := TX9) (N := 11) (ci := 8) (fs := [.int 0, .int 0, .int 0, .int 0, .int 0, .null, .null, .null, .null, .null, .null]) cy tyX9 tw_147 tw_148 tw_62 inX9 tyX9_ok rfl (by decide +kernel) (Nat.le_of_ble_eq_true rfl) (Nat.le_of_ble_eq_true rfl) dX10_image_36 (fun n => ?_)
      refine wb_dup (pc := 39) cy dX10_image_39 rfl ?_
      refine wb_ctorN (pc := 40) cy (wl E σ) (ck_X9_init l (eD E) (eY E) n) mc_X9_init cy.2.2.2.2.2.2.2.2.2.2.1 rfl rfl (Nat.le_of_ble_eq_true rfl) ⟨Nat.le_of_ble_eq_true rfl, Nat.le_of_ble_eq_true rfl⟩ ⟨Nat.le_of_ble_eq_true rfl, Nat.le_of_ble_eq_true rfl⟩ dX10_image_40 (fun ad => ?_)
      refine wb_astore_n (pc := 43) cy 2 [some (.ref (eA E 0)), some (.int 0), some (.ref n)] dX10_image_43 rfl (by decide) rfl rfl ?_
      refine wb_aload_n (pc := 44) cy 0 dX10_image_44 rfl rfl ?_
      obtain ⟨i0, hi0L, hi0⟩ := wl_at (σ := σ) (cx.bl 0 rfl)
      have hx0 : (wl E σ ++ wk_X9_init (eY E) n ad)[i0]? = some (eA E 0, .inr (9, fvs E σ 0 0 [3, 7, 10, 17, 24, 25, 27, 33, 36, 38, 0, 0])) := by
        rw [List.getElem?_append_left (List.getElem?_eq_some_iff.mp hi0).1]
        exact hi0
      refine wb_get (i := i0) (v := .ref (eA E 22)) (pc := 45) cy fl_X10_33 hx0 rfl dX10_image_45 ?_
      refine wb_iload_n (pc := 48) cy 1 dX10_image_48 rfl rfl ?_
      refine wb_aload_n (pc := 49) cy 2 dX10_image_49 rfl rfl ?_
      obtain ⟨i22, hi22L, hi22⟩ := wl_at (σ := σ) (cx.bl 22 rfl)
      have hx22 : (wl E σ ++ wk_X9_init (eY E) n ad)[i22]? = some (eA E 22, .inl (eY E 3, 2, .inr (.inr (.inr (.inr (fun j => if kept E j = true then some (eA E (52 + 7 * j)) else none)))))) := by
        rw [List.getElem?_append_left (List.getElem?_eq_some_iff.mp hi22).1]
        exact hi22
      have hxn : (wl E σ ++ wk_X9_init (eY E) n ad)[(wl E σ).length]? = some (n, .inr (8, [.int 0, .int 0, .int 0, .int 0, .int 0, .ref (ad 1), .ref (ad 2), .ref (ad 3), .ref (ad 4), .ref (ad 5), .ref (ad 6)])) := by
        rw [List.getElem?_append_right (Nat.le_refl _), Nat.sub_self]
        rfl
      refine wb_aastW (pc := 50) cy 0 hx22 hxn rfl (by decide) dX10_image_50 ?_
      intro H locs ls hP hD hS hl
      have hDE : va_D (AE E s.heap.size) (wl E σ) := by
        have key : ∀ (i : Nat) (x : Nat × va_E), (wl E σ)[i]? = some x → ∃ y, ((wl E σ ++ wk_X9_init (eY E) n ad).set i22 (eA E 22, .inl (eY E 3, 2, .inr (.inr (.inr (.inr (va_up (fun j => if kept E j = true then some (eA E (52 + 7 * j)) else none) 0 (some n)))))) ))[i]? = some y ∧ y.1 = x.1 := by
          intro i x hx
          have hil := (List.getElem?_eq_some_iff.mp hx).1
          by_cases hii : i = i22
          · subst hii
            rw [List.getElem?_set_self (by rw [List.length_append]; omega)]
            exact ⟨_, rfl, by rw [hi22] at hx; cases hx; rfl⟩
          · rw [List.getElem?_set_ne (Ne.symm hii), List.getElem?_append_left hil]
            exact ⟨x, hx, rfl⟩
        refine ⟨fun i j x y hx hy hxy => ?_, fun i x hx => ?_⟩
        · obtain ⟨x1, g1, g2⟩ := key i x hx
          obtain ⟨y1, g3, g4⟩ := key j y hy
          exact hD.1 i j x1 y1 g1 g3 (g2.trans (hxy.trans g4.symm))
        · obtain ⟨x1, g1, g2⟩ := key i x hx
          rw [← g2]
          exact hD.2 i x1 g1
      have e9 := img_new (σ := σ) (q := n) (ad := ad) (by decide) hI.1 hno hi22L hDE (wk_X9_init (eY E) n ad) rfl
      rw [e9] at hP hD
      have hX : EX E (nwE E 0 n ad) := EX_nwE hno
      have hA := AE_ex hX hD
      have cf := CX_ex cx hX hA
      have hIF : IC (nwE E 0 n ad) := IC_nwE (by decide) hI
      have hkF : kept (nwE E 0 n ad) = fun i => decide (i = (0 : Int32).toNatClampNeg) || kept E i := funext (fun i => nwE_kept i)
      have hiF : ∀ c, 52 ≤ c → c < 59 → c ∈ eL (nwE E 0 n ad) := fun c h1 h2 => (hIF.2 0 (by decide) c h1 h2).mpr (by rw [nwE_kept]; simp)
      suffices K : WA p l e (rmc 2 7 84) s m args below meth c 3 (nwE E 0 n ad) 7 84 (MQ below (QcI E s.heap.size (fun i => decide (i = (0 : Int32).toNatClampNeg) || kept E i) q) args s 7 84 (AE E s.heap.size)) 51 [some (.ref (eA (nwE E 0 n ad) 0)), some (.int 0), some (.ref (eA (nwE E 0 n ad) 52))] [] (zer σ 0) by
        exact K H locs ls hP (by rw [hA]; exact hD) (by rw [hA]; exact hS) hl
      refine wa_aload_n (pc := 51) cf 2 dX10_image_51 rfl rfl ?_
      refine wa_aload_n (pc := 52) cf 0 dX10_image_52 rfl rfl ?_
      refine wa_getR (pc := 53) cf fl_X10_26 lk_0 rfl (cf.bl 0 rfl) dX10_image_53 ?_
      obtain ⟨q1, h1, hf⟩ := bd_some hf
      have h1 : fX9_becomeAs_52_8 (zer σ 0) = some q1 := by rw [show img (kept E) 0 σ = zer σ 0 from if_neg h] at h1; exact h1
      refine wa_callVv (pc := 56) cf [.ref (eA (nwE E 0 n ad) 8)] (ct_X9_becomeAs_52_8 l _ hiF _ _ h1) mi_X9_becomeAs tw_546 lk_52 rfl (hiF 52 (by decide) (by decide)) rfl rfl (Nat.le_of_ble_eq_true rfl) ⟨Nat.le_of_ble_eq_true rfl, Nat.le_of_ble_eq_true rfl⟩ ⟨Nat.le_refl _, Nat.le_refl _⟩ dX10_image_56 ?_
      refine wa_iconst (pc := 59) (v := 1) cf dX10_image_59 (by decide) ?_
      obtain rfl := Option.some.inj hf
      exact wa_iretI (pc := 60) cf hX hIF hkF hA (Nat.le_refl _) (Nat.le_refl _) dX10_image_60
  · have hf := (if_neg (show ¬ (1 : Int32) = 0 by decide)).symm.trans hf
    refine wa_aaldW (pc := 30) cx (cx.bl 22 rfl) (by decide) dX10_image_30 (fun h => ?_) (fun h => ?_)
    · have h : kept E 1 = true := h
      have hi : ∀ c, 59 ≤ c → c < 66 → c ∈ eL E := fun c h1 h2 => (hI.2 1 (by decide) c h1 h2).mpr h
      have hbb : kept E = fun i => decide (i = (1 : Int32).toNatClampNeg) || kept E i := by
        funext i
        by_cases hi2 : i = 1
        · subst hi2
          rw [h]
          rfl
        · rw [show (1 : Int32).toNatClampNeg = 1 from rfl]
          simp [hi2]
      refine wa_astore_n (pc := 31) (x := eA E 59) cx 2 [some (.ref (eA E 0)), some (.int 1), some (.ref (eA E 59))] dX10_image_31 rfl (by decide) rfl rfl ?_
      refine wa_aload_n (pc := 32) cx 2 dX10_image_32 rfl rfl ?_
      refine wa_ifnn (pc := 33) cx 51 dX10_image_33 rfl ?_
      refine wa_aload_n (pc := 51) cx 2 dX10_image_51 rfl rfl ?_
      refine wa_aload_n (pc := 52) cx 0 dX10_image_52 rfl rfl ?_
      refine wa_getR (pc := 53) cx fl_X10_26 lk_0 rfl (cx.bl 0 rfl) dX10_image_53 ?_
      obtain ⟨q1, h1, hf⟩ := bd_some hf
      have h1 : fX9_becomeAs_59_8 σ = some q1 := by rw [show img (kept E) 1 σ = σ from if_pos h] at h1; exact h1
      refine wa_callVv (pc := 56) cx [.ref (eA E 8)] (ct_X9_becomeAs_59_8 l E hi _ _ h1) mi_X9_becomeAs tw_546 lk_59 rfl (hi 59 (by decide) (by decide)) rfl rfl (Nat.le_of_ble_eq_true rfl) ⟨Nat.le_of_ble_eq_true rfl, Nat.le_of_ble_eq_true rfl⟩ ⟨Nat.zero_le _, Nat.zero_le _⟩ dX10_image_56 ?_
      refine wa_iconst (pc := 59) (v := 1) cx dX10_image_59 (by decide) ?_
      obtain rfl := Option.some.inj hf
      exact wa_iretI (pc := 60) cx (EX.refl E) hI hbb rfl (Nat.zero_le _) (Nat.zero_le _) dX10_image_60
    · have h : ¬ kept E 1 = true := h
      have hno : ∀ c, 52 + 7 * 1 ≤ c → c < 59 + 7 * 1 → c ∉ eL E := fun c h1 h2 hc => h ((hI.2 1 (by decide) c h1 h2).mp hc)
      refine wa_astoreN (pc := 31) cx 2 [some (.ref (eA E 0)), some (.int 1), some .null] dX10_image_31 rfl (by decide) rfl rfl ?_
      refine wa_aloadN (pc := 32) cx 2 dX10_image_32 rfl rfl ?_
      refine wa_ifnnN (pc := 33) cx dX10_image_33 ?_
      have cy : CY p s m args meth c cX10_image RX10 3 (eD E) (eY E) (AE E s.heap.size) := ⟨cx.1, cx.2.1, cx.2.2.1, cx.2.2.2.1, cx.2.2.2.2.1, cx.2.2.2.2.2.1, fun q h => Or.inr h, hNF⟩
      show WB p l e (rmc 2 7 84) s m args below meth c 3 (eD E) (AE E s.heap.size) _ 0 0 36 [some (.ref (eA E 0)), some (.int 1), some .null] [] (wl E σ)
      refine wb_new (pc := 36) (C := RX9) (T := TX9) (N := 11) (ci := 8) (fs := [.int 0, .int 0, .int 0, .int 0, .int 0, .null, .null, .null, .null, .null, .null]) cy tyX9 tw_147 tw_148 tw_62 inX9 tyX9_ok rfl (by decide +kernel) (Nat.le_of_ble_eq_true rfl) (Nat.le_of_ble_eq_true rfl) dX10_image_36 (fun n => ?_)
      refine wb_dup (pc := 39) cy dX10_image_39 rfl ?_
      refine wb_ctorN (pc := 40) cy (wl E σ) (ck_X9_init l (eD E) (eY E) n) mc_X9_init cy.2.2.2.2.2.2.2.2.2.2.1 rfl rfl (Nat.le_of_ble_eq_true rfl) ⟨Nat.le_of_ble_eq_true rfl, Nat.le_of_ble_eq_true rfl⟩ ⟨Nat.le_of_ble_eq_true rfl, Nat.le_of_ble_eq_true rfl⟩ dX10_image_40 (fun ad => ?_)
      refine wb_astore_n (pc := 43) cy 2 [some (.ref (eA E 0)), some (.int 1), some (.ref n)] dX10_image_43 rfl (by decide) rfl rfl ?_
      refine wb_aload_n (pc := 44) cy 0 dX10_image_44 rfl rfl ?_
      obtain ⟨i0, hi0L, hi0⟩ := wl_at (σ := σ) (cx.bl 0 rfl)
      have hx0 : (wl E σ ++ wk_X9_init (eY E) n ad)[i0]? = some (eA E 0, .inr (9, fvs E σ 0 0 [3, 7, 10, 17, 24, 25, 27, 33, 36, 38, 0, 0])) := by
        rw [List.getElem?_append_left (List.getElem?_eq_some_iff.mp hi0).1]
        exact hi0
      refine wb_get (i := i0) (v := .ref (eA E 22)) (pc := 45) cy fl_X10_33 hx0 rfl dX10_image_45 ?_
      refine wb_iload_n (pc := 48) cy 1 dX10_image_48 rfl rfl ?_
      refine wb_aload_n (pc := 49) cy 2 dX10_image_49 rfl rfl ?_
      obtain ⟨i22, hi22L, hi22⟩ := wl_at (σ := σ) (cx.bl 22 rfl)
      have hx22 : (wl E σ ++ wk_X9_init (eY E) n ad)[i22]? = some (eA E 22, .inl (eY E 3, 2, .inr (.inr (.inr (.inr (fun j => if kept E j = true then some (eA E (52 + 7 * j)) else none)))))) := by
        rw [List.getElem?_append_left (List.getElem?_eq_some_iff.mp hi22).1]
        exact hi22
      have hxn : (wl E σ ++ wk_X9_init (eY E) n ad)[(wl E σ).length]? = some (n, .inr (8, [.int 0, .int 0, .int 0, .int 0, .int 0, .ref (ad 1), .ref (ad 2), .ref (ad 3), .ref (ad 4), .ref (ad 5), .ref (ad 6)])) := by
        rw [List.getElem?_append_right (Nat.le_refl _), Nat.sub_self]
        rfl
      refine wb_aastW (pc := 50) cy 1 hx22 hxn rfl (by decide) dX10_image_50 ?_
      intro H locs ls hP hD hS hl
      have hDE : va_D (AE E s.heap.size) (wl E σ) := by
        have key : ∀ (i : Nat) (x : Nat × va_E), (wl E σ)[i]? = some x → ∃ y, ((wl E σ ++ wk_X9_init (eY E) n ad).set i22 (eA E 22, .inl (eY E 3, 2, .inr (.inr (.inr (.inr (va_up (fun j => if kept E j = true then some (eA E (52 + 7 * j)) else none) 1 (some n)))))) ))[i]? = some y ∧ y.1 = x.1 := by
          intro i x hx
          have hil := (List.getElem?_eq_some_iff.mp hx).1
          by_cases hii : i = i22
          · subst hii
            rw [List.getElem?_set_self (by rw [List.length_append]; omega)]
            exact ⟨_, rfl, by rw [hi22] at hx; cases hx; rfl⟩
          · rw [List.getElem?_set_ne (Ne.symm hii), List.getElem?_append_left hil]
            exact ⟨x, hx, rfl⟩
        refine ⟨fun i j x y hx hy hxy => ?_, fun i x hx => ?_⟩
        · obtain ⟨x1, g1, g2⟩ := key i x hx
          obtain ⟨y1, g3, g4⟩ := key j y hy
          exact hD.1 i j x1 y1 g1 g3 (g2.trans (hxy.trans g4.symm))
        · obtain ⟨x1, g1, g2⟩ := key i x hx
          rw [← g2]
          exact hD.2 i x1 g1
      have e9 := img_new (σ := σ) (q := n) (ad := ad) (by decide) hI.1 hno hi22L hDE (wk_X9_init (eY E) n ad) rfl
      rw [e9] at hP hD
      have hX : EX E (nwE E 1 n ad) := EX_nwE hno
      have hA := AE_ex hX hD
      have cf := CX_ex cx hX hA
      have hIF : IC (nwE E 1 n ad) := IC_nwE (by decide) hI
      have hkF : kept (nwE E 1 n ad) = fun i => decide (i = (1 : Int32).toNatClampNeg) || kept E i := funext (fun i => nwE_kept i)
      have hiF : ∀ c, 59 ≤ c → c < 66 → c ∈ eL (nwE E 1 n ad) := fun c h1 h2 => (hIF.2 1 (by decide) c h1 h2).mpr (by rw [nwE_kept]; simp)
      suffices K : WA p l e (rmc 2 7 84) s m args below meth c 3 (nwE E 1 n ad) 7 84 (MQ below (QcI E s.heap.size (fun i => decide (i = (1 : Int32).toNatClampNeg) || kept E i) q) args s 7 84 (AE E s.heap.size)) 51 [some (.ref (eA (nwE E 1 n ad) 0)), some (.int 1), some (.ref (eA (nwE E 1 n ad) 59))] [] (zer σ 1) by
        exact K H locs ls hP (by rw [hA]; exact hD) (by rw [hA]; exact hS) hl
      refine wa_aload_n (pc := 51) cf 2 dX10_image_51 rfl rfl ?_
      refine wa_aload_n (pc := 52) cf 0 dX10_image_52 rfl rfl ?_
      refine wa_getR (pc := 53) cf fl_X10_26 lk_0 rfl (cf.bl 0 rfl) dX10_image_53 ?_
      obtain ⟨q1, h1, hf⟩ := bd_some hf
      have h1 : fX9_becomeAs_59_8 (zer σ 1) = some q1 := by rw [show img (kept E) 1 σ = zer σ 1 from if_neg h] at h1; exact h1
      refine wa_callVv (pc := 56) cf [.ref (eA (nwE E 1 n ad) 8)] (ct_X9_becomeAs_59_8 l _ hiF _ _ h1) mi_X9_becomeAs tw_546 lk_59 rfl (hiF 59 (by decide) (by decide)) rfl rfl (Nat.le_of_ble_eq_true rfl) ⟨Nat.le_of_ble_eq_true rfl, Nat.le_of_ble_eq_true rfl⟩ ⟨Nat.le_refl _, Nat.le_refl _⟩ dX10_image_56 ?_
      refine wa_iconst (pc := 59) (v := 1) cf dX10_image_59 (by decide) ?_
      obtain rfl := Option.some.inj hf
      exact wa_iretI (pc := 60) cf hX hIF hkF hA (Nat.le_refl _) (Nat.le_refl _) dX10_image_60
