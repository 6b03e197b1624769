def fX4_isOne_B4 (v1 : Int32) (v2 : Int32) (v3 : Int32) (σ : Sg) : Option ((Int32 × Int32) ⊕ (Int32)) :=
  if (5 : Int32) ≤ v3 then (some (.inr v2)) else (if v2 = v1 then (some (.inr v2)) else (gd (inb v2 6) (
  some (.inl ((stv 0).getD (v2).toNatClampNeg 0, (v3 + 1))))))
def fX4_isOne (a1 : Int32) (a2 : Int32) (σ : Sg) : Option (Int32) :=
  (lpO (fun w => fX4_isOne_B4 a2 w.1 w.2 σ) FUEL (a1, 0)).bind (fun o4 =>
  if o4 = a2 then (some 1) else (some 0))
set_option maxHeartbeats 4000000 in
set_option maxRecDepth 100000 in
theorem ct_X4_isOne (l : Launch) (E : En) (σ : Sg) (a1 : Int32) (a2 : Int32) (q : Int32) (hf : fX4_isOne a1 a2 σ = some q) : CT l yX4_isOne cX4_isOne 4 (some .boolean) 0 E σ [.int a1, .int a2] (some (.int q)) σ := by
  refine CT.of RX4 [some (.int a1), some (.int a2), none, none] rfl (by decide +kernel) (Nat.le_of_ble_eq_true rfl) rfl ?_
  intro p e s m args below meth c cx
  unfold fX4_isOne at hf
  have l4 : ∀ (v1 : Int32) (σ : Sg) (y : Int32 × Int32) (o : Int32), lpO (fun w => fX4_isOne_B4 v1 w.1 w.2 σ) FUEL y = some o → (WA p l e (rmd 0) s m args below meth c 4 E 0 0 (MQ below (Qcq E s.heap.size (some (.int q)) σ) args s 0 0 (AE E s.heap.size)) 26 [none, some (.int v1), some (.int o), none] [] σ) → WA p l e (rmd 0) s m args below meth c 4 E 0 0 (MQ below (Qcq E s.heap.size (some (.int q)) σ) args s 0 0 (AE E s.heap.size)) 4 [none, some (.int v1), some (.int y.1), some (.int y.2)] [] σ := by
    intro v1 σ y o hf hk
    refine lp_rule (P := fun y => WA p l e (rmd 0) s m args below meth c 4 E 0 0 (MQ below (Qcq E s.heap.size (some (.int q)) σ) args s 0 0 (AE E s.heap.size)) 4 [none, some (.int v1), some (.int y.1), some (.int y.2)] [] σ) (K := fun o => WA p l e (rmd 0) s m args below meth c 4 E 0 0 (MQ below (Qcq E s.heap.size (some (.int q)) σ) args s 0 0 (AE E s.heap.size)) 26 [none, some (.int v1), some (.int o), none] [] σ) ?_ FUEL y o hf hk
    intro y0 r1 hf hk1
    obtain ⟨v2, v3⟩ := y0
    have hf : fX4_isOne_B4 v1 v2 v3 σ = some r1 := hf
    unfold fX4_isOne_B4 at hf
    refine wa_iload_n (pc := 4) cx 3 dX4_isOne_4 rfl rfl ?_
    refine wa_iconst (pc := 5) (v := 5) cx dX4_isOne_5 (by decide) ?_
    refine wa_icmp_ge (pc := 6) cx 26 dX4_isOne_6 rfl (fun c1 => ?_) (fun c1 => ?_)
    · have hf := (if_pos c1).symm.trans hf
      obtain rfl := Option.some.inj hf
      refine wa_forget [false, true, true, false] [none, some (.int v1), some (.int v2), none] rfl ?_
      exact hk1
    · have hf := (if_neg c1).symm.trans hf
      refine wa_iload_n (pc := 9) cx 2 dX4_isOne_9 rfl rfl ?_
      refine wa_iload_n (pc := 10) cx 1 dX4_isOne_10 rfl rfl ?_
      refine wa_icmp_eq (pc := 11) cx 26 dX4_isOne_11 rfl (fun c2 => ?_) (fun c2 => ?_)
      · have hf := (if_pos c2).symm.trans hf
        obtain rfl := Option.some.inj hf
        refine wa_forget [false, true, true, false] [none, some (.int v1), some (.int v2), none] rfl ?_
        exact hk1
      · have hf := (if_neg c2).symm.trans hf
        refine wa_gets (pc := 14) cx 0 (by decide) tw_793 dX4_isOne_14 ?_
        refine wa_iload_n (pc := 17) cx 2 dX4_isOne_17 rfl rfl ?_
        obtain ⟨g3, hf⟩ := gd_some hf
        refine wa_tald (pc := 18) cx (by decide) g3 dX4_isOne_18 ?_
        refine wa_istore_n (pc := 19) cx 2 [none, some (.int v1), some (.int ((stv 0).getD (v2).toNatClampNeg 0)), some (.int v3)] dX4_isOne_19 rfl (by decide) rfl rfl ?_
        refine wa_iinc (pc := 20) (v := 1) cx 3 [none, some (.int v1), some (.int ((stv 0).getD (v2).toNatClampNeg 0)), some (.int (v3 + 1))] dX4_isOne_20 (by decide) rfl (by decide) rfl rfl ?_
        refine wa_goto (pc := 23) cx 4 dX4_isOne_23 rfl ?_
        obtain rfl := Option.some.inj hf
        refine wa_forget [false, true, true, true] [none, some (.int v1), some (.int ((stv 0).getD (v2).toNatClampNeg 0)), some (.int (v3 + 1))] rfl ?_
        exact hk1
  refine wa_iload_n (pc := 0) cx 0 dX4_isOne_0 rfl rfl ?_
  refine wa_istore_n (pc := 1) cx 2 [some (.int a1), some (.int a2), some (.int a1), none] dX4_isOne_1 rfl (by decide) rfl rfl ?_
  refine wa_iconst (pc := 2) (v := 0) cx dX4_isOne_2 (by decide) ?_
  refine wa_istore_n (pc := 3) cx 3 [some (.int a1), some (.int a2), some (.int a1), some (.int 0)] dX4_isOne_3 rfl (by decide) rfl rfl ?_
  refine wa_forget [false, true, true, true] [none, some (.int a2), some (.int a1), some (.int 0)] rfl ?_
  obtain ⟨o4, h6, hf⟩ := bd_some hf
  refine l4 _ _ _ _ h6 ?_
  refine wa_iload_n (pc := 26) cx 2 dX4_isOne_26 rfl rfl ?_
  refine wa_iload_n (pc := 27) cx 1 dX4_isOne_27 rfl rfl ?_
  refine wa_icmp_ne (pc := 28) cx 35 dX4_isOne_28 rfl (fun c5 => ?_) (fun c5 => ?_)
  · have hf := (if_neg c5).symm.trans hf
    refine wa_iconst (pc := 35) (v := 0) cx dX4_isOne_35 (by decide) ?_
    obtain rfl := Option.some.inj hf
    exact wa_zret (pc := 36) cx rfl dX4_isOne_36
  · have hf := (if_pos c5).symm.trans hf
    refine wa_iconst (pc := 31) (v := 1) cx dX4_isOne_31 (by decide) ?_
    refine wa_goto (pc := 32) cx 36 dX4_isOne_32 rfl ?_
    obtain rfl := Option.some.inj hf
    exact wa_zret (pc := 36) cx rfl dX4_isOne_36
def fX4_nearest_T2_B4  (v2 : Int32) (v3 : Int32) (σ : Sg) : Option ((Int32 × Int32) ⊕ (Int32)) :=
  if (5 : Int32) ≤ v3 then (some (.inr v2)) else (gd (inb v2 6) (
  if (stv 2).getD (v2).toNatClampNeg 0 = 0 then (gd (inb v2 6) (
  some (.inl ((stv 0).getD (v2).toNatClampNeg 0, (v3 + 1))))) else (some (.inr v2))))
def fX4_nearest_T2 (a2 : Int32) (σ : Sg) : Option (Int32) :=
  (lpO (fun w => fX4_nearest_T2_B4  w.1 w.2 σ) FUEL (a2, 0)).bind (fun o5 =>
  gd (inb o5 6) (
  some ((stv 2).getD (o5).toNatClampNeg 0)))
set_option maxHeartbeats 4000000 in
set_option maxRecDepth 100000 in
theorem ct_X4_nearest_T2 (l : Launch) (E : En) (σ : Sg) (a2 : Int32) (q : Int32) (hf : fX4_nearest_T2 a2 σ = some q) : CT l yX4_nearest cX4_nearest 4 (some .int) 0 E σ [.ref (eT E 2), .int a2] (some (.int q)) σ := by
  refine CT.of RX4 [some (.ref (eT E 2)), some (.int a2), none, none] rfl (by decide +kernel) (Nat.le_of_ble_eq_true rfl) rfl ?_
  intro p e s m args below meth c cx
  unfold fX4_nearest_T2 at hf
  have l4 : ∀  (σ : Sg) (y : Int32 × Int32) (o : Int32), lpO (fun w => fX4_nearest_T2_B4  w.1 w.2 σ) FUEL y = some o → (WA p l e (rmd 0) s m args below meth c 4 E 0 0 (MQ below (Qcq E s.heap.size (some (.int q)) σ) args s 0 0 (AE E s.heap.size)) 27 [some (.ref (eT E 2)), none, some (.int o), none] [] σ) → WA p l e (rmd 0) s m args below meth c 4 E 0 0 (MQ below (Qcq E s.heap.size (some (.int q)) σ) args s 0 0 (AE E s.heap.size)) 4 [some (.ref (eT E 2)), none, some (.int y.1), some (.int y.2)] [] σ := by
    intro  σ y o hf hk
    refine lp_rule (P := fun y => WA p l e (rmd 0) s m args below meth c 4 E 0 0 (MQ below (Qcq E s.heap.size (some (.int q)) σ) args s 0 0 (AE E s.heap.size)) 4 [some (.ref (eT E 2)), none, some (.int y.1), some (.int y.2)] [] σ) (K := fun o => WA p l e (rmd 0) s m args below meth c 4 E 0 0 (MQ below (Qcq E s.heap.size (some (.int q)) σ) args s 0 0 (AE E s.heap.size)) 27 [some (.ref (eT E 2)), none, some (.int o), none] [] σ) ?_ FUEL y o hf hk
    intro y0 r1 hf hk1
    obtain ⟨v2, v3⟩ := y0
    have hf : fX4_nearest_T2_B4  v2 v3 σ = some r1 := hf
    unfold fX4_nearest_T2_B4 at hf
    refine wa_iload_n (pc := 4) cx 3 dX4_nearest_4 rfl rfl ?_
    refine wa_iconst (pc := 5) (v := 5) cx dX4_nearest_5 (by decide) ?_
    refine wa_icmp_ge (pc := 6) cx 27 dX4_nearest_6 rfl (fun c1 => ?_) (fun c1 => ?_)
    · have hf := (if_pos c1).symm.trans hf
      obtain rfl := Option.some.inj hf
      refine wa_forget [true, false, true, false] [some (.ref (eT E 2)), none, some (.int v2), none] rfl ?_
      exact hk1
    · have hf := (if_neg c1).symm.trans hf
      refine wa_aload_n (pc := 9) cx 0 dX4_nearest_9 rfl rfl ?_
      refine wa_iload_n (pc := 10) cx 2 dX4_nearest_10 rfl rfl ?_
      obtain ⟨g2, hf⟩ := gd_some hf
      refine wa_tald (pc := 11) cx (by decide) g2 dX4_nearest_11 ?_
      refine wa_if_ne (pc := 12) cx 27 dX4_nearest_12 rfl (fun c3 => ?_) (fun c3 => ?_)
      · have hf := (if_neg c3).symm.trans hf
        obtain rfl := Option.some.inj hf
        refine wa_forget [true, false, true, false] [some (.ref (eT E 2)), none, some (.int v2), none] rfl ?_
        exact hk1
      · have hf := (if_pos c3).symm.trans hf
        refine wa_gets (pc := 15) cx 0 (by decide) tw_793 dX4_nearest_15 ?_
        refine wa_iload_n (pc := 18) cx 2 dX4_nearest_18 rfl rfl ?_
        obtain ⟨g4, hf⟩ := gd_some hf
        refine wa_tald (pc := 19) cx (by decide) g4 dX4_nearest_19 ?_
        refine wa_istore_n (pc := 20) cx 2 [some (.ref (eT E 2)), none, some (.int ((stv 0).getD (v2).toNatClampNeg 0)), some (.int v3)] dX4_nearest_20 rfl (by decide) rfl rfl ?_
        refine wa_iinc (pc := 21) (v := 1) cx 3 [some (.ref (eT E 2)), none, some (.int ((stv 0).getD (v2).toNatClampNeg 0)), some (.int (v3 + 1))] dX4_nearest_21 (by decide) rfl (by decide) rfl rfl ?_
        refine wa_goto (pc := 24) cx 4 dX4_nearest_24 rfl ?_
        obtain rfl := Option.some.inj hf
        refine wa_forget [true, false, true, true] [some (.ref (eT E 2)), none, some (.int ((stv 0).getD (v2).toNatClampNeg 0)), some (.int (v3 + 1))] rfl ?_
        exact hk1
  refine wa_iload_n (pc := 0) cx 1 dX4_nearest_0 rfl rfl ?_
  refine wa_istore_n (pc := 1) cx 2 [some (.ref (eT E 2)), some (.int a2), some (.int a2), none] dX4_nearest_1 rfl (by decide) rfl rfl ?_
  refine wa_iconst (pc := 2) (v := 0) cx dX4_nearest_2 (by decide) ?_
  refine wa_istore_n (pc := 3) cx 3 [some (.ref (eT E 2)), some (.int a2), some (.int a2), some (.int 0)] dX4_nearest_3 rfl (by decide) rfl rfl ?_
  refine wa_forget [true, false, true, true] [some (.ref (eT E 2)), none, some (.int a2), some (.int 0)] rfl ?_
  obtain ⟨o5, h7, hf⟩ := bd_some hf
  refine l4  _ _ _ h7 ?_
  refine wa_aload_n (pc := 27) cx 0 dX4_nearest_27 rfl rfl ?_
  refine wa_iload_n (pc := 28) cx 2 dX4_nearest_28 rfl rfl ?_
  obtain ⟨g6, hf⟩ := gd_some hf
  refine wa_tald (pc := 29) cx (by decide) g6 dX4_nearest_29 ?_
  obtain rfl := Option.some.inj hf
  exact wa_iret (pc := 30) cx dX4_nearest_30
def fX4_markBody (a1 : Int32) (σ : Sg) : Option (Int32) :=
  (fX4_nearest_T2 a1 σ).bind (fun q1 =>
  some q1)
set_option maxHeartbeats 4000000 in
set_option maxRecDepth 100000 in
theorem ct_X4_markBody (l : Launch) (E : En) (σ : Sg) (a1 : Int32) (q : Int32) (hf : fX4_markBody a1 σ = some q) : CT l yX4_markBody cX4_markBody 1 (some .int) 1 E σ [.int a1] (some (.int q)) σ := by
  refine CT.of RX4 [some (.int a1)] rfl (by decide +kernel) (Nat.le_of_ble_eq_true rfl) rfl ?_
  intro p e s m args below meth c cx
  unfold fX4_markBody at hf
  refine wa_gets (pc := 0) cx 2 (by decide) tw_814 dX4_markBody_0 ?_
  refine wa_iload_n (pc := 3) cx 0 dX4_markBody_3 rfl rfl ?_
  obtain ⟨q1, h2, hf⟩ := bd_some hf
  refine wa_callSi (pc := 4) cx [.ref (eT E 2), .int a1] (ct_X4_nearest_T2 l E _ _ _ h2) ms_X4_nearest tw_808 rfl rfl (Nat.le_of_ble_eq_true rfl) ⟨Nat.le_of_ble_eq_true rfl, Nat.le_of_ble_eq_true rfl⟩ ⟨Nat.zero_le _, Nat.zero_le _⟩ dX4_markBody_4 ?_
  obtain rfl := Option.some.inj hf
  exact wa_iret (pc := 7) cx dX4_markBody_7
def fX4_nearest_T1_B4  (v2 : Int32) (v3 : Int32) (σ : Sg) : Option ((Int32 × Int32) ⊕ (Int32)) :=
  if (5 : Int32) ≤ v3 then (some (.inr v2)) else (gd (inb v2 6) (
  if (stv 1).getD (v2).toNatClampNeg 0 = 0 then (gd (inb v2 6) (
  some (.inl ((stv 0).getD (v2).toNatClampNeg 0, (v3 + 1))))) else (some (.inr v2))))
def fX4_nearest_T1 (a2 : Int32) (σ : Sg) : Option (Int32) :=
  (lpO (fun w => fX4_nearest_T1_B4  w.1 w.2 σ) FUEL (a2, 0)).bind (fun o5 =>
  gd (inb o5 6) (
  some ((stv 1).getD (o5).toNatClampNeg 0)))
set_option maxHeartbeats 4000000 in
set_option maxRecDepth 100000 in
theorem ct_X4_nearest_T1 (l : Launch) (E : En) (σ : Sg) (a2 : Int32) (q : Int32) (hf : fX4_nearest_T1 a2 σ = some q) : CT l yX4_nearest cX4_nearest 4 (some .int) 0 E σ [.ref (eT E 1), .int a2] (some (.int q)) σ := by
  refine CT.of RX4 [some (.ref (eT E 1)), some (.int a2), none, none] rfl (by decide +kernel) (Nat.le_of_ble_eq_true rfl) rfl ?_
  intro p e s m args below meth c cx
  unfold fX4_nearest_T1 at hf
  have l4 : ∀  (σ : Sg) (y : Int32 × Int32) (o : Int32), lpO (fun w => fX4_nearest_T1_B4  w.1 w.2 σ) FUEL y = some o → (WA p l e (rmd 0) s m args below meth c 4 E 0 0 (MQ below (Qcq E s.heap.size (some (.int q)) σ) args s 0 0 (AE E s.heap.size)) 27 [some (.ref (eT E 1)), none, some (.int o), none] [] σ) → WA p l e (rmd 0) s m args below meth c 4 E 0 0 (MQ below (Qcq E s.heap.size (some (.int q)) σ) args s 0 0 (AE E s.heap.size)) 4 [some (.ref (eT E 1)), none, some (.int y.1), some (.int y.2)] [] σ := by
    intro  σ y o hf hk
    refine lp_rule (P := fun y => WA p l e (rmd 0) s m args below meth c 4 E 0 0 (MQ below (Qcq E s.heap.size (some (.int q)) σ) args s 0 0 (AE E s.heap.size)) 4 [some (.ref (eT E 1)), none, some (.int y.1), some (.int y.2)] [] σ) (K := fun o => WA p l e (rmd 0) s m args below meth c 4 E 0 0 (MQ below (Qcq E s.heap.size (some (.int q)) σ) args s 0 0 (AE E s.heap.size)) 27 [some (.ref (eT E 1)), none, some (.int o), none] [] σ) ?_ FUEL y o hf hk
    intro y0 r1 hf hk1
    obtain ⟨v2, v3⟩ := y0
    have hf : fX4_nearest_T1_B4  v2 v3 σ = some r1 := hf
    unfold fX4_nearest_T1_B4 at hf
    refine wa_iload_n (pc := 4) cx 3 dX4_nearest_4 rfl rfl ?_
    refine wa_iconst (pc := 5) (v := 5) cx dX4_nearest_5 (by decide) ?_
    refine wa_icmp_ge (pc := 6) cx 27 dX4_nearest_6 rfl (fun c1 => ?_) (fun c1 => ?_)
    · have hf := (if_pos c1).symm.trans hf
      obtain rfl := Option.some.inj hf
      refine wa_forget [true, false, true, false] [some (.ref (eT E 1)), none, some (.int v2), none] rfl ?_
      exact hk1
    · have hf := (if_neg c1).symm.trans hf
      refine wa_aload_n (pc := 9) cx 0 dX4_nearest_9 rfl rfl ?_
      refine wa_iload_n (pc := 10) cx 2 dX4_nearest_10 rfl rfl ?_
      obtain ⟨g2, hf⟩ := gd_some hf
      refine wa_tald (pc := 11) cx (by decide) g2 dX4_nearest_11 ?_
      refine wa_if_ne (pc := 12) cx 27 dX4_nearest_12 rfl (fun c3 => ?_) (fun c3 => ?_)
      · have hf := (if_neg c3).symm.trans hf
        obtain rfl := Option.some.inj hf
        refine wa_forget [true, false, true, false] [some (.ref (eT E 1)), none, some (.int v2), none] rfl ?_
        exact hk1
      · have hf := (if_pos c3).symm.trans hf
        refine wa_gets (pc := 15) cx 0 (by decide) tw_793 dX4_nearest_15 ?_
        refine wa_iload_n (pc := 18) cx 2 dX4_nearest_18 rfl rfl ?_
        obtain ⟨g4, hf⟩ := gd_some hf
        refine wa_tald (pc := 19) cx (by decide) g4 dX4_nearest_19 ?_
        refine wa_istore_n (pc := 20) cx 2 [some (.ref (eT E 1)), none, some (.int ((stv 0).getD (v2).toNatClampNeg 0)), some (.int v3)] dX4_nearest_20 rfl (by decide) rfl rfl ?_
        refine wa_iinc (pc := 21) (v := 1) cx 3 [some (.ref (eT E 1)), none, some (.int ((stv 0).getD (v2).toNatClampNeg 0)), some (.int (v3 + 1))] dX4_nearest_21 (by decide) rfl (by decide) rfl rfl ?_
        refine wa_goto (pc := 24) cx 4 dX4_nearest_24 rfl ?_
        obtain rfl := Option.some.inj hf
        refine wa_forget [true, false, true, true] [some (.ref (eT E 1)), none, some (.int ((stv 0).getD (v2).toNatClampNeg 0)), some (.int (v3 + 1))] rfl ?_
        exact hk1
  refine wa_iload_n (pc := 0) cx 1 dX4_nearest_0 rfl rfl ?_
  refine wa_istore_n (pc := 1) cx 2 [some (.ref (eT E 1)), some (.int a2), some (.int a2), none] dX4_nearest_1 rfl (by decide) rfl rfl ?_
  refine wa_iconst (pc := 2) (v := 0) cx dX4_nearest_2 (by decide) ?_
  refine wa_istore_n (pc := 3) cx 3 [some (.ref (eT E 1)), some (.int a2), some (.int a2), some (.int 0)] dX4_nearest_3 rfl (by decide) rfl rfl ?_
  refine wa_forget [true, false, true, true] [some (.ref (eT E 1)), none, some (.int a2), some (.int 0)] rfl ?_
  obtain ⟨o5, h7, hf⟩ := bd_some hf
  refine l4  _ _ _ h7 ?_
  refine wa_aload_n (pc := 27) cx 0 dX4_nearest_27 rfl rfl ?_
  refine wa_iload_n (pc := 28) cx 2 dX4_nearest_28 rfl rfl ?_
  obtain ⟨g6, hf⟩ := gd_some hf
  refine wa_tald (pc := 29) cx (by decide) g6 dX4_nearest_29 ?_
  obtain rfl := Option.some.inj hf
  exact wa_iret (pc := 30) cx dX4_nearest_30
def fX4_sizeBody (a1 : Int32) (σ : Sg) : Option (Int32) :=
  (fX4_nearest_T1 a1 σ).bind (fun q1 =>
  some q1)
set_option maxHeartbeats 4000000 in
set_option maxRecDepth 100000 in
theorem ct_X4_sizeBody (l : Launch) (E : En) (σ : Sg) (a1 : Int32) (q : Int32) (hf : fX4_sizeBody a1 σ = some q) : CT l yX4_sizeBody cX4_sizeBody 1 (some .int) 1 E σ [.int a1] (some (.int q)) σ := by
  refine CT.of RX4 [some (.int a1)] rfl (by decide +kernel) (Nat.le_of_ble_eq_true rfl) rfl ?_
  intro p e s m args below meth c cx
  unfold fX4_sizeBody at hf
  refine wa_gets (pc := 0) cx 1 (by decide) tw_806 dX4_sizeBody_0 ?_
  refine wa_iload_n (pc := 3) cx 0 dX4_sizeBody_3 rfl rfl ?_
  obtain ⟨q1, h2, hf⟩ := bd_some hf
  refine wa_callSi (pc := 4) cx [.ref (eT E 1), .int a1] (ct_X4_nearest_T1 l E _ _ _ h2) ms_X4_nearest tw_808 rfl rfl (Nat.le_of_ble_eq_true rfl) ⟨Nat.le_of_ble_eq_true rfl, Nat.le_of_ble_eq_true rfl⟩ ⟨Nat.zero_le _, Nat.zero_le _⟩ dX4_sizeBody_4 ?_
  obtain rfl := Option.some.inj hf
  exact wa_iret (pc := 7) cx dX4_sizeBody_7
