def fX9_brokenVows_J31 (v2 : Int32) (t1 : Int32) (t0 : Int32) (σ : Sg) : Option ((Int32 × Int32) ⊕ (Int32)) :=
  some (.inl ((t0 + t1), (v2 + 1)))
def fX9_brokenVows_B4  (v1 : Int32) (v2 : Int32) (σ : Sg) : Option ((Int32 × Int32) ⊕ (Int32)) :=
  if gf σ 8 4 ≤ v2 then (some (.inr v1)) else (gd (inb (9 + v2) 36) (
  if ga σ 14 (9 + v2) = 2 then (fX9_brokenVows_J31 v2 1 v1 σ) else (fX9_brokenVows_J31 v2 0 v1 σ)))
def fX9_brokenVows  (σ : Sg) : Option (Int32) :=
  (lpO (fun w => fX9_brokenVows_B4  w.1 w.2 σ) FUEL (0, 0)).bind (fun o4 =>
  some o4)
set_option maxHeartbeats 4000000 in
set_option maxRecDepth 100000 in
theorem ct_X9_brokenVows (l : Launch) (E : En) (σ : Sg)  (q : Int32) (hf : fX9_brokenVows  σ = some q) : CT l yX9_brokenVows cX9_brokenVows 3 (some .int) 0 E σ [.ref (eA E 8)] (some (.int q)) σ := by
  refine CT.of RX9 [some (.ref (eA E 8)), none, none] rfl (by decide +kernel) (Nat.le_of_ble_eq_true rfl) rfl ?_
  intro p e s m args below meth c cx
  unfold fX9_brokenVows at hf
  have l4 : ∀  (σ : Sg) (y : Int32 × Int32) (o : Int32), lpO (fun w => fX9_brokenVows_B4  w.1 w.2 σ) FUEL y = some o → (WA p l e (rmd 0) s m args below meth c 3 E 0 0 (MQ below (Qcq E s.heap.size (some (.int q)) σ) args s 0 0 (AE E s.heap.size)) 39 [none, some (.int o), none] [] σ) → WA p l e (rmd 0) s m args below meth c 3 E 0 0 (MQ below (Qcq E s.heap.size (some (.int q)) σ) args s 0 0 (AE E s.heap.size)) 4 [some (.ref (eA E 8)), some (.int y.1), some (.int y.2)] [] σ := by
    intro  σ y o hf hk
    refine lp_rule (P := fun y => WA p l e (rmd 0) s m args below meth c 3 E 0 0 (MQ below (Qcq E s.heap.size (some (.int q)) σ) args s 0 0 (AE E s.heap.size)) 4 [some (.ref (eA E 8)), some (.int y.1), some (.int y.2)] [] σ) (K := fun o => WA p l e (rmd 0) s m args below meth c 3 E 0 0 (MQ below (Qcq E s.heap.size (some (.int q)) σ) args s 0 0 (AE E s.heap.size)) 39 [none, some (.int o), none] [] σ) ?_ FUEL y o hf hk
    have j31 : ∀ (v2 : Int32) (t1 : Int32) (t0 : Int32) (σ : Sg) (r1 : (Int32 × Int32) ⊕ (Int32)), fX9_brokenVows_J31 v2 t1 t0 σ = some r1 → (sel (fun y1 => WA p l e (rmd 0) s m args below meth c 3 E 0 0 (MQ below (Qcq E s.heap.size (some (.int q)) σ) args s 0 0 (AE E s.heap.size)) 4 [some (.ref (eA E 8)), some (.int y1.1), some (.int y1.2)] [] σ) (fun y1 => WA p l e (rmd 0) s m args below meth c 3 E 0 0 (MQ below (Qcq E s.heap.size (some (.int q)) σ) args s 0 0 (AE E s.heap.size)) 39 [none, some (.int y1), none] [] σ) r1) → WA p l e (rmd 0) s m args below meth c 3 E 0 0 (MQ below (Qcq E s.heap.size (some (.int q)) σ) args s 0 0 (AE E s.heap.size)) 31 [some (.ref (eA E 8)), none, some (.int v2)] [.int t1, .int t0] σ := by
      intro v2 t1 t0 σ r1 hf hk1
      unfold fX9_brokenVows_J31 at hf
      refine wa_iadd (pc := 31) cx dX9_brokenVows_31 ?_
      refine wa_istore_n (pc := 32) cx 1 [some (.ref (eA E 8)), some (.int (t0 + t1)), some (.int v2)] dX9_brokenVows_32 rfl (by decide) rfl rfl ?_
      refine wa_iinc (pc := 33) (v := 1) cx 2 [some (.ref (eA E 8)), some (.int (t0 + t1)), some (.int (v2 + 1))] dX9_brokenVows_33 (by decide) rfl (by decide) rfl rfl ?_
      refine wa_goto (pc := 36) cx 4 dX9_brokenVows_36 rfl ?_
      obtain rfl := Option.some.inj hf
      refine wa_forget [true, true, true] [some (.ref (eA E 8)), some (.int (t0 + t1)), some (.int (v2 + 1))] rfl ?_
      exact hk1
    intro y0 r1 hf hk1
    obtain ⟨v1, v2⟩ := y0
    have hf : fX9_brokenVows_B4  v1 v2 σ = some r1 := hf
    unfold fX9_brokenVows_B4 at hf
    refine wa_iload_n (pc := 4) cx 2 dX9_brokenVows_4 rfl rfl ?_
    refine wa_aload_n (pc := 5) cx 0 dX9_brokenVows_5 rfl rfl ?_
    refine wa_getI (pc := 6) cx fl_X9_25 lk_8 rfl (cx.bl 8 rfl) dX9_brokenVows_6 ?_
    refine wa_icmp_ge (pc := 9) cx 39 dX9_brokenVows_9 rfl (fun c1 => ?_) (fun c1 => ?_)
    · have hf := (if_pos c1).symm.trans hf
      obtain rfl := Option.some.inj hf
      refine wa_forget [false, true, false] [none, some (.int v1), none] rfl ?_
      exact hk1
    · have hf := (if_neg c1).symm.trans hf
      refine wa_iload_n (pc := 12) cx 1 dX9_brokenVows_12 rfl rfl ?_
      refine wa_aload_n (pc := 13) cx 0 dX9_brokenVows_13 rfl rfl ?_
      refine wa_getR (pc := 14) cx fl_X9_44 lk_8 rfl (cx.bl 8 rfl) dX9_brokenVows_14 ?_
      refine wa_bipush (pc := 17) (v := 9) cx dX9_brokenVows_17 (by decide) ?_
      refine wa_iload_n (pc := 19) cx 2 dX9_brokenVows_19 rfl rfl ?_
      refine wa_iadd (pc := 20) cx dX9_brokenVows_20 ?_
      obtain ⟨g2, hf⟩ := gd_some hf
      refine wa_iald (pc := 21) cx lk_14 (cx.bl 14 rfl) g2 dX9_brokenVows_21 ?_
      refine wa_iconst (pc := 22) (v := 2) cx dX9_brokenVows_22 (by decide) ?_
      refine wa_icmp_ne (pc := 23) cx 30 dX9_brokenVows_23 rfl (fun c3 => ?_) (fun c3 => ?_)
      · have hf := (if_neg c3).symm.trans hf
        refine wa_iconst (pc := 30) (v := 0) cx dX9_brokenVows_30 (by decide) ?_
        refine wa_forget [true, false, true] [some (.ref (eA E 8)), none, some (.int v2)] rfl ?_
        exact j31 _ _ _ _ _ hf hk1
      · have hf := (if_pos c3).symm.trans hf
        refine wa_iconst (pc := 26) (v := 1) cx dX9_brokenVows_26 (by decide) ?_
        refine wa_goto (pc := 27) cx 31 dX9_brokenVows_27 rfl ?_
        refine wa_forget [true, false, true] [some (.ref (eA E 8)), none, some (.int v2)] rfl ?_
        exact j31 _ _ _ _ _ hf hk1
  refine wa_iconst (pc := 0) (v := 0) cx dX9_brokenVows_0 (by decide) ?_
  refine wa_istore_n (pc := 1) cx 1 [some (.ref (eA E 8)), some (.int 0), none] dX9_brokenVows_1 rfl (by decide) rfl rfl ?_
  refine wa_iconst (pc := 2) (v := 0) cx dX9_brokenVows_2 (by decide) ?_
  refine wa_istore_n (pc := 3) cx 2 [some (.ref (eA E 8)), some (.int 0), some (.int 0)] dX9_brokenVows_3 rfl (by decide) rfl rfl ?_
  obtain ⟨o4, h5, hf⟩ := bd_some hf
  refine l4  _ _ _ h5 ?_
  refine wa_iload_n (pc := 39) cx 1 dX9_brokenVows_39 rfl rfl ?_
  obtain rfl := Option.some.inj hf
  exact wa_iret (pc := 40) cx dX9_brokenVows_40
