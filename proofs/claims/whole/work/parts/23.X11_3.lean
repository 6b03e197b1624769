def fX11_layBest_B4  (v1 : Int32) (v2 : Int32) (σ : Sg) : Option ((Int32 × Int32) ⊕ (Int32)) :=
  gd (inb 3 77) (
  if ga σ 42 3 ≤ v2 then (some (.inr v1)) else (some (.inl ((v1 * 3), (v2 + 1)))))
def fX11_layBest_J70 (v1 : Int32) (v3 : Int32) (t0 : Int32) (σ : Sg) : Option ((Int32 × Int32 × Sg) ⊕ (Int32 × Sg)) :=
  some (.inl (t0, (v3 + 1), σ))
def fX11_layBest_J55 (v1 : Int32) (v2 : Int32) (v3 : Int32) (v4 : Int32) (t1 : Int32) (σ : Sg) : Option ((Int32 × Int32 × Sg) ⊕ (Int32 × Sg)) :=
  if v4 ≤ v2 then (fX11_layBest_J70 v1 v3 v2 (sup σ 38 22 t1)) else (fX11_layBest_J70 v1 v3 v4 (sup σ 38 22 t1))
def fX11_layBest_B28 (v1 : Int32) (v2 : Int32) (v3 : Int32) (σ : Sg) : Option ((Int32 × Int32 × Sg) ⊕ (Int32 × Sg)) :=
  if v1 ≤ v3 then (some (.inr (v2, σ))) else ((fX11_bearsBy v3 σ).bind (fun q5 =>
  if q5.1 ≤ v2 then (fX11_layBest_J55 v1 v2 v3 q5.1 (gf q5.2 38 22) q5.2) else (fX11_layBest_J55 v1 v2 v3 q5.1 v3 q5.2)))
def fX11_layBest  (σ : Sg) : Option (Int32 × Sg) :=
  (lpO (fun w => fX11_layBest_B4  w.1 w.2 σ) FUEL (1, 0)).bind (fun o3 =>
  (lpO (fun w => fX11_layBest_B28 o3 w.1 w.2.1 w.2.2) FUEL ((-1), 0, σ)).bind (fun o9 =>
  some (o9.1, o9.2)))
set_option maxHeartbeats 4000000 in
set_option maxRecDepth 100000 in
theorem ct_X11_layBest (l : Launch) (E : En) (σ : Sg)  (q : Int32 × Sg) (hf : fX11_layBest  σ = some q) : CT l yX11_layBest cX11_layBest 5 (some .int) 5 E σ [.ref (eA E 38)] (some (.int q.1)) q.2 := by
  refine CT.of RX11 [some (.ref (eA E 38)), none, none, none, none] rfl (by decide +kernel) (Nat.le_of_ble_eq_true rfl) rfl ?_
  intro p e s m args below meth c cx
  unfold fX11_layBest at hf
  have l4 : ∀  (σ : Sg) (y : Int32 × Int32) (o : Int32), lpO (fun w => fX11_layBest_B4  w.1 w.2 σ) FUEL y = some o → (WA p l e (rmd 5) s m args below meth c 5 E 0 0 (MQ below (Qcq E s.heap.size (some (.int q.1)) q.2) args s 0 0 (AE E s.heap.size)) 24 [some (.ref (eA E 38)), some (.int o), none, none, none] [] σ) → WA p l e (rmd 5) s m args below meth c 5 E 0 0 (MQ below (Qcq E s.heap.size (some (.int q.1)) q.2) args s 0 0 (AE E s.heap.size)) 4 [some (.ref (eA E 38)), some (.int y.1), some (.int y.2), none, none] [] σ := by
    intro  σ y o hf hk
    refine lp_rule (P := fun y => WA p l e (rmd 5) s m args below meth c 5 E 0 0 (MQ below (Qcq E s.heap.size (some (.int q.1)) q.2) args s 0 0 (AE E s.heap.size)) 4 [some (.ref (eA E 38)), some (.int y.1), some (.int y.2), none, none] [] σ) (K := fun o => WA p l e (rmd 5) s m args below meth c 5 E 0 0 (MQ below (Qcq E s.heap.size (some (.int q.1)) q.2) args s 0 0 (AE E s.heap.size)) 24 [some (.ref (eA E 38)), some (.int o), none, none, none] [] σ) ?_ FUEL y o hf hk
    intro y0 r1 hf hk1
    obtain ⟨v1, v2⟩ := y0
    have hf : fX11_layBest_B4  v1 v2 σ = some r1 := hf
    unfold fX11_layBest_B4 at hf
    refine wa_iload_n (pc := 4) cx 2 dX11_layBest_4 rfl rfl ?_
    refine wa_aload_n (pc := 5) cx 0 dX11_layBest_5 rfl rfl ?_
    refine wa_getR (pc := 6) cx fl_X11_19 lk_38 rfl (cx.bl 38 rfl) dX11_layBest_6 ?_
    refine wa_iconst (pc := 9) (v := 3) cx dX11_layBest_9 (by decide) ?_
    obtain ⟨g1, hf⟩ := gd_some hf
    refine wa_iald (pc := 10) cx lk_42 (cx.bl 42 rfl) g1 dX11_layBest_10 ?_
    refine wa_icmp_ge (pc := 11) cx 24 dX11_layBest_11 rfl (fun c2 => ?_) (fun c2 => ?_)
    · have hf := (if_pos c2).symm.trans hf
      obtain rfl := Option.some.inj hf
      refine wa_forget [true, true, false, false, false] [some (.ref (eA E 38)), some (.int v1), none, none, none] rfl ?_
      exact hk1
    · have hf := (if_neg c2).symm.trans hf
      refine wa_iload_n (pc := 14) cx 1 dX11_layBest_14 rfl rfl ?_
      refine wa_iconst (pc := 15) (v := 3) cx dX11_layBest_15 (by decide) ?_
      refine wa_imul (pc := 16) cx dX11_layBest_16 ?_
      refine wa_istore_n (pc := 17) cx 1 [some (.ref (eA E 38)), some (.int (v1 * 3)), some (.int v2), none, none] dX11_layBest_17 rfl (by decide) rfl rfl ?_
      refine wa_iinc (pc := 18) (v := 1) cx 2 [some (.ref (eA E 38)), some (.int (v1 * 3)), some (.int (v2 + 1)), none, none] dX11_layBest_18 (by decide) rfl (by decide) rfl rfl ?_
      refine wa_goto (pc := 21) cx 4 dX11_layBest_21 rfl ?_
      obtain rfl := Option.some.inj hf
      refine wa_forget [true, true, true, false, false] [some (.ref (eA E 38)), some (.int (v1 * 3)), some (.int (v2 + 1)), none, none] rfl ?_
      exact hk1
  have l28 : ∀ (v1 : Int32) (y : Int32 × Int32 × Sg) (o : Int32 × Sg), lpO (fun w => fX11_layBest_B28 v1 w.1 w.2.1 w.2.2) FUEL y = some o → (WA p l e (rmd 5) s m args below meth c 5 E 0 0 (MQ below (Qcq E s.heap.size (some (.int q.1)) q.2) args s 0 0 (AE E s.heap.size)) 77 [none, none, some (.int o.1), none, none] [] o.2) → WA p l e (rmd 5) s m args below meth c 5 E 0 0 (MQ below (Qcq E s.heap.size (some (.int q.1)) q.2) args s 0 0 (AE E s.heap.size)) 28 [some (.ref (eA E 38)), some (.int v1), some (.int y.1), some (.int y.2.1), none] [] y.2.2 := by
    intro v1 y o hf hk
    refine lp_rule (P := fun y => WA p l e (rmd 5) s m args below meth c 5 E 0 0 (MQ below (Qcq E s.heap.size (some (.int q.1)) q.2) args s 0 0 (AE E s.heap.size)) 28 [some (.ref (eA E 38)), some (.int v1), some (.int y.1), some (.int y.2.1), none] [] y.2.2) (K := fun o => WA p l e (rmd 5) s m args below meth c 5 E 0 0 (MQ below (Qcq E s.heap.size (some (.int q.1)) q.2) args s 0 0 (AE E s.heap.size)) 77 [none, none, some (.int o.1), none, none] [] o.2) ?_ FUEL y o hf hk
    have j70 : ∀ (v1 : Int32) (v3 : Int32) (t0 : Int32) (σ : Sg) (r1 : (Int32 × Int32 × Sg) ⊕ (Int32 × Sg)), fX11_layBest_J70 v1 v3 t0 σ = some r1 → (sel (fun y1 => WA p l e (rmd 5) s m args below meth c 5 E 0 0 (MQ below (Qcq E s.heap.size (some (.int q.1)) q.2) args s 0 0 (AE E s.heap.size)) 28 [some (.ref (eA E 38)), some (.int v1), some (.int y1.1), some (.int y1.2.1), none] [] y1.2.2) (fun y1 => WA p l e (rmd 5) s m args below meth c 5 E 0 0 (MQ below (Qcq E s.heap.size (some (.int q.1)) q.2) args s 0 0 (AE E s.heap.size)) 77 [none, none, some (.int y1.1), none, none] [] y1.2) r1) → WA p l e (rmd 5) s m args below meth c 5 E 0 0 (MQ below (Qcq E s.heap.size (some (.int q.1)) q.2) args s 0 0 (AE E s.heap.size)) 70 [some (.ref (eA E 38)), some (.int v1), none, some (.int v3), none] [.int t0] σ := by
      intro v1 v3 t0 σ r1 hf hk1
      unfold fX11_layBest_J70 at hf
      refine wa_istore_n (pc := 70) cx 2 [some (.ref (eA E 38)), some (.int v1), some (.int t0), some (.int v3), none] dX11_layBest_70 rfl (by decide) rfl rfl ?_
      refine wa_iinc (pc := 71) (v := 1) cx 3 [some (.ref (eA E 38)), some (.int v1), some (.int t0), some (.int (v3 + 1)), none] dX11_layBest_71 (by decide) rfl (by decide) rfl rfl ?_
      refine wa_goto (pc := 74) cx 28 dX11_layBest_74 rfl ?_
      obtain rfl := Option.some.inj hf
      refine wa_forget [true, true, true, true, false] [some (.ref (eA E 38)), some (.int v1), some (.int t0), some (.int (v3 + 1)), none] rfl ?_
      exact hk1
    have j55 : ∀ (v1 : Int32) (v2 : Int32) (v3 : Int32) (v4 : Int32) (t1 : Int32) (σ : Sg) (r1 : (Int32 × Int32 × Sg) ⊕ (Int32 × Sg)), fX11_layBest_J55 v1 v2 v3 v4 t1 σ = some r1 → (sel (fun y1 => WA p l e (rmd 5) s m args below meth c 5 E 0 0 (MQ below (Qcq E s.heap.size (some (.int q.1)) q.2) args s 0 0 (AE E s.heap.size)) 28 [some (.ref (eA E 38)), some (.int v1), some (.int y1.1), some (.int y1.2.1), none] [] y1.2.2) (fun y1 => WA p l e (rmd 5) s m args below meth c 5 E 0 0 (MQ below (Qcq E s.heap.size (some (.int q.1)) q.2) args s 0 0 (AE E s.heap.size)) 77 [none, none, some (.int y1.1), none, none] [] y1.2) r1) → WA p l e (rmd 5) s m args below meth c 5 E 0 0 (MQ below (Qcq E s.heap.size (some (.int q.1)) q.2) args s 0 0 (AE E s.heap.size)) 55 [some (.ref (eA E 38)), some (.int v1), some (.int v2), some (.int v3), some (.int v4)] [.int t1, .ref (eA E 38)] σ := by
      intro v1 v2 v3 v4 t1 σ r1 hf hk1
      unfold fX11_layBest_J55 at hf
      refine wa_putI (pc := 55) cx fp_X11_252 lk_38 rfl (cx.bl 38 rfl) dX11_layBest_55 ?_
      refine wa_iload (pc := 58) cx 4 dX11_layBest_58 rfl ?_
      refine wa_iload_n (pc := 60) cx 2 dX11_layBest_60 rfl rfl ?_
      refine wa_icmp_le (pc := 61) cx 69 dX11_layBest_61 rfl (fun c8 => ?_) (fun c8 => ?_)
      · have hf := (if_pos c8).symm.trans hf
        refine wa_iload_n (pc := 69) cx 2 dX11_layBest_69 rfl rfl ?_
        refine wa_forget [true, true, false, true, false] [some (.ref (eA E 38)), some (.int v1), none, some (.int v3), none] rfl ?_
        exact j70 _ _ _ _ _ hf hk1
      · have hf := (if_neg c8).symm.trans hf
        refine wa_iload (pc := 64) cx 4 dX11_layBest_64 rfl ?_
        refine wa_goto (pc := 66) cx 70 dX11_layBest_66 rfl ?_
        refine wa_forget [true, true, false, true, false] [some (.ref (eA E 38)), some (.int v1), none, some (.int v3), none] rfl ?_
        exact j70 _ _ _ _ _ hf hk1
    intro y0 r1 hf hk1
    obtain ⟨v2, v3, σ⟩ := y0
    have hf : fX11_layBest_B28 v1 v2 v3 σ = some r1 := hf
    unfold fX11_layBest_B28 at hf
    refine wa_iload_n (pc := 28) cx 3 dX11_layBest_28 rfl rfl ?_
    refine wa_iload_n (pc := 29) cx 1 dX11_layBest_29 rfl rfl ?_
    refine wa_icmp_ge (pc := 30) cx 77 dX11_layBest_30 rfl (fun c4 => ?_) (fun c4 => ?_)
    · have hf := (if_pos c4).symm.trans hf
      obtain rfl := Option.some.inj hf
      refine wa_forget [false, false, true, false, false] [none, none, some (.int v2), none, none] rfl ?_
      exact hk1
    · have hf := (if_neg c4).symm.trans hf
      refine wa_aload_n (pc := 33) cx 0 dX11_layBest_33 rfl rfl ?_
      refine wa_iload_n (pc := 34) cx 3 dX11_layBest_34 rfl rfl ?_
      obtain ⟨q5, h6, hf⟩ := bd_some hf
      refine wa_callVi (pc := 35) cx [.int v3] (ct_X11_bearsBy l E _ _ _ h6) mi_X11_bearsBy tw_1166 lk_38 rfl (cx.bl 38 rfl) rfl rfl (Nat.le_of_ble_eq_true rfl) ⟨Nat.le_of_ble_eq_true rfl, Nat.le_of_ble_eq_true rfl⟩ ⟨Nat.zero_le _, Nat.zero_le _⟩ dX11_layBest_35 ?_
      refine wa_istore (pc := 38) cx 4 [some (.ref (eA E 38)), some (.int v1), some (.int v2), some (.int v3), some (.int q5.1)] dX11_layBest_38 (by decide) rfl rfl ?_
      refine wa_aload_n (pc := 40) cx 0 dX11_layBest_40 rfl rfl ?_
      refine wa_iload (pc := 41) cx 4 dX11_layBest_41 rfl ?_
      refine wa_iload_n (pc := 43) cx 2 dX11_layBest_43 rfl rfl ?_
      refine wa_icmp_le (pc := 44) cx 51 dX11_layBest_44 rfl (fun c7 => ?_) (fun c7 => ?_)
      · have hf := (if_pos c7).symm.trans hf
        refine wa_aload_n (pc := 51) cx 0 dX11_layBest_51 rfl rfl ?_
        refine wa_getI (pc := 52) cx fl_X11_252 lk_38 rfl (cx.bl 38 rfl) dX11_layBest_52 ?_
        exact j55 _ _ _ _ _ _ _ hf hk1
      · have hf := (if_neg c7).symm.trans hf
        refine wa_iload_n (pc := 47) cx 3 dX11_layBest_47 rfl rfl ?_
        refine wa_goto (pc := 48) cx 55 dX11_layBest_48 rfl ?_
        exact j55 _ _ _ _ _ _ _ hf hk1
  refine wa_iconst (pc := 0) (v := 1) cx dX11_layBest_0 (by decide) ?_
  refine wa_istore_n (pc := 1) cx 1 [some (.ref (eA E 38)), some (.int 1), none, none, none] dX11_layBest_1 rfl (by decide) rfl rfl ?_
  refine wa_iconst (pc := 2) (v := 0) cx dX11_layBest_2 (by decide) ?_
  refine wa_istore_n (pc := 3) cx 2 [some (.ref (eA E 38)), some (.int 1), some (.int 0), none, none] dX11_layBest_3 rfl (by decide) rfl rfl ?_
  obtain ⟨o3, h11, hf⟩ := bd_some hf
  refine l4  _ _ _ h11 ?_
  refine wa_iconst (pc := 24) (v := (-1)) cx dX11_layBest_24 (by decide) ?_
  refine wa_istore_n (pc := 25) cx 2 [some (.ref (eA E 38)), some (.int o3), some (.int (-1)), none, none] dX11_layBest_25 rfl (by decide) rfl rfl ?_
  refine wa_iconst (pc := 26) (v := 0) cx dX11_layBest_26 (by decide) ?_
  refine wa_istore_n (pc := 27) cx 3 [some (.ref (eA E 38)), some (.int o3), some (.int (-1)), some (.int 0), none] dX11_layBest_27 rfl (by decide) rfl rfl ?_
  obtain ⟨o9, h10, hf⟩ := bd_some hf
  refine l28 _ _ _ h10 ?_
  refine wa_iload_n (pc := 77) cx 2 dX11_layBest_77 rfl rfl ?_
  obtain rfl := Option.some.inj hf
  exact wa_iret (pc := 78) cx dX11_layBest_78
def fX11_best_B58 (v1 : Int32) (v2 : Int32) (v3 : Int32) (v4 : Int32) (σ : Sg) : Option ((Int32 × Int32) ⊕ (Int32)) :=
  if v4 ≤ v1 then (some (.inr v3)) else (if v1 < 0 then (some (.inr v3)) else (some (.inl ((v3 / 3), (v4 + (-1))))))
def fX11_best (a1 : Int32) (σ : Sg) : Option (Int32 × Sg) :=
  if gf (sup σ 38 0 0) 38 7 = 0 then (some ((-1000002), sup σ 38 0 0)) else (gd (inb 3 77) (
  (fX11_in ((a1).toInt64) (-1) (((ga (sup σ 38 0 0) 42 3 - 1)).toInt64) (sup σ 38 0 0)).bind (fun q3 =>
  if q3 = 0 then (some ((-1000001), sup σ 38 0 0)) else ((fX11_layBest  (sup σ 38 0 0)).bind (fun q6 =>
  gd (inb 3 77) (
  (lpO (fun w => fX11_best_B58 a1 q6.1 w.1 w.2 q6.2) FUEL (gf q6.2 38 22, (ga q6.2 42 3 - 1))).bind (fun o11 =>
  if (0 : Int32) ≤ a1 then (some (irm o11 3, q6.2)) else (some (q6.1, q6.2)))))))))
set_option maxHeartbeats 4000000 in
set_option maxRecDepth 100000 in
theorem ct_X11_best (l : Launch) (E : En) (σ : Sg) (a1 : Int32) (q : Int32 × Sg) (hf : fX11_best a1 σ = some q) : CT l yX11_best cX11_best 5 (some .int) 6 E σ [.ref (eA E 38), .int a1] (some (.int q.1)) q.2 := by
  refine CT.of RX11 [some (.ref (eA E 38)), some (.int a1), none, none, none] rfl (by decide +kernel) (Nat.le_of_ble_eq_true rfl) rfl ?_
  intro p e s m args below meth c cx
  unfold fX11_best at hf
  have l58 : ∀ (v1 : Int32) (v2 : Int32) (σ : Sg) (y : Int32 × Int32) (o : Int32), lpO (fun w => fX11_best_B58 v1 v2 w.1 w.2 σ) FUEL y = some o → (WA p l e (rmd 6) s m args below meth c 5 E 0 0 (MQ below (Qcq E s.heap.size (some (.int q.1)) q.2) args s 0 0 (AE E s.heap.size)) 78 [none, some (.int v1), some (.int v2), some (.int o), none] [] σ) → WA p l e (rmd 6) s m args below meth c 5 E 0 0 (MQ below (Qcq E s.heap.size (some (.int q.1)) q.2) args s 0 0 (AE E s.heap.size)) 58 [none, some (.int v1), some (.int v2), some (.int y.1), some (.int y.2)] [] σ := by
    intro v1 v2 σ y o hf hk
    refine lp_rule (P := fun y => WA p l e (rmd 6) s m args below meth c 5 E 0 0 (MQ below (Qcq E s.heap.size (some (.int q.1)) q.2) args s 0 0 (AE E s.heap.size)) 58 [none, some (.int v1), some (.int v2), some (.int y.1), some (.int y.2)] [] σ) (K := fun o => WA p l e (rmd 6) s m args below meth c 5 E 0 0 (MQ below (Qcq E s.heap.size (some (.int q.1)) q.2) args s 0 0 (AE E s.heap.size)) 78 [none, some (.int v1), some (.int v2), some (.int o), none] [] σ) ?_ FUEL y o hf hk
    intro y0 r1 hf hk1
    obtain ⟨v3, v4⟩ := y0
    have hf : fX11_best_B58 v1 v2 v3 v4 σ = some r1 := hf
    unfold fX11_best_B58 at hf
    refine wa_iload (pc := 58) cx 4 dX11_best_58 rfl ?_
    refine wa_iload_n (pc := 60) cx 1 dX11_best_60 rfl rfl ?_
    refine wa_icmp_le (pc := 61) cx 78 dX11_best_61 rfl (fun c9 => ?_) (fun c9 => ?_)
    · have hf := (if_pos c9).symm.trans hf
      obtain rfl := Option.some.inj hf
      refine wa_forget [false, true, true, true, false] [none, some (.int v1), some (.int v2), some (.int v3), none] rfl ?_
      exact hk1
    · have hf := (if_neg c9).symm.trans hf
      refine wa_iload_n (pc := 64) cx 1 dX11_best_64 rfl rfl ?_
      refine wa_if_lt (pc := 65) cx 78 dX11_best_65 rfl (fun c10 => ?_) (fun c10 => ?_)
      · have hf := (if_pos c10).symm.trans hf
        obtain rfl := Option.some.inj hf
        refine wa_forget [false, true, true, true, false] [none, some (.int v1), some (.int v2), some (.int v3), none] rfl ?_
        exact hk1
      · have hf := (if_neg c10).symm.trans hf
        refine wa_iload_n (pc := 68) cx 3 dX11_best_68 rfl rfl ?_
        refine wa_iconst (pc := 69) (v := 3) cx dX11_best_69 (by decide) ?_
        refine wa_idiv (pc := 70) cx dX11_best_70 (by decide) ?_
        refine wa_istore_n (pc := 71) cx 3 [none, some (.int v1), some (.int v2), some (.int (v3 / 3)), some (.int v4)] dX11_best_71 rfl (by decide) rfl rfl ?_
        refine wa_iinc (pc := 72) (v := (-1)) cx 4 [none, some (.int v1), some (.int v2), some (.int (v3 / 3)), some (.int (v4 + (-1)))] dX11_best_72 (by decide) rfl (by decide) rfl rfl ?_
        refine wa_goto (pc := 75) cx 58 dX11_best_75 rfl ?_
        obtain rfl := Option.some.inj hf
        refine wa_forget [false, true, true, true, true] [none, some (.int v1), some (.int v2), some (.int (v3 / 3)), some (.int (v4 + (-1)))] rfl ?_
        exact hk1
  refine wa_aload_n (pc := 0) cx 0 dX11_best_0 rfl rfl ?_
  refine wa_iconst (pc := 1) (v := 0) cx dX11_best_1 (by decide) ?_
  refine wa_putI (pc := 2) cx fp_X11_50 lk_38 rfl (cx.bl 38 rfl) dX11_best_2 ?_
  refine wa_aload_n (pc := 5) cx 0 dX11_best_5 rfl rfl ?_
  refine wa_getI (pc := 6) cx fl_X11_177 lk_38 rfl (cx.bl 38 rfl) dX11_best_6 ?_
  refine wa_if_ne (pc := 9) cx 15 dX11_best_9 rfl (fun c1 => ?_) (fun c1 => ?_)
  · have hf := (if_neg c1).symm.trans hf
    refine wa_iload_n (pc := 15) cx 1 dX11_best_15 rfl rfl ?_
    refine wa_i2l (pc := 16) cx dX11_best_16 ?_
    refine wa_ldc2 (pc := 17) (v := (-1)) cx dX11_best_17 tw_1064 ?_
    refine wa_aload_n (pc := 20) cx 0 dX11_best_20 rfl rfl ?_
    refine wa_getR (pc := 21) cx fl_X11_19 lk_38 rfl (cx.bl 38 rfl) dX11_best_21 ?_
    refine wa_iconst (pc := 24) (v := 3) cx dX11_best_24 (by decide) ?_
    obtain ⟨g2, hf⟩ := gd_some hf
    refine wa_iald (pc := 25) cx lk_42 (cx.bl 42 rfl) g2 dX11_best_25 ?_
    refine wa_iconst (pc := 26) (v := 1) cx dX11_best_26 (by decide) ?_
    refine wa_isub (pc := 27) cx dX11_best_27 ?_
    refine wa_i2l (pc := 28) cx dX11_best_28 ?_
    obtain ⟨q3, h4, hf⟩ := bd_some hf
    refine wa_callSi (pc := 29) cx [.long ((a1).toInt64), .long (-1), .long (((ga (sup σ 38 0 0) 42 3 - 1)).toInt64)] (ct_X11_in l E _ _ _ _ _ h4) ms_X11_in tw_952 rfl rfl (Nat.le_of_ble_eq_true rfl) ⟨Nat.le_of_ble_eq_true rfl, Nat.le_of_ble_eq_true rfl⟩ ⟨Nat.zero_le _, Nat.zero_le _⟩ dX11_best_29 ?_
    refine wa_if_ne (pc := 32) cx 38 dX11_best_32 rfl (fun c5 => ?_) (fun c5 => ?_)
    · have hf := (if_neg c5).symm.trans hf
      refine wa_aload_n (pc := 38) cx 0 dX11_best_38 rfl rfl ?_
      obtain ⟨q6, h7, hf⟩ := bd_some hf
      refine wa_callVi (pc := 39) cx [] (ct_X11_layBest l E _  _ h7) mi_X11_layBest tw_1162 lk_38 rfl (cx.bl 38 rfl) rfl rfl (Nat.le_of_ble_eq_true rfl) ⟨Nat.le_of_ble_eq_true rfl, Nat.le_of_ble_eq_true rfl⟩ ⟨Nat.zero_le _, Nat.zero_le _⟩ dX11_best_39 ?_
      refine wa_istore_n (pc := 42) cx 2 [some (.ref (eA E 38)), some (.int a1), some (.int q6.1), none, none] dX11_best_42 rfl (by decide) rfl rfl ?_
      refine wa_aload_n (pc := 43) cx 0 dX11_best_43 rfl rfl ?_
      refine wa_getI (pc := 44) cx fl_X11_252 lk_38 rfl (cx.bl 38 rfl) dX11_best_44 ?_
      refine wa_istore_n (pc := 47) cx 3 [some (.ref (eA E 38)), some (.int a1), some (.int q6.1), some (.int (gf q6.2 38 22)), none] dX11_best_47 rfl (by decide) rfl rfl ?_
      refine wa_aload_n (pc := 48) cx 0 dX11_best_48 rfl rfl ?_
      refine wa_getR (pc := 49) cx fl_X11_19 lk_38 rfl (cx.bl 38 rfl) dX11_best_49 ?_
      refine wa_iconst (pc := 52) (v := 3) cx dX11_best_52 (by decide) ?_
      obtain ⟨g8, hf⟩ := gd_some hf
      refine wa_iald (pc := 53) cx lk_42 (cx.bl 42 rfl) g8 dX11_best_53 ?_
      refine wa_iconst (pc := 54) (v := 1) cx dX11_best_54 (by decide) ?_
      refine wa_isub (pc := 55) cx dX11_best_55 ?_
      refine wa_istore (pc := 56) cx 4 [some (.ref (eA E 38)), some (.int a1), some (.int q6.1), some (.int (gf q6.2 38 22)), some (.int (ga q6.2 42 3 - 1))] dX11_best_56 (by decide) rfl rfl ?_
      refine wa_forget [false, true, true, true, true] [none, some (.int a1), some (.int q6.1), some (.int (gf q6.2 38 22)), some (.int (ga q6.2 42 3 - 1))] rfl ?_
      obtain ⟨o11, h13, hf⟩ := bd_some hf
      refine l58 _ _ _ _ _ h13 ?_
      refine wa_iload_n (pc := 78) cx 1 dX11_best_78 rfl rfl ?_
      refine wa_if_ge (pc := 79) cx 86 dX11_best_79 rfl (fun c12 => ?_) (fun c12 => ?_)
      · have hf := (if_pos c12).symm.trans hf
        refine wa_iload_n (pc := 86) cx 3 dX11_best_86 rfl rfl ?_
        refine wa_iconst (pc := 87) (v := 3) cx dX11_best_87 (by decide) ?_
        refine wa_irem (pc := 88) cx dX11_best_88 (by decide) ?_
        obtain rfl := Option.some.inj hf
        exact wa_iret (pc := 89) cx dX11_best_89
      · have hf := (if_neg c12).symm.trans hf
        refine wa_iload_n (pc := 82) cx 2 dX11_best_82 rfl rfl ?_
        refine wa_goto (pc := 83) cx 89 dX11_best_83 rfl ?_
        obtain rfl := Option.some.inj hf
        exact wa_iret (pc := 89) cx dX11_best_89
    · have hf := (if_pos c5).symm.trans hf
      refine wa_ldc (pc := 35) (v := (-1000001)) cx dX11_best_35 tw_956 ?_
      obtain rfl := Option.some.inj hf
      exact wa_iret (pc := 37) cx dX11_best_37
  · have hf := (if_pos c1).symm.trans hf
    refine wa_ldc (pc := 12) (v := (-1000002)) cx dX11_best_12 tw_1081 ?_
    obtain rfl := Option.some.inj hf
    exact wa_iret (pc := 14) cx dX11_best_14
def fX11_layTogether_J65 (v1 : Int32) (v2 : Int32) (v3 : Int32) (t3 : Int32) (t2 : Int32) (t1 : Int32) (σ : Sg) : Option ((Int32 × Sg) ⊕ (Sg)) :=
  gd (inb t1 512) (
  some (.inl ((v3 + 1), sa σ 47 t1 (t2 + t3))))
def fX11_layTogether_B30 (v1 : Int32) (v2 : Int32) (v3 : Int32) (σ : Sg) : Option ((Int32 × Sg) ⊕ (Sg)) :=
  gd (inb 3 77) (
  if ga σ 42 3 ≤ v3 then (some (.inr σ)) else (gd (inb v2 512) (
  if (jshr v2 v3 &&& 1) = 1 then ((fX11_strength v3 σ).bind (fun q10 =>
  fX11_layTogether_J65 v1 v2 v3 q10 (ga σ 47 v2) v2 σ)) else (fX11_layTogether_J65 v1 v2 v3 0 (ga σ 47 v2) v2 σ))))
def fX11_layTogether_J134 (v1 : Int32) (v2 : Int32) (v3 : Int32) (t2 : Int32) (t1 : Int32) (σ : Sg) : Option ((Int32 × Sg) ⊕ (Sg)) :=
  gd (inb t1 512) (
  some (.inl (((v3 - 1) &&& v2), sa σ 48 t1 t2)))
def fX11_layTogether_J105 (v1 : Int32) (v2 : Int32) (v3 : Int32) (t0 : Int32) (σ : Sg) : Option ((Int32 × Sg) ⊕ (Sg)) :=
  gd (inb v2 512) (
  if t0 ≤ ga σ 48 v2 then (gd (inb v2 512) (
  fX11_layTogether_J134 v1 v2 v3 (ga σ 48 v2) v2 σ)) else (fX11_layTogether_J134 v1 v2 v3 t0 v2 σ))
def fX11_layTogether_B75 (v1 : Int32) (v2 : Int32) (v3 : Int32) (σ : Sg) : Option ((Int32 × Sg) ⊕ (Sg)) :=
  if v3 ≤ 0 then (some (.inr σ)) else (gd (inb v3 512) (
  if ga σ 47 v3 < v1 then (fX11_layTogether_J105 v1 v2 v3 0 σ) else (gd (inb (v2 &&& (v3 ^^^ (-1))) 512) (
  fX11_layTogether_J105 v1 v2 v3 (ga σ 48 (v2 &&& (v3 ^^^ (-1))) + 1) σ))))
def fX11_layTogether_B2 (v1 : Int32) (v2 : Int32) (σ : Sg) : Option ((Int32 × Sg) ⊕ (Sg)) :=
  gd (inb 3 77) (
  if jshl 1 (ga σ 42 3) ≤ v2 then (some (.inr σ)) else (gd (inb v2 512) (
  gd (inb v2 512) (
  (lpO (fun w => fX11_layTogether_B30 v1 v2 w.1 w.2) FUEL (0, sa (sa σ 47 v2 0) 48 v2 0)).bind (fun o12 =>
  (lpO (fun w => fX11_layTogether_B75 v1 v2 w.1 w.2) FUEL (v2, o12)).bind (fun o21 =>
  some (.inl ((v2 + 1), o21))))))))
def fX11_layTogether (a1 : Int32) (σ : Sg) : Option (Sg) :=
  (lpO (fun w => fX11_layTogether_B2 a1 w.1 w.2) FUEL (0, σ)).bind (fun o24 =>
  some o24)
set_option maxHeartbeats 4000000 in
set_option maxRecDepth 100000 in
theorem ct_X11_layTogether (l : Launch) (E : En) (σ : Sg) (a1 : Int32) (q : Sg) (hf : fX11_layTogether a1 σ = some q) : CT l yX11_layTogether cX11_layTogether 5 none 4 E σ [.ref (eA E 38), .int a1] none q := by
  refine CT.of RX11 [some (.ref (eA E 38)), some (.int a1), none, none, none] rfl (by decide +kernel) (Nat.le_of_ble_eq_true rfl) rfl ?_
  intro p e s m args below meth c cx
  unfold fX11_layTogether at hf
  have l2 : ∀ (v1 : Int32) (y : Int32 × Sg) (o : Sg), lpO (fun w => fX11_layTogether_B2 v1 w.1 w.2) FUEL y = some o → (WA p l e (rmd 4) s m args below meth c 5 E 0 0 (MQ below (Qcq E s.heap.size (none) q) args s 0 0 (AE E s.heap.size)) 150 [none, none, none, none, none] [] o) → WA p l e (rmd 4) s m args below meth c 5 E 0 0 (MQ below (Qcq E s.heap.size (none) q) args s 0 0 (AE E s.heap.size)) 2 [some (.ref (eA E 38)), some (.int v1), some (.int y.1), none, none] [] y.2 := by
    intro v1 y o hf hk
    refine lp_rule (P := fun y => WA p l e (rmd 4) s m args below meth c 5 E 0 0 (MQ below (Qcq E s.heap.size (none) q) args s 0 0 (AE E s.heap.size)) 2 [some (.ref (eA E 38)), some (.int v1), some (.int y.1), none, none] [] y.2) (K := fun o => WA p l e (rmd 4) s m args below meth c 5 E 0 0 (MQ below (Qcq E s.heap.size (none) q) args s 0 0 (AE E s.heap.size)) 150 [none, none, none, none, none] [] o) ?_ FUEL y o hf hk
    have l30 : ∀ (v1 : Int32) (v2 : Int32) (y : Int32 × Sg) (o : Sg), lpO (fun w => fX11_layTogether_B30 v1 v2 w.1 w.2) FUEL y = some o → (WA p l e (rmd 4) s m args below meth c 5 E 0 0 (MQ below (Qcq E s.heap.size (none) q) args s 0 0 (AE E s.heap.size)) 73 [some (.ref (eA E 38)), some (.int v1), some (.int v2), none, none] [] o) → WA p l e (rmd 4) s m args below meth c 5 E 0 0 (MQ below (Qcq E s.heap.size (none) q) args s 0 0 (AE E s.heap.size)) 30 [some (.ref (eA E 38)), some (.int v1), some (.int v2), some (.int y.1), none] [] y.2 := by
      intro v1 v2 y o hf hk
      refine lp_rule (P := fun y => WA p l e (rmd 4) s m args below meth c 5 E 0 0 (MQ below (Qcq E s.heap.size (none) q) args s 0 0 (AE E s.heap.size)) 30 [some (.ref (eA E 38)), some (.int v1), some (.int v2), some (.int y.1), none] [] y.2) (K := fun o => WA p l e (rmd 4) s m args below meth c 5 E 0 0 (MQ below (Qcq E s.heap.size (none) q) args s 0 0 (AE E s.heap.size)) 73 [some (.ref (eA E 38)), some (.int v1), some (.int v2), none, none] [] o) ?_ FUEL y o hf hk
      have j65 : ∀ (v1 : Int32) (v2 : Int32) (v3 : Int32) (t3 : Int32) (t2 : Int32) (t1 : Int32) (σ : Sg) (r2 : (Int32 × Sg) ⊕ (Sg)), fX11_layTogether_J65 v1 v2 v3 t3 t2 t1 σ = some r2 → (sel (fun y2 => WA p l e (rmd 4) s m args below meth c 5 E 0 0 (MQ below (Qcq E s.heap.size (none) q) args s 0 0 (AE E s.heap.size)) 30 [some (.ref (eA E 38)), some (.int v1), some (.int v2), some (.int y2.1), none] [] y2.2) (fun y2 => WA p l e (rmd 4) s m args below meth c 5 E 0 0 (MQ below (Qcq E s.heap.size (none) q) args s 0 0 (AE E s.heap.size)) 73 [some (.ref (eA E 38)), some (.int v1), some (.int v2), none, none] [] y2) r2) → WA p l e (rmd 4) s m args below meth c 5 E 0 0 (MQ below (Qcq E s.heap.size (none) q) args s 0 0 (AE E s.heap.size)) 65 [some (.ref (eA E 38)), some (.int v1), some (.int v2), some (.int v3), none] [.int t3, .int t2, .int t1, .ref (eA E 47)] σ := by
        intro v1 v2 v3 t3 t2 t1 σ r2 hf hk2
        unfold fX11_layTogether_J65 at hf
        refine wa_iadd (pc := 65) cx dX11_layTogether_65 ?_
        obtain ⟨g9, hf⟩ := gd_some hf
        refine wa_iast (pc := 66) cx lk_47 (cx.bl 47 rfl) g9 dX11_layTogether_66 ?_
        refine wa_iinc (pc := 67) (v := 1) cx 3 [some (.ref (eA E 38)), some (.int v1), some (.int v2), some (.int (v3 + 1)), none] dX11_layTogether_67 (by decide) rfl (by decide) rfl rfl ?_
        refine wa_goto (pc := 70) cx 30 dX11_layTogether_70 rfl ?_
        obtain rfl := Option.some.inj hf
        refine wa_forget [true, true, true, true, false] [some (.ref (eA E 38)), some (.int v1), some (.int v2), some (.int (v3 + 1)), none] rfl ?_
        exact hk2
      intro y0 r2 hf hk2
      obtain ⟨v3, σ⟩ := y0
      have hf : fX11_layTogether_B30 v1 v2 v3 σ = some r2 := hf
      unfold fX11_layTogether_B30 at hf
      refine wa_iload_n (pc := 30) cx 3 dX11_layTogether_30 rfl rfl ?_
      refine wa_aload_n (pc := 31) cx 0 dX11_layTogether_31 rfl rfl ?_
      refine wa_getR (pc := 32) cx fl_X11_19 lk_38 rfl (cx.bl 38 rfl) dX11_layTogether_32 ?_
      refine wa_iconst (pc := 35) (v := 3) cx dX11_layTogether_35 (by decide) ?_
      obtain ⟨g5, hf⟩ := gd_some hf
      refine wa_iald (pc := 36) cx lk_42 (cx.bl 42 rfl) g5 dX11_layTogether_36 ?_
      refine wa_icmp_ge (pc := 37) cx 73 dX11_layTogether_37 rfl (fun c6 => ?_) (fun c6 => ?_)
      · have hf := (if_pos c6).symm.trans hf
        obtain rfl := Option.some.inj hf
        refine wa_forget [true, true, true, false, false] [some (.ref (eA E 38)), some (.int v1), some (.int v2), none, none] rfl ?_
        exact hk2
      · have hf := (if_neg c6).symm.trans hf
        refine wa_aload_n (pc := 40) cx 0 dX11_layTogether_40 rfl rfl ?_
        refine wa_getR (pc := 41) cx fl_X11_34 lk_38 rfl (cx.bl 38 rfl) dX11_layTogether_41 ?_
        refine wa_iload_n (pc := 44) cx 2 dX11_layTogether_44 rfl rfl ?_
        refine wa_dup2 (pc := 45) cx dX11_layTogether_45 rfl rfl ?_
        obtain ⟨g7, hf⟩ := gd_some hf
        refine wa_iald (pc := 46) cx lk_47 (cx.bl 47 rfl) g7 dX11_layTogether_46 ?_
        refine wa_iload_n (pc := 47) cx 2 dX11_layTogether_47 rfl rfl ?_
        refine wa_iload_n (pc := 48) cx 3 dX11_layTogether_48 rfl rfl ?_
        refine wa_ishr (pc := 49) cx dX11_layTogether_49 ?_
        refine wa_iconst (pc := 50) (v := 1) cx dX11_layTogether_50 (by decide) ?_
        refine wa_iand (pc := 51) cx dX11_layTogether_51 ?_
        refine wa_iconst (pc := 52) (v := 1) cx dX11_layTogether_52 (by decide) ?_
        refine wa_icmp_ne (pc := 53) cx 64 dX11_layTogether_53 rfl (fun c8 => ?_) (fun c8 => ?_)
        · have hf := (if_neg c8).symm.trans hf
          refine wa_iconst (pc := 64) (v := 0) cx dX11_layTogether_64 (by decide) ?_
          exact j65 _ _ _ _ _ _ _ _ hf hk2
        · have hf := (if_pos c8).symm.trans hf
          refine wa_aload_n (pc := 56) cx 0 dX11_layTogether_56 rfl rfl ?_
          refine wa_iload_n (pc := 57) cx 3 dX11_layTogether_57 rfl rfl ?_
          obtain ⟨q10, h11, hf⟩ := bd_some hf
          refine wa_callVi (pc := 58) cx [.int v3] (ct_X11_strength l E _ _ _ h11) mi_X11_strength tw_1082 lk_38 rfl (cx.bl 38 rfl) rfl rfl (Nat.le_of_ble_eq_true rfl) ⟨Nat.le_of_ble_eq_true rfl, Nat.le_of_ble_eq_true rfl⟩ ⟨Nat.zero_le _, Nat.zero_le _⟩ dX11_layTogether_58 ?_
          refine wa_goto (pc := 61) cx 65 dX11_layTogether_61 rfl ?_
          exact j65 _ _ _ _ _ _ _ _ hf hk2
    have l75 : ∀ (v1 : Int32) (v2 : Int32) (y : Int32 × Sg) (o : Sg), lpO (fun w => fX11_layTogether_B75 v1 v2 w.1 w.2) FUEL y = some o → (WA p l e (rmd 4) s m args below meth c 5 E 0 0 (MQ below (Qcq E s.heap.size (none) q) args s 0 0 (AE E s.heap.size)) 144 [some (.ref (eA E 38)), some (.int v1), some (.int v2), none, none] [] o) → WA p l e (rmd 4) s m args below meth c 5 E 0 0 (MQ below (Qcq E s.heap.size (none) q) args s 0 0 (AE E s.heap.size)) 75 [some (.ref (eA E 38)), some (.int v1), some (.int v2), some (.int y.1), none] [] y.2 := by
      intro v1 v2 y o hf hk
      refine lp_rule (P := fun y => WA p l e (rmd 4) s m args below meth c 5 E 0 0 (MQ below (Qcq E s.heap.size (none) q) args s 0 0 (AE E s.heap.size)) 75 [some (.ref (eA E 38)), some (.int v1), some (.int v2), some (.int y.1), none] [] y.2) (K := fun o => WA p l e (rmd 4) s m args below meth c 5 E 0 0 (MQ below (Qcq E s.heap.size (none) q) args s 0 0 (AE E s.heap.size)) 144 [some (.ref (eA E 38)), some (.int v1), some (.int v2), none, none] [] o) ?_ FUEL y o hf hk
      have j134 : ∀ (v1 : Int32) (v2 : Int32) (v3 : Int32) (t2 : Int32) (t1 : Int32) (σ : Sg) (r2 : (Int32 × Sg) ⊕ (Sg)), fX11_layTogether_J134 v1 v2 v3 t2 t1 σ = some r2 → (sel (fun y2 => WA p l e (rmd 4) s m args below meth c 5 E 0 0 (MQ below (Qcq E s.heap.size (none) q) args s 0 0 (AE E s.heap.size)) 75 [some (.ref (eA E 38)), some (.int v1), some (.int v2), some (.int y2.1), none] [] y2.2) (fun y2 => WA p l e (rmd 4) s m args below meth c 5 E 0 0 (MQ below (Qcq E s.heap.size (none) q) args s 0 0 (AE E s.heap.size)) 144 [some (.ref (eA E 38)), some (.int v1), some (.int v2), none, none] [] y2) r2) → WA p l e (rmd 4) s m args below meth c 5 E 0 0 (MQ below (Qcq E s.heap.size (none) q) args s 0 0 (AE E s.heap.size)) 134 [some (.ref (eA E 38)), some (.int v1), some (.int v2), some (.int v3), none] [.int t2, .int t1, .ref (eA E 48)] σ := by
        intro v1 v2 v3 t2 t1 σ r2 hf hk2
        unfold fX11_layTogether_J134 at hf
        obtain ⟨g19, hf⟩ := gd_some hf
        refine wa_iast (pc := 134) cx lk_48 (cx.bl 48 rfl) g19 dX11_layTogether_134 ?_
        refine wa_iload_n (pc := 135) cx 3 dX11_layTogether_135 rfl rfl ?_
        refine wa_iconst (pc := 136) (v := 1) cx dX11_layTogether_136 (by decide) ?_
        refine wa_isub (pc := 137) cx dX11_layTogether_137 ?_
        refine wa_iload_n (pc := 138) cx 2 dX11_layTogether_138 rfl rfl ?_
        refine wa_iand (pc := 139) cx dX11_layTogether_139 ?_
        refine wa_istore_n (pc := 140) cx 3 [some (.ref (eA E 38)), some (.int v1), some (.int v2), some (.int ((v3 - 1) &&& v2)), none] dX11_layTogether_140 rfl (by decide) rfl rfl ?_
        refine wa_goto (pc := 141) cx 75 dX11_layTogether_141 rfl ?_
        obtain rfl := Option.some.inj hf
        refine wa_forget [true, true, true, true, false] [some (.ref (eA E 38)), some (.int v1), some (.int v2), some (.int ((v3 - 1) &&& v2)), none] rfl ?_
        exact hk2
      have j105 : ∀ (v1 : Int32) (v2 : Int32) (v3 : Int32) (t0 : Int32) (σ : Sg) (r2 : (Int32 × Sg) ⊕ (Sg)), fX11_layTogether_J105 v1 v2 v3 t0 σ = some r2 → (sel (fun y2 => WA p l e (rmd 4) s m args below meth c 5 E 0 0 (MQ below (Qcq E s.heap.size (none) q) args s 0 0 (AE E s.heap.size)) 75 [some (.ref (eA E 38)), some (.int v1), some (.int v2), some (.int y2.1), none] [] y2.2) (fun y2 => WA p l e (rmd 4) s m args below meth c 5 E 0 0 (MQ below (Qcq E s.heap.size (none) q) args s 0 0 (AE E s.heap.size)) 144 [some (.ref (eA E 38)), some (.int v1), some (.int v2), none, none] [] y2) r2) → WA p l e (rmd 4) s m args below meth c 5 E 0 0 (MQ below (Qcq E s.heap.size (none) q) args s 0 0 (AE E s.heap.size)) 105 [some (.ref (eA E 38)), some (.int v1), some (.int v2), some (.int v3), none] [.int t0] σ := by
        intro v1 v2 v3 t0 σ r2 hf hk2
        unfold fX11_layTogether_J105 at hf
        refine wa_istore (pc := 105) cx 4 [some (.ref (eA E 38)), some (.int v1), some (.int v2), some (.int v3), some (.int t0)] dX11_layTogether_105 (by decide) rfl rfl ?_
        refine wa_aload_n (pc := 107) cx 0 dX11_layTogether_107 rfl rfl ?_
        refine wa_getR (pc := 108) cx fl_X11_37 lk_38 rfl (cx.bl 38 rfl) dX11_layTogether_108 ?_
        refine wa_iload_n (pc := 111) cx 2 dX11_layTogether_111 rfl rfl ?_
        refine wa_iload (pc := 112) cx 4 dX11_layTogether_112 rfl ?_
        refine wa_aload_n (pc := 114) cx 0 dX11_layTogether_114 rfl rfl ?_
        refine wa_getR (pc := 115) cx fl_X11_37 lk_38 rfl (cx.bl 38 rfl) dX11_layTogether_115 ?_
        refine wa_iload_n (pc := 118) cx 2 dX11_layTogether_118 rfl rfl ?_
        obtain ⟨g16, hf⟩ := gd_some hf
        refine wa_iald (pc := 119) cx lk_48 (cx.bl 48 rfl) g16 dX11_layTogether_119 ?_
        refine wa_icmp_le (pc := 120) cx 128 dX11_layTogether_120 rfl (fun c17 => ?_) (fun c17 => ?_)
        · have hf := (if_pos c17).symm.trans hf
          refine wa_aload_n (pc := 128) cx 0 dX11_layTogether_128 rfl rfl ?_
          refine wa_getR (pc := 129) cx fl_X11_37 lk_38 rfl (cx.bl 38 rfl) dX11_layTogether_129 ?_
          refine wa_iload_n (pc := 132) cx 2 dX11_layTogether_132 rfl rfl ?_
          obtain ⟨g18, hf⟩ := gd_some hf
          refine wa_iald (pc := 133) cx lk_48 (cx.bl 48 rfl) g18 dX11_layTogether_133 ?_
          refine wa_forget [true, true, true, true, false] [some (.ref (eA E 38)), some (.int v1), some (.int v2), some (.int v3), none] rfl ?_
          exact j134 _ _ _ _ _ _ _ hf hk2
        · have hf := (if_neg c17).symm.trans hf
          refine wa_iload (pc := 123) cx 4 dX11_layTogether_123 rfl ?_
          refine wa_goto (pc := 125) cx 134 dX11_layTogether_125 rfl ?_
          refine wa_forget [true, true, true, true, false] [some (.ref (eA E 38)), some (.int v1), some (.int v2), some (.int v3), none] rfl ?_
          exact j134 _ _ _ _ _ _ _ hf hk2
      intro y0 r2 hf hk2
      obtain ⟨v3, σ⟩ := y0
      have hf : fX11_layTogether_B75 v1 v2 v3 σ = some r2 := hf
      unfold fX11_layTogether_B75 at hf
      refine wa_iload_n (pc := 75) cx 3 dX11_layTogether_75 rfl rfl ?_
      refine wa_if_le (pc := 76) cx 144 dX11_layTogether_76 rfl (fun c13 => ?_) (fun c13 => ?_)
      · have hf := (if_pos c13).symm.trans hf
        obtain rfl := Option.some.inj hf
        refine wa_forget [true, true, true, false, false] [some (.ref (eA E 38)), some (.int v1), some (.int v2), none, none] rfl ?_
        exact hk2
      · have hf := (if_neg c13).symm.trans hf
        refine wa_aload_n (pc := 79) cx 0 dX11_layTogether_79 rfl rfl ?_
        refine wa_getR (pc := 80) cx fl_X11_34 lk_38 rfl (cx.bl 38 rfl) dX11_layTogether_80 ?_
        refine wa_iload_n (pc := 83) cx 3 dX11_layTogether_83 rfl rfl ?_
        obtain ⟨g14, hf⟩ := gd_some hf
        refine wa_iald (pc := 84) cx lk_47 (cx.bl 47 rfl) g14 dX11_layTogether_84 ?_
        refine wa_iload_n (pc := 85) cx 1 dX11_layTogether_85 rfl rfl ?_
        refine wa_icmp_lt (pc := 86) cx 104 dX11_layTogether_86 rfl (fun c15 => ?_) (fun c15 => ?_)
        · have hf := (if_pos c15).symm.trans hf
          refine wa_iconst (pc := 104) (v := 0) cx dX11_layTogether_104 (by decide) ?_
          exact j105 _ _ _ _ _ _ hf hk2
        · have hf := (if_neg c15).symm.trans hf
          refine wa_aload_n (pc := 89) cx 0 dX11_layTogether_89 rfl rfl ?_
          refine wa_getR (pc := 90) cx fl_X11_37 lk_38 rfl (cx.bl 38 rfl) dX11_layTogether_90 ?_
          refine wa_iload_n (pc := 93) cx 2 dX11_layTogether_93 rfl rfl ?_
          refine wa_iload_n (pc := 94) cx 3 dX11_layTogether_94 rfl rfl ?_
          refine wa_iconst (pc := 95) (v := (-1)) cx dX11_layTogether_95 (by decide) ?_
          refine wa_ixor (pc := 96) cx dX11_layTogether_96 ?_
          refine wa_iand (pc := 97) cx dX11_layTogether_97 ?_
          obtain ⟨g20, hf⟩ := gd_some hf
          refine wa_iald (pc := 98) cx lk_48 (cx.bl 48 rfl) g20 dX11_layTogether_98 ?_
          refine wa_iconst (pc := 99) (v := 1) cx dX11_layTogether_99 (by decide) ?_
          refine wa_iadd (pc := 100) cx dX11_layTogether_100 ?_
          refine wa_goto (pc := 101) cx 105 dX11_layTogether_101 rfl ?_
          exact j105 _ _ _ _ _ _ hf hk2
    intro y0 r1 hf hk1
    obtain ⟨v2, σ⟩ := y0
    have hf : fX11_layTogether_B2 v1 v2 σ = some r1 := hf
    unfold fX11_layTogether_B2 at hf
    refine wa_iload_n (pc := 2) cx 2 dX11_layTogether_2 rfl rfl ?_
    refine wa_iconst (pc := 3) (v := 1) cx dX11_layTogether_3 (by decide) ?_
    refine wa_aload_n (pc := 4) cx 0 dX11_layTogether_4 rfl rfl ?_
    refine wa_getR (pc := 5) cx fl_X11_19 lk_38 rfl (cx.bl 38 rfl) dX11_layTogether_5 ?_
    refine wa_iconst (pc := 8) (v := 3) cx dX11_layTogether_8 (by decide) ?_
    obtain ⟨g1, hf⟩ := gd_some hf
    refine wa_iald (pc := 9) cx lk_42 (cx.bl 42 rfl) g1 dX11_layTogether_9 ?_
    refine wa_ishl (pc := 10) cx dX11_layTogether_10 ?_
    refine wa_icmp_ge (pc := 11) cx 150 dX11_layTogether_11 rfl (fun c2 => ?_) (fun c2 => ?_)
    · have hf := (if_pos c2).symm.trans hf
      obtain rfl := Option.some.inj hf
      refine wa_forget [false, false, false, false, false] [none, none, none, none, none] rfl ?_
      exact hk1
    · have hf := (if_neg c2).symm.trans hf
      refine wa_aload_n (pc := 14) cx 0 dX11_layTogether_14 rfl rfl ?_
      refine wa_getR (pc := 15) cx fl_X11_34 lk_38 rfl (cx.bl 38 rfl) dX11_layTogether_15 ?_
      refine wa_iload_n (pc := 18) cx 2 dX11_layTogether_18 rfl rfl ?_
      refine wa_iconst (pc := 19) (v := 0) cx dX11_layTogether_19 (by decide) ?_
      obtain ⟨g3, hf⟩ := gd_some hf
      refine wa_iast (pc := 20) cx lk_47 (cx.bl 47 rfl) g3 dX11_layTogether_20 ?_
      refine wa_aload_n (pc := 21) cx 0 dX11_layTogether_21 rfl rfl ?_
      refine wa_getR (pc := 22) cx fl_X11_37 lk_38 rfl (cx.bl 38 rfl) dX11_layTogether_22 ?_
      refine wa_iload_n (pc := 25) cx 2 dX11_layTogether_25 rfl rfl ?_
      refine wa_iconst (pc := 26) (v := 0) cx dX11_layTogether_26 (by decide) ?_
      obtain ⟨g4, hf⟩ := gd_some hf
      refine wa_iast (pc := 27) cx lk_48 (cx.bl 48 rfl) g4 dX11_layTogether_27 ?_
      refine wa_iconst (pc := 28) (v := 0) cx dX11_layTogether_28 (by decide) ?_
      refine wa_istore_n (pc := 29) cx 3 [some (.ref (eA E 38)), some (.int v1), some (.int v2), some (.int 0), none] dX11_layTogether_29 rfl (by decide) rfl rfl ?_
      obtain ⟨o12, h23, hf⟩ := bd_some hf
      refine l30 _ _ _ _ h23 ?_
      refine wa_iload_n (pc := 73) cx 2 dX11_layTogether_73 rfl rfl ?_
      refine wa_istore_n (pc := 74) cx 3 [some (.ref (eA E 38)), some (.int v1), some (.int v2), some (.int v2), none] dX11_layTogether_74 rfl (by decide) rfl rfl ?_
      obtain ⟨o21, h22, hf⟩ := bd_some hf
      refine l75 _ _ _ _ h22 ?_
      refine wa_iinc (pc := 144) (v := 1) cx 2 [some (.ref (eA E 38)), some (.int v1), some (.int (v2 + 1)), none, none] dX11_layTogether_144 (by decide) rfl (by decide) rfl rfl ?_
      refine wa_goto (pc := 147) cx 2 dX11_layTogether_147 rfl ?_
      obtain rfl := Option.some.inj hf
      refine wa_forget [true, true, true, false, false] [some (.ref (eA E 38)), some (.int v1), some (.int (v2 + 1)), none, none] rfl ?_
      exact hk1
  refine wa_iconst (pc := 0) (v := 0) cx dX11_layTogether_0 (by decide) ?_
  refine wa_istore_n (pc := 1) cx 2 [some (.ref (eA E 38)), some (.int a1), some (.int 0), none, none] dX11_layTogether_1 rfl (by decide) rfl rfl ?_
  obtain ⟨o24, h25, hf⟩ := bd_some hf
  refine l2 _ _ _ h25 ?_
  obtain rfl := Option.some.inj hf
  exact wa_vret (pc := 150) cx dX11_layTogether_150
def fX11_costOf_J40 (v1 : Int32) (v3 : Int32) (t1 : Int32) (t0 : Int32) (σ : Sg) : Option ((Int32 × Int32) ⊕ (Int32)) :=
  some (.inl ((t0 + t1), (v3 + 1)))
def fX11_costOf_B4 (v1 : Int32) (v2 : Int32) (v3 : Int32) (σ : Sg) : Option ((Int32 × Int32) ⊕ (Int32)) :=
  gd (inb 3 77) (
  if ga σ 42 3 ≤ v3 then (some (.inr v2)) else (if (jshr v1 v3 &&& 1) = 1 then ((fX11_priceOf v3 σ).bind (fun q4 =>
  (fX11_of v3 2 σ).bind (fun q6 =>
  fX11_costOf_J40 v1 v3 (q4 * q6) v2 σ))) else (fX11_costOf_J40 v1 v3 0 v2 σ)))
def fX11_costOf (a1 : Int32) (σ : Sg) : Option (Int32) :=
  (lpO (fun w => fX11_costOf_B4 a1 w.1 w.2 σ) FUEL (0, 0)).bind (fun o8 =>
  some o8)
set_option maxHeartbeats 4000000 in
set_option maxRecDepth 100000 in
theorem ct_X11_costOf (l : Launch) (E : En) (σ : Sg) (a1 : Int32) (q : Int32) (hf : fX11_costOf a1 σ = some q) : CT l yX11_costOf cX11_costOf 4 (some .int) 2 E σ [.ref (eA E 38), .int a1] (some (.int q)) σ := by
  refine CT.of RX11 [some (.ref (eA E 38)), some (.int a1), none, none] rfl (by decide +kernel) (Nat.le_of_ble_eq_true rfl) rfl ?_
  intro p e s m args below meth c cx
  unfold fX11_costOf at hf
  have l4 : ∀ (v1 : Int32) (σ : Sg) (y : Int32 × Int32) (o : Int32), lpO (fun w => fX11_costOf_B4 v1 w.1 w.2 σ) FUEL y = some o → (WA p l e (rmd 2) s m args below meth c 4 E 0 0 (MQ below (Qcq E s.heap.size (some (.int q)) σ) args s 0 0 (AE E s.heap.size)) 48 [none, none, some (.int o), none] [] σ) → WA p l e (rmd 2) s m args below meth c 4 E 0 0 (MQ below (Qcq E s.heap.size (some (.int q)) σ) args s 0 0 (AE E s.heap.size)) 4 [some (.ref (eA E 38)), some (.int v1), some (.int y.1), some (.int y.2)] [] σ := by
    intro v1 σ y o hf hk
    refine lp_rule (P := fun y => WA p l e (rmd 2) s m args below meth c 4 E 0 0 (MQ below (Qcq E s.heap.size (some (.int q)) σ) args s 0 0 (AE E s.heap.size)) 4 [some (.ref (eA E 38)), some (.int v1), some (.int y.1), some (.int y.2)] [] σ) (K := fun o => WA p l e (rmd 2) s m args below meth c 4 E 0 0 (MQ below (Qcq E s.heap.size (some (.int q)) σ) args s 0 0 (AE E s.heap.size)) 48 [none, none, some (.int o), none] [] σ) ?_ FUEL y o hf hk
    have j40 : ∀ (v1 : Int32) (v3 : Int32) (t1 : Int32) (t0 : Int32) (σ : Sg) (r1 : (Int32 × Int32) ⊕ (Int32)), fX11_costOf_J40 v1 v3 t1 t0 σ = some r1 → (sel (fun y1 => WA p l e (rmd 2) s m args below meth c 4 E 0 0 (MQ below (Qcq E s.heap.size (some (.int q)) σ) args s 0 0 (AE E s.heap.size)) 4 [some (.ref (eA E 38)), some (.int v1), some (.int y1.1), some (.int y1.2)] [] σ) (fun y1 => WA p l e (rmd 2) s m args below meth c 4 E 0 0 (MQ below (Qcq E s.heap.size (some (.int q)) σ) args s 0 0 (AE E s.heap.size)) 48 [none, none, some (.int y1), none] [] σ) r1) → WA p l e (rmd 2) s m args below meth c 4 E 0 0 (MQ below (Qcq E s.heap.size (some (.int q)) σ) args s 0 0 (AE E s.heap.size)) 40 [some (.ref (eA E 38)), some (.int v1), none, some (.int v3)] [.int t1, .int t0] σ := by
      intro v1 v3 t1 t0 σ r1 hf hk1
      unfold fX11_costOf_J40 at hf
      refine wa_iadd (pc := 40) cx dX11_costOf_40 ?_
      refine wa_istore_n (pc := 41) cx 2 [some (.ref (eA E 38)), some (.int v1), some (.int (t0 + t1)), some (.int v3)] dX11_costOf_41 rfl (by decide) rfl rfl ?_
      refine wa_iinc (pc := 42) (v := 1) cx 3 [some (.ref (eA E 38)), some (.int v1), some (.int (t0 + t1)), some (.int (v3 + 1))] dX11_costOf_42 (by decide) rfl (by decide) rfl rfl ?_
      refine wa_goto (pc := 45) cx 4 dX11_costOf_45 rfl ?_
      obtain rfl := Option.some.inj hf
      refine wa_forget [true, true, true, true] [some (.ref (eA E 38)), some (.int v1), some (.int (t0 + t1)), some (.int (v3 + 1))] rfl ?_
      exact hk1
    intro y0 r1 hf hk1
    obtain ⟨v2, v3⟩ := y0
    have hf : fX11_costOf_B4 v1 v2 v3 σ = some r1 := hf
    unfold fX11_costOf_B4 at hf
    refine wa_iload_n (pc := 4) cx 3 dX11_costOf_4 rfl rfl ?_
    refine wa_aload_n (pc := 5) cx 0 dX11_costOf_5 rfl rfl ?_
    refine wa_getR (pc := 6) cx fl_X11_19 lk_38 rfl (cx.bl 38 rfl) dX11_costOf_6 ?_
    refine wa_iconst (pc := 9) (v := 3) cx dX11_costOf_9 (by decide) ?_
    obtain ⟨g1, hf⟩ := gd_some hf
    refine wa_iald (pc := 10) cx lk_42 (cx.bl 42 rfl) g1 dX11_costOf_10 ?_
    refine wa_icmp_ge (pc := 11) cx 48 dX11_costOf_11 rfl (fun c2 => ?_) (fun c2 => ?_)
    · have hf := (if_pos c2).symm.trans hf
      obtain rfl := Option.some.inj hf
      refine wa_forget [false, false, true, false] [none, none, some (.int v2), none] rfl ?_
      exact hk1
    · have hf := (if_neg c2).symm.trans hf
      refine wa_iload_n (pc := 14) cx 2 dX11_costOf_14 rfl rfl ?_
      refine wa_iload_n (pc := 15) cx 1 dX11_costOf_15 rfl rfl ?_
      refine wa_iload_n (pc := 16) cx 3 dX11_costOf_16 rfl rfl ?_
      refine wa_ishr (pc := 17) cx dX11_costOf_17 ?_
      refine wa_iconst (pc := 18) (v := 1) cx dX11_costOf_18 (by decide) ?_
      refine wa_iand (pc := 19) cx dX11_costOf_19 ?_
      refine wa_iconst (pc := 20) (v := 1) cx dX11_costOf_20 (by decide) ?_
      refine wa_icmp_ne (pc := 21) cx 39 dX11_costOf_21 rfl (fun c3 => ?_) (fun c3 => ?_)
      · have hf := (if_neg c3).symm.trans hf
        refine wa_iconst (pc := 39) (v := 0) cx dX11_costOf_39 (by decide) ?_
        refine wa_forget [true, true, false, true] [some (.ref (eA E 38)), some (.int v1), none, some (.int v3)] rfl ?_
        exact j40 _ _ _ _ _ _ hf hk1
      · have hf := (if_pos c3).symm.trans hf
        refine wa_aload_n (pc := 24) cx 0 dX11_costOf_24 rfl rfl ?_
        refine wa_iload_n (pc := 25) cx 3 dX11_costOf_25 rfl rfl ?_
        obtain ⟨q4, h5, hf⟩ := bd_some hf
        refine wa_callVi (pc := 26) cx [.int v3] (ct_X11_priceOf l E _ _ _ h5) mi_X11_priceOf tw_1090 lk_38 rfl (cx.bl 38 rfl) rfl rfl (Nat.le_of_ble_eq_true rfl) ⟨Nat.le_of_ble_eq_true rfl, Nat.le_of_ble_eq_true rfl⟩ ⟨Nat.zero_le _, Nat.zero_le _⟩ dX11_costOf_26 ?_
        refine wa_aload_n (pc := 29) cx 0 dX11_costOf_29 rfl rfl ?_
        refine wa_iload_n (pc := 30) cx 3 dX11_costOf_30 rfl rfl ?_
        refine wa_iconst (pc := 31) (v := 2) cx dX11_costOf_31 (by decide) ?_
        obtain ⟨q6, h7, hf⟩ := bd_some hf
        refine wa_callVi (pc := 32) cx [.int v3, .int 2] (ct_X11_of l E _ _ _ _ h7) mi_X11_of tw_1069 lk_38 rfl (cx.bl 38 rfl) rfl rfl (Nat.le_of_ble_eq_true rfl) ⟨Nat.le_of_ble_eq_true rfl, Nat.le_of_ble_eq_true rfl⟩ ⟨Nat.zero_le _, Nat.zero_le _⟩ dX11_costOf_32 ?_
        refine wa_imul (pc := 35) cx dX11_costOf_35 ?_
        refine wa_goto (pc := 36) cx 40 dX11_costOf_36 rfl ?_
        refine wa_forget [true, true, false, true] [some (.ref (eA E 38)), some (.int v1), none, some (.int v3)] rfl ?_
        exact j40 _ _ _ _ _ _ hf hk1
  refine wa_iconst (pc := 0) (v := 0) cx dX11_costOf_0 (by decide) ?_
  refine wa_istore_n (pc := 1) cx 2 [some (.ref (eA E 38)), some (.int a1), some (.int 0), none] dX11_costOf_1 rfl (by decide) rfl rfl ?_
  refine wa_iconst (pc := 2) (v := 0) cx dX11_costOf_2 (by decide) ?_
  refine wa_istore_n (pc := 3) cx 3 [some (.ref (eA E 38)), some (.int a1), some (.int 0), some (.int 0)] dX11_costOf_3 rfl (by decide) rfl rfl ?_
  obtain ⟨o8, h9, hf⟩ := bd_some hf
  refine l4 _ _ _ _ h9 ?_
  refine wa_iload_n (pc := 48) cx 2 dX11_costOf_48 rfl rfl ?_
  obtain rfl := Option.some.inj hf
  exact wa_iret (pc := 49) cx dX11_costOf_49
def fX11_cheapest_J32  (σ : Sg) : Option (Int32 × Sg) :=
  some ((-1000001), σ)
def fX11_cheapest_J118 (v2 : Int32) (v4 : Int32) (t0 : Int32) (σ : Sg) : Option ((Int32 × Int32) ⊕ (Int32)) :=
  some (.inl (t0, (v4 + 1)))
def fX11_cheapest_J117 (v2 : Int32) (v3 : Int32) (v4 : Int32) (σ : Sg) : Option ((Int32 × Int32) ⊕ (Int32)) :=
  fX11_cheapest_J118 v2 v4 v3 σ
def fX11_cheapest_J112 (v2 : Int32) (v4 : Int32) (σ : Sg) : Option ((Int32 × Int32) ⊕ (Int32)) :=
  fX11_cheapest_J118 v2 v4 v4 σ
def fX11_cheapest_J85 (v2 : Int32) (v3 : Int32) (v4 : Int32) (t0 : Int32) (σ : Sg) : Option ((Int32 × Int32) ⊕ (Int32)) :=
  if t0 = 0 then (fX11_cheapest_J117 v2 v3 v4 σ) else (if v3 = (-1000000) then (fX11_cheapest_J112 v2 v4 σ) else ((fX11_costOf v4 σ).bind (fun q17 =>
  (fX11_costOf v3 σ).bind (fun q19 =>
  if q19 ≤ q17 then (fX11_cheapest_J117 v2 v3 v4 σ) else (fX11_cheapest_J112 v2 v4 σ)))))
def fX11_cheapest_B56 (v2 : Int32) (v3 : Int32) (v4 : Int32) (σ : Sg) : Option ((Int32 × Int32) ⊕ (Int32)) :=
  gd (inb 3 77) (
  if jshl 1 (ga σ 42 3) ≤ v4 then (some (.inr v3)) else (gd (inb v4 512) (
  if ga σ 48 v4 < 3 then (fX11_cheapest_J85 v2 v3 v4 0 σ) else (fX11_cheapest_J85 v2 v3 v4 1 σ))))
def fX11_cheapest_J136 (v3 : Int32) (σ : Sg) : Option (Int32 × Sg) :=
  some (v3, σ)
def fX11_cheapest (a1 : Int32) (a2 : Int32) (σ : Sg) : Option (Int32 × Sg) :=
  if gf (sup σ 38 0 0) 38 7 = 0 then (some ((-1000002), sup σ 38 0 0)) else ((fX11_isLoad a1 (sup σ 38 0 0)).bind (fun q2 =>
  if q2 = 0 then (fX11_cheapest_J32  (sup σ 38 0 0)) else ((fX11_in ((a2).toInt64) 0 1 (sup σ 38 0 0)).bind (fun q5 =>
  if q5 = 0 then (fX11_cheapest_J32  (sup σ 38 0 0)) else (if a1 = 0 then (some (0, sup σ 38 0 0)) else ((fX11_layTogether ((a1 + 2) / 3) (sup σ 38 0 0)).bind (fun q9 =>
  (lpO (fun w => fX11_cheapest_B56 a2 w.1 w.2 q9) FUEL ((-1000000), 0)).bind (fun o22 =>
  if o22 = (-1000000) then (fX11_cheapest_J136 o22 q9) else (if a2 = 1 then (fX11_cheapest_J136 o22 q9) else ((fX11_costOf o22 q9).bind (fun q25 =>
  some (q25, q9))))))))))))
set_option maxHeartbeats 4000000 in
set_option maxRecDepth 100000 in
theorem ct_X11_cheapest (l : Launch) (E : En) (σ : Sg) (a1 : Int32) (a2 : Int32) (q : Int32 × Sg) (hf : fX11_cheapest a1 a2 σ = some q) : CT l yX11_cheapest cX11_cheapest 6 (some .int) 5 E σ [.ref (eA E 38), .int a1, .int a2] (some (.int q.1)) q.2 := by
  refine CT.of RX11 [some (.ref (eA E 38)), some (.int a1), some (.int a2), none, none, none] rfl (by decide +kernel) (Nat.le_of_ble_eq_true rfl) rfl ?_
  intro p e s m args below meth c cx
  unfold fX11_cheapest at hf
  have j32 : ∀  (σ : Sg), fX11_cheapest_J32  σ = some q → WA p l e (rmd 5) s m args below meth c 6 E 0 0 (MQ below (Qcq E s.heap.size (some (.int q.1)) q.2) args s 0 0 (AE E s.heap.size)) 32 [none, none, none, none, none, none] [] σ := by
    intro  σ hf
    unfold fX11_cheapest_J32 at hf
    refine wa_ldc (pc := 32) (v := (-1000001)) cx dX11_cheapest_32 tw_956 ?_
    obtain rfl := Option.some.inj hf
    exact wa_iret (pc := 34) cx dX11_cheapest_34
  have l56 : ∀ (v2 : Int32) (σ : Sg) (y : Int32 × Int32) (o : Int32), lpO (fun w => fX11_cheapest_B56 v2 w.1 w.2 σ) FUEL y = some o → (WA p l e (rmd 5) s m args below meth c 6 E 0 0 (MQ below (Qcq E s.heap.size (some (.int q.1)) q.2) args s 0 0 (AE E s.heap.size)) 125 [some (.ref (eA E 38)), none, some (.int v2), some (.int o), none, none] [] σ) → WA p l e (rmd 5) s m args below meth c 6 E 0 0 (MQ below (Qcq E s.heap.size (some (.int q.1)) q.2) args s 0 0 (AE E s.heap.size)) 56 [some (.ref (eA E 38)), none, some (.int v2), some (.int y.1), some (.int y.2), none] [] σ := by
    intro v2 σ y o hf hk
    refine lp_rule (P := fun y => WA p l e (rmd 5) s m args below meth c 6 E 0 0 (MQ below (Qcq E s.heap.size (some (.int q.1)) q.2) args s 0 0 (AE E s.heap.size)) 56 [some (.ref (eA E 38)), none, some (.int v2), some (.int y.1), some (.int y.2), none] [] σ) (K := fun o => WA p l e (rmd 5) s m args below meth c 6 E 0 0 (MQ below (Qcq E s.heap.size (some (.int q.1)) q.2) args s 0 0 (AE E s.heap.size)) 125 [some (.ref (eA E 38)), none, some (.int v2), some (.int o), none, none] [] σ) ?_ FUEL y o hf hk
    have j118 : ∀ (v2 : Int32) (v4 : Int32) (t0 : Int32) (σ : Sg) (r1 : (Int32 × Int32) ⊕ (Int32)), fX11_cheapest_J118 v2 v4 t0 σ = some r1 → (sel (fun y1 => WA p l e (rmd 5) s m args below meth c 6 E 0 0 (MQ below (Qcq E s.heap.size (some (.int q.1)) q.2) args s 0 0 (AE E s.heap.size)) 56 [some (.ref (eA E 38)), none, some (.int v2), some (.int y1.1), some (.int y1.2), none] [] σ) (fun y1 => WA p l e (rmd 5) s m args below meth c 6 E 0 0 (MQ below (Qcq E s.heap.size (some (.int q.1)) q.2) args s 0 0 (AE E s.heap.size)) 125 [some (.ref (eA E 38)), none, some (.int v2), some (.int y1), none, none] [] σ) r1) → WA p l e (rmd 5) s m args below meth c 6 E 0 0 (MQ below (Qcq E s.heap.size (some (.int q.1)) q.2) args s 0 0 (AE E s.heap.size)) 118 [some (.ref (eA E 38)), none, some (.int v2), none, some (.int v4), none] [.int t0] σ := by
      intro v2 v4 t0 σ r1 hf hk1
      unfold fX11_cheapest_J118 at hf
      refine wa_istore_n (pc := 118) cx 3 [some (.ref (eA E 38)), none, some (.int v2), some (.int t0), some (.int v4), none] dX11_cheapest_118 rfl (by decide) rfl rfl ?_
      refine wa_iinc (pc := 119) (v := 1) cx 4 [some (.ref (eA E 38)), none, some (.int v2), some (.int t0), some (.int (v4 + 1)), none] dX11_cheapest_119 (by decide) rfl (by decide) rfl rfl ?_
      refine wa_goto (pc := 122) cx 56 dX11_cheapest_122 rfl ?_
      obtain rfl := Option.some.inj hf
      refine wa_forget [true, false, true, true, true, false] [some (.ref (eA E 38)), none, some (.int v2), some (.int t0), some (.int (v4 + 1)), none] rfl ?_
      exact hk1
    have j117 : ∀ (v2 : Int32) (v3 : Int32) (v4 : Int32) (σ : Sg) (r1 : (Int32 × Int32) ⊕ (Int32)), fX11_cheapest_J117 v2 v3 v4 σ = some r1 → (sel (fun y1 => WA p l e (rmd 5) s m args below meth c 6 E 0 0 (MQ below (Qcq E s.heap.size (some (.int q.1)) q.2) args s 0 0 (AE E s.heap.size)) 56 [some (.ref (eA E 38)), none, some (.int v2), some (.int y1.1), some (.int y1.2), none] [] σ) (fun y1 => WA p l e (rmd 5) s m args below meth c 6 E 0 0 (MQ below (Qcq E s.heap.size (some (.int q.1)) q.2) args s 0 0 (AE E s.heap.size)) 125 [some (.ref (eA E 38)), none, some (.int v2), some (.int y1), none, none] [] σ) r1) → WA p l e (rmd 5) s m args below meth c 6 E 0 0 (MQ below (Qcq E s.heap.size (some (.int q.1)) q.2) args s 0 0 (AE E s.heap.size)) 117 [some (.ref (eA E 38)), none, some (.int v2), some (.int v3), some (.int v4), none] [] σ := by
      intro v2 v3 v4 σ r1 hf hk1
      unfold fX11_cheapest_J117 at hf
      refine wa_iload_n (pc := 117) cx 3 dX11_cheapest_117 rfl rfl ?_
      refine wa_forget [true, false, true, false, true, false] [some (.ref (eA E 38)), none, some (.int v2), none, some (.int v4), none] rfl ?_
      exact j118 _ _ _ _ _ hf hk1
    have j112 : ∀ (v2 : Int32) (v4 : Int32) (σ : Sg) (r1 : (Int32 × Int32) ⊕ (Int32)), fX11_cheapest_J112 v2 v4 σ = some r1 → (sel (fun y1 => WA p l e (rmd 5) s m args below meth c 6 E 0 0 (MQ below (Qcq E s.heap.size (some (.int q.1)) q.2) args s 0 0 (AE E s.heap.size)) 56 [some (.ref (eA E 38)), none, some (.int v2), some (.int y1.1), some (.int y1.2), none] [] σ) (fun y1 => WA p l e (rmd 5) s m args below meth c 6 E 0 0 (MQ below (Qcq E s.heap.size (some (.int q.1)) q.2) args s 0 0 (AE E s.heap.size)) 125 [some (.ref (eA E 38)), none, some (.int v2), some (.int y1), none, none] [] σ) r1) → WA p l e (rmd 5) s m args below meth c 6 E 0 0 (MQ below (Qcq E s.heap.size (some (.int q.1)) q.2) args s 0 0 (AE E s.heap.size)) 112 [some (.ref (eA E 38)), none, some (.int v2), none, some (.int v4), none] [] σ := by
      intro v2 v4 σ r1 hf hk1
      unfold fX11_cheapest_J112 at hf
      refine wa_iload (pc := 112) cx 4 dX11_cheapest_112 rfl ?_
      refine wa_goto (pc := 114) cx 118 dX11_cheapest_114 rfl ?_
      exact j118 _ _ _ _ _ hf hk1
    have j85 : ∀ (v2 : Int32) (v3 : Int32) (v4 : Int32) (t0 : Int32) (σ : Sg) (r1 : (Int32 × Int32) ⊕ (Int32)), fX11_cheapest_J85 v2 v3 v4 t0 σ = some r1 → (sel (fun y1 => WA p l e (rmd 5) s m args below meth c 6 E 0 0 (MQ below (Qcq E s.heap.size (some (.int q.1)) q.2) args s 0 0 (AE E s.heap.size)) 56 [some (.ref (eA E 38)), none, some (.int v2), some (.int y1.1), some (.int y1.2), none] [] σ) (fun y1 => WA p l e (rmd 5) s m args below meth c 6 E 0 0 (MQ below (Qcq E s.heap.size (some (.int q.1)) q.2) args s 0 0 (AE E s.heap.size)) 125 [some (.ref (eA E 38)), none, some (.int v2), some (.int y1), none, none] [] σ) r1) → WA p l e (rmd 5) s m args below meth c 6 E 0 0 (MQ below (Qcq E s.heap.size (some (.int q.1)) q.2) args s 0 0 (AE E s.heap.size)) 85 [some (.ref (eA E 38)), none, some (.int v2), some (.int v3), some (.int v4), none] [.int t0] σ := by
      intro v2 v3 v4 t0 σ r1 hf hk1
      unfold fX11_cheapest_J85 at hf
      refine wa_istore (pc := 85) cx 5 [some (.ref (eA E 38)), none, some (.int v2), some (.int v3), some (.int v4), some (.int t0)] dX11_cheapest_85 (by decide) rfl rfl ?_
      refine wa_iload (pc := 87) cx 5 dX11_cheapest_87 rfl ?_
      refine wa_if_eq (pc := 89) cx 117 dX11_cheapest_89 rfl (fun c15 => ?_) (fun c15 => ?_)
      · have hf := (if_pos c15).symm.trans hf
        refine wa_forget [true, false, true, true, true, false] [some (.ref (eA E 38)), none, some (.int v2), some (.int v3), some (.int v4), none] rfl ?_
        exact j117 _ _ _ _ _ hf hk1
      · have hf := (if_neg c15).symm.trans hf
        refine wa_iload_n (pc := 92) cx 3 dX11_cheapest_92 rfl rfl ?_
        refine wa_ldc (pc := 93) (v := (-1000000)) cx dX11_cheapest_93 tw_997 ?_
        refine wa_icmp_eq (pc := 95) cx 112 dX11_cheapest_95 rfl (fun c16 => ?_) (fun c16 => ?_)
        · have hf := (if_pos c16).symm.trans hf
          refine wa_forget [true, false, true, false, true, false] [some (.ref (eA E 38)), none, some (.int v2), none, some (.int v4), none] rfl ?_
          exact j112 _ _ _ _ hf hk1
        · have hf := (if_neg c16).symm.trans hf
          refine wa_aload_n (pc := 98) cx 0 dX11_cheapest_98 rfl rfl ?_
          refine wa_iload (pc := 99) cx 4 dX11_cheapest_99 rfl ?_
          obtain ⟨q17, h18, hf⟩ := bd_some hf
          refine wa_callVi (pc := 101) cx [.int v4] (ct_X11_costOf l E _ _ _ h18) mi_X11_costOf tw_1178 lk_38 rfl (cx.bl 38 rfl) rfl rfl (Nat.le_of_ble_eq_true rfl) ⟨Nat.le_of_ble_eq_true rfl, Nat.le_of_ble_eq_true rfl⟩ ⟨Nat.zero_le _, Nat.zero_le _⟩ dX11_cheapest_101 ?_
          refine wa_aload_n (pc := 104) cx 0 dX11_cheapest_104 rfl rfl ?_
          refine wa_iload_n (pc := 105) cx 3 dX11_cheapest_105 rfl rfl ?_
          obtain ⟨q19, h20, hf⟩ := bd_some hf
          refine wa_callVi (pc := 106) cx [.int v3] (ct_X11_costOf l E _ _ _ h20) mi_X11_costOf tw_1178 lk_38 rfl (cx.bl 38 rfl) rfl rfl (Nat.le_of_ble_eq_true rfl) ⟨Nat.le_of_ble_eq_true rfl, Nat.le_of_ble_eq_true rfl⟩ ⟨Nat.zero_le _, Nat.zero_le _⟩ dX11_cheapest_106 ?_
          refine wa_icmp_ge (pc := 109) cx 117 dX11_cheapest_109 rfl (fun c21 => ?_) (fun c21 => ?_)
          · have hf := (if_pos c21).symm.trans hf
            refine wa_forget [true, false, true, true, true, false] [some (.ref (eA E 38)), none, some (.int v2), some (.int v3), some (.int v4), none] rfl ?_
            exact j117 _ _ _ _ _ hf hk1
          · have hf := (if_neg c21).symm.trans hf
            refine wa_forget [true, false, true, false, true, false] [some (.ref (eA E 38)), none, some (.int v2), none, some (.int v4), none] rfl ?_
            exact j112 _ _ _ _ hf hk1
    intro y0 r1 hf hk1
    obtain ⟨v3, v4⟩ := y0
    have hf : fX11_cheapest_B56 v2 v3 v4 σ = some r1 := hf
    unfold fX11_cheapest_B56 at hf
    refine wa_iload (pc := 56) cx 4 dX11_cheapest_56 rfl ?_
    refine wa_iconst (pc := 58) (v := 1) cx dX11_cheapest_58 (by decide) ?_
    refine wa_aload_n (pc := 59) cx 0 dX11_cheapest_59 rfl rfl ?_
    refine wa_getR (pc := 60) cx fl_X11_19 lk_38 rfl (cx.bl 38 rfl) dX11_cheapest_60 ?_
    refine wa_iconst (pc := 63) (v := 3) cx dX11_cheapest_63 (by decide) ?_
    obtain ⟨g11, hf⟩ := gd_some hf
    refine wa_iald (pc := 64) cx lk_42 (cx.bl 42 rfl) g11 dX11_cheapest_64 ?_
    refine wa_ishl (pc := 65) cx dX11_cheapest_65 ?_
    refine wa_icmp_ge (pc := 66) cx 125 dX11_cheapest_66 rfl (fun c12 => ?_) (fun c12 => ?_)
    · have hf := (if_pos c12).symm.trans hf
      obtain rfl := Option.some.inj hf
      refine wa_forget [true, false, true, true, false, false] [some (.ref (eA E 38)), none, some (.int v2), some (.int v3), none, none] rfl ?_
      exact hk1
    · have hf := (if_neg c12).symm.trans hf
      refine wa_aload_n (pc := 69) cx 0 dX11_cheapest_69 rfl rfl ?_
      refine wa_getR (pc := 70) cx fl_X11_37 lk_38 rfl (cx.bl 38 rfl) dX11_cheapest_70 ?_
      refine wa_iload (pc := 73) cx 4 dX11_cheapest_73 rfl ?_
      obtain ⟨g13, hf⟩ := gd_some hf
      refine wa_iald (pc := 75) cx lk_48 (cx.bl 48 rfl) g13 dX11_cheapest_75 ?_
      refine wa_iconst (pc := 76) (v := 3) cx dX11_cheapest_76 (by decide) ?_
      refine wa_icmp_lt (pc := 77) cx 84 dX11_cheapest_77 rfl (fun c14 => ?_) (fun c14 => ?_)
      · have hf := (if_pos c14).symm.trans hf
        refine wa_iconst (pc := 84) (v := 0) cx dX11_cheapest_84 (by decide) ?_
        exact j85 _ _ _ _ _ _ hf hk1
      · have hf := (if_neg c14).symm.trans hf
        refine wa_iconst (pc := 80) (v := 1) cx dX11_cheapest_80 (by decide) ?_
        refine wa_goto (pc := 81) cx 85 dX11_cheapest_81 rfl ?_
        exact j85 _ _ _ _ _ _ hf hk1
  have j136 : ∀ (v3 : Int32) (σ : Sg), fX11_cheapest_J136 v3 σ = some q → WA p l e (rmd 5) s m args below meth c 6 E 0 0 (MQ below (Qcq E s.heap.size (some (.int q.1)) q.2) args s 0 0 (AE E s.heap.size)) 136 [none, none, none, some (.int v3), none, none] [] σ := by
    intro v3 σ hf
    unfold fX11_cheapest_J136 at hf
    refine wa_iload_n (pc := 136) cx 3 dX11_cheapest_136 rfl rfl ?_
    refine wa_goto (pc := 137) cx 145 dX11_cheapest_137 rfl ?_
    obtain rfl := Option.some.inj hf
    exact wa_iret (pc := 145) cx dX11_cheapest_145
  refine wa_aload_n (pc := 0) cx 0 dX11_cheapest_0 rfl rfl ?_
  refine wa_iconst (pc := 1) (v := 0) cx dX11_cheapest_1 (by decide) ?_
  refine wa_putI (pc := 2) cx fp_X11_50 lk_38 rfl (cx.bl 38 rfl) dX11_cheapest_2 ?_
  refine wa_aload_n (pc := 5) cx 0 dX11_cheapest_5 rfl rfl ?_
  refine wa_getI (pc := 6) cx fl_X11_177 lk_38 rfl (cx.bl 38 rfl) dX11_cheapest_6 ?_
  refine wa_if_ne (pc := 9) cx 15 dX11_cheapest_9 rfl (fun c1 => ?_) (fun c1 => ?_)
  · have hf := (if_neg c1).symm.trans hf
    refine wa_iload_n (pc := 15) cx 1 dX11_cheapest_15 rfl rfl ?_
    obtain ⟨q2, h3, hf⟩ := bd_some hf
    refine wa_callSi (pc := 16) cx [.int a1] (ct_X11_isLoad l E _ _ _ h3) ms_X11_isLoad tw_1106 rfl rfl (Nat.le_of_ble_eq_true rfl) ⟨Nat.le_of_ble_eq_true rfl, Nat.le_of_ble_eq_true rfl⟩ ⟨Nat.zero_le _, Nat.zero_le _⟩ dX11_cheapest_16 ?_
    refine wa_if_eq (pc := 19) cx 32 dX11_cheapest_19 rfl (fun c4 => ?_) (fun c4 => ?_)
    · have hf := (if_pos c4).symm.trans hf
      refine wa_forget [false, false, false, false, false, false] [none, none, none, none, none, none] rfl ?_
      exact j32  _ hf
    · have hf := (if_neg c4).symm.trans hf
      refine wa_iload_n (pc := 22) cx 2 dX11_cheapest_22 rfl rfl ?_
      refine wa_i2l (pc := 23) cx dX11_cheapest_23 ?_
      refine wa_lconst (pc := 24) (v := 0) cx dX11_cheapest_24 (by decide) ?_
      refine wa_lconst (pc := 25) (v := 1) cx dX11_cheapest_25 (by decide) ?_
      obtain ⟨q5, h6, hf⟩ := bd_some hf
      refine wa_callSi (pc := 26) cx [.long ((a2).toInt64), .long 0, .long 1] (ct_X11_in l E _ _ _ _ _ h6) ms_X11_in tw_952 rfl rfl (Nat.le_of_ble_eq_true rfl) ⟨Nat.le_of_ble_eq_true rfl, Nat.le_of_ble_eq_true rfl⟩ ⟨Nat.zero_le _, Nat.zero_le _⟩ dX11_cheapest_26 ?_
      refine wa_if_ne (pc := 29) cx 35 dX11_cheapest_29 rfl (fun c7 => ?_) (fun c7 => ?_)
      · have hf := (if_neg c7).symm.trans hf
        refine wa_iload_n (pc := 35) cx 1 dX11_cheapest_35 rfl rfl ?_
        refine wa_if_ne (pc := 36) cx 41 dX11_cheapest_36 rfl (fun c8 => ?_) (fun c8 => ?_)
        · have hf := (if_neg c8).symm.trans hf
          refine wa_aload_n (pc := 41) cx 0 dX11_cheapest_41 rfl rfl ?_
          refine wa_iload_n (pc := 42) cx 1 dX11_cheapest_42 rfl rfl ?_
          refine wa_iconst (pc := 43) (v := 2) cx dX11_cheapest_43 (by decide) ?_
          refine wa_iadd (pc := 44) cx dX11_cheapest_44 ?_
          refine wa_iconst (pc := 45) (v := 3) cx dX11_cheapest_45 (by decide) ?_
          refine wa_idiv (pc := 46) cx dX11_cheapest_46 (by decide) ?_
          obtain ⟨q9, h10, hf⟩ := bd_some hf
          refine wa_callVv (pc := 47) cx [.int ((a1 + 2) / 3)] (ct_X11_layTogether l E _ _ _ h10) mi_X11_layTogether tw_1174 lk_38 rfl (cx.bl 38 rfl) rfl rfl (Nat.le_of_ble_eq_true rfl) ⟨Nat.le_of_ble_eq_true rfl, Nat.le_of_ble_eq_true rfl⟩ ⟨Nat.zero_le _, Nat.zero_le _⟩ dX11_cheapest_47 ?_
          refine wa_ldc (pc := 50) (v := (-1000000)) cx dX11_cheapest_50 tw_997 ?_
          refine wa_istore_n (pc := 52) cx 3 [some (.ref (eA E 38)), some (.int a1), some (.int a2), some (.int (-1000000)), none, none] dX11_cheapest_52 rfl (by decide) rfl rfl ?_
          refine wa_iconst (pc := 53) (v := 0) cx dX11_cheapest_53 (by decide) ?_
          refine wa_istore (pc := 54) cx 4 [some (.ref (eA E 38)), some (.int a1), some (.int a2), some (.int (-1000000)), some (.int 0), none] dX11_cheapest_54 (by decide) rfl rfl ?_
          refine wa_forget [true, false, true, true, true, false] [some (.ref (eA E 38)), none, some (.int a2), some (.int (-1000000)), some (.int 0), none] rfl ?_
          obtain ⟨o22, h27, hf⟩ := bd_some hf
          refine l56 _ _ _ _ h27 ?_
          refine wa_iload_n (pc := 125) cx 3 dX11_cheapest_125 rfl rfl ?_
          refine wa_ldc (pc := 126) (v := (-1000000)) cx dX11_cheapest_126 tw_997 ?_
          refine wa_icmp_eq (pc := 128) cx 136 dX11_cheapest_128 rfl (fun c23 => ?_) (fun c23 => ?_)
          · have hf := (if_pos c23).symm.trans hf
            refine wa_forget [false, false, false, true, false, false] [none, none, none, some (.int o22), none, none] rfl ?_
            exact j136 _ _ hf
          · have hf := (if_neg c23).symm.trans hf
            refine wa_iload_n (pc := 131) cx 2 dX11_cheapest_131 rfl rfl ?_
            refine wa_iconst (pc := 132) (v := 1) cx dX11_cheapest_132 (by decide) ?_
            refine wa_icmp_ne (pc := 133) cx 140 dX11_cheapest_133 rfl (fun c24 => ?_) (fun c24 => ?_)
            · have hf := (if_neg c24).symm.trans hf
              refine wa_aload_n (pc := 140) cx 0 dX11_cheapest_140 rfl rfl ?_
              refine wa_iload_n (pc := 141) cx 3 dX11_cheapest_141 rfl rfl ?_
              obtain ⟨q25, h26, hf⟩ := bd_some hf
              refine wa_callVi (pc := 142) cx [.int o22] (ct_X11_costOf l E _ _ _ h26) mi_X11_costOf tw_1178 lk_38 rfl (cx.bl 38 rfl) rfl rfl (Nat.le_of_ble_eq_true rfl) ⟨Nat.le_of_ble_eq_true rfl, Nat.le_of_ble_eq_true rfl⟩ ⟨Nat.zero_le _, Nat.zero_le _⟩ dX11_cheapest_142 ?_
              obtain rfl := Option.some.inj hf
              exact wa_iret (pc := 145) cx dX11_cheapest_145
            · have hf := (if_pos c24).symm.trans hf
              refine wa_forget [false, false, false, true, false, false] [none, none, none, some (.int o22), none, none] rfl ?_
              exact j136 _ _ hf
        · have hf := (if_pos c8).symm.trans hf
          refine wa_iconst (pc := 39) (v := 0) cx dX11_cheapest_39 (by decide) ?_
          obtain rfl := Option.some.inj hf
          exact wa_iret (pc := 40) cx dX11_cheapest_40
      · have hf := (if_pos c7).symm.trans hf
        refine wa_forget [false, false, false, false, false, false] [none, none, none, none, none, none] rfl ?_
        exact j32  _ hf
  · have hf := (if_pos c1).symm.trans hf
    refine wa_ldc (pc := 12) (v := (-1000002)) cx dX11_cheapest_12 tw_1081 ?_
    obtain rfl := Option.some.inj hf
    exact wa_iret (pc := 14) cx dX11_cheapest_14
def fX11_tenthsOf (a1 : Int32) (σ : Sg) : Option (Int32) :=
  (fX11_of a1 0 σ).bind (fun q1 =>
  if q1 = 2 then (some 10) else ((fX11_of a1 0 σ).bind (fun q4 =>
  if q4 = 4 then (some 0) else ((fX11_truthOf a1 σ).bind (fun q7 =>
  some q7)))))
set_option maxHeartbeats 4000000 in
set_option maxRecDepth 100000 in
theorem ct_X11_tenthsOf (l : Launch) (E : En) (σ : Sg) (a1 : Int32) (q : Int32) (hf : fX11_tenthsOf a1 σ = some q) : CT l yX11_tenthsOf cX11_tenthsOf 2 (some .int) 2 E σ [.ref (eA E 38), .int a1] (some (.int q)) σ := by
  refine CT.of RX11 [some (.ref (eA E 38)), some (.int a1)] rfl (by decide +kernel) (Nat.le_of_ble_eq_true rfl) rfl ?_
  intro p e s m args below meth c cx
  unfold fX11_tenthsOf at hf
  refine wa_aload_n (pc := 0) cx 0 dX11_tenthsOf_0 rfl rfl ?_
  refine wa_iload_n (pc := 1) cx 1 dX11_tenthsOf_1 rfl rfl ?_
  refine wa_iconst (pc := 2) (v := 0) cx dX11_tenthsOf_2 (by decide) ?_
  obtain ⟨q1, h2, hf⟩ := bd_some hf
  refine wa_callVi (pc := 3) cx [.int a1, .int 0] (ct_X11_of l E _ _ _ _ h2) mi_X11_of tw_1069 lk_38 rfl (cx.bl 38 rfl) rfl rfl (Nat.le_of_ble_eq_true rfl) ⟨Nat.le_of_ble_eq_true rfl, Nat.le_of_ble_eq_true rfl⟩ ⟨Nat.zero_le _, Nat.zero_le _⟩ dX11_tenthsOf_3 ?_
  refine wa_iconst (pc := 6) (v := 2) cx dX11_tenthsOf_6 (by decide) ?_
  refine wa_icmp_ne (pc := 7) cx 15 dX11_tenthsOf_7 rfl (fun c3 => ?_) (fun c3 => ?_)
  · have hf := (if_neg c3).symm.trans hf
    refine wa_aload_n (pc := 15) cx 0 dX11_tenthsOf_15 rfl rfl ?_
    refine wa_iload_n (pc := 16) cx 1 dX11_tenthsOf_16 rfl rfl ?_
    refine wa_iconst (pc := 17) (v := 0) cx dX11_tenthsOf_17 (by decide) ?_
    obtain ⟨q4, h5, hf⟩ := bd_some hf
    refine wa_callVi (pc := 18) cx [.int a1, .int 0] (ct_X11_of l E _ _ _ _ h5) mi_X11_of tw_1069 lk_38 rfl (cx.bl 38 rfl) rfl rfl (Nat.le_of_ble_eq_true rfl) ⟨Nat.le_of_ble_eq_true rfl, Nat.le_of_ble_eq_true rfl⟩ ⟨Nat.zero_le _, Nat.zero_le _⟩ dX11_tenthsOf_18 ?_
    refine wa_iconst (pc := 21) (v := 4) cx dX11_tenthsOf_21 (by decide) ?_
    refine wa_icmp_ne (pc := 22) cx 29 dX11_tenthsOf_22 rfl (fun c6 => ?_) (fun c6 => ?_)
    · have hf := (if_neg c6).symm.trans hf
      refine wa_aload_n (pc := 29) cx 0 dX11_tenthsOf_29 rfl rfl ?_
      refine wa_iload_n (pc := 30) cx 1 dX11_tenthsOf_30 rfl rfl ?_
      obtain ⟨q7, h8, hf⟩ := bd_some hf
      refine wa_callVi (pc := 31) cx [.int a1] (ct_X11_truthOf l E _ _ _ h8) mi_X11_truthOf tw_1140 lk_38 rfl (cx.bl 38 rfl) rfl rfl (Nat.le_of_ble_eq_true rfl) ⟨Nat.le_of_ble_eq_true rfl, Nat.le_of_ble_eq_true rfl⟩ ⟨Nat.zero_le _, Nat.zero_le _⟩ dX11_tenthsOf_31 ?_
      obtain rfl := Option.some.inj hf
      exact wa_iret (pc := 34) cx dX11_tenthsOf_34
    · have hf := (if_pos c6).symm.trans hf
      refine wa_iconst (pc := 25) (v := 0) cx dX11_tenthsOf_25 (by decide) ?_
      refine wa_goto (pc := 26) cx 34 dX11_tenthsOf_26 rfl ?_
      obtain rfl := Option.some.inj hf
      exact wa_iret (pc := 34) cx dX11_tenthsOf_34
  · have hf := (if_pos c3).symm.trans hf
    refine wa_bipush (pc := 10) (v := 10) cx dX11_tenthsOf_10 (by decide) ?_
    refine wa_goto (pc := 12) cx 34 dX11_tenthsOf_12 rfl ?_
    obtain rfl := Option.some.inj hf
    exact wa_iret (pc := 34) cx dX11_tenthsOf_34
def fX11_bearsIf_J78 (v1 : Int32) (v2 : Int32) (σ : Sg) : Option ((Int32 × Sg) ⊕ (Sg)) :=
  some (.inl ((v2 + 1), σ))
def fX11_bearsIf_J48 (v1 : Int32) (v2 : Int32) (t0 : Int32) (σ : Sg) : Option ((Int32 × Sg) ⊕ (Sg)) :=
  (fX11_of v2 3 σ).bind (fun q9 =>
  if q9 < 0 then (fX11_bearsIf_J78 v1 v2 σ) else ((fX11_of v2 3 σ).bind (fun q12 =>
  gd (inb q12 3) (
  (fX11_strengthBy v2 t0 σ).bind (fun q15 =>
  gd (inb q12 3) (
  fX11_bearsIf_J78 v1 v2 (sa σ 46 q12 (ga σ 46 q12 + q15))))))))
def fX11_bearsIf_B6 (v1 : Int32) (v2 : Int32) (σ : Sg) : Option ((Int32 × Sg) ⊕ (Sg)) :=
  gd (inb 3 77) (
  if ga σ 42 3 ≤ v2 then (some (.inr σ)) else ((fX11_of v2 4 σ).bind (fun q5 =>
  if q5 = 0 then (if (jshr v1 v2 &&& 1) = 1 then (fX11_bearsIf_J48 v1 v2 1 σ) else (fX11_bearsIf_J48 v1 v2 2 σ)) else ((fX11_of v2 4 σ).bind (fun q18 =>
  fX11_bearsIf_J48 v1 v2 q18 σ)))))
def fX11_bearsIf (a1 : Int32) (σ : Sg) : Option (Int32 × Sg) :=
  (fX11_noStrands  σ).bind (fun q1 =>
  (lpO (fun w => fX11_bearsIf_B6 a1 w.1 w.2) FUEL (0, q1)).bind (fun o20 =>
  (fX11_ropeBears  o20).bind (fun q21 =>
  some (q21, o20))))
set_option maxHeartbeats 4000000 in
set_option maxRecDepth 100000 in
theorem ct_X11_bearsIf (l : Launch) (E : En) (σ : Sg) (a1 : Int32) (q : Int32 × Sg) (hf : fX11_bearsIf a1 σ = some q) : CT l yX11_bearsIf cX11_bearsIf 4 (some .int) 3 E σ [.ref (eA E 38), .int a1] (some (.int q.1)) q.2 := by
  refine CT.of RX11 [some (.ref (eA E 38)), some (.int a1), none, none] rfl (by decide +kernel) (Nat.le_of_ble_eq_true rfl) rfl ?_
  intro p e s m args below meth c cx
  unfold fX11_bearsIf at hf
  have l6 : ∀ (v1 : Int32) (y : Int32 × Sg) (o : Sg), lpO (fun w => fX11_bearsIf_B6 v1 w.1 w.2) FUEL y = some o → (WA p l e (rmd 3) s m args below meth c 4 E 0 0 (MQ below (Qcq E s.heap.size (some (.int q.1)) q.2) args s 0 0 (AE E s.heap.size)) 84 [some (.ref (eA E 38)), none, none, none] [] o) → WA p l e (rmd 3) s m args below meth c 4 E 0 0 (MQ below (Qcq E s.heap.size (some (.int q.1)) q.2) args s 0 0 (AE E s.heap.size)) 6 [some (.ref (eA E 38)), some (.int v1), some (.int y.1), none] [] y.2 := by
    intro v1 y o hf hk
    refine lp_rule (P := fun y => WA p l e (rmd 3) s m args below meth c 4 E 0 0 (MQ below (Qcq E s.heap.size (some (.int q.1)) q.2) args s 0 0 (AE E s.heap.size)) 6 [some (.ref (eA E 38)), some (.int v1), some (.int y.1), none] [] y.2) (K := fun o => WA p l e (rmd 3) s m args below meth c 4 E 0 0 (MQ below (Qcq E s.heap.size (some (.int q.1)) q.2) args s 0 0 (AE E s.heap.size)) 84 [some (.ref (eA E 38)), none, none, none] [] o) ?_ FUEL y o hf hk
    have j78 : ∀ (v1 : Int32) (v2 : Int32) (σ : Sg) (r1 : (Int32 × Sg) ⊕ (Sg)), fX11_bearsIf_J78 v1 v2 σ = some r1 → (sel (fun y1 => WA p l e (rmd 3) s m args below meth c 4 E 0 0 (MQ below (Qcq E s.heap.size (some (.int q.1)) q.2) args s 0 0 (AE E s.heap.size)) 6 [some (.ref (eA E 38)), some (.int v1), some (.int y1.1), none] [] y1.2) (fun y1 => WA p l e (rmd 3) s m args below meth c 4 E 0 0 (MQ below (Qcq E s.heap.size (some (.int q.1)) q.2) args s 0 0 (AE E s.heap.size)) 84 [some (.ref (eA E 38)), none, none, none] [] y1) r1) → WA p l e (rmd 3) s m args below meth c 4 E 0 0 (MQ below (Qcq E s.heap.size (some (.int q.1)) q.2) args s 0 0 (AE E s.heap.size)) 78 [some (.ref (eA E 38)), some (.int v1), some (.int v2), none] [] σ := by
      intro v1 v2 σ r1 hf hk1
      unfold fX11_bearsIf_J78 at hf
      refine wa_iinc (pc := 78) (v := 1) cx 2 [some (.ref (eA E 38)), some (.int v1), some (.int (v2 + 1)), none] dX11_bearsIf_78 (by decide) rfl (by decide) rfl rfl ?_
      refine wa_goto (pc := 81) cx 6 dX11_bearsIf_81 rfl ?_
      obtain rfl := Option.some.inj hf
      refine wa_forget [true, true, true, false] [some (.ref (eA E 38)), some (.int v1), some (.int (v2 + 1)), none] rfl ?_
      exact hk1
    have j48 : ∀ (v1 : Int32) (v2 : Int32) (t0 : Int32) (σ : Sg) (r1 : (Int32 × Sg) ⊕ (Sg)), fX11_bearsIf_J48 v1 v2 t0 σ = some r1 → (sel (fun y1 => WA p l e (rmd 3) s m args below meth c 4 E 0 0 (MQ below (Qcq E s.heap.size (some (.int q.1)) q.2) args s 0 0 (AE E s.heap.size)) 6 [some (.ref (eA E 38)), some (.int v1), some (.int y1.1), none] [] y1.2) (fun y1 => WA p l e (rmd 3) s m args below meth c 4 E 0 0 (MQ below (Qcq E s.heap.size (some (.int q.1)) q.2) args s 0 0 (AE E s.heap.size)) 84 [some (.ref (eA E 38)), none, none, none] [] y1) r1) → WA p l e (rmd 3) s m args below meth c 4 E 0 0 (MQ below (Qcq E s.heap.size (some (.int q.1)) q.2) args s 0 0 (AE E s.heap.size)) 48 [some (.ref (eA E 38)), some (.int v1), some (.int v2), none] [.int t0] σ := by
      intro v1 v2 t0 σ r1 hf hk1
      unfold fX11_bearsIf_J48 at hf
      refine wa_istore_n (pc := 48) cx 3 [some (.ref (eA E 38)), some (.int v1), some (.int v2), some (.int t0)] dX11_bearsIf_48 rfl (by decide) rfl rfl ?_
      refine wa_aload_n (pc := 49) cx 0 dX11_bearsIf_49 rfl rfl ?_
      refine wa_iload_n (pc := 50) cx 2 dX11_bearsIf_50 rfl rfl ?_
      refine wa_iconst (pc := 51) (v := 3) cx dX11_bearsIf_51 (by decide) ?_
      obtain ⟨q9, h10, hf⟩ := bd_some hf
      refine wa_callVi (pc := 52) cx [.int v2, .int 3] (ct_X11_of l E _ _ _ _ h10) mi_X11_of tw_1069 lk_38 rfl (cx.bl 38 rfl) rfl rfl (Nat.le_of_ble_eq_true rfl) ⟨Nat.le_of_ble_eq_true rfl, Nat.le_of_ble_eq_true rfl⟩ ⟨Nat.zero_le _, Nat.zero_le _⟩ dX11_bearsIf_52 ?_
      refine wa_if_lt (pc := 55) cx 78 dX11_bearsIf_55 rfl (fun c11 => ?_) (fun c11 => ?_)
      · have hf := (if_pos c11).symm.trans hf
        refine wa_forget [true, true, true, false] [some (.ref (eA E 38)), some (.int v1), some (.int v2), none] rfl ?_
        exact j78 _ _ _ _ hf hk1
      · have hf := (if_neg c11).symm.trans hf
        refine wa_aload_n (pc := 58) cx 0 dX11_bearsIf_58 rfl rfl ?_
        refine wa_getR (pc := 59) cx fl_X11_31 lk_38 rfl (cx.bl 38 rfl) dX11_bearsIf_59 ?_
        refine wa_aload_n (pc := 62) cx 0 dX11_bearsIf_62 rfl rfl ?_
        refine wa_iload_n (pc := 63) cx 2 dX11_bearsIf_63 rfl rfl ?_
        refine wa_iconst (pc := 64) (v := 3) cx dX11_bearsIf_64 (by decide) ?_
        obtain ⟨q12, h13, hf⟩ := bd_some hf
        refine wa_callVi (pc := 65) cx [.int v2, .int 3] (ct_X11_of l E _ _ _ _ h13) mi_X11_of tw_1069 lk_38 rfl (cx.bl 38 rfl) rfl rfl (Nat.le_of_ble_eq_true rfl) ⟨Nat.le_of_ble_eq_true rfl, Nat.le_of_ble_eq_true rfl⟩ ⟨Nat.zero_le _, Nat.zero_le _⟩ dX11_bearsIf_65 ?_
        refine wa_dup2 (pc := 68) cx dX11_bearsIf_68 rfl rfl ?_
        obtain ⟨g14, hf⟩ := gd_some hf
        refine wa_iald (pc := 69) cx lk_46 (cx.bl 46 rfl) g14 dX11_bearsIf_69 ?_
        refine wa_aload_n (pc := 70) cx 0 dX11_bearsIf_70 rfl rfl ?_
        refine wa_iload_n (pc := 71) cx 2 dX11_bearsIf_71 rfl rfl ?_
        refine wa_iload_n (pc := 72) cx 3 dX11_bearsIf_72 rfl rfl ?_
        obtain ⟨q15, h16, hf⟩ := bd_some hf
        refine wa_callVi (pc := 73) cx [.int v2, .int t0] (ct_X11_strengthBy l E _ _ _ _ h16) mi_X11_strengthBy tw_1086 lk_38 rfl (cx.bl 38 rfl) rfl rfl (Nat.le_of_ble_eq_true rfl) ⟨Nat.le_of_ble_eq_true rfl, Nat.le_of_ble_eq_true rfl⟩ ⟨Nat.zero_le _, Nat.zero_le _⟩ dX11_bearsIf_73 ?_
        refine wa_iadd (pc := 76) cx dX11_bearsIf_76 ?_
        obtain ⟨g17, hf⟩ := gd_some hf
        refine wa_iast (pc := 77) cx lk_46 (cx.bl 46 rfl) g17 dX11_bearsIf_77 ?_
        refine wa_forget [true, true, true, false] [some (.ref (eA E 38)), some (.int v1), some (.int v2), none] rfl ?_
        exact j78 _ _ _ _ hf hk1
    intro y0 r1 hf hk1
    obtain ⟨v2, σ⟩ := y0
    have hf : fX11_bearsIf_B6 v1 v2 σ = some r1 := hf
    unfold fX11_bearsIf_B6 at hf
    refine wa_iload_n (pc := 6) cx 2 dX11_bearsIf_6 rfl rfl ?_
    refine wa_aload_n (pc := 7) cx 0 dX11_bearsIf_7 rfl rfl ?_
    refine wa_getR (pc := 8) cx fl_X11_19 lk_38 rfl (cx.bl 38 rfl) dX11_bearsIf_8 ?_
    refine wa_iconst (pc := 11) (v := 3) cx dX11_bearsIf_11 (by decide) ?_
    obtain ⟨g3, hf⟩ := gd_some hf
    refine wa_iald (pc := 12) cx lk_42 (cx.bl 42 rfl) g3 dX11_bearsIf_12 ?_
    refine wa_icmp_ge (pc := 13) cx 84 dX11_bearsIf_13 rfl (fun c4 => ?_) (fun c4 => ?_)
    · have hf := (if_pos c4).symm.trans hf
      obtain rfl := Option.some.inj hf
      refine wa_forget [true, false, false, false] [some (.ref (eA E 38)), none, none, none] rfl ?_
      exact hk1
    · have hf := (if_neg c4).symm.trans hf
      refine wa_aload_n (pc := 16) cx 0 dX11_bearsIf_16 rfl rfl ?_
      refine wa_iload_n (pc := 17) cx 2 dX11_bearsIf_17 rfl rfl ?_
      refine wa_iconst (pc := 18) (v := 4) cx dX11_bearsIf_18 (by decide) ?_
      obtain ⟨q5, h6, hf⟩ := bd_some hf
      refine wa_callVi (pc := 19) cx [.int v2, .int 4] (ct_X11_of l E _ _ _ _ h6) mi_X11_of tw_1069 lk_38 rfl (cx.bl 38 rfl) rfl rfl (Nat.le_of_ble_eq_true rfl) ⟨Nat.le_of_ble_eq_true rfl, Nat.le_of_ble_eq_true rfl⟩ ⟨Nat.zero_le _, Nat.zero_le _⟩ dX11_bearsIf_19 ?_
      refine wa_if_eq (pc := 22) cx 34 dX11_bearsIf_22 rfl (fun c7 => ?_) (fun c7 => ?_)
      · have hf := (if_pos c7).symm.trans hf
        refine wa_iload_n (pc := 34) cx 1 dX11_bearsIf_34 rfl rfl ?_
        refine wa_iload_n (pc := 35) cx 2 dX11_bearsIf_35 rfl rfl ?_
        refine wa_ishr (pc := 36) cx dX11_bearsIf_36 ?_
        refine wa_iconst (pc := 37) (v := 1) cx dX11_bearsIf_37 (by decide) ?_
        refine wa_iand (pc := 38) cx dX11_bearsIf_38 ?_
        refine wa_iconst (pc := 39) (v := 1) cx dX11_bearsIf_39 (by decide) ?_
        refine wa_icmp_ne (pc := 40) cx 47 dX11_bearsIf_40 rfl (fun c8 => ?_) (fun c8 => ?_)
        · have hf := (if_neg c8).symm.trans hf
          refine wa_iconst (pc := 47) (v := 2) cx dX11_bearsIf_47 (by decide) ?_
          exact j48 _ _ _ _ _ hf hk1
        · have hf := (if_pos c8).symm.trans hf
          refine wa_iconst (pc := 43) (v := 1) cx dX11_bearsIf_43 (by decide) ?_
          refine wa_goto (pc := 44) cx 48 dX11_bearsIf_44 rfl ?_
          exact j48 _ _ _ _ _ hf hk1
      · have hf := (if_neg c7).symm.trans hf
        refine wa_aload_n (pc := 25) cx 0 dX11_bearsIf_25 rfl rfl ?_
        refine wa_iload_n (pc := 26) cx 2 dX11_bearsIf_26 rfl rfl ?_
        refine wa_iconst (pc := 27) (v := 4) cx dX11_bearsIf_27 (by decide) ?_
        obtain ⟨q18, h19, hf⟩ := bd_some hf
        refine wa_callVi (pc := 28) cx [.int v2, .int 4] (ct_X11_of l E _ _ _ _ h19) mi_X11_of tw_1069 lk_38 rfl (cx.bl 38 rfl) rfl rfl (Nat.le_of_ble_eq_true rfl) ⟨Nat.le_of_ble_eq_true rfl, Nat.le_of_ble_eq_true rfl⟩ ⟨Nat.zero_le _, Nat.zero_le _⟩ dX11_bearsIf_28 ?_
        refine wa_goto (pc := 31) cx 48 dX11_bearsIf_31 rfl ?_
        exact j48 _ _ _ _ _ hf hk1
  refine wa_aload_n (pc := 0) cx 0 dX11_bearsIf_0 rfl rfl ?_
  obtain ⟨q1, h2, hf⟩ := bd_some hf
  refine wa_callVv (pc := 1) cx [] (ct_X11_noStrands l E _  _ h2) mi_X11_noStrands tw_1124 lk_38 rfl (cx.bl 38 rfl) rfl rfl (Nat.le_of_ble_eq_true rfl) ⟨Nat.le_of_ble_eq_true rfl, Nat.le_of_ble_eq_true rfl⟩ ⟨Nat.zero_le _, Nat.zero_le _⟩ dX11_bearsIf_1 ?_
  refine wa_iconst (pc := 4) (v := 0) cx dX11_bearsIf_4 (by decide) ?_
  refine wa_istore_n (pc := 5) cx 2 [some (.ref (eA E 38)), some (.int a1), some (.int 0), none] dX11_bearsIf_5 rfl (by decide) rfl rfl ?_
  obtain ⟨o20, h23, hf⟩ := bd_some hf
  refine l6 _ _ _ h23 ?_
  refine wa_aload_n (pc := 84) cx 0 dX11_bearsIf_84 rfl rfl ?_
  obtain ⟨q21, h22, hf⟩ := bd_some hf
  refine wa_callVi (pc := 85) cx [] (ct_X11_ropeBears l E _  _ h22) mi_X11_ropeBears tw_1132 lk_38 rfl (cx.bl 38 rfl) rfl rfl (Nat.le_of_ble_eq_true rfl) ⟨Nat.le_of_ble_eq_true rfl, Nat.le_of_ble_eq_true rfl⟩ ⟨Nat.zero_le _, Nat.zero_le _⟩ dX11_bearsIf_85 ?_
  obtain rfl := Option.some.inj hf
  exact wa_iret (pc := 88) cx dX11_bearsIf_88
