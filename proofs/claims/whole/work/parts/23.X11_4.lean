def fX11_odds_J32  (σ : Sg) : Option (Int32 × Sg) :=
  some ((-1000001), σ)
def fX11_odds_J68 (v1 : Int32) (v2 : Int32) (v4 : Int32) (t1 : Int32) (t0 : Int32) (σ : Sg) : Option ((Int32 × Int32) ⊕ (Int32)) :=
  some (.inl ((t0 * t1), (v4 + 1)))
def fX11_odds_B40 (v1 : Int32) (v2 : Int32) (v3 : Int32) (v4 : Int32) (σ : Sg) : Option ((Int32 × Int32) ⊕ (Int32)) :=
  gd (inb 3 77) (
  if ga σ 42 3 ≤ v4 then (some (.inr v3)) else ((fX11_of v4 4 σ).bind (fun q10 =>
  if q10 = 0 then (fX11_odds_J68 v1 v2 v4 10 v3 σ) else (fX11_odds_J68 v1 v2 v4 1 v3 σ))))
def fX11_odds_J178 (v1 : Int32) (v2 : Int32) (v3 : Int32) (v4 : Int32) (v5 : Int32) (v7 : Int32) (t1 : Int32) (t0 : Int32) (σ : Sg) : Option ((Int32 × Int32) ⊕ (Int32)) :=
  some (.inl ((t0 * t1), (v7 + 1)))
def fX11_odds_J128 (v1 : Int32) (v2 : Int32) (v3 : Int32) (v4 : Int32) (v5 : Int32) (v6 : Int32) (v7 : Int32) (t0 : Int32) (σ : Sg) : Option ((Int32 × Int32) ⊕ (Int32)) :=
  (fX11_of v7 4 σ).bind (fun q19 =>
  if q19 = 0 then (if t0 = 0 then ((fX11_tenthsOf v7 σ).bind (fun q23 =>
  fX11_odds_J178 v1 v2 v3 v4 v5 v7 (10 - q23) v6 σ)) else ((fX11_tenthsOf v7 σ).bind (fun q25 =>
  fX11_odds_J178 v1 v2 v3 v4 v5 v7 q25 v6 σ))) else (if t0 = 0 then (fX11_odds_J178 v1 v2 v3 v4 v5 v7 0 v6 σ) else (fX11_odds_J178 v1 v2 v3 v4 v5 v7 1 v6 σ)))
def fX11_odds_B101 (v1 : Int32) (v2 : Int32) (v3 : Int32) (v4 : Int32) (v5 : Int32) (v6 : Int32) (v7 : Int32) (σ : Sg) : Option ((Int32 × Int32) ⊕ (Int32)) :=
  gd (inb 3 77) (
  if ga σ 42 3 ≤ v7 then (some (.inr v6)) else (if (jshr v5 v7 &&& 1) = 1 then (fX11_odds_J128 v1 v2 v3 v4 v5 v6 v7 1 σ) else (fX11_odds_J128 v1 v2 v3 v4 v5 v6 v7 0 σ)))
def fX11_odds_J210 (v1 : Int32) (v2 : Int32) (v3 : Int32) (v5 : Int32) (t1 : Int32) (t0 : Int32) (σ : Sg) : Option ((Int32 × Int32 × Sg) ⊕ (Int32 × Sg)) :=
  some (.inl ((t0 + t1), (v5 + 1), σ))
def fX11_odds_J209 (v1 : Int32) (v2 : Int32) (v3 : Int32) (v5 : Int32) (t0 : Int32) (σ : Sg) : Option ((Int32 × Int32 × Sg) ⊕ (Int32 × Sg)) :=
  fX11_odds_J210 v1 v2 v3 v5 0 t0 σ
def fX11_odds_B82 (v1 : Int32) (v2 : Int32) (v3 : Int32) (v4 : Int32) (v5 : Int32) (σ : Sg) : Option ((Int32 × Int32 × Sg) ⊕ (Int32 × Sg)) :=
  gd (inb 3 77) (
  if jshl 1 (ga σ 42 3) ≤ v5 then (some (.inr (v4, σ))) else ((lpO (fun w => fX11_odds_B101 v1 v2 v3 v4 v5 w.1 w.2 σ) FUEL (1, 0)).bind (fun o28 =>
  if o28 ≤ 0 then (fX11_odds_J209 v1 v2 v3 v5 v4 σ) else ((fX11_bearsIf v5 σ).bind (fun q30 =>
  if q30.1 < v1 then (fX11_odds_J209 v1 v2 v3 v5 v4 q30.2) else (fX11_odds_J210 v1 v2 v3 v5 o28 v4 q30.2))))))
def fX11_odds_B226 (v2 : Int32) (v3 : Int32) (v4 : Int32) (v5 : Int32) (v6 : Int32) (σ : Sg) : Option ((Int32 × Int32) ⊕ (Int32)) :=
  if v6 = 0 then (some (.inr v5)) else (gd (nz v6) (
  some (.inl (v6, irm v5 v6))))
def fX11_odds_J259 (v5 : Int32) (t0 : Int32) (σ : Sg) : Option (Int32 × Sg) :=
  gd (nz v5) (
  some ((t0 / v5), σ))
def fX11_odds (a1 : Int32) (a2 : Int32) (σ : Sg) : Option (Int32 × Sg) :=
  if gf (sup σ 38 0 0) 38 7 = 0 then (some ((-1000002), sup σ 38 0 0)) else ((fX11_isLoad a1 (sup σ 38 0 0)).bind (fun q2 =>
  if q2 = 0 then (fX11_odds_J32  (sup σ 38 0 0)) else ((fX11_in ((a2).toInt64) 0 1 (sup σ 38 0 0)).bind (fun q5 =>
  if q5 = 0 then (fX11_odds_J32  (sup σ 38 0 0)) else ((lpO (fun w => fX11_odds_B40 a1 a2 w.1 w.2 (sup σ 38 0 0)) FUEL (1, 0)).bind (fun o13 =>
  (lpO (fun w => fX11_odds_B82 a1 a2 o13 w.1 w.2.1 w.2.2) FUEL (0, 0, sup σ 38 0 0)).bind (fun o34 =>
  (lpO (fun w => fX11_odds_B226 a2 o13 o34.1 w.1 w.2 o34.2) FUEL (o34.1, o13)).bind (fun o37 =>
  if a2 = 0 then (fX11_odds_J259 o37 o34.1 o34.2) else (fX11_odds_J259 o37 o13 o34.2)))))))))
set_option maxHeartbeats 4000000 in
set_option maxRecDepth 100000 in
theorem ct_X11_odds (l : Launch) (E : En) (σ : Sg) (a1 : Int32) (a2 : Int32) (q : Int32 × Sg) (hf : fX11_odds a1 a2 σ = some q) : CT l yX11_odds cX11_odds 9 (some .int) 4 E σ [.ref (eA E 38), .int a1, .int a2] (some (.int q.1)) q.2 := by
  refine CT.of RX11 [some (.ref (eA E 38)), some (.int a1), some (.int a2), none, none, none, none, none, none] rfl (by decide +kernel) (Nat.le_of_ble_eq_true rfl) rfl ?_
  intro p e s m args below meth c cx
  unfold fX11_odds at hf
  have j32 : ∀  (σ : Sg), fX11_odds_J32  σ = some q → WA p l e (rmd 4) s m args below meth c 9 E 0 0 (MQ below (Qcq E s.heap.size (some (.int q.1)) q.2) args s 0 0 (AE E s.heap.size)) 32 [none, none, none, none, none, none, none, none, none] [] σ := by
    intro  σ hf
    unfold fX11_odds_J32 at hf
    refine wa_ldc (pc := 32) (v := (-1000001)) cx dX11_odds_32 tw_956 ?_
    obtain rfl := Option.some.inj hf
    exact wa_iret (pc := 34) cx dX11_odds_34
  have l40 : ∀ (v1 : Int32) (v2 : Int32) (σ : Sg) (y : Int32 × Int32) (o : Int32), lpO (fun w => fX11_odds_B40 v1 v2 w.1 w.2 σ) FUEL y = some o → (WA p l e (rmd 4) s m args below meth c 9 E 0 0 (MQ below (Qcq E s.heap.size (some (.int q.1)) q.2) args s 0 0 (AE E s.heap.size)) 76 [some (.ref (eA E 38)), some (.int v1), some (.int v2), some (.int o), none, none, none, none, none] [] σ) → WA p l e (rmd 4) s m args below meth c 9 E 0 0 (MQ below (Qcq E s.heap.size (some (.int q.1)) q.2) args s 0 0 (AE E s.heap.size)) 40 [some (.ref (eA E 38)), some (.int v1), some (.int v2), some (.int y.1), some (.int y.2), none, none, none, none] [] σ := by
    intro v1 v2 σ y o hf hk
    refine lp_rule (P := fun y => WA p l e (rmd 4) s m args below meth c 9 E 0 0 (MQ below (Qcq E s.heap.size (some (.int q.1)) q.2) args s 0 0 (AE E s.heap.size)) 40 [some (.ref (eA E 38)), some (.int v1), some (.int v2), some (.int y.1), some (.int y.2), none, none, none, none] [] σ) (K := fun o => WA p l e (rmd 4) s m args below meth c 9 E 0 0 (MQ below (Qcq E s.heap.size (some (.int q.1)) q.2) args s 0 0 (AE E s.heap.size)) 76 [some (.ref (eA E 38)), some (.int v1), some (.int v2), some (.int o), none, none, none, none, none] [] σ) ?_ FUEL y o hf hk
    have j68 : ∀ (v1 : Int32) (v2 : Int32) (v4 : Int32) (t1 : Int32) (t0 : Int32) (σ : Sg) (r1 : (Int32 × Int32) ⊕ (Int32)), fX11_odds_J68 v1 v2 v4 t1 t0 σ = some r1 → (sel (fun y1 => WA p l e (rmd 4) s m args below meth c 9 E 0 0 (MQ below (Qcq E s.heap.size (some (.int q.1)) q.2) args s 0 0 (AE E s.heap.size)) 40 [some (.ref (eA E 38)), some (.int v1), some (.int v2), some (.int y1.1), some (.int y1.2), none, none, none, none] [] σ) (fun y1 => WA p l e (rmd 4) s m args below meth c 9 E 0 0 (MQ below (Qcq E s.heap.size (some (.int q.1)) q.2) args s 0 0 (AE E s.heap.size)) 76 [some (.ref (eA E 38)), some (.int v1), some (.int v2), some (.int y1), none, none, none, none, none] [] σ) r1) → WA p l e (rmd 4) s m args below meth c 9 E 0 0 (MQ below (Qcq E s.heap.size (some (.int q.1)) q.2) args s 0 0 (AE E s.heap.size)) 68 [some (.ref (eA E 38)), some (.int v1), some (.int v2), none, some (.int v4), none, none, none, none] [.int t1, .int t0] σ := by
      intro v1 v2 v4 t1 t0 σ r1 hf hk1
      unfold fX11_odds_J68 at hf
      refine wa_imul (pc := 68) cx dX11_odds_68 ?_
      refine wa_istore_n (pc := 69) cx 3 [some (.ref (eA E 38)), some (.int v1), some (.int v2), some (.int (t0 * t1)), some (.int v4), none, none, none, none] dX11_odds_69 rfl (by decide) rfl rfl ?_
      refine wa_iinc (pc := 70) (v := 1) cx 4 [some (.ref (eA E 38)), some (.int v1), some (.int v2), some (.int (t0 * t1)), some (.int (v4 + 1)), none, none, none, none] dX11_odds_70 (by decide) rfl (by decide) rfl rfl ?_
      refine wa_goto (pc := 73) cx 40 dX11_odds_73 rfl ?_
      obtain rfl := Option.some.inj hf
      refine wa_forget [true, true, true, true, true, false, false, false, false] [some (.ref (eA E 38)), some (.int v1), some (.int v2), some (.int (t0 * t1)), some (.int (v4 + 1)), none, none, none, none] rfl ?_
      exact hk1
    intro y0 r1 hf hk1
    obtain ⟨v3, v4⟩ := y0
    have hf : fX11_odds_B40 v1 v2 v3 v4 σ = some r1 := hf
    unfold fX11_odds_B40 at hf
    refine wa_iload (pc := 40) cx 4 dX11_odds_40 rfl ?_
    refine wa_aload_n (pc := 42) cx 0 dX11_odds_42 rfl rfl ?_
    refine wa_getR (pc := 43) cx fl_X11_19 lk_38 rfl (cx.bl 38 rfl) dX11_odds_43 ?_
    refine wa_iconst (pc := 46) (v := 3) cx dX11_odds_46 (by decide) ?_
    obtain ⟨g8, hf⟩ := gd_some hf
    refine wa_iald (pc := 47) cx lk_42 (cx.bl 42 rfl) g8 dX11_odds_47 ?_
    refine wa_icmp_ge (pc := 48) cx 76 dX11_odds_48 rfl (fun c9 => ?_) (fun c9 => ?_)
    · have hf := (if_pos c9).symm.trans hf
      obtain rfl := Option.some.inj hf
      refine wa_forget [true, true, true, true, false, false, false, false, false] [some (.ref (eA E 38)), some (.int v1), some (.int v2), some (.int v3), none, none, none, none, none] rfl ?_
      exact hk1
    · have hf := (if_neg c9).symm.trans hf
      refine wa_iload_n (pc := 51) cx 3 dX11_odds_51 rfl rfl ?_
      refine wa_aload_n (pc := 52) cx 0 dX11_odds_52 rfl rfl ?_
      refine wa_iload (pc := 53) cx 4 dX11_odds_53 rfl ?_
      refine wa_iconst (pc := 55) (v := 4) cx dX11_odds_55 (by decide) ?_
      obtain ⟨q10, h11, hf⟩ := bd_some hf
      refine wa_callVi (pc := 56) cx [.int v4, .int 4] (ct_X11_of l E _ _ _ _ h11) mi_X11_of tw_1069 lk_38 rfl (cx.bl 38 rfl) rfl rfl (Nat.le_of_ble_eq_true rfl) ⟨Nat.le_of_ble_eq_true rfl, Nat.le_of_ble_eq_true rfl⟩ ⟨Nat.zero_le _, Nat.zero_le _⟩ dX11_odds_56 ?_
      refine wa_if_ne (pc := 59) cx 67 dX11_odds_59 rfl (fun c12 => ?_) (fun c12 => ?_)
      · have hf := (if_neg c12).symm.trans hf
        refine wa_iconst (pc := 67) (v := 1) cx dX11_odds_67 (by decide) ?_
        refine wa_forget [true, true, true, false, true, false, false, false, false] [some (.ref (eA E 38)), some (.int v1), some (.int v2), none, some (.int v4), none, none, none, none] rfl ?_
        exact j68 _ _ _ _ _ _ _ hf hk1
      · have hf := (if_pos c12).symm.trans hf
        refine wa_bipush (pc := 62) (v := 10) cx dX11_odds_62 (by decide) ?_
        refine wa_goto (pc := 64) cx 68 dX11_odds_64 rfl ?_
        refine wa_forget [true, true, true, false, true, false, false, false, false] [some (.ref (eA E 38)), some (.int v1), some (.int v2), none, some (.int v4), none, none, none, none] rfl ?_
        exact j68 _ _ _ _ _ _ _ hf hk1
  have l82 : ∀ (v1 : Int32) (v2 : Int32) (v3 : Int32) (y : Int32 × Int32 × Sg) (o : Int32 × Sg), lpO (fun w => fX11_odds_B82 v1 v2 v3 w.1 w.2.1 w.2.2) FUEL y = some o → (WA p l e (rmd 4) s m args below meth c 9 E 0 0 (MQ below (Qcq E s.heap.size (some (.int q.1)) q.2) args s 0 0 (AE E s.heap.size)) 219 [none, none, some (.int v2), some (.int v3), some (.int o.1), none, none, none, none] [] o.2) → WA p l e (rmd 4) s m args below meth c 9 E 0 0 (MQ below (Qcq E s.heap.size (some (.int q.1)) q.2) args s 0 0 (AE E s.heap.size)) 82 [some (.ref (eA E 38)), some (.int v1), some (.int v2), some (.int v3), some (.int y.1), some (.int y.2.1), none, none, none] [] y.2.2 := by
    intro v1 v2 v3 y o hf hk
    refine lp_rule (P := fun y => WA p l e (rmd 4) s m args below meth c 9 E 0 0 (MQ below (Qcq E s.heap.size (some (.int q.1)) q.2) args s 0 0 (AE E s.heap.size)) 82 [some (.ref (eA E 38)), some (.int v1), some (.int v2), some (.int v3), some (.int y.1), some (.int y.2.1), none, none, none] [] y.2.2) (K := fun o => WA p l e (rmd 4) s m args below meth c 9 E 0 0 (MQ below (Qcq E s.heap.size (some (.int q.1)) q.2) args s 0 0 (AE E s.heap.size)) 219 [none, none, some (.int v2), some (.int v3), some (.int o.1), none, none, none, none] [] o.2) ?_ FUEL y o hf hk
    have l101 : ∀ (v1 : Int32) (v2 : Int32) (v3 : Int32) (v4 : Int32) (v5 : Int32) (σ : Sg) (y : Int32 × Int32) (o : Int32), lpO (fun w => fX11_odds_B101 v1 v2 v3 v4 v5 w.1 w.2 σ) FUEL y = some o → (WA p l e (rmd 4) s m args below meth c 9 E 0 0 (MQ below (Qcq E s.heap.size (some (.int q.1)) q.2) args s 0 0 (AE E s.heap.size)) 187 [some (.ref (eA E 38)), some (.int v1), some (.int v2), some (.int v3), some (.int v4), some (.int v5), some (.int o), none, none] [] σ) → WA p l e (rmd 4) s m args below meth c 9 E 0 0 (MQ below (Qcq E s.heap.size (some (.int q.1)) q.2) args s 0 0 (AE E s.heap.size)) 101 [some (.ref (eA E 38)), some (.int v1), some (.int v2), some (.int v3), some (.int v4), some (.int v5), some (.int y.1), some (.int y.2), none] [] σ := by
      intro v1 v2 v3 v4 v5 σ y o hf hk
      refine lp_rule (P := fun y => WA p l e (rmd 4) s m args below meth c 9 E 0 0 (MQ below (Qcq E s.heap.size (some (.int q.1)) q.2) args s 0 0 (AE E s.heap.size)) 101 [some (.ref (eA E 38)), some (.int v1), some (.int v2), some (.int v3), some (.int v4), some (.int v5), some (.int y.1), some (.int y.2), none] [] σ) (K := fun o => WA p l e (rmd 4) s m args below meth c 9 E 0 0 (MQ below (Qcq E s.heap.size (some (.int q.1)) q.2) args s 0 0 (AE E s.heap.size)) 187 [some (.ref (eA E 38)), some (.int v1), some (.int v2), some (.int v3), some (.int v4), some (.int v5), some (.int o), none, none] [] σ) ?_ FUEL y o hf hk
      have j178 : ∀ (v1 : Int32) (v2 : Int32) (v3 : Int32) (v4 : Int32) (v5 : Int32) (v7 : Int32) (t1 : Int32) (t0 : Int32) (σ : Sg) (r2 : (Int32 × Int32) ⊕ (Int32)), fX11_odds_J178 v1 v2 v3 v4 v5 v7 t1 t0 σ = some r2 → (sel (fun y2 => WA p l e (rmd 4) s m args below meth c 9 E 0 0 (MQ below (Qcq E s.heap.size (some (.int q.1)) q.2) args s 0 0 (AE E s.heap.size)) 101 [some (.ref (eA E 38)), some (.int v1), some (.int v2), some (.int v3), some (.int v4), some (.int v5), some (.int y2.1), some (.int y2.2), none] [] σ) (fun y2 => WA p l e (rmd 4) s m args below meth c 9 E 0 0 (MQ below (Qcq E s.heap.size (some (.int q.1)) q.2) args s 0 0 (AE E s.heap.size)) 187 [some (.ref (eA E 38)), some (.int v1), some (.int v2), some (.int v3), some (.int v4), some (.int v5), some (.int y2), none, none] [] σ) r2) → WA p l e (rmd 4) s m args below meth c 9 E 0 0 (MQ below (Qcq E s.heap.size (some (.int q.1)) q.2) args s 0 0 (AE E s.heap.size)) 178 [some (.ref (eA E 38)), some (.int v1), some (.int v2), some (.int v3), some (.int v4), some (.int v5), none, some (.int v7), none] [.int t1, .int t0] σ := by
        intro v1 v2 v3 v4 v5 v7 t1 t0 σ r2 hf hk2
        unfold fX11_odds_J178 at hf
        refine wa_imul (pc := 178) cx dX11_odds_178 ?_
        refine wa_istore (pc := 179) cx 6 [some (.ref (eA E 38)), some (.int v1), some (.int v2), some (.int v3), some (.int v4), some (.int v5), some (.int (t0 * t1)), some (.int v7), none] dX11_odds_179 (by decide) rfl rfl ?_
        refine wa_iinc (pc := 181) (v := 1) cx 7 [some (.ref (eA E 38)), some (.int v1), some (.int v2), some (.int v3), some (.int v4), some (.int v5), some (.int (t0 * t1)), some (.int (v7 + 1)), none] dX11_odds_181 (by decide) rfl (by decide) rfl rfl ?_
        refine wa_goto (pc := 184) cx 101 dX11_odds_184 rfl ?_
        obtain rfl := Option.some.inj hf
        refine wa_forget [true, true, true, true, true, true, true, true, false] [some (.ref (eA E 38)), some (.int v1), some (.int v2), some (.int v3), some (.int v4), some (.int v5), some (.int (t0 * t1)), some (.int (v7 + 1)), none] rfl ?_
        exact hk2
      have j128 : ∀ (v1 : Int32) (v2 : Int32) (v3 : Int32) (v4 : Int32) (v5 : Int32) (v6 : Int32) (v7 : Int32) (t0 : Int32) (σ : Sg) (r2 : (Int32 × Int32) ⊕ (Int32)), fX11_odds_J128 v1 v2 v3 v4 v5 v6 v7 t0 σ = some r2 → (sel (fun y2 => WA p l e (rmd 4) s m args below meth c 9 E 0 0 (MQ below (Qcq E s.heap.size (some (.int q.1)) q.2) args s 0 0 (AE E s.heap.size)) 101 [some (.ref (eA E 38)), some (.int v1), some (.int v2), some (.int v3), some (.int v4), some (.int v5), some (.int y2.1), some (.int y2.2), none] [] σ) (fun y2 => WA p l e (rmd 4) s m args below meth c 9 E 0 0 (MQ below (Qcq E s.heap.size (some (.int q.1)) q.2) args s 0 0 (AE E s.heap.size)) 187 [some (.ref (eA E 38)), some (.int v1), some (.int v2), some (.int v3), some (.int v4), some (.int v5), some (.int y2), none, none] [] σ) r2) → WA p l e (rmd 4) s m args below meth c 9 E 0 0 (MQ below (Qcq E s.heap.size (some (.int q.1)) q.2) args s 0 0 (AE E s.heap.size)) 128 [some (.ref (eA E 38)), some (.int v1), some (.int v2), some (.int v3), some (.int v4), some (.int v5), some (.int v6), some (.int v7), none] [.int t0] σ := by
        intro v1 v2 v3 v4 v5 v6 v7 t0 σ r2 hf hk2
        unfold fX11_odds_J128 at hf
        refine wa_istore (pc := 128) cx 8 [some (.ref (eA E 38)), some (.int v1), some (.int v2), some (.int v3), some (.int v4), some (.int v5), some (.int v6), some (.int v7), some (.int t0)] dX11_odds_128 (by decide) rfl rfl ?_
        refine wa_iload (pc := 130) cx 6 dX11_odds_130 rfl ?_
        refine wa_aload_n (pc := 132) cx 0 dX11_odds_132 rfl rfl ?_
        refine wa_iload (pc := 133) cx 7 dX11_odds_133 rfl ?_
        refine wa_iconst (pc := 135) (v := 4) cx dX11_odds_135 (by decide) ?_
        obtain ⟨q19, h20, hf⟩ := bd_some hf
        refine wa_callVi (pc := 136) cx [.int v7, .int 4] (ct_X11_of l E _ _ _ _ h20) mi_X11_of tw_1069 lk_38 rfl (cx.bl 38 rfl) rfl rfl (Nat.le_of_ble_eq_true rfl) ⟨Nat.le_of_ble_eq_true rfl, Nat.le_of_ble_eq_true rfl⟩ ⟨Nat.zero_le _, Nat.zero_le _⟩ dX11_odds_136 ?_
        refine wa_if_eq (pc := 139) cx 155 dX11_odds_139 rfl (fun c21 => ?_) (fun c21 => ?_)
        · have hf := (if_pos c21).symm.trans hf
          refine wa_iload (pc := 155) cx 8 dX11_odds_155 rfl ?_
          refine wa_if_eq (pc := 157) cx 169 dX11_odds_157 rfl (fun c22 => ?_) (fun c22 => ?_)
          · have hf := (if_pos c22).symm.trans hf
            refine wa_bipush (pc := 169) (v := 10) cx dX11_odds_169 (by decide) ?_
            refine wa_aload_n (pc := 171) cx 0 dX11_odds_171 rfl rfl ?_
            refine wa_iload (pc := 172) cx 7 dX11_odds_172 rfl ?_
            obtain ⟨q23, h24, hf⟩ := bd_some hf
            refine wa_callVi (pc := 174) cx [.int v7] (ct_X11_tenthsOf l E _ _ _ h24) mi_X11_tenthsOf tw_1186 lk_38 rfl (cx.bl 38 rfl) rfl rfl (Nat.le_of_ble_eq_true rfl) ⟨Nat.le_of_ble_eq_true rfl, Nat.le_of_ble_eq_true rfl⟩ ⟨Nat.zero_le _, Nat.zero_le _⟩ dX11_odds_174 ?_
            refine wa_isub (pc := 177) cx dX11_odds_177 ?_
            refine wa_forget [true, true, true, true, true, true, false, true, false] [some (.ref (eA E 38)), some (.int v1), some (.int v2), some (.int v3), some (.int v4), some (.int v5), none, some (.int v7), none] rfl ?_
            exact j178 _ _ _ _ _ _ _ _ _ _ hf hk2
          · have hf := (if_neg c22).symm.trans hf
            refine wa_aload_n (pc := 160) cx 0 dX11_odds_160 rfl rfl ?_
            refine wa_iload (pc := 161) cx 7 dX11_odds_161 rfl ?_
            obtain ⟨q25, h26, hf⟩ := bd_some hf
            refine wa_callVi (pc := 163) cx [.int v7] (ct_X11_tenthsOf l E _ _ _ h26) mi_X11_tenthsOf tw_1186 lk_38 rfl (cx.bl 38 rfl) rfl rfl (Nat.le_of_ble_eq_true rfl) ⟨Nat.le_of_ble_eq_true rfl, Nat.le_of_ble_eq_true rfl⟩ ⟨Nat.zero_le _, Nat.zero_le _⟩ dX11_odds_163 ?_
            refine wa_goto (pc := 166) cx 178 dX11_odds_166 rfl ?_
            refine wa_forget [true, true, true, true, true, true, false, true, false] [some (.ref (eA E 38)), some (.int v1), some (.int v2), some (.int v3), some (.int v4), some (.int v5), none, some (.int v7), none] rfl ?_
            exact j178 _ _ _ _ _ _ _ _ _ _ hf hk2
        · have hf := (if_neg c21).symm.trans hf
          refine wa_iload (pc := 142) cx 8 dX11_odds_142 rfl ?_
          refine wa_if_eq (pc := 144) cx 151 dX11_odds_144 rfl (fun c27 => ?_) (fun c27 => ?_)
          · have hf := (if_pos c27).symm.trans hf
            refine wa_iconst (pc := 151) (v := 0) cx dX11_odds_151 (by decide) ?_
            refine wa_goto (pc := 152) cx 178 dX11_odds_152 rfl ?_
            refine wa_forget [true, true, true, true, true, true, false, true, false] [some (.ref (eA E 38)), some (.int v1), some (.int v2), some (.int v3), some (.int v4), some (.int v5), none, some (.int v7), none] rfl ?_
            exact j178 _ _ _ _ _ _ _ _ _ _ hf hk2
          · have hf := (if_neg c27).symm.trans hf
            refine wa_iconst (pc := 147) (v := 1) cx dX11_odds_147 (by decide) ?_
            refine wa_goto (pc := 148) cx 178 dX11_odds_148 rfl ?_
            refine wa_forget [true, true, true, true, true, true, false, true, false] [some (.ref (eA E 38)), some (.int v1), some (.int v2), some (.int v3), some (.int v4), some (.int v5), none, some (.int v7), none] rfl ?_
            exact j178 _ _ _ _ _ _ _ _ _ _ hf hk2
      intro y0 r2 hf hk2
      obtain ⟨v6, v7⟩ := y0
      have hf : fX11_odds_B101 v1 v2 v3 v4 v5 v6 v7 σ = some r2 := hf
      unfold fX11_odds_B101 at hf
      refine wa_iload (pc := 101) cx 7 dX11_odds_101 rfl ?_
      refine wa_aload_n (pc := 103) cx 0 dX11_odds_103 rfl rfl ?_
      refine wa_getR (pc := 104) cx fl_X11_19 lk_38 rfl (cx.bl 38 rfl) dX11_odds_104 ?_
      refine wa_iconst (pc := 107) (v := 3) cx dX11_odds_107 (by decide) ?_
      obtain ⟨g16, hf⟩ := gd_some hf
      refine wa_iald (pc := 108) cx lk_42 (cx.bl 42 rfl) g16 dX11_odds_108 ?_
      refine wa_icmp_ge (pc := 109) cx 187 dX11_odds_109 rfl (fun c17 => ?_) (fun c17 => ?_)
      · have hf := (if_pos c17).symm.trans hf
        obtain rfl := Option.some.inj hf
        refine wa_forget [true, true, true, true, true, true, true, false, false] [some (.ref (eA E 38)), some (.int v1), some (.int v2), some (.int v3), some (.int v4), some (.int v5), some (.int v6), none, none] rfl ?_
        exact hk2
      · have hf := (if_neg c17).symm.trans hf
        refine wa_iload (pc := 112) cx 5 dX11_odds_112 rfl ?_
        refine wa_iload (pc := 114) cx 7 dX11_odds_114 rfl ?_
        refine wa_ishr (pc := 116) cx dX11_odds_116 ?_
        refine wa_iconst (pc := 117) (v := 1) cx dX11_odds_117 (by decide) ?_
        refine wa_iand (pc := 118) cx dX11_odds_118 ?_
        refine wa_iconst (pc := 119) (v := 1) cx dX11_odds_119 (by decide) ?_
        refine wa_icmp_ne (pc := 120) cx 127 dX11_odds_120 rfl (fun c18 => ?_) (fun c18 => ?_)
        · have hf := (if_neg c18).symm.trans hf
          refine wa_iconst (pc := 127) (v := 0) cx dX11_odds_127 (by decide) ?_
          exact j128 _ _ _ _ _ _ _ _ _ _ hf hk2
        · have hf := (if_pos c18).symm.trans hf
          refine wa_iconst (pc := 123) (v := 1) cx dX11_odds_123 (by decide) ?_
          refine wa_goto (pc := 124) cx 128 dX11_odds_124 rfl ?_
          exact j128 _ _ _ _ _ _ _ _ _ _ hf hk2
    have j210 : ∀ (v1 : Int32) (v2 : Int32) (v3 : Int32) (v5 : Int32) (t1 : Int32) (t0 : Int32) (σ : Sg) (r1 : (Int32 × Int32 × Sg) ⊕ (Int32 × Sg)), fX11_odds_J210 v1 v2 v3 v5 t1 t0 σ = some r1 → (sel (fun y1 => WA p l e (rmd 4) s m args below meth c 9 E 0 0 (MQ below (Qcq E s.heap.size (some (.int q.1)) q.2) args s 0 0 (AE E s.heap.size)) 82 [some (.ref (eA E 38)), some (.int v1), some (.int v2), some (.int v3), some (.int y1.1), some (.int y1.2.1), none, none, none] [] y1.2.2) (fun y1 => WA p l e (rmd 4) s m args below meth c 9 E 0 0 (MQ below (Qcq E s.heap.size (some (.int q.1)) q.2) args s 0 0 (AE E s.heap.size)) 219 [none, none, some (.int v2), some (.int v3), some (.int y1.1), none, none, none, none] [] y1.2) r1) → WA p l e (rmd 4) s m args below meth c 9 E 0 0 (MQ below (Qcq E s.heap.size (some (.int q.1)) q.2) args s 0 0 (AE E s.heap.size)) 210 [some (.ref (eA E 38)), some (.int v1), some (.int v2), some (.int v3), none, some (.int v5), none, none, none] [.int t1, .int t0] σ := by
      intro v1 v2 v3 v5 t1 t0 σ r1 hf hk1
      unfold fX11_odds_J210 at hf
      refine wa_iadd (pc := 210) cx dX11_odds_210 ?_
      refine wa_istore (pc := 211) cx 4 [some (.ref (eA E 38)), some (.int v1), some (.int v2), some (.int v3), some (.int (t0 + t1)), some (.int v5), none, none, none] dX11_odds_211 (by decide) rfl rfl ?_
      refine wa_iinc (pc := 213) (v := 1) cx 5 [some (.ref (eA E 38)), some (.int v1), some (.int v2), some (.int v3), some (.int (t0 + t1)), some (.int (v5 + 1)), none, none, none] dX11_odds_213 (by decide) rfl (by decide) rfl rfl ?_
      refine wa_goto (pc := 216) cx 82 dX11_odds_216 rfl ?_
      obtain rfl := Option.some.inj hf
      refine wa_forget [true, true, true, true, true, true, false, false, false] [some (.ref (eA E 38)), some (.int v1), some (.int v2), some (.int v3), some (.int (t0 + t1)), some (.int (v5 + 1)), none, none, none] rfl ?_
      exact hk1
    have j209 : ∀ (v1 : Int32) (v2 : Int32) (v3 : Int32) (v5 : Int32) (t0 : Int32) (σ : Sg) (r1 : (Int32 × Int32 × Sg) ⊕ (Int32 × Sg)), fX11_odds_J209 v1 v2 v3 v5 t0 σ = some r1 → (sel (fun y1 => WA p l e (rmd 4) s m args below meth c 9 E 0 0 (MQ below (Qcq E s.heap.size (some (.int q.1)) q.2) args s 0 0 (AE E s.heap.size)) 82 [some (.ref (eA E 38)), some (.int v1), some (.int v2), some (.int v3), some (.int y1.1), some (.int y1.2.1), none, none, none] [] y1.2.2) (fun y1 => WA p l e (rmd 4) s m args below meth c 9 E 0 0 (MQ below (Qcq E s.heap.size (some (.int q.1)) q.2) args s 0 0 (AE E s.heap.size)) 219 [none, none, some (.int v2), some (.int v3), some (.int y1.1), none, none, none, none] [] y1.2) r1) → WA p l e (rmd 4) s m args below meth c 9 E 0 0 (MQ below (Qcq E s.heap.size (some (.int q.1)) q.2) args s 0 0 (AE E s.heap.size)) 209 [some (.ref (eA E 38)), some (.int v1), some (.int v2), some (.int v3), none, some (.int v5), none, none, none] [.int t0] σ := by
      intro v1 v2 v3 v5 t0 σ r1 hf hk1
      unfold fX11_odds_J209 at hf
      refine wa_iconst (pc := 209) (v := 0) cx dX11_odds_209 (by decide) ?_
      exact j210 _ _ _ _ _ _ _ _ hf hk1
    intro y0 r1 hf hk1
    obtain ⟨v4, v5, σ⟩ := y0
    have hf : fX11_odds_B82 v1 v2 v3 v4 v5 σ = some r1 := hf
    unfold fX11_odds_B82 at hf
    refine wa_iload (pc := 82) cx 5 dX11_odds_82 rfl ?_
    refine wa_iconst (pc := 84) (v := 1) cx dX11_odds_84 (by decide) ?_
    refine wa_aload_n (pc := 85) cx 0 dX11_odds_85 rfl rfl ?_
    refine wa_getR (pc := 86) cx fl_X11_19 lk_38 rfl (cx.bl 38 rfl) dX11_odds_86 ?_
    refine wa_iconst (pc := 89) (v := 3) cx dX11_odds_89 (by decide) ?_
    obtain ⟨g14, hf⟩ := gd_some hf
    refine wa_iald (pc := 90) cx lk_42 (cx.bl 42 rfl) g14 dX11_odds_90 ?_
    refine wa_ishl (pc := 91) cx dX11_odds_91 ?_
    refine wa_icmp_ge (pc := 92) cx 219 dX11_odds_92 rfl (fun c15 => ?_) (fun c15 => ?_)
    · have hf := (if_pos c15).symm.trans hf
      obtain rfl := Option.some.inj hf
      refine wa_forget [false, false, true, true, true, false, false, false, false] [none, none, some (.int v2), some (.int v3), some (.int v4), none, none, none, none] rfl ?_
      exact hk1
    · have hf := (if_neg c15).symm.trans hf
      refine wa_iconst (pc := 95) (v := 1) cx dX11_odds_95 (by decide) ?_
      refine wa_istore (pc := 96) cx 6 [some (.ref (eA E 38)), some (.int v1), some (.int v2), some (.int v3), some (.int v4), some (.int v5), some (.int 1), none, none] dX11_odds_96 (by decide) rfl rfl ?_
      refine wa_iconst (pc := 98) (v := 0) cx dX11_odds_98 (by decide) ?_
      refine wa_istore (pc := 99) cx 7 [some (.ref (eA E 38)), some (.int v1), some (.int v2), some (.int v3), some (.int v4), some (.int v5), some (.int 1), some (.int 0), none] dX11_odds_99 (by decide) rfl rfl ?_
      obtain ⟨o28, h33, hf⟩ := bd_some hf
      refine l101 _ _ _ _ _ _ _ _ h33 ?_
      refine wa_iload (pc := 187) cx 4 dX11_odds_187 rfl ?_
      refine wa_iload (pc := 189) cx 6 dX11_odds_189 rfl ?_
      refine wa_if_le (pc := 191) cx 209 dX11_odds_191 rfl (fun c29 => ?_) (fun c29 => ?_)
      · have hf := (if_pos c29).symm.trans hf
        refine wa_forget [true, true, true, true, false, true, false, false, false] [some (.ref (eA E 38)), some (.int v1), some (.int v2), some (.int v3), none, some (.int v5), none, none, none] rfl ?_
        exact j209 _ _ _ _ _ _ _ hf hk1
      · have hf := (if_neg c29).symm.trans hf
        refine wa_aload_n (pc := 194) cx 0 dX11_odds_194 rfl rfl ?_
        refine wa_iload (pc := 195) cx 5 dX11_odds_195 rfl ?_
        obtain ⟨q30, h31, hf⟩ := bd_some hf
        refine wa_callVi (pc := 197) cx [.int v5] (ct_X11_bearsIf l E _ _ _ h31) mi_X11_bearsIf tw_1190 lk_38 rfl (cx.bl 38 rfl) rfl rfl (Nat.le_of_ble_eq_true rfl) ⟨Nat.le_of_ble_eq_true rfl, Nat.le_of_ble_eq_true rfl⟩ ⟨Nat.zero_le _, Nat.zero_le _⟩ dX11_odds_197 ?_
        refine wa_iload_n (pc := 200) cx 1 dX11_odds_200 rfl rfl ?_
        refine wa_icmp_lt (pc := 201) cx 209 dX11_odds_201 rfl (fun c32 => ?_) (fun c32 => ?_)
        · have hf := (if_pos c32).symm.trans hf
          refine wa_forget [true, true, true, true, false, true, false, false, false] [some (.ref (eA E 38)), some (.int v1), some (.int v2), some (.int v3), none, some (.int v5), none, none, none] rfl ?_
          exact j209 _ _ _ _ _ _ _ hf hk1
        · have hf := (if_neg c32).symm.trans hf
          refine wa_iload (pc := 204) cx 6 dX11_odds_204 rfl ?_
          refine wa_goto (pc := 206) cx 210 dX11_odds_206 rfl ?_
          refine wa_forget [true, true, true, true, false, true, false, false, false] [some (.ref (eA E 38)), some (.int v1), some (.int v2), some (.int v3), none, some (.int v5), none, none, none] rfl ?_
          exact j210 _ _ _ _ _ _ _ _ hf hk1
  have l226 : ∀ (v2 : Int32) (v3 : Int32) (v4 : Int32) (σ : Sg) (y : Int32 × Int32) (o : Int32), lpO (fun w => fX11_odds_B226 v2 v3 v4 w.1 w.2 σ) FUEL y = some o → (WA p l e (rmd 4) s m args below meth c 9 E 0 0 (MQ below (Qcq E s.heap.size (some (.int q.1)) q.2) args s 0 0 (AE E s.heap.size)) 249 [none, none, some (.int v2), some (.int v3), some (.int v4), some (.int o), none, none, none] [] σ) → WA p l e (rmd 4) s m args below meth c 9 E 0 0 (MQ below (Qcq E s.heap.size (some (.int q.1)) q.2) args s 0 0 (AE E s.heap.size)) 226 [none, none, some (.int v2), some (.int v3), some (.int v4), some (.int y.1), some (.int y.2), none, none] [] σ := by
    intro v2 v3 v4 σ y o hf hk
    refine lp_rule (P := fun y => WA p l e (rmd 4) s m args below meth c 9 E 0 0 (MQ below (Qcq E s.heap.size (some (.int q.1)) q.2) args s 0 0 (AE E s.heap.size)) 226 [none, none, some (.int v2), some (.int v3), some (.int v4), some (.int y.1), some (.int y.2), none, none] [] σ) (K := fun o => WA p l e (rmd 4) s m args below meth c 9 E 0 0 (MQ below (Qcq E s.heap.size (some (.int q.1)) q.2) args s 0 0 (AE E s.heap.size)) 249 [none, none, some (.int v2), some (.int v3), some (.int v4), some (.int o), none, none, none] [] σ) ?_ FUEL y o hf hk
    intro y0 r1 hf hk1
    obtain ⟨v5, v6⟩ := y0
    have hf : fX11_odds_B226 v2 v3 v4 v5 v6 σ = some r1 := hf
    unfold fX11_odds_B226 at hf
    refine wa_iload (pc := 226) cx 6 dX11_odds_226 rfl ?_
    refine wa_if_eq (pc := 228) cx 249 dX11_odds_228 rfl (fun c35 => ?_) (fun c35 => ?_)
    · have hf := (if_pos c35).symm.trans hf
      obtain rfl := Option.some.inj hf
      refine wa_forget [false, false, true, true, true, true, false, false, false] [none, none, some (.int v2), some (.int v3), some (.int v4), some (.int v5), none, none, none] rfl ?_
      exact hk1
    · have hf := (if_neg c35).symm.trans hf
      refine wa_iload (pc := 231) cx 5 dX11_odds_231 rfl ?_
      refine wa_iload (pc := 233) cx 6 dX11_odds_233 rfl ?_
      obtain ⟨g36, hf⟩ := gd_some hf
      refine wa_irem (pc := 235) cx dX11_odds_235 (of_decide_eq_true g36) ?_
      refine wa_istore (pc := 236) cx 7 [none, none, some (.int v2), some (.int v3), some (.int v4), some (.int v5), some (.int v6), some (.int (irm v5 v6)), none] dX11_odds_236 (by decide) rfl rfl ?_
      refine wa_iload (pc := 238) cx 6 dX11_odds_238 rfl ?_
      refine wa_istore (pc := 240) cx 5 [none, none, some (.int v2), some (.int v3), some (.int v4), some (.int v6), some (.int v6), some (.int (irm v5 v6)), none] dX11_odds_240 (by decide) rfl rfl ?_
      refine wa_iload (pc := 242) cx 7 dX11_odds_242 rfl ?_
      refine wa_istore (pc := 244) cx 6 [none, none, some (.int v2), some (.int v3), some (.int v4), some (.int v6), some (.int (irm v5 v6)), some (.int (irm v5 v6)), none] dX11_odds_244 (by decide) rfl rfl ?_
      refine wa_goto (pc := 246) cx 226 dX11_odds_246 rfl ?_
      obtain rfl := Option.some.inj hf
      refine wa_forget [false, false, true, true, true, true, true, false, false] [none, none, some (.int v2), some (.int v3), some (.int v4), some (.int v6), some (.int (irm v5 v6)), none, none] rfl ?_
      exact hk1
  have j259 : ∀ (v5 : Int32) (t0 : Int32) (σ : Sg), fX11_odds_J259 v5 t0 σ = some q → WA p l e (rmd 4) s m args below meth c 9 E 0 0 (MQ below (Qcq E s.heap.size (some (.int q.1)) q.2) args s 0 0 (AE E s.heap.size)) 259 [none, none, none, none, none, some (.int v5), none, none, none] [.int t0] σ := by
    intro v5 t0 σ hf
    unfold fX11_odds_J259 at hf
    refine wa_iload (pc := 259) cx 5 dX11_odds_259 rfl ?_
    obtain ⟨g39, hf⟩ := gd_some hf
    refine wa_idiv (pc := 261) cx dX11_odds_261 (of_decide_eq_true g39) ?_
    obtain rfl := Option.some.inj hf
    exact wa_iret (pc := 262) cx dX11_odds_262
  refine wa_aload_n (pc := 0) cx 0 dX11_odds_0 rfl rfl ?_
  refine wa_iconst (pc := 1) (v := 0) cx dX11_odds_1 (by decide) ?_
  refine wa_putI (pc := 2) cx fp_X11_50 lk_38 rfl (cx.bl 38 rfl) dX11_odds_2 ?_
  refine wa_aload_n (pc := 5) cx 0 dX11_odds_5 rfl rfl ?_
  refine wa_getI (pc := 6) cx fl_X11_177 lk_38 rfl (cx.bl 38 rfl) dX11_odds_6 ?_
  refine wa_if_ne (pc := 9) cx 15 dX11_odds_9 rfl (fun c1 => ?_) (fun c1 => ?_)
  · have hf := (if_neg c1).symm.trans hf
    refine wa_iload_n (pc := 15) cx 1 dX11_odds_15 rfl rfl ?_
    obtain ⟨q2, h3, hf⟩ := bd_some hf
    refine wa_callSi (pc := 16) cx [.int a1] (ct_X11_isLoad l E _ _ _ h3) ms_X11_isLoad tw_1106 rfl rfl (Nat.le_of_ble_eq_true rfl) ⟨Nat.le_of_ble_eq_true rfl, Nat.le_of_ble_eq_true rfl⟩ ⟨Nat.zero_le _, Nat.zero_le _⟩ dX11_odds_16 ?_
    refine wa_if_eq (pc := 19) cx 32 dX11_odds_19 rfl (fun c4 => ?_) (fun c4 => ?_)
    · have hf := (if_pos c4).symm.trans hf
      refine wa_forget [false, false, false, false, false, false, false, false, false] [none, none, none, none, none, none, none, none, none] rfl ?_
      exact j32  _ hf
    · have hf := (if_neg c4).symm.trans hf
      refine wa_iload_n (pc := 22) cx 2 dX11_odds_22 rfl rfl ?_
      refine wa_i2l (pc := 23) cx dX11_odds_23 ?_
      refine wa_lconst (pc := 24) (v := 0) cx dX11_odds_24 (by decide) ?_
      refine wa_lconst (pc := 25) (v := 1) cx dX11_odds_25 (by decide) ?_
      obtain ⟨q5, h6, hf⟩ := bd_some hf
      refine wa_callSi (pc := 26) cx [.long ((a2).toInt64), .long 0, .long 1] (ct_X11_in l E _ _ _ _ _ h6) ms_X11_in tw_952 rfl rfl (Nat.le_of_ble_eq_true rfl) ⟨Nat.le_of_ble_eq_true rfl, Nat.le_of_ble_eq_true rfl⟩ ⟨Nat.zero_le _, Nat.zero_le _⟩ dX11_odds_26 ?_
      refine wa_if_ne (pc := 29) cx 35 dX11_odds_29 rfl (fun c7 => ?_) (fun c7 => ?_)
      · have hf := (if_neg c7).symm.trans hf
        refine wa_iconst (pc := 35) (v := 1) cx dX11_odds_35 (by decide) ?_
        refine wa_istore_n (pc := 36) cx 3 [some (.ref (eA E 38)), some (.int a1), some (.int a2), some (.int 1), none, none, none, none, none] dX11_odds_36 rfl (by decide) rfl rfl ?_
        refine wa_iconst (pc := 37) (v := 0) cx dX11_odds_37 (by decide) ?_
        refine wa_istore (pc := 38) cx 4 [some (.ref (eA E 38)), some (.int a1), some (.int a2), some (.int 1), some (.int 0), none, none, none, none] dX11_odds_38 (by decide) rfl rfl ?_
        obtain ⟨o13, h42, hf⟩ := bd_some hf
        refine l40 _ _ _ _ _ h42 ?_
        refine wa_iconst (pc := 76) (v := 0) cx dX11_odds_76 (by decide) ?_
        refine wa_istore (pc := 77) cx 4 [some (.ref (eA E 38)), some (.int a1), some (.int a2), some (.int o13), some (.int 0), none, none, none, none] dX11_odds_77 (by decide) rfl rfl ?_
        refine wa_iconst (pc := 79) (v := 0) cx dX11_odds_79 (by decide) ?_
        refine wa_istore (pc := 80) cx 5 [some (.ref (eA E 38)), some (.int a1), some (.int a2), some (.int o13), some (.int 0), some (.int 0), none, none, none] dX11_odds_80 (by decide) rfl rfl ?_
        obtain ⟨o34, h41, hf⟩ := bd_some hf
        refine l82 _ _ _ _ _ h41 ?_
        refine wa_iload (pc := 219) cx 4 dX11_odds_219 rfl ?_
        refine wa_istore (pc := 221) cx 5 [none, none, some (.int a2), some (.int o13), some (.int o34.1), some (.int o34.1), none, none, none] dX11_odds_221 (by decide) rfl rfl ?_
        refine wa_iload_n (pc := 223) cx 3 dX11_odds_223 rfl rfl ?_
        refine wa_istore (pc := 224) cx 6 [none, none, some (.int a2), some (.int o13), some (.int o34.1), some (.int o34.1), some (.int o13), none, none] dX11_odds_224 (by decide) rfl rfl ?_
        obtain ⟨o37, h40, hf⟩ := bd_some hf
        refine l226 _ _ _ _ _ _ h40 ?_
        refine wa_iload_n (pc := 249) cx 2 dX11_odds_249 rfl rfl ?_
        refine wa_if_ne (pc := 250) cx 258 dX11_odds_250 rfl (fun c38 => ?_) (fun c38 => ?_)
        · have hf := (if_neg c38).symm.trans hf
          refine wa_iload_n (pc := 258) cx 3 dX11_odds_258 rfl rfl ?_
          refine wa_forget [false, false, false, false, false, true, false, false, false] [none, none, none, none, none, some (.int o37), none, none, none] rfl ?_
          exact j259 _ _ _ hf
        · have hf := (if_pos c38).symm.trans hf
          refine wa_iload (pc := 253) cx 4 dX11_odds_253 rfl ?_
          refine wa_goto (pc := 255) cx 259 dX11_odds_255 rfl ?_
          refine wa_forget [false, false, false, false, false, true, false, false, false] [none, none, none, none, none, some (.int o37), none, none, none] rfl ?_
          exact j259 _ _ _ hf
      · have hf := (if_pos c7).symm.trans hf
        refine wa_forget [false, false, false, false, false, false, false, false, false] [none, none, none, none, none, none, none, none, none] rfl ?_
        exact j32  _ hf
  · have hf := (if_pos c1).symm.trans hf
    refine wa_ldc (pc := 12) (v := (-1000002)) cx dX11_odds_12 tw_1081 ?_
    obtain rfl := Option.some.inj hf
    exact wa_iret (pc := 14) cx dX11_odds_14
def fX11_risk_J34  (σ : Sg) : Option (Int32 × Sg) :=
  some ((-1000001), σ)
def fX11_risk_J72  (σ : Sg) : Option (Int32 × Sg) :=
  (fX11_finding 2 σ).bind (fun q11 =>
  some (q11.1, q11.2))
def fX11_risk_B81 (v1 : Int32) (v2 : Int32) (v3 : Int32) (v4 : Int32) (σ : Sg) : Option ((Int32) ⊕ ((Unit) ⊕ (Unit))) :=
  if v3 ≤ v4 then (some (.inr (.inr ()))) else (gd (inb (((40 * v1) + v2) + v4) 320) (
  if (0 : Int32) ≤ ga σ 41 (((40 * v1) + v2) + v4) then (some (.inl (v4 + 1))) else (some (.inr (.inl ())))))
def fX11_risk_B131 (v1 : Int32) (v2 : Int32) (v3 : Int32) (v4 : Int32) (v5 : Int32) (σ : Sg) : Option ((Int32) ⊕ (Int32)) :=
  if v3 ≤ v5 then (some (.inr v5)) else (gd (inb (((40 * v1) + v2) + v5) 320) (
  if v4 < ga σ 41 (((40 * v1) + v2) + v5) then (some (.inr v5)) else (some (.inl (v5 + 1)))))
def fX11_risk (a1 : Int32) (a2 : Int32) (a3 : Int32) (σ : Sg) : Option (Int32 × Sg) :=
  if gf (sup σ 38 0 0) 38 7 = 0 then (some ((-1000002), sup σ 38 0 0)) else ((fX11_isRow a1 (sup σ 38 0 0)).bind (fun q2 =>
  if q2 = 0 then (fX11_risk_J34  (sup σ 38 0 0)) else ((fX11_in ((a3).toInt64) 1 40 (sup σ 38 0 0)).bind (fun q5 =>
  if q5 = 0 then (fX11_risk_J34  (sup σ 38 0 0)) else (gd (inb a1 8) (
  if (0 : Int32) ≤ ga (sup σ 38 0 0) 39 a1 then (if a2 < 0 then (fX11_risk_J72  (sup σ 38 0 0)) else (gd (inb a1 8) (
  if lg_cmp ((a2).toInt64 + (a3).toInt64) ((ga (sup σ 38 0 0) 40 a1).toInt64) ≤ 0 then ((lpO (fun w => fX11_risk_B81 a1 a2 a3 w (sup σ 38 0 0)) FUEL 0).bind (fun o20 => match o20 with
  | .inl z21 => some ((-1000001), sup σ 38 0 0)
  | .inr z22 => (fX11_layStrands  (sup (sup σ 38 0 0) 38 1 0)).bind (fun q23 =>
  (fX11_ropeBears  q23).bind (fun q25 =>
  (lpO (fun w => fX11_risk_B131 a1 a2 a3 q25 w q23) FUEL 0).bind (fun o30 =>
  some (o30, q23)))))) else (fX11_risk_J72  (sup σ 38 0 0))))) else ((fX11_finding 1 (sup σ 38 0 0)).bind (fun q33 =>
  some (q33.1, q33.2)))))))))
set_option maxHeartbeats 4000000 in
set_option maxRecDepth 100000 in
theorem ct_X11_risk (l : Launch) (E : En) (σ : Sg) (a1 : Int32) (a2 : Int32) (a3 : Int32) (q : Int32 × Sg) (hf : fX11_risk a1 a2 a3 σ = some q) : CT l yX11_risk cX11_risk 6 (some .int) 5 E σ [.ref (eA E 38), .int a1, .int a2, .int a3] (some (.int q.1)) q.2 := by
  refine CT.of RX11 [some (.ref (eA E 38)), some (.int a1), some (.int a2), some (.int a3), none, none] rfl (by decide +kernel) (Nat.le_of_ble_eq_true rfl) rfl ?_
  intro p e s m args below meth c cx
  unfold fX11_risk at hf
  have j34 : ∀  (σ : Sg), fX11_risk_J34  σ = some q → WA p l e (rmd 5) s m args below meth c 6 E 0 0 (MQ below (Qcq E s.heap.size (some (.int q.1)) q.2) args s 0 0 (AE E s.heap.size)) 34 [none, none, none, none, none, none] [] σ := by
    intro  σ hf
    unfold fX11_risk_J34 at hf
    refine wa_ldc (pc := 34) (v := (-1000001)) cx dX11_risk_34 tw_956 ?_
    obtain rfl := Option.some.inj hf
    exact wa_iret (pc := 36) cx dX11_risk_36
  have j72 : ∀  (σ : Sg), fX11_risk_J72  σ = some q → WA p l e (rmd 5) s m args below meth c 6 E 0 0 (MQ below (Qcq E s.heap.size (some (.int q.1)) q.2) args s 0 0 (AE E s.heap.size)) 72 [some (.ref (eA E 38)), none, none, none, none, none] [] σ := by
    intro  σ hf
    unfold fX11_risk_J72 at hf
    refine wa_aload_n (pc := 72) cx 0 dX11_risk_72 rfl rfl ?_
    refine wa_iconst (pc := 73) (v := 2) cx dX11_risk_73 (by decide) ?_
    obtain ⟨q11, h12, hf⟩ := bd_some hf
    refine wa_callVi (pc := 74) cx [.int 2] (ct_X11_finding l E _ _ _ h12) mi_X11_finding tw_957 lk_38 rfl (cx.bl 38 rfl) rfl rfl (Nat.le_of_ble_eq_true rfl) ⟨Nat.le_of_ble_eq_true rfl, Nat.le_of_ble_eq_true rfl⟩ ⟨Nat.zero_le _, Nat.zero_le _⟩ dX11_risk_74 ?_
    obtain rfl := Option.some.inj hf
    exact wa_iret (pc := 77) cx dX11_risk_77
  have l81 : ∀ (v1 : Int32) (v2 : Int32) (v3 : Int32) (σ : Sg) (y : Int32) (o : (Unit) ⊕ (Unit)), lpO (fun w => fX11_risk_B81 v1 v2 v3 w σ) FUEL y = some o → (sel (fun z18 => WA p l e (rmd 5) s m args below meth c 6 E 0 0 (MQ below (Qcq E s.heap.size (some (.int q.1)) q.2) args s 0 0 (AE E s.heap.size)) 104 [none, none, none, none, none, none] [] σ) (fun z18 => WA p l e (rmd 5) s m args below meth c 6 E 0 0 (MQ below (Qcq E s.heap.size (some (.int q.1)) q.2) args s 0 0 (AE E s.heap.size)) 113 [some (.ref (eA E 38)), some (.int v1), some (.int v2), some (.int v3), none, none] [] σ) o) → WA p l e (rmd 5) s m args below meth c 6 E 0 0 (MQ below (Qcq E s.heap.size (some (.int q.1)) q.2) args s 0 0 (AE E s.heap.size)) 81 [some (.ref (eA E 38)), some (.int v1), some (.int v2), some (.int v3), some (.int y), none] [] σ := by
    intro v1 v2 v3 σ y o hf hk
    refine lp_rule (P := fun y => WA p l e (rmd 5) s m args below meth c 6 E 0 0 (MQ below (Qcq E s.heap.size (some (.int q.1)) q.2) args s 0 0 (AE E s.heap.size)) 81 [some (.ref (eA E 38)), some (.int v1), some (.int v2), some (.int v3), some (.int y), none] [] σ) (K := fun o => sel (fun z19 => WA p l e (rmd 5) s m args below meth c 6 E 0 0 (MQ below (Qcq E s.heap.size (some (.int q.1)) q.2) args s 0 0 (AE E s.heap.size)) 104 [none, none, none, none, none, none] [] σ) (fun z19 => WA p l e (rmd 5) s m args below meth c 6 E 0 0 (MQ below (Qcq E s.heap.size (some (.int q.1)) q.2) args s 0 0 (AE E s.heap.size)) 113 [some (.ref (eA E 38)), some (.int v1), some (.int v2), some (.int v3), none, none] [] σ) o) ?_ FUEL y o hf hk
    intro v4 r1 hf hk1
    have hf : fX11_risk_B81 v1 v2 v3 v4 σ = some r1 := hf
    unfold fX11_risk_B81 at hf
    refine wa_iload (pc := 81) cx 4 dX11_risk_81 rfl ?_
    refine wa_iload_n (pc := 83) cx 3 dX11_risk_83 rfl rfl ?_
    refine wa_icmp_ge (pc := 84) cx 113 dX11_risk_84 rfl (fun c15 => ?_) (fun c15 => ?_)
    · have hf := (if_pos c15).symm.trans hf
      obtain rfl := Option.some.inj hf
      refine wa_forget [true, true, true, true, false, false] [some (.ref (eA E 38)), some (.int v1), some (.int v2), some (.int v3), none, none] rfl ?_
      exact hk1
    · have hf := (if_neg c15).symm.trans hf
      refine wa_aload_n (pc := 87) cx 0 dX11_risk_87 rfl rfl ?_
      refine wa_getR (pc := 88) cx fl_X11_16 lk_38 rfl (cx.bl 38 rfl) dX11_risk_88 ?_
      refine wa_bipush (pc := 91) (v := 40) cx dX11_risk_91 (by decide) ?_
      refine wa_iload_n (pc := 93) cx 1 dX11_risk_93 rfl rfl ?_
      refine wa_imul (pc := 94) cx dX11_risk_94 ?_
      refine wa_iload_n (pc := 95) cx 2 dX11_risk_95 rfl rfl ?_
      refine wa_iadd (pc := 96) cx dX11_risk_96 ?_
      refine wa_iload (pc := 97) cx 4 dX11_risk_97 rfl ?_
      refine wa_iadd (pc := 99) cx dX11_risk_99 ?_
      obtain ⟨g16, hf⟩ := gd_some hf
      refine wa_iald (pc := 100) cx lk_41 (cx.bl 41 rfl) g16 dX11_risk_100 ?_
      refine wa_if_ge (pc := 101) cx 107 dX11_risk_101 rfl (fun c17 => ?_) (fun c17 => ?_)
      · have hf := (if_pos c17).symm.trans hf
        refine wa_iinc (pc := 107) (v := 1) cx 4 [some (.ref (eA E 38)), some (.int v1), some (.int v2), some (.int v3), some (.int (v4 + 1)), none] dX11_risk_107 (by decide) rfl (by decide) rfl rfl ?_
        refine wa_goto (pc := 110) cx 81 dX11_risk_110 rfl ?_
        obtain rfl := Option.some.inj hf
        refine wa_forget [true, true, true, true, true, false] [some (.ref (eA E 38)), some (.int v1), some (.int v2), some (.int v3), some (.int (v4 + 1)), none] rfl ?_
        exact hk1
      · have hf := (if_neg c17).symm.trans hf
        obtain rfl := Option.some.inj hf
        refine wa_forget [false, false, false, false, false, false] [none, none, none, none, none, none] rfl ?_
        exact hk1
  have l131 : ∀ (v1 : Int32) (v2 : Int32) (v3 : Int32) (v4 : Int32) (σ : Sg) (y : Int32) (o : Int32), lpO (fun w => fX11_risk_B131 v1 v2 v3 v4 w σ) FUEL y = some o → (WA p l e (rmd 5) s m args below meth c 6 E 0 0 (MQ below (Qcq E s.heap.size (some (.int q.1)) q.2) args s 0 0 (AE E s.heap.size)) 162 [none, none, none, none, none, some (.int o)] [] σ) → WA p l e (rmd 5) s m args below meth c 6 E 0 0 (MQ below (Qcq E s.heap.size (some (.int q.1)) q.2) args s 0 0 (AE E s.heap.size)) 131 [some (.ref (eA E 38)), some (.int v1), some (.int v2), some (.int v3), some (.int v4), some (.int y)] [] σ := by
    intro v1 v2 v3 v4 σ y o hf hk
    refine lp_rule (P := fun y => WA p l e (rmd 5) s m args below meth c 6 E 0 0 (MQ below (Qcq E s.heap.size (some (.int q.1)) q.2) args s 0 0 (AE E s.heap.size)) 131 [some (.ref (eA E 38)), some (.int v1), some (.int v2), some (.int v3), some (.int v4), some (.int y)] [] σ) (K := fun o => WA p l e (rmd 5) s m args below meth c 6 E 0 0 (MQ below (Qcq E s.heap.size (some (.int q.1)) q.2) args s 0 0 (AE E s.heap.size)) 162 [none, none, none, none, none, some (.int o)] [] σ) ?_ FUEL y o hf hk
    intro v5 r1 hf hk1
    have hf : fX11_risk_B131 v1 v2 v3 v4 v5 σ = some r1 := hf
    unfold fX11_risk_B131 at hf
    refine wa_iload (pc := 131) cx 5 dX11_risk_131 rfl ?_
    refine wa_iload_n (pc := 133) cx 3 dX11_risk_133 rfl rfl ?_
    refine wa_icmp_ge (pc := 134) cx 162 dX11_risk_134 rfl (fun c27 => ?_) (fun c27 => ?_)
    · have hf := (if_pos c27).symm.trans hf
      obtain rfl := Option.some.inj hf
      refine wa_forget [false, false, false, false, false, true] [none, none, none, none, none, some (.int v5)] rfl ?_
      exact hk1
    · have hf := (if_neg c27).symm.trans hf
      refine wa_aload_n (pc := 137) cx 0 dX11_risk_137 rfl rfl ?_
      refine wa_getR (pc := 138) cx fl_X11_16 lk_38 rfl (cx.bl 38 rfl) dX11_risk_138 ?_
      refine wa_bipush (pc := 141) (v := 40) cx dX11_risk_141 (by decide) ?_
      refine wa_iload_n (pc := 143) cx 1 dX11_risk_143 rfl rfl ?_
      refine wa_imul (pc := 144) cx dX11_risk_144 ?_
      refine wa_iload_n (pc := 145) cx 2 dX11_risk_145 rfl rfl ?_
      refine wa_iadd (pc := 146) cx dX11_risk_146 ?_
      refine wa_iload (pc := 147) cx 5 dX11_risk_147 rfl ?_
      refine wa_iadd (pc := 149) cx dX11_risk_149 ?_
      obtain ⟨g28, hf⟩ := gd_some hf
      refine wa_iald (pc := 150) cx lk_41 (cx.bl 41 rfl) g28 dX11_risk_150 ?_
      refine wa_iload (pc := 151) cx 4 dX11_risk_151 rfl ?_
      refine wa_icmp_gt (pc := 153) cx 162 dX11_risk_153 rfl (fun c29 => ?_) (fun c29 => ?_)
      · have hf := (if_pos c29).symm.trans hf
        obtain rfl := Option.some.inj hf
        refine wa_forget [false, false, false, false, false, true] [none, none, none, none, none, some (.int v5)] rfl ?_
        exact hk1
      · have hf := (if_neg c29).symm.trans hf
        refine wa_iinc (pc := 156) (v := 1) cx 5 [some (.ref (eA E 38)), some (.int v1), some (.int v2), some (.int v3), some (.int v4), some (.int (v5 + 1))] dX11_risk_156 (by decide) rfl (by decide) rfl rfl ?_
        refine wa_goto (pc := 159) cx 131 dX11_risk_159 rfl ?_
        obtain rfl := Option.some.inj hf
        refine wa_forget [true, true, true, true, true, true] [some (.ref (eA E 38)), some (.int v1), some (.int v2), some (.int v3), some (.int v4), some (.int (v5 + 1))] rfl ?_
        exact hk1
  refine wa_aload_n (pc := 0) cx 0 dX11_risk_0 rfl rfl ?_
  refine wa_iconst (pc := 1) (v := 0) cx dX11_risk_1 (by decide) ?_
  refine wa_putI (pc := 2) cx fp_X11_50 lk_38 rfl (cx.bl 38 rfl) dX11_risk_2 ?_
  refine wa_aload_n (pc := 5) cx 0 dX11_risk_5 rfl rfl ?_
  refine wa_getI (pc := 6) cx fl_X11_177 lk_38 rfl (cx.bl 38 rfl) dX11_risk_6 ?_
  refine wa_if_ne (pc := 9) cx 15 dX11_risk_9 rfl (fun c1 => ?_) (fun c1 => ?_)
  · have hf := (if_neg c1).symm.trans hf
    refine wa_iload_n (pc := 15) cx 1 dX11_risk_15 rfl rfl ?_
    obtain ⟨q2, h3, hf⟩ := bd_some hf
    refine wa_callSi (pc := 16) cx [.int a1] (ct_X11_isRow l E _ _ _ h3) ms_X11_isRow tw_948 rfl rfl (Nat.le_of_ble_eq_true rfl) ⟨Nat.le_of_ble_eq_true rfl, Nat.le_of_ble_eq_true rfl⟩ ⟨Nat.zero_le _, Nat.zero_le _⟩ dX11_risk_16 ?_
    refine wa_if_eq (pc := 19) cx 34 dX11_risk_19 rfl (fun c4 => ?_) (fun c4 => ?_)
    · have hf := (if_pos c4).symm.trans hf
      refine wa_forget [false, false, false, false, false, false] [none, none, none, none, none, none] rfl ?_
      exact j34  _ hf
    · have hf := (if_neg c4).symm.trans hf
      refine wa_iload_n (pc := 22) cx 3 dX11_risk_22 rfl rfl ?_
      refine wa_i2l (pc := 23) cx dX11_risk_23 ?_
      refine wa_lconst (pc := 24) (v := 1) cx dX11_risk_24 (by decide) ?_
      refine wa_ldc2 (pc := 25) (v := 40) cx dX11_risk_25 tw_1198 ?_
      obtain ⟨q5, h6, hf⟩ := bd_some hf
      refine wa_callSi (pc := 28) cx [.long ((a3).toInt64), .long 1, .long 40] (ct_X11_in l E _ _ _ _ _ h6) ms_X11_in tw_952 rfl rfl (Nat.le_of_ble_eq_true rfl) ⟨Nat.le_of_ble_eq_true rfl, Nat.le_of_ble_eq_true rfl⟩ ⟨Nat.zero_le _, Nat.zero_le _⟩ dX11_risk_28 ?_
      refine wa_if_ne (pc := 31) cx 37 dX11_risk_31 rfl (fun c7 => ?_) (fun c7 => ?_)
      · have hf := (if_neg c7).symm.trans hf
        refine wa_aload_n (pc := 37) cx 0 dX11_risk_37 rfl rfl ?_
        refine wa_getR (pc := 38) cx fl_X11_7 lk_38 rfl (cx.bl 38 rfl) dX11_risk_38 ?_
        refine wa_iload_n (pc := 41) cx 1 dX11_risk_41 rfl rfl ?_
        obtain ⟨g8, hf⟩ := gd_some hf
        refine wa_iald (pc := 42) cx lk_39 (cx.bl 39 rfl) g8 dX11_risk_42 ?_
        refine wa_if_ge (pc := 43) cx 52 dX11_risk_43 rfl (fun c9 => ?_) (fun c9 => ?_)
        · have hf := (if_pos c9).symm.trans hf
          refine wa_iload_n (pc := 52) cx 2 dX11_risk_52 rfl rfl ?_
          refine wa_if_lt (pc := 53) cx 72 dX11_risk_53 rfl (fun c10 => ?_) (fun c10 => ?_)
          · have hf := (if_pos c10).symm.trans hf
            refine wa_forget [true, false, false, false, false, false] [some (.ref (eA E 38)), none, none, none, none, none] rfl ?_
            exact j72  _ hf
          · have hf := (if_neg c10).symm.trans hf
            refine wa_iload_n (pc := 56) cx 2 dX11_risk_56 rfl rfl ?_
            refine wa_i2l (pc := 57) cx dX11_risk_57 ?_
            refine wa_iload_n (pc := 58) cx 3 dX11_risk_58 rfl rfl ?_
            refine wa_i2l (pc := 59) cx dX11_risk_59 ?_
            refine wa_ladd (pc := 60) cx dX11_risk_60 ?_
            refine wa_aload_n (pc := 61) cx 0 dX11_risk_61 rfl rfl ?_
            refine wa_getR (pc := 62) cx fl_X11_13 lk_38 rfl (cx.bl 38 rfl) dX11_risk_62 ?_
            refine wa_iload_n (pc := 65) cx 1 dX11_risk_65 rfl rfl ?_
            obtain ⟨g13, hf⟩ := gd_some hf
            refine wa_iald (pc := 66) cx lk_40 (cx.bl 40 rfl) g13 dX11_risk_66 ?_
            refine wa_i2l (pc := 67) cx dX11_risk_67 ?_
            refine wa_lcmp (pc := 68) cx dX11_risk_68 ?_
            refine wa_if_le (pc := 69) cx 78 dX11_risk_69 rfl (fun c14 => ?_) (fun c14 => ?_)
            · have hf := (if_pos c14).symm.trans hf
              refine wa_iconst (pc := 78) (v := 0) cx dX11_risk_78 (by decide) ?_
              refine wa_istore (pc := 79) cx 4 [some (.ref (eA E 38)), some (.int a1), some (.int a2), some (.int a3), some (.int 0), none] dX11_risk_79 (by decide) rfl rfl ?_
              obtain ⟨o20, h32, hf⟩ := bd_some hf
              refine l81 _ _ _ _ _ _ h32 ?_
              cases o20 with
              | inl z21 =>
                refine wa_ldc (pc := 104) (v := (-1000001)) cx dX11_risk_104 tw_956 ?_
                obtain rfl := Option.some.inj hf
                exact wa_iret (pc := 106) cx dX11_risk_106
              | inr z22 =>
                refine wa_aload_n (pc := 113) cx 0 dX11_risk_113 rfl rfl ?_
                refine wa_iconst (pc := 114) (v := 0) cx dX11_risk_114 (by decide) ?_
                refine wa_putI (pc := 115) cx fp_X11_54 lk_38 rfl (cx.bl 38 rfl) dX11_risk_115 ?_
                refine wa_aload_n (pc := 118) cx 0 dX11_risk_118 rfl rfl ?_
                obtain ⟨q23, h24, hf⟩ := bd_some hf
                refine wa_callVv (pc := 119) cx [] (ct_X11_layStrands l E _  _ h24) mi_X11_layStrands tw_1120 lk_38 rfl (cx.bl 38 rfl) rfl rfl (Nat.le_of_ble_eq_true rfl) ⟨Nat.le_of_ble_eq_true rfl, Nat.le_of_ble_eq_true rfl⟩ ⟨Nat.zero_le _, Nat.zero_le _⟩ dX11_risk_119 ?_
                refine wa_aload_n (pc := 122) cx 0 dX11_risk_122 rfl rfl ?_
                obtain ⟨q25, h26, hf⟩ := bd_some hf
                refine wa_callVi (pc := 123) cx [] (ct_X11_ropeBears l E _  _ h26) mi_X11_ropeBears tw_1132 lk_38 rfl (cx.bl 38 rfl) rfl rfl (Nat.le_of_ble_eq_true rfl) ⟨Nat.le_of_ble_eq_true rfl, Nat.le_of_ble_eq_true rfl⟩ ⟨Nat.zero_le _, Nat.zero_le _⟩ dX11_risk_123 ?_
                refine wa_istore (pc := 126) cx 4 [some (.ref (eA E 38)), some (.int a1), some (.int a2), some (.int a3), some (.int q25), none] dX11_risk_126 (by decide) rfl rfl ?_
                refine wa_iconst (pc := 128) (v := 0) cx dX11_risk_128 (by decide) ?_
                refine wa_istore (pc := 129) cx 5 [some (.ref (eA E 38)), some (.int a1), some (.int a2), some (.int a3), some (.int q25), some (.int 0)] dX11_risk_129 (by decide) rfl rfl ?_
                obtain ⟨o30, h31, hf⟩ := bd_some hf
                refine l131 _ _ _ _ _ _ _ h31 ?_
                refine wa_iload (pc := 162) cx 5 dX11_risk_162 rfl ?_
                obtain rfl := Option.some.inj hf
                exact wa_iret (pc := 164) cx dX11_risk_164
            · have hf := (if_neg c14).symm.trans hf
              refine wa_forget [true, false, false, false, false, false] [some (.ref (eA E 38)), none, none, none, none, none] rfl ?_
              exact j72  _ hf
        · have hf := (if_neg c9).symm.trans hf
          refine wa_aload_n (pc := 46) cx 0 dX11_risk_46 rfl rfl ?_
          refine wa_iconst (pc := 47) (v := 1) cx dX11_risk_47 (by decide) ?_
          obtain ⟨q33, h34, hf⟩ := bd_some hf
          refine wa_callVi (pc := 48) cx [.int 1] (ct_X11_finding l E _ _ _ h34) mi_X11_finding tw_957 lk_38 rfl (cx.bl 38 rfl) rfl rfl (Nat.le_of_ble_eq_true rfl) ⟨Nat.le_of_ble_eq_true rfl, Nat.le_of_ble_eq_true rfl⟩ ⟨Nat.zero_le _, Nat.zero_le _⟩ dX11_risk_48 ?_
          obtain rfl := Option.some.inj hf
          exact wa_iret (pc := 51) cx dX11_risk_51
      · have hf := (if_pos c7).symm.trans hf
        refine wa_forget [false, false, false, false, false, false] [none, none, none, none, none, none] rfl ?_
        exact j34  _ hf
  · have hf := (if_pos c1).symm.trans hf
    refine wa_ldc (pc := 12) (v := (-1000002)) cx dX11_risk_12 tw_1081 ?_
    obtain rfl := Option.some.inj hf
    exact wa_iret (pc := 14) cx dX11_risk_14
def fX11_whose_J34  (σ : Sg) : Option (Int32 × Sg) :=
  some ((-1000001), σ)
def fX11_whose_J127 (v1 : Int32) (v2 : Int32) (v3 : Int32) (v4 : Int32) (σ : Sg) : Option ((Int32 × Int32 × Sg) ⊕ (Int32 × Sg)) :=
  some (.inl (v3, (v4 + 1), σ))
def fX11_whose_J125 (v1 : Int32) (v2 : Int32) (v4 : Int32) (t1 : Int32) (t0 : Int32) (σ : Sg) : Option ((Int32 × Int32 × Sg) ⊕ (Int32 × Sg)) :=
  fX11_whose_J127 v1 v2 (t0 ||| t1) v4 σ
def fX11_whose_J124 (v1 : Int32) (v2 : Int32) (v4 : Int32) (t0 : Int32) (σ : Sg) : Option ((Int32 × Int32 × Sg) ⊕ (Int32 × Sg)) :=
  fX11_whose_J125 v1 v2 v4 0 t0 σ
def fX11_whose_B42 (v1 : Int32) (v2 : Int32) (v3 : Int32) (v4 : Int32) (σ : Sg) : Option ((Int32 × Int32 × Sg) ⊕ (Int32 × Sg)) :=
  gd (inb 3 77) (
  if ga σ 42 3 ≤ v4 then (some (.inr (v3, σ))) else ((fX11_of v4 3 σ).bind (fun q11 =>
  if q11 < 0 then (fX11_whose_J127 v1 v2 v3 v4 σ) else ((fX11_of v4 4 σ).bind (fun q14 =>
  if (2 : Int32) ≤ q14 then (fX11_whose_J127 v1 v2 v3 v4 σ) else ((fX11_layStrands  σ).bind (fun q17 =>
  gd (inb q11 3) (
  (fX11_strength v4 q17).bind (fun q20 =>
  gd (inb q11 3) (
  (fX11_ropeBears  (sa q17 46 q11 (ga q17 46 q11 - q20))).bind (fun q23 =>
  if q23 < v1 then (fX11_whose_J124 v1 v2 v4 v3 (sa q17 46 q11 (ga q17 46 q11 - q20))) else (if v2 ≤ q23 then (fX11_whose_J124 v1 v2 v4 v3 (sa q17 46 q11 (ga q17 46 q11 - q20))) else (fX11_whose_J125 v1 v2 v4 (jshl 1 v4) v3 (sa q17 46 q11 (ga q17 46 q11 - q20)))))))))))))))
def fX11_whose (a1 : Int32) (a2 : Int32) (σ : Sg) : Option (Int32 × Sg) :=
  if gf (sup σ 38 0 0) 38 7 = 0 then (some ((-1000002), sup σ 38 0 0)) else ((fX11_isLoad a1 (sup σ 38 0 0)).bind (fun q2 =>
  if q2 = 0 then (fX11_whose_J34  (sup σ 38 0 0)) else ((fX11_isLoad a2 (sup σ 38 0 0)).bind (fun q5 =>
  if q5 = 0 then (fX11_whose_J34  (sup σ 38 0 0)) else (if a1 < a2 then ((lpO (fun w => fX11_whose_B42 a1 a2 w.1 w.2.1 w.2.2) FUEL (0, 0, sup σ 38 0 0)).bind (fun o27 =>
  some (o27.1, o27.2))) else (fX11_whose_J34  (sup σ 38 0 0)))))))
set_option maxHeartbeats 4000000 in
set_option maxRecDepth 100000 in
theorem ct_X11_whose (l : Launch) (E : En) (σ : Sg) (a1 : Int32) (a2 : Int32) (q : Int32 × Sg) (hf : fX11_whose a1 a2 σ = some q) : CT l yX11_whose cX11_whose 7 (some .int) 5 E σ [.ref (eA E 38), .int a1, .int a2] (some (.int q.1)) q.2 := by
  refine CT.of RX11 [some (.ref (eA E 38)), some (.int a1), some (.int a2), none, none, none, none] rfl (by decide +kernel) (Nat.le_of_ble_eq_true rfl) rfl ?_
  intro p e s m args below meth c cx
  unfold fX11_whose at hf
  have j34 : ∀  (σ : Sg), fX11_whose_J34  σ = some q → WA p l e (rmd 5) s m args below meth c 7 E 0 0 (MQ below (Qcq E s.heap.size (some (.int q.1)) q.2) args s 0 0 (AE E s.heap.size)) 34 [none, none, none, none, none, none, none] [] σ := by
    intro  σ hf
    unfold fX11_whose_J34 at hf
    refine wa_ldc (pc := 34) (v := (-1000001)) cx dX11_whose_34 tw_956 ?_
    obtain rfl := Option.some.inj hf
    exact wa_iret (pc := 36) cx dX11_whose_36
  have l42 : ∀ (v1 : Int32) (v2 : Int32) (y : Int32 × Int32 × Sg) (o : Int32 × Sg), lpO (fun w => fX11_whose_B42 v1 v2 w.1 w.2.1 w.2.2) FUEL y = some o → (WA p l e (rmd 5) s m args below meth c 7 E 0 0 (MQ below (Qcq E s.heap.size (some (.int q.1)) q.2) args s 0 0 (AE E s.heap.size)) 133 [none, none, none, some (.int o.1), none, none, none] [] o.2) → WA p l e (rmd 5) s m args below meth c 7 E 0 0 (MQ below (Qcq E s.heap.size (some (.int q.1)) q.2) args s 0 0 (AE E s.heap.size)) 42 [some (.ref (eA E 38)), some (.int v1), some (.int v2), some (.int y.1), some (.int y.2.1), none, none] [] y.2.2 := by
    intro v1 v2 y o hf hk
    refine lp_rule (P := fun y => WA p l e (rmd 5) s m args below meth c 7 E 0 0 (MQ below (Qcq E s.heap.size (some (.int q.1)) q.2) args s 0 0 (AE E s.heap.size)) 42 [some (.ref (eA E 38)), some (.int v1), some (.int v2), some (.int y.1), some (.int y.2.1), none, none] [] y.2.2) (K := fun o => WA p l e (rmd 5) s m args below meth c 7 E 0 0 (MQ below (Qcq E s.heap.size (some (.int q.1)) q.2) args s 0 0 (AE E s.heap.size)) 133 [none, none, none, some (.int o.1), none, none, none] [] o.2) ?_ FUEL y o hf hk
    have j127 : ∀ (v1 : Int32) (v2 : Int32) (v3 : Int32) (v4 : Int32) (σ : Sg) (r1 : (Int32 × Int32 × Sg) ⊕ (Int32 × Sg)), fX11_whose_J127 v1 v2 v3 v4 σ = some r1 → (sel (fun y1 => WA p l e (rmd 5) s m args below meth c 7 E 0 0 (MQ below (Qcq E s.heap.size (some (.int q.1)) q.2) args s 0 0 (AE E s.heap.size)) 42 [some (.ref (eA E 38)), some (.int v1), some (.int v2), some (.int y1.1), some (.int y1.2.1), none, none] [] y1.2.2) (fun y1 => WA p l e (rmd 5) s m args below meth c 7 E 0 0 (MQ below (Qcq E s.heap.size (some (.int q.1)) q.2) args s 0 0 (AE E s.heap.size)) 133 [none, none, none, some (.int y1.1), none, none, none] [] y1.2) r1) → WA p l e (rmd 5) s m args below meth c 7 E 0 0 (MQ below (Qcq E s.heap.size (some (.int q.1)) q.2) args s 0 0 (AE E s.heap.size)) 127 [some (.ref (eA E 38)), some (.int v1), some (.int v2), some (.int v3), some (.int v4), none, none] [] σ := by
      intro v1 v2 v3 v4 σ r1 hf hk1
      unfold fX11_whose_J127 at hf
      refine wa_iinc (pc := 127) (v := 1) cx 4 [some (.ref (eA E 38)), some (.int v1), some (.int v2), some (.int v3), some (.int (v4 + 1)), none, none] dX11_whose_127 (by decide) rfl (by decide) rfl rfl ?_
      refine wa_goto (pc := 130) cx 42 dX11_whose_130 rfl ?_
      obtain rfl := Option.some.inj hf
      refine wa_forget [true, true, true, true, true, false, false] [some (.ref (eA E 38)), some (.int v1), some (.int v2), some (.int v3), some (.int (v4 + 1)), none, none] rfl ?_
      exact hk1
    have j125 : ∀ (v1 : Int32) (v2 : Int32) (v4 : Int32) (t1 : Int32) (t0 : Int32) (σ : Sg) (r1 : (Int32 × Int32 × Sg) ⊕ (Int32 × Sg)), fX11_whose_J125 v1 v2 v4 t1 t0 σ = some r1 → (sel (fun y1 => WA p l e (rmd 5) s m args below meth c 7 E 0 0 (MQ below (Qcq E s.heap.size (some (.int q.1)) q.2) args s 0 0 (AE E s.heap.size)) 42 [some (.ref (eA E 38)), some (.int v1), some (.int v2), some (.int y1.1), some (.int y1.2.1), none, none] [] y1.2.2) (fun y1 => WA p l e (rmd 5) s m args below meth c 7 E 0 0 (MQ below (Qcq E s.heap.size (some (.int q.1)) q.2) args s 0 0 (AE E s.heap.size)) 133 [none, none, none, some (.int y1.1), none, none, none] [] y1.2) r1) → WA p l e (rmd 5) s m args below meth c 7 E 0 0 (MQ below (Qcq E s.heap.size (some (.int q.1)) q.2) args s 0 0 (AE E s.heap.size)) 125 [some (.ref (eA E 38)), some (.int v1), some (.int v2), none, some (.int v4), none, none] [.int t1, .int t0] σ := by
      intro v1 v2 v4 t1 t0 σ r1 hf hk1
      unfold fX11_whose_J125 at hf
      refine wa_ior (pc := 125) cx dX11_whose_125 ?_
      refine wa_istore_n (pc := 126) cx 3 [some (.ref (eA E 38)), some (.int v1), some (.int v2), some (.int (t0 ||| t1)), some (.int v4), none, none] dX11_whose_126 rfl (by decide) rfl rfl ?_
      exact j127 _ _ _ _ _ _ hf hk1
    have j124 : ∀ (v1 : Int32) (v2 : Int32) (v4 : Int32) (t0 : Int32) (σ : Sg) (r1 : (Int32 × Int32 × Sg) ⊕ (Int32 × Sg)), fX11_whose_J124 v1 v2 v4 t0 σ = some r1 → (sel (fun y1 => WA p l e (rmd 5) s m args below meth c 7 E 0 0 (MQ below (Qcq E s.heap.size (some (.int q.1)) q.2) args s 0 0 (AE E s.heap.size)) 42 [some (.ref (eA E 38)), some (.int v1), some (.int v2), some (.int y1.1), some (.int y1.2.1), none, none] [] y1.2.2) (fun y1 => WA p l e (rmd 5) s m args below meth c 7 E 0 0 (MQ below (Qcq E s.heap.size (some (.int q.1)) q.2) args s 0 0 (AE E s.heap.size)) 133 [none, none, none, some (.int y1.1), none, none, none] [] y1.2) r1) → WA p l e (rmd 5) s m args below meth c 7 E 0 0 (MQ below (Qcq E s.heap.size (some (.int q.1)) q.2) args s 0 0 (AE E s.heap.size)) 124 [some (.ref (eA E 38)), some (.int v1), some (.int v2), none, some (.int v4), none, none] [.int t0] σ := by
      intro v1 v2 v4 t0 σ r1 hf hk1
      unfold fX11_whose_J124 at hf
      refine wa_iconst (pc := 124) (v := 0) cx dX11_whose_124 (by decide) ?_
      exact j125 _ _ _ _ _ _ _ hf hk1
    intro y0 r1 hf hk1
    obtain ⟨v3, v4, σ⟩ := y0
    have hf : fX11_whose_B42 v1 v2 v3 v4 σ = some r1 := hf
    unfold fX11_whose_B42 at hf
    refine wa_iload (pc := 42) cx 4 dX11_whose_42 rfl ?_
    refine wa_aload_n (pc := 44) cx 0 dX11_whose_44 rfl rfl ?_
    refine wa_getR (pc := 45) cx fl_X11_19 lk_38 rfl (cx.bl 38 rfl) dX11_whose_45 ?_
    refine wa_iconst (pc := 48) (v := 3) cx dX11_whose_48 (by decide) ?_
    obtain ⟨g9, hf⟩ := gd_some hf
    refine wa_iald (pc := 49) cx lk_42 (cx.bl 42 rfl) g9 dX11_whose_49 ?_
    refine wa_icmp_ge (pc := 50) cx 133 dX11_whose_50 rfl (fun c10 => ?_) (fun c10 => ?_)
    · have hf := (if_pos c10).symm.trans hf
      obtain rfl := Option.some.inj hf
      refine wa_forget [false, false, false, true, false, false, false] [none, none, none, some (.int v3), none, none, none] rfl ?_
      exact hk1
    · have hf := (if_neg c10).symm.trans hf
      refine wa_aload_n (pc := 53) cx 0 dX11_whose_53 rfl rfl ?_
      refine wa_iload (pc := 54) cx 4 dX11_whose_54 rfl ?_
      refine wa_iconst (pc := 56) (v := 3) cx dX11_whose_56 (by decide) ?_
      obtain ⟨q11, h12, hf⟩ := bd_some hf
      refine wa_callVi (pc := 57) cx [.int v4, .int 3] (ct_X11_of l E _ _ _ _ h12) mi_X11_of tw_1069 lk_38 rfl (cx.bl 38 rfl) rfl rfl (Nat.le_of_ble_eq_true rfl) ⟨Nat.le_of_ble_eq_true rfl, Nat.le_of_ble_eq_true rfl⟩ ⟨Nat.zero_le _, Nat.zero_le _⟩ dX11_whose_57 ?_
      refine wa_istore (pc := 60) cx 5 [some (.ref (eA E 38)), some (.int v1), some (.int v2), some (.int v3), some (.int v4), some (.int q11), none] dX11_whose_60 (by decide) rfl rfl ?_
      refine wa_iload (pc := 62) cx 5 dX11_whose_62 rfl ?_
      refine wa_if_lt (pc := 64) cx 127 dX11_whose_64 rfl (fun c13 => ?_) (fun c13 => ?_)
      · have hf := (if_pos c13).symm.trans hf
        refine wa_forget [true, true, true, true, true, false, false] [some (.ref (eA E 38)), some (.int v1), some (.int v2), some (.int v3), some (.int v4), none, none] rfl ?_
        exact j127 _ _ _ _ _ _ hf hk1
      · have hf := (if_neg c13).symm.trans hf
        refine wa_aload_n (pc := 67) cx 0 dX11_whose_67 rfl rfl ?_
        refine wa_iload (pc := 68) cx 4 dX11_whose_68 rfl ?_
        refine wa_iconst (pc := 70) (v := 4) cx dX11_whose_70 (by decide) ?_
        obtain ⟨q14, h15, hf⟩ := bd_some hf
        refine wa_callVi (pc := 71) cx [.int v4, .int 4] (ct_X11_of l E _ _ _ _ h15) mi_X11_of tw_1069 lk_38 rfl (cx.bl 38 rfl) rfl rfl (Nat.le_of_ble_eq_true rfl) ⟨Nat.le_of_ble_eq_true rfl, Nat.le_of_ble_eq_true rfl⟩ ⟨Nat.zero_le _, Nat.zero_le _⟩ dX11_whose_71 ?_
        refine wa_iconst (pc := 74) (v := 2) cx dX11_whose_74 (by decide) ?_
        refine wa_icmp_ge (pc := 75) cx 127 dX11_whose_75 rfl (fun c16 => ?_) (fun c16 => ?_)
        · have hf := (if_pos c16).symm.trans hf
          refine wa_forget [true, true, true, true, true, false, false] [some (.ref (eA E 38)), some (.int v1), some (.int v2), some (.int v3), some (.int v4), none, none] rfl ?_
          exact j127 _ _ _ _ _ _ hf hk1
        · have hf := (if_neg c16).symm.trans hf
          refine wa_aload_n (pc := 78) cx 0 dX11_whose_78 rfl rfl ?_
          obtain ⟨q17, h18, hf⟩ := bd_some hf
          refine wa_callVv (pc := 79) cx [] (ct_X11_layStrands l E _  _ h18) mi_X11_layStrands tw_1120 lk_38 rfl (cx.bl 38 rfl) rfl rfl (Nat.le_of_ble_eq_true rfl) ⟨Nat.le_of_ble_eq_true rfl, Nat.le_of_ble_eq_true rfl⟩ ⟨Nat.zero_le _, Nat.zero_le _⟩ dX11_whose_79 ?_
          refine wa_aload_n (pc := 82) cx 0 dX11_whose_82 rfl rfl ?_
          refine wa_getR (pc := 83) cx fl_X11_31 lk_38 rfl (cx.bl 38 rfl) dX11_whose_83 ?_
          refine wa_iload (pc := 86) cx 5 dX11_whose_86 rfl ?_
          refine wa_dup2 (pc := 88) cx dX11_whose_88 rfl rfl ?_
          obtain ⟨g19, hf⟩ := gd_some hf
          refine wa_iald (pc := 89) cx lk_46 (cx.bl 46 rfl) g19 dX11_whose_89 ?_
          refine wa_aload_n (pc := 90) cx 0 dX11_whose_90 rfl rfl ?_
          refine wa_iload (pc := 91) cx 4 dX11_whose_91 rfl ?_
          obtain ⟨q20, h21, hf⟩ := bd_some hf
          refine wa_callVi (pc := 93) cx [.int v4] (ct_X11_strength l E _ _ _ h21) mi_X11_strength tw_1082 lk_38 rfl (cx.bl 38 rfl) rfl rfl (Nat.le_of_ble_eq_true rfl) ⟨Nat.le_of_ble_eq_true rfl, Nat.le_of_ble_eq_true rfl⟩ ⟨Nat.zero_le _, Nat.zero_le _⟩ dX11_whose_93 ?_
          refine wa_isub (pc := 96) cx dX11_whose_96 ?_
          obtain ⟨g22, hf⟩ := gd_some hf
          refine wa_iast (pc := 97) cx lk_46 (cx.bl 46 rfl) g22 dX11_whose_97 ?_
          refine wa_aload_n (pc := 98) cx 0 dX11_whose_98 rfl rfl ?_
          obtain ⟨q23, h24, hf⟩ := bd_some hf
          refine wa_callVi (pc := 99) cx [] (ct_X11_ropeBears l E _  _ h24) mi_X11_ropeBears tw_1132 lk_38 rfl (cx.bl 38 rfl) rfl rfl (Nat.le_of_ble_eq_true rfl) ⟨Nat.le_of_ble_eq_true rfl, Nat.le_of_ble_eq_true rfl⟩ ⟨Nat.zero_le _, Nat.zero_le _⟩ dX11_whose_99 ?_
          refine wa_istore (pc := 102) cx 6 [some (.ref (eA E 38)), some (.int v1), some (.int v2), some (.int v3), some (.int v4), some (.int q11), some (.int q23)] dX11_whose_102 (by decide) rfl rfl ?_
          refine wa_iload_n (pc := 104) cx 3 dX11_whose_104 rfl rfl ?_
          refine wa_iload (pc := 105) cx 6 dX11_whose_105 rfl ?_
          refine wa_iload_n (pc := 107) cx 1 dX11_whose_107 rfl rfl ?_
          refine wa_icmp_lt (pc := 108) cx 124 dX11_whose_108 rfl (fun c25 => ?_) (fun c25 => ?_)
          · have hf := (if_pos c25).symm.trans hf
            refine wa_forget [true, true, true, false, true, false, false] [some (.ref (eA E 38)), some (.int v1), some (.int v2), none, some (.int v4), none, none] rfl ?_
            exact j124 _ _ _ _ _ _ hf hk1
          · have hf := (if_neg c25).symm.trans hf
            refine wa_iload (pc := 111) cx 6 dX11_whose_111 rfl ?_
            refine wa_iload_n (pc := 113) cx 2 dX11_whose_113 rfl rfl ?_
            refine wa_icmp_ge (pc := 114) cx 124 dX11_whose_114 rfl (fun c26 => ?_) (fun c26 => ?_)
            · have hf := (if_pos c26).symm.trans hf
              refine wa_forget [true, true, true, false, true, false, false] [some (.ref (eA E 38)), some (.int v1), some (.int v2), none, some (.int v4), none, none] rfl ?_
              exact j124 _ _ _ _ _ _ hf hk1
            · have hf := (if_neg c26).symm.trans hf
              refine wa_iconst (pc := 117) (v := 1) cx dX11_whose_117 (by decide) ?_
              refine wa_iload (pc := 118) cx 4 dX11_whose_118 rfl ?_
              refine wa_ishl (pc := 120) cx dX11_whose_120 ?_
              refine wa_goto (pc := 121) cx 125 dX11_whose_121 rfl ?_
              refine wa_forget [true, true, true, false, true, false, false] [some (.ref (eA E 38)), some (.int v1), some (.int v2), none, some (.int v4), none, none] rfl ?_
              exact j125 _ _ _ _ _ _ _ hf hk1
  refine wa_aload_n (pc := 0) cx 0 dX11_whose_0 rfl rfl ?_
  refine wa_iconst (pc := 1) (v := 0) cx dX11_whose_1 (by decide) ?_
  refine wa_putI (pc := 2) cx fp_X11_50 lk_38 rfl (cx.bl 38 rfl) dX11_whose_2 ?_
  refine wa_aload_n (pc := 5) cx 0 dX11_whose_5 rfl rfl ?_
  refine wa_getI (pc := 6) cx fl_X11_177 lk_38 rfl (cx.bl 38 rfl) dX11_whose_6 ?_
  refine wa_if_ne (pc := 9) cx 15 dX11_whose_9 rfl (fun c1 => ?_) (fun c1 => ?_)
  · have hf := (if_neg c1).symm.trans hf
    refine wa_iload_n (pc := 15) cx 1 dX11_whose_15 rfl rfl ?_
    obtain ⟨q2, h3, hf⟩ := bd_some hf
    refine wa_callSi (pc := 16) cx [.int a1] (ct_X11_isLoad l E _ _ _ h3) ms_X11_isLoad tw_1106 rfl rfl (Nat.le_of_ble_eq_true rfl) ⟨Nat.le_of_ble_eq_true rfl, Nat.le_of_ble_eq_true rfl⟩ ⟨Nat.zero_le _, Nat.zero_le _⟩ dX11_whose_16 ?_
    refine wa_if_eq (pc := 19) cx 34 dX11_whose_19 rfl (fun c4 => ?_) (fun c4 => ?_)
    · have hf := (if_pos c4).symm.trans hf
      refine wa_forget [false, false, false, false, false, false, false] [none, none, none, none, none, none, none] rfl ?_
      exact j34  _ hf
    · have hf := (if_neg c4).symm.trans hf
      refine wa_iload_n (pc := 22) cx 2 dX11_whose_22 rfl rfl ?_
      obtain ⟨q5, h6, hf⟩ := bd_some hf
      refine wa_callSi (pc := 23) cx [.int a2] (ct_X11_isLoad l E _ _ _ h6) ms_X11_isLoad tw_1106 rfl rfl (Nat.le_of_ble_eq_true rfl) ⟨Nat.le_of_ble_eq_true rfl, Nat.le_of_ble_eq_true rfl⟩ ⟨Nat.zero_le _, Nat.zero_le _⟩ dX11_whose_23 ?_
      refine wa_if_eq (pc := 26) cx 34 dX11_whose_26 rfl (fun c7 => ?_) (fun c7 => ?_)
      · have hf := (if_pos c7).symm.trans hf
        refine wa_forget [false, false, false, false, false, false, false] [none, none, none, none, none, none, none] rfl ?_
        exact j34  _ hf
      · have hf := (if_neg c7).symm.trans hf
        refine wa_iload_n (pc := 29) cx 1 dX11_whose_29 rfl rfl ?_
        refine wa_iload_n (pc := 30) cx 2 dX11_whose_30 rfl rfl ?_
        refine wa_icmp_lt (pc := 31) cx 37 dX11_whose_31 rfl (fun c8 => ?_) (fun c8 => ?_)
        · have hf := (if_pos c8).symm.trans hf
          refine wa_iconst (pc := 37) (v := 0) cx dX11_whose_37 (by decide) ?_
          refine wa_istore_n (pc := 38) cx 3 [some (.ref (eA E 38)), some (.int a1), some (.int a2), some (.int 0), none, none, none] dX11_whose_38 rfl (by decide) rfl rfl ?_
          refine wa_iconst (pc := 39) (v := 0) cx dX11_whose_39 (by decide) ?_
          refine wa_istore (pc := 40) cx 4 [some (.ref (eA E 38)), some (.int a1), some (.int a2), some (.int 0), some (.int 0), none, none] dX11_whose_40 (by decide) rfl rfl ?_
          obtain ⟨o27, h28, hf⟩ := bd_some hf
          refine l42 _ _ _ _ h28 ?_
          refine wa_iload_n (pc := 133) cx 3 dX11_whose_133 rfl rfl ?_
          obtain rfl := Option.some.inj hf
          exact wa_iret (pc := 134) cx dX11_whose_134
        · have hf := (if_neg c8).symm.trans hf
          refine wa_forget [false, false, false, false, false, false, false] [none, none, none, none, none, none, none] rfl ?_
          exact j34  _ hf
  · have hf := (if_pos c1).symm.trans hf
    refine wa_ldc (pc := 12) (v := (-1000002)) cx dX11_whose_12 tw_1081 ?_
    obtain rfl := Option.some.inj hf
    exact wa_iret (pc := 14) cx dX11_whose_14
def fX11_geese_B42 (v1 : Int32) (v2 : Int32) (v3 : Int32) (σ : Sg) : Option ((Int32 × Int32) ⊕ (Int32)) :=
  if (9 : Int32) ≤ v3 then (some (.inr v2)) else (some (.inl ((v2 + (jshr v1 v3 &&& 1)), (v3 + 1))))
def fX11_geese_B64 (v2 : Int32) (v3 : Int32) (σ : Sg) : Option ((Int32) ⊕ (Int32)) :=
  if v2 ≤ jshl 1 v3 then (some (.inr v3)) else (some (.inl (v3 + 1)))
def fX11_geese (a1 : Int32) (σ : Sg) : Option (Int32 × Sg) :=
  if gf (sup σ 38 0 0) 38 7 = 0 then (some ((-1000002), sup σ 38 0 0)) else (gd (inb 3 77) (
  (fX11_in ((a1).toInt64) 1 (((jshl 1 (ga (sup σ 38 0 0) 42 3) - 1)).toInt64) (sup σ 38 0 0)).bind (fun q3 =>
  if q3 = 0 then (some ((-1000001), sup σ 38 0 0)) else ((lpO (fun w => fX11_geese_B42 a1 w.1 w.2 (sup σ 38 0 0)) FUEL (0, 0)).bind (fun o7 =>
  (lpO (fun w => fX11_geese_B64 o7 w (sup σ 38 0 0)) FUEL 0).bind (fun o9 =>
  some (o9, sup σ 38 0 0)))))))
set_option maxHeartbeats 4000000 in
set_option maxRecDepth 100000 in
theorem ct_X11_geese (l : Launch) (E : En) (σ : Sg) (a1 : Int32) (q : Int32 × Sg) (hf : fX11_geese a1 σ = some q) : CT l yX11_geese cX11_geese 4 (some .int) 1 E σ [.ref (eA E 38), .int a1] (some (.int q.1)) q.2 := by
  refine CT.of RX11 [some (.ref (eA E 38)), some (.int a1), none, none] rfl (by decide +kernel) (Nat.le_of_ble_eq_true rfl) rfl ?_
  intro p e s m args below meth c cx
  unfold fX11_geese at hf
  have l42 : ∀ (v1 : Int32) (σ : Sg) (y : Int32 × Int32) (o : Int32), lpO (fun w => fX11_geese_B42 v1 w.1 w.2 σ) FUEL y = some o → (WA p l e (rmd 1) s m args below meth c 4 E 0 0 (MQ below (Qcq E s.heap.size (some (.int q.1)) q.2) args s 0 0 (AE E s.heap.size)) 62 [none, none, some (.int o), none] [] σ) → WA p l e (rmd 1) s m args below meth c 4 E 0 0 (MQ below (Qcq E s.heap.size (some (.int q.1)) q.2) args s 0 0 (AE E s.heap.size)) 42 [none, some (.int v1), some (.int y.1), some (.int y.2)] [] σ := by
    intro v1 σ y o hf hk
    refine lp_rule (P := fun y => WA p l e (rmd 1) s m args below meth c 4 E 0 0 (MQ below (Qcq E s.heap.size (some (.int q.1)) q.2) args s 0 0 (AE E s.heap.size)) 42 [none, some (.int v1), some (.int y.1), some (.int y.2)] [] σ) (K := fun o => WA p l e (rmd 1) s m args below meth c 4 E 0 0 (MQ below (Qcq E s.heap.size (some (.int q.1)) q.2) args s 0 0 (AE E s.heap.size)) 62 [none, none, some (.int o), none] [] σ) ?_ FUEL y o hf hk
    intro y0 r1 hf hk1
    obtain ⟨v2, v3⟩ := y0
    have hf : fX11_geese_B42 v1 v2 v3 σ = some r1 := hf
    unfold fX11_geese_B42 at hf
    refine wa_iload_n (pc := 42) cx 3 dX11_geese_42 rfl rfl ?_
    refine wa_bipush (pc := 43) (v := 9) cx dX11_geese_43 (by decide) ?_
    refine wa_icmp_ge (pc := 45) cx 62 dX11_geese_45 rfl (fun c6 => ?_) (fun c6 => ?_)
    · have hf := (if_pos c6).symm.trans hf
      obtain rfl := Option.some.inj hf
      refine wa_forget [false, false, true, false] [none, none, some (.int v2), none] rfl ?_
      exact hk1
    · have hf := (if_neg c6).symm.trans hf
      refine wa_iload_n (pc := 48) cx 2 dX11_geese_48 rfl rfl ?_
      refine wa_iload_n (pc := 49) cx 1 dX11_geese_49 rfl rfl ?_
      refine wa_iload_n (pc := 50) cx 3 dX11_geese_50 rfl rfl ?_
      refine wa_ishr (pc := 51) cx dX11_geese_51 ?_
      refine wa_iconst (pc := 52) (v := 1) cx dX11_geese_52 (by decide) ?_
      refine wa_iand (pc := 53) cx dX11_geese_53 ?_
      refine wa_iadd (pc := 54) cx dX11_geese_54 ?_
      refine wa_istore_n (pc := 55) cx 2 [none, some (.int v1), some (.int (v2 + (jshr v1 v3 &&& 1))), some (.int v3)] dX11_geese_55 rfl (by decide) rfl rfl ?_
      refine wa_iinc (pc := 56) (v := 1) cx 3 [none, some (.int v1), some (.int (v2 + (jshr v1 v3 &&& 1))), some (.int (v3 + 1))] dX11_geese_56 (by decide) rfl (by decide) rfl rfl ?_
      refine wa_goto (pc := 59) cx 42 dX11_geese_59 rfl ?_
      obtain rfl := Option.some.inj hf
      refine wa_forget [false, true, true, true] [none, some (.int v1), some (.int (v2 + (jshr v1 v3 &&& 1))), some (.int (v3 + 1))] rfl ?_
      exact hk1
  have l64 : ∀ (v2 : Int32) (σ : Sg) (y : Int32) (o : Int32), lpO (fun w => fX11_geese_B64 v2 w σ) FUEL y = some o → (WA p l e (rmd 1) s m args below meth c 4 E 0 0 (MQ below (Qcq E s.heap.size (some (.int q.1)) q.2) args s 0 0 (AE E s.heap.size)) 77 [none, none, none, some (.int o)] [] σ) → WA p l e (rmd 1) s m args below meth c 4 E 0 0 (MQ below (Qcq E s.heap.size (some (.int q.1)) q.2) args s 0 0 (AE E s.heap.size)) 64 [none, none, some (.int v2), some (.int y)] [] σ := by
    intro v2 σ y o hf hk
    refine lp_rule (P := fun y => WA p l e (rmd 1) s m args below meth c 4 E 0 0 (MQ below (Qcq E s.heap.size (some (.int q.1)) q.2) args s 0 0 (AE E s.heap.size)) 64 [none, none, some (.int v2), some (.int y)] [] σ) (K := fun o => WA p l e (rmd 1) s m args below meth c 4 E 0 0 (MQ below (Qcq E s.heap.size (some (.int q.1)) q.2) args s 0 0 (AE E s.heap.size)) 77 [none, none, none, some (.int o)] [] σ) ?_ FUEL y o hf hk
    intro v3 r1 hf hk1
    have hf : fX11_geese_B64 v2 v3 σ = some r1 := hf
    unfold fX11_geese_B64 at hf
    refine wa_iconst (pc := 64) (v := 1) cx dX11_geese_64 (by decide) ?_
    refine wa_iload_n (pc := 65) cx 3 dX11_geese_65 rfl rfl ?_
    refine wa_ishl (pc := 66) cx dX11_geese_66 ?_
    refine wa_iload_n (pc := 67) cx 2 dX11_geese_67 rfl rfl ?_
    refine wa_icmp_ge (pc := 68) cx 77 dX11_geese_68 rfl (fun c8 => ?_) (fun c8 => ?_)
    · have hf := (if_pos c8).symm.trans hf
      obtain rfl := Option.some.inj hf
      refine wa_forget [false, false, false, true] [none, none, none, some (.int v3)] rfl ?_
      exact hk1
    · have hf := (if_neg c8).symm.trans hf
      refine wa_iinc (pc := 71) (v := 1) cx 3 [none, none, some (.int v2), some (.int (v3 + 1))] dX11_geese_71 (by decide) rfl (by decide) rfl rfl ?_
      refine wa_goto (pc := 74) cx 64 dX11_geese_74 rfl ?_
      obtain rfl := Option.some.inj hf
      refine wa_forget [false, false, true, true] [none, none, some (.int v2), some (.int (v3 + 1))] rfl ?_
      exact hk1
  refine wa_aload_n (pc := 0) cx 0 dX11_geese_0 rfl rfl ?_
  refine wa_iconst (pc := 1) (v := 0) cx dX11_geese_1 (by decide) ?_
  refine wa_putI (pc := 2) cx fp_X11_50 lk_38 rfl (cx.bl 38 rfl) dX11_geese_2 ?_
  refine wa_aload_n (pc := 5) cx 0 dX11_geese_5 rfl rfl ?_
  refine wa_getI (pc := 6) cx fl_X11_177 lk_38 rfl (cx.bl 38 rfl) dX11_geese_6 ?_
  refine wa_if_ne (pc := 9) cx 15 dX11_geese_9 rfl (fun c1 => ?_) (fun c1 => ?_)
  · have hf := (if_neg c1).symm.trans hf
    refine wa_iload_n (pc := 15) cx 1 dX11_geese_15 rfl rfl ?_
    refine wa_i2l (pc := 16) cx dX11_geese_16 ?_
    refine wa_lconst (pc := 17) (v := 1) cx dX11_geese_17 (by decide) ?_
    refine wa_iconst (pc := 18) (v := 1) cx dX11_geese_18 (by decide) ?_
    refine wa_aload_n (pc := 19) cx 0 dX11_geese_19 rfl rfl ?_
    refine wa_getR (pc := 20) cx fl_X11_19 lk_38 rfl (cx.bl 38 rfl) dX11_geese_20 ?_
    refine wa_iconst (pc := 23) (v := 3) cx dX11_geese_23 (by decide) ?_
    obtain ⟨g2, hf⟩ := gd_some hf
    refine wa_iald (pc := 24) cx lk_42 (cx.bl 42 rfl) g2 dX11_geese_24 ?_
    refine wa_ishl (pc := 25) cx dX11_geese_25 ?_
    refine wa_iconst (pc := 26) (v := 1) cx dX11_geese_26 (by decide) ?_
    refine wa_isub (pc := 27) cx dX11_geese_27 ?_
    refine wa_i2l (pc := 28) cx dX11_geese_28 ?_
    obtain ⟨q3, h4, hf⟩ := bd_some hf
    refine wa_callSi (pc := 29) cx [.long ((a1).toInt64), .long 1, .long (((jshl 1 (ga (sup σ 38 0 0) 42 3) - 1)).toInt64)] (ct_X11_in l E _ _ _ _ _ h4) ms_X11_in tw_952 rfl rfl (Nat.le_of_ble_eq_true rfl) ⟨Nat.le_of_ble_eq_true rfl, Nat.le_of_ble_eq_true rfl⟩ ⟨Nat.zero_le _, Nat.zero_le _⟩ dX11_geese_29 ?_
    refine wa_if_ne (pc := 32) cx 38 dX11_geese_32 rfl (fun c5 => ?_) (fun c5 => ?_)
    · have hf := (if_neg c5).symm.trans hf
      refine wa_iconst (pc := 38) (v := 0) cx dX11_geese_38 (by decide) ?_
      refine wa_istore_n (pc := 39) cx 2 [some (.ref (eA E 38)), some (.int a1), some (.int 0), none] dX11_geese_39 rfl (by decide) rfl rfl ?_
      refine wa_iconst (pc := 40) (v := 0) cx dX11_geese_40 (by decide) ?_
      refine wa_istore_n (pc := 41) cx 3 [some (.ref (eA E 38)), some (.int a1), some (.int 0), some (.int 0)] dX11_geese_41 rfl (by decide) rfl rfl ?_
      refine wa_forget [false, true, true, true] [none, some (.int a1), some (.int 0), some (.int 0)] rfl ?_
      obtain ⟨o7, h11, hf⟩ := bd_some hf
      refine l42 _ _ _ _ h11 ?_
      refine wa_iconst (pc := 62) (v := 0) cx dX11_geese_62 (by decide) ?_
      refine wa_istore_n (pc := 63) cx 3 [none, none, some (.int o7), some (.int 0)] dX11_geese_63 rfl (by decide) rfl rfl ?_
      obtain ⟨o9, h10, hf⟩ := bd_some hf
      refine l64 _ _ _ _ h10 ?_
      refine wa_iload_n (pc := 77) cx 3 dX11_geese_77 rfl rfl ?_
      obtain rfl := Option.some.inj hf
      exact wa_iret (pc := 78) cx dX11_geese_78
    · have hf := (if_pos c5).symm.trans hf
      refine wa_ldc (pc := 35) (v := (-1000001)) cx dX11_geese_35 tw_956 ?_
      obtain rfl := Option.some.inj hf
      exact wa_iret (pc := 37) cx dX11_geese_37
  · have hf := (if_pos c1).symm.trans hf
    refine wa_ldc (pc := 12) (v := (-1000002)) cx dX11_geese_12 tw_1081 ?_
    obtain rfl := Option.some.inj hf
    exact wa_iret (pc := 14) cx dX11_geese_14
def fX11_isSpeaker (a1 : Int32) (σ : Sg) : Option (Int32) :=
  gd (inb 2 77) (
  (fX11_in ((a1).toInt64) 0 (((ga σ 42 2 - 1)).toInt64) σ).bind (fun q2 =>
  gd (isz q2) (
  some q2)))
set_option maxHeartbeats 4000000 in
set_option maxRecDepth 100000 in
theorem ct_X11_isSpeaker (l : Launch) (E : En) (σ : Sg) (a1 : Int32) (q : Int32) (hf : fX11_isSpeaker a1 σ = some q) : CT l yX11_isSpeaker cX11_isSpeaker 2 (some .boolean) 1 E σ [.ref (eA E 38), .int a1] (some (.int q)) σ := by
  refine CT.of RX11 [some (.ref (eA E 38)), some (.int a1)] rfl (by decide +kernel) (Nat.le_of_ble_eq_true rfl) rfl ?_
  intro p e s m args below meth c cx
  unfold fX11_isSpeaker at hf
  refine wa_iload_n (pc := 0) cx 1 dX11_isSpeaker_0 rfl rfl ?_
  refine wa_i2l (pc := 1) cx dX11_isSpeaker_1 ?_
  refine wa_lconst (pc := 2) (v := 0) cx dX11_isSpeaker_2 (by decide) ?_
  refine wa_aload_n (pc := 3) cx 0 dX11_isSpeaker_3 rfl rfl ?_
  refine wa_getR (pc := 4) cx fl_X11_19 lk_38 rfl (cx.bl 38 rfl) dX11_isSpeaker_4 ?_
  refine wa_iconst (pc := 7) (v := 2) cx dX11_isSpeaker_7 (by decide) ?_
  obtain ⟨g1, hf⟩ := gd_some hf
  refine wa_iald (pc := 8) cx lk_42 (cx.bl 42 rfl) g1 dX11_isSpeaker_8 ?_
  refine wa_iconst (pc := 9) (v := 1) cx dX11_isSpeaker_9 (by decide) ?_
  refine wa_isub (pc := 10) cx dX11_isSpeaker_10 ?_
  refine wa_i2l (pc := 11) cx dX11_isSpeaker_11 ?_
  obtain ⟨q2, h3, hf⟩ := bd_some hf
  refine wa_callSi (pc := 12) cx [.long ((a1).toInt64), .long 0, .long (((ga σ 42 2 - 1)).toInt64)] (ct_X11_in l E _ _ _ _ _ h3) ms_X11_in tw_952 rfl rfl (Nat.le_of_ble_eq_true rfl) ⟨Nat.le_of_ble_eq_true rfl, Nat.le_of_ble_eq_true rfl⟩ ⟨Nat.zero_le _, Nat.zero_le _⟩ dX11_isSpeaker_12 ?_
  obtain ⟨g4, hf⟩ := gd_some hf
  obtain rfl := Option.some.inj hf
  exact wa_zret (pc := 15) cx g4 dX11_isSpeaker_15
def fX11_fathoms_J61 (v1 : Int32) (v3 : Int32) (t1 : Int32) (t0 : Int32) (σ : Sg) : Option ((Int32 × Int32) ⊕ (Int32)) :=
  some (.inl ((t0 + t1), (v3 + 1)))
def fX11_fathoms_J60 (v1 : Int32) (v3 : Int32) (t0 : Int32) (σ : Sg) : Option ((Int32 × Int32) ⊕ (Int32)) :=
  fX11_fathoms_J61 v1 v3 0 t0 σ
def fX11_fathoms_B20 (v1 : Int32) (v2 : Int32) (v3 : Int32) (σ : Sg) : Option ((Int32 × Int32) ⊕ (Int32)) :=
  gd (inb 3 77) (
  if ga σ 42 3 ≤ v3 then (some (.inr v2)) else ((fX11_of v3 1 σ).bind (fun q6 =>
  if q6 = v1 then ((fX11_of v3 4 σ).bind (fun q9 =>
  if q9 = 1 then ((fX11_of v3 2 σ).bind (fun q12 =>
  fX11_fathoms_J61 v1 v3 q12 v2 σ)) else (fX11_fathoms_J60 v1 v3 v2 σ))) else (fX11_fathoms_J60 v1 v3 v2 σ))))
def fX11_fathoms (a1 : Int32) (σ : Sg) : Option (Int32 × Sg) :=
  (fX11_isSpeaker a1 (sup σ 38 0 0)).bind (fun q1 =>
  if q1 = 0 then (some ((-1000001), sup σ 38 0 0)) else ((lpO (fun w => fX11_fathoms_B20 a1 w.1 w.2 (sup σ 38 0 0)) FUEL (0, 0)).bind (fun o14 =>
  some (o14, sup σ 38 0 0))))
set_option maxHeartbeats 4000000 in
set_option maxRecDepth 100000 in
theorem ct_X11_fathoms (l : Launch) (E : En) (σ : Sg) (a1 : Int32) (q : Int32 × Sg) (hf : fX11_fathoms a1 σ = some q) : CT l yX11_fathoms cX11_fathoms 4 (some .int) 2 E σ [.ref (eA E 38), .int a1] (some (.int q.1)) q.2 := by
  refine CT.of RX11 [some (.ref (eA E 38)), some (.int a1), none, none] rfl (by decide +kernel) (Nat.le_of_ble_eq_true rfl) rfl ?_
  intro p e s m args below meth c cx
  unfold fX11_fathoms at hf
  have l20 : ∀ (v1 : Int32) (σ : Sg) (y : Int32 × Int32) (o : Int32), lpO (fun w => fX11_fathoms_B20 v1 w.1 w.2 σ) FUEL y = some o → (WA p l e (rmd 2) s m args below meth c 4 E 0 0 (MQ below (Qcq E s.heap.size (some (.int q.1)) q.2) args s 0 0 (AE E s.heap.size)) 69 [none, none, some (.int o), none] [] σ) → WA p l e (rmd 2) s m args below meth c 4 E 0 0 (MQ below (Qcq E s.heap.size (some (.int q.1)) q.2) args s 0 0 (AE E s.heap.size)) 20 [some (.ref (eA E 38)), some (.int v1), some (.int y.1), some (.int y.2)] [] σ := by
    intro v1 σ y o hf hk
    refine lp_rule (P := fun y => WA p l e (rmd 2) s m args below meth c 4 E 0 0 (MQ below (Qcq E s.heap.size (some (.int q.1)) q.2) args s 0 0 (AE E s.heap.size)) 20 [some (.ref (eA E 38)), some (.int v1), some (.int y.1), some (.int y.2)] [] σ) (K := fun o => WA p l e (rmd 2) s m args below meth c 4 E 0 0 (MQ below (Qcq E s.heap.size (some (.int q.1)) q.2) args s 0 0 (AE E s.heap.size)) 69 [none, none, some (.int o), none] [] σ) ?_ FUEL y o hf hk
    have j61 : ∀ (v1 : Int32) (v3 : Int32) (t1 : Int32) (t0 : Int32) (σ : Sg) (r1 : (Int32 × Int32) ⊕ (Int32)), fX11_fathoms_J61 v1 v3 t1 t0 σ = some r1 → (sel (fun y1 => WA p l e (rmd 2) s m args below meth c 4 E 0 0 (MQ below (Qcq E s.heap.size (some (.int q.1)) q.2) args s 0 0 (AE E s.heap.size)) 20 [some (.ref (eA E 38)), some (.int v1), some (.int y1.1), some (.int y1.2)] [] σ) (fun y1 => WA p l e (rmd 2) s m args below meth c 4 E 0 0 (MQ below (Qcq E s.heap.size (some (.int q.1)) q.2) args s 0 0 (AE E s.heap.size)) 69 [none, none, some (.int y1), none] [] σ) r1) → WA p l e (rmd 2) s m args below meth c 4 E 0 0 (MQ below (Qcq E s.heap.size (some (.int q.1)) q.2) args s 0 0 (AE E s.heap.size)) 61 [some (.ref (eA E 38)), some (.int v1), none, some (.int v3)] [.int t1, .int t0] σ := by
      intro v1 v3 t1 t0 σ r1 hf hk1
      unfold fX11_fathoms_J61 at hf
      refine wa_iadd (pc := 61) cx dX11_fathoms_61 ?_
      refine wa_istore_n (pc := 62) cx 2 [some (.ref (eA E 38)), some (.int v1), some (.int (t0 + t1)), some (.int v3)] dX11_fathoms_62 rfl (by decide) rfl rfl ?_
      refine wa_iinc (pc := 63) (v := 1) cx 3 [some (.ref (eA E 38)), some (.int v1), some (.int (t0 + t1)), some (.int (v3 + 1))] dX11_fathoms_63 (by decide) rfl (by decide) rfl rfl ?_
      refine wa_goto (pc := 66) cx 20 dX11_fathoms_66 rfl ?_
      obtain rfl := Option.some.inj hf
      refine wa_forget [true, true, true, true] [some (.ref (eA E 38)), some (.int v1), some (.int (t0 + t1)), some (.int (v3 + 1))] rfl ?_
      exact hk1
    have j60 : ∀ (v1 : Int32) (v3 : Int32) (t0 : Int32) (σ : Sg) (r1 : (Int32 × Int32) ⊕ (Int32)), fX11_fathoms_J60 v1 v3 t0 σ = some r1 → (sel (fun y1 => WA p l e (rmd 2) s m args below meth c 4 E 0 0 (MQ below (Qcq E s.heap.size (some (.int q.1)) q.2) args s 0 0 (AE E s.heap.size)) 20 [some (.ref (eA E 38)), some (.int v1), some (.int y1.1), some (.int y1.2)] [] σ) (fun y1 => WA p l e (rmd 2) s m args below meth c 4 E 0 0 (MQ below (Qcq E s.heap.size (some (.int q.1)) q.2) args s 0 0 (AE E s.heap.size)) 69 [none, none, some (.int y1), none] [] σ) r1) → WA p l e (rmd 2) s m args below meth c 4 E 0 0 (MQ below (Qcq E s.heap.size (some (.int q.1)) q.2) args s 0 0 (AE E s.heap.size)) 60 [some (.ref (eA E 38)), some (.int v1), none, some (.int v3)] [.int t0] σ := by
      intro v1 v3 t0 σ r1 hf hk1
      unfold fX11_fathoms_J60 at hf
      refine wa_iconst (pc := 60) (v := 0) cx dX11_fathoms_60 (by decide) ?_
      exact j61 _ _ _ _ _ _ hf hk1
    intro y0 r1 hf hk1
    obtain ⟨v2, v3⟩ := y0
    have hf : fX11_fathoms_B20 v1 v2 v3 σ = some r1 := hf
    unfold fX11_fathoms_B20 at hf
    refine wa_iload_n (pc := 20) cx 3 dX11_fathoms_20 rfl rfl ?_
    refine wa_aload_n (pc := 21) cx 0 dX11_fathoms_21 rfl rfl ?_
    refine wa_getR (pc := 22) cx fl_X11_19 lk_38 rfl (cx.bl 38 rfl) dX11_fathoms_22 ?_
    refine wa_iconst (pc := 25) (v := 3) cx dX11_fathoms_25 (by decide) ?_
    obtain ⟨g4, hf⟩ := gd_some hf
    refine wa_iald (pc := 26) cx lk_42 (cx.bl 42 rfl) g4 dX11_fathoms_26 ?_
    refine wa_icmp_ge (pc := 27) cx 69 dX11_fathoms_27 rfl (fun c5 => ?_) (fun c5 => ?_)
    · have hf := (if_pos c5).symm.trans hf
      obtain rfl := Option.some.inj hf
      refine wa_forget [false, false, true, false] [none, none, some (.int v2), none] rfl ?_
      exact hk1
    · have hf := (if_neg c5).symm.trans hf
      refine wa_iload_n (pc := 30) cx 2 dX11_fathoms_30 rfl rfl ?_
      refine wa_aload_n (pc := 31) cx 0 dX11_fathoms_31 rfl rfl ?_
      refine wa_iload_n (pc := 32) cx 3 dX11_fathoms_32 rfl rfl ?_
      refine wa_iconst (pc := 33) (v := 1) cx dX11_fathoms_33 (by decide) ?_
      obtain ⟨q6, h7, hf⟩ := bd_some hf
      refine wa_callVi (pc := 34) cx [.int v3, .int 1] (ct_X11_of l E _ _ _ _ h7) mi_X11_of tw_1069 lk_38 rfl (cx.bl 38 rfl) rfl rfl (Nat.le_of_ble_eq_true rfl) ⟨Nat.le_of_ble_eq_true rfl, Nat.le_of_ble_eq_true rfl⟩ ⟨Nat.zero_le _, Nat.zero_le _⟩ dX11_fathoms_34 ?_
      refine wa_iload_n (pc := 37) cx 1 dX11_fathoms_37 rfl rfl ?_
      refine wa_icmp_ne (pc := 38) cx 60 dX11_fathoms_38 rfl (fun c8 => ?_) (fun c8 => ?_)
      · have hf := (if_neg c8).symm.trans hf
        refine wa_forget [true, true, false, true] [some (.ref (eA E 38)), some (.int v1), none, some (.int v3)] rfl ?_
        exact j60 _ _ _ _ _ hf hk1
      · have hf := (if_pos c8).symm.trans hf
        refine wa_aload_n (pc := 41) cx 0 dX11_fathoms_41 rfl rfl ?_
        refine wa_iload_n (pc := 42) cx 3 dX11_fathoms_42 rfl rfl ?_
        refine wa_iconst (pc := 43) (v := 4) cx dX11_fathoms_43 (by decide) ?_
        obtain ⟨q9, h10, hf⟩ := bd_some hf
        refine wa_callVi (pc := 44) cx [.int v3, .int 4] (ct_X11_of l E _ _ _ _ h10) mi_X11_of tw_1069 lk_38 rfl (cx.bl 38 rfl) rfl rfl (Nat.le_of_ble_eq_true rfl) ⟨Nat.le_of_ble_eq_true rfl, Nat.le_of_ble_eq_true rfl⟩ ⟨Nat.zero_le _, Nat.zero_le _⟩ dX11_fathoms_44 ?_
        refine wa_iconst (pc := 47) (v := 1) cx dX11_fathoms_47 (by decide) ?_
        refine wa_icmp_ne (pc := 48) cx 60 dX11_fathoms_48 rfl (fun c11 => ?_) (fun c11 => ?_)
        · have hf := (if_neg c11).symm.trans hf
          refine wa_forget [true, true, false, true] [some (.ref (eA E 38)), some (.int v1), none, some (.int v3)] rfl ?_
          exact j60 _ _ _ _ _ hf hk1
        · have hf := (if_pos c11).symm.trans hf
          refine wa_aload_n (pc := 51) cx 0 dX11_fathoms_51 rfl rfl ?_
          refine wa_iload_n (pc := 52) cx 3 dX11_fathoms_52 rfl rfl ?_
          refine wa_iconst (pc := 53) (v := 2) cx dX11_fathoms_53 (by decide) ?_
          obtain ⟨q12, h13, hf⟩ := bd_some hf
          refine wa_callVi (pc := 54) cx [.int v3, .int 2] (ct_X11_of l E _ _ _ _ h13) mi_X11_of tw_1069 lk_38 rfl (cx.bl 38 rfl) rfl rfl (Nat.le_of_ble_eq_true rfl) ⟨Nat.le_of_ble_eq_true rfl, Nat.le_of_ble_eq_true rfl⟩ ⟨Nat.zero_le _, Nat.zero_le _⟩ dX11_fathoms_54 ?_
          refine wa_goto (pc := 57) cx 61 dX11_fathoms_57 rfl ?_
          refine wa_forget [true, true, false, true] [some (.ref (eA E 38)), some (.int v1), none, some (.int v3)] rfl ?_
          exact j61 _ _ _ _ _ _ hf hk1
  refine wa_aload_n (pc := 0) cx 0 dX11_fathoms_0 rfl rfl ?_
  refine wa_iconst (pc := 1) (v := 0) cx dX11_fathoms_1 (by decide) ?_
  refine wa_putI (pc := 2) cx fp_X11_50 lk_38 rfl (cx.bl 38 rfl) dX11_fathoms_2 ?_
  refine wa_aload_n (pc := 5) cx 0 dX11_fathoms_5 rfl rfl ?_
  refine wa_iload_n (pc := 6) cx 1 dX11_fathoms_6 rfl rfl ?_
  obtain ⟨q1, h2, hf⟩ := bd_some hf
  refine wa_callVi (pc := 7) cx [.int a1] (ct_X11_isSpeaker l E _ _ _ h2) mi_X11_isSpeaker tw_1211 lk_38 rfl (cx.bl 38 rfl) rfl rfl (Nat.le_of_ble_eq_true rfl) ⟨Nat.le_of_ble_eq_true rfl, Nat.le_of_ble_eq_true rfl⟩ ⟨Nat.zero_le _, Nat.zero_le _⟩ dX11_fathoms_7 ?_
  refine wa_if_ne (pc := 10) cx 16 dX11_fathoms_10 rfl (fun c3 => ?_) (fun c3 => ?_)
  · have hf := (if_neg c3).symm.trans hf
    refine wa_iconst (pc := 16) (v := 0) cx dX11_fathoms_16 (by decide) ?_
    refine wa_istore_n (pc := 17) cx 2 [some (.ref (eA E 38)), some (.int a1), some (.int 0), none] dX11_fathoms_17 rfl (by decide) rfl rfl ?_
    refine wa_iconst (pc := 18) (v := 0) cx dX11_fathoms_18 (by decide) ?_
    refine wa_istore_n (pc := 19) cx 3 [some (.ref (eA E 38)), some (.int a1), some (.int 0), some (.int 0)] dX11_fathoms_19 rfl (by decide) rfl rfl ?_
    obtain ⟨o14, h15, hf⟩ := bd_some hf
    refine l20 _ _ _ _ h15 ?_
    refine wa_iload_n (pc := 69) cx 2 dX11_fathoms_69 rfl rfl ?_
    obtain rfl := Option.some.inj hf
    exact wa_iret (pc := 70) cx dX11_fathoms_70
  · have hf := (if_pos c3).symm.trans hf
    refine wa_ldc (pc := 13) (v := (-1000001)) cx dX11_fathoms_13 tw_956 ?_
    obtain rfl := Option.some.inj hf
    exact wa_iret (pc := 15) cx dX11_fathoms_15
