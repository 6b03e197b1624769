def fX3_fillBest_J73 (v1 : Int32) (v2 : Int32) (v3 : Int32) (v4 : Int32) (v5 : Int32) (σ : Sg) : Option ((Int32 × Int32) ⊕ (Int32)) :=
  some (.inl (v4, (v5 + 1)))
def fX3_fillBest_J64 (v1 : Int32) (v2 : Int32) (v3 : Int32) (v4 : Int32) (v5 : Int32) (v6 : Int32) (σ : Sg) : Option ((Int32 × Int32) ⊕ (Int32)) :=
  fX3_fillBest_J73 v1 v2 v3 (jmax v4 v6) v5 σ
def fX3_fillBest_B6 (v1 : Int32) (v2 : Int32) (v3 : Int32) (v4 : Int32) (v5 : Int32) (σ : Sg) : Option ((Int32 × Int32) ⊕ (Int32)) :=
  if v2 ≤ v5 then (some (.inr v4)) else (if (jshr v1 v5 &&& 1) = 0 then (fX3_fillBest_J73 v1 v2 v3 v4 v5 σ) else (gd (inb (v1 ^^^ jshl 1 v5) 512) (
  gd (inb v5 9) (
  if irm (ga σ 33 (v1 ^^^ jshl 1 v5) + ga σ 32 v5) 65536 < v3 then (fX3_fillBest_J64 v1 v2 v3 v4 v5 (ga σ 33 (v1 ^^^ jshl 1 v5) + ga σ 32 v5) σ) else (fX3_fillBest_J64 v1 v2 v3 v4 v5 (((ga σ 33 (v1 ^^^ jshl 1 v5) + ga σ 32 v5) - irm (ga σ 33 (v1 ^^^ jshl 1 v5) + ga σ 32 v5) 65536) + 65536) σ)))))
def fX3_fillBest (a1 : Int32) (a2 : Int32) (a3 : Int32) (σ : Sg) : Option (Int32) :=
  (lpO (fun w => fX3_fillBest_B6 a1 a2 a3 w.1 w.2 σ) FUEL (0, 0)).bind (fun o6 =>
  some o6)
set_option maxHeartbeats 4000000 in
set_option maxRecDepth 100000 in
theorem ct_X3_fillBest (l : Launch) (E : En) (σ : Sg) (a1 : Int32) (a2 : Int32) (a3 : Int32) (q : Int32) (hf : fX3_fillBest a1 a2 a3 σ = some q) : CT l yX3_fillBest cX3_fillBest 7 (some .int) 1 E σ [.ref (eA E 31), .int a1, .int a2, .int a3] (some (.int q)) σ := by
  refine CT.of RX3 [some (.ref (eA E 31)), some (.int a1), some (.int a2), some (.int a3), none, none, none] rfl (by decide +kernel) (Nat.le_of_ble_eq_true rfl) rfl ?_
  intro p e s m args below meth c cx
  unfold fX3_fillBest at hf
  have l6 : ∀ (v1 : Int32) (v2 : Int32) (v3 : Int32) (σ : Sg) (y : Int32 × Int32) (o : Int32), lpO (fun w => fX3_fillBest_B6 v1 v2 v3 w.1 w.2 σ) FUEL y = some o → (WA p l e (rmd 1) s m args below meth c 7 E 0 0 (MQ below (Qcq E s.heap.size (some (.int q)) σ) args s 0 0 (AE E s.heap.size)) 79 [none, none, none, none, some (.int o), none, none] [] σ) → WA p l e (rmd 1) s m args below meth c 7 E 0 0 (MQ below (Qcq E s.heap.size (some (.int q)) σ) args s 0 0 (AE E s.heap.size)) 6 [some (.ref (eA E 31)), some (.int v1), some (.int v2), some (.int v3), some (.int y.1), some (.int y.2), none] [] σ := by
    intro v1 v2 v3 σ y o hf hk
    refine lp_rule (P := fun y => WA p l e (rmd 1) s m args below meth c 7 E 0 0 (MQ below (Qcq E s.heap.size (some (.int q)) σ) args s 0 0 (AE E s.heap.size)) 6 [some (.ref (eA E 31)), some (.int v1), some (.int v2), some (.int v3), some (.int y.1), some (.int y.2), none] [] σ) (K := fun o => WA p l e (rmd 1) s m args below meth c 7 E 0 0 (MQ below (Qcq E s.heap.size (some (.int q)) σ) args s 0 0 (AE E s.heap.size)) 79 [none, none, none, none, some (.int o), none, none] [] σ) ?_ FUEL y o hf hk
    have j73 : ∀ (v1 : Int32) (v2 : Int32) (v3 : Int32) (v4 : Int32) (v5 : Int32) (σ : Sg) (r1 : (Int32 × Int32) ⊕ (Int32)), fX3_fillBest_J73 v1 v2 v3 v4 v5 σ = some r1 → (sel (fun y1 => WA p l e (rmd 1) s m args below meth c 7 E 0 0 (MQ below (Qcq E s.heap.size (some (.int q)) σ) args s 0 0 (AE E s.heap.size)) 6 [some (.ref (eA E 31)), some (.int v1), some (.int v2), some (.int v3), some (.int y1.1), some (.int y1.2), none] [] σ) (fun y1 => WA p l e (rmd 1) s m args below meth c 7 E 0 0 (MQ below (Qcq E s.heap.size (some (.int q)) σ) args s 0 0 (AE E s.heap.size)) 79 [none, none, none, none, some (.int y1), none, none] [] σ) r1) → WA p l e (rmd 1) s m args below meth c 7 E 0 0 (MQ below (Qcq E s.heap.size (some (.int q)) σ) args s 0 0 (AE E s.heap.size)) 73 [some (.ref (eA E 31)), some (.int v1), some (.int v2), some (.int v3), some (.int v4), some (.int v5), none] [] σ := by
      intro v1 v2 v3 v4 v5 σ r1 hf hk1
      unfold fX3_fillBest_J73 at hf
      refine wa_iinc (pc := 73) (v := 1) cx 5 [some (.ref (eA E 31)), some (.int v1), some (.int v2), some (.int v3), some (.int v4), some (.int (v5 + 1)), none] dX3_fillBest_73 (by decide) rfl (by decide) rfl rfl ?_
      refine wa_goto (pc := 76) cx 6 dX3_fillBest_76 rfl ?_
      obtain rfl := Option.some.inj hf
      refine wa_forget [true, true, true, true, true, true, false] [some (.ref (eA E 31)), some (.int v1), some (.int v2), some (.int v3), some (.int v4), some (.int (v5 + 1)), none] rfl ?_
      exact hk1
    have j64 : ∀ (v1 : Int32) (v2 : Int32) (v3 : Int32) (v4 : Int32) (v5 : Int32) (v6 : Int32) (σ : Sg) (r1 : (Int32 × Int32) ⊕ (Int32)), fX3_fillBest_J64 v1 v2 v3 v4 v5 v6 σ = some r1 → (sel (fun y1 => WA p l e (rmd 1) s m args below meth c 7 E 0 0 (MQ below (Qcq E s.heap.size (some (.int q)) σ) args s 0 0 (AE E s.heap.size)) 6 [some (.ref (eA E 31)), some (.int v1), some (.int v2), some (.int v3), some (.int y1.1), some (.int y1.2), none] [] σ) (fun y1 => WA p l e (rmd 1) s m args below meth c 7 E 0 0 (MQ below (Qcq E s.heap.size (some (.int q)) σ) args s 0 0 (AE E s.heap.size)) 79 [none, none, none, none, some (.int y1), none, none] [] σ) r1) → WA p l e (rmd 1) s m args below meth c 7 E 0 0 (MQ below (Qcq E s.heap.size (some (.int q)) σ) args s 0 0 (AE E s.heap.size)) 64 [some (.ref (eA E 31)), some (.int v1), some (.int v2), some (.int v3), some (.int v4), some (.int v5), some (.int v6)] [] σ := by
      intro v1 v2 v3 v4 v5 v6 σ r1 hf hk1
      unfold fX3_fillBest_J64 at hf
      refine wa_iload (pc := 64) cx 4 dX3_fillBest_64 rfl ?_
      refine wa_iload (pc := 66) cx 6 dX3_fillBest_66 rfl ?_
      refine wa_mmax (pc := 68) cx tw_713 (Nat.le_of_ble_eq_true rfl) (Nat.le_of_ble_eq_true rfl) ⟨Nat.zero_le _, Nat.zero_le _⟩ dX3_fillBest_68 ?_
      refine wa_istore (pc := 71) cx 4 [some (.ref (eA E 31)), some (.int v1), some (.int v2), some (.int v3), some (.int (jmax v4 v6)), some (.int v5), some (.int v6)] dX3_fillBest_71 (by decide) rfl rfl ?_
      refine wa_forget [true, true, true, true, true, true, false] [some (.ref (eA E 31)), some (.int v1), some (.int v2), some (.int v3), some (.int (jmax v4 v6)), some (.int v5), none] rfl ?_
      exact j73 _ _ _ _ _ _ _ hf hk1
    intro y0 r1 hf hk1
    obtain ⟨v4, v5⟩ := y0
    have hf : fX3_fillBest_B6 v1 v2 v3 v4 v5 σ = some r1 := hf
    unfold fX3_fillBest_B6 at hf
    refine wa_iload (pc := 6) cx 5 dX3_fillBest_6 rfl ?_
    refine wa_iload_n (pc := 8) cx 2 dX3_fillBest_8 rfl rfl ?_
    refine wa_icmp_ge (pc := 9) cx 79 dX3_fillBest_9 rfl (fun c1 => ?_) (fun c1 => ?_)
    · have hf := (if_pos c1).symm.trans hf
      obtain rfl := Option.some.inj hf
      refine wa_forget [false, false, false, false, true, false, false] [none, none, none, none, some (.int v4), none, none] rfl ?_
      exact hk1
    · have hf := (if_neg c1).symm.trans hf
      refine wa_iload_n (pc := 12) cx 1 dX3_fillBest_12 rfl rfl ?_
      refine wa_iload (pc := 13) cx 5 dX3_fillBest_13 rfl ?_
      refine wa_ishr (pc := 15) cx dX3_fillBest_15 ?_
      refine wa_iconst (pc := 16) (v := 1) cx dX3_fillBest_16 (by decide) ?_
      refine wa_iand (pc := 17) cx dX3_fillBest_17 ?_
      refine wa_if_eq (pc := 18) cx 73 dX3_fillBest_18 rfl (fun c2 => ?_) (fun c2 => ?_)
      · have hf := (if_pos c2).symm.trans hf
        exact j73 _ _ _ _ _ _ _ hf hk1
      · have hf := (if_neg c2).symm.trans hf
        refine wa_aload_n (pc := 21) cx 0 dX3_fillBest_21 rfl rfl ?_
        refine wa_getR (pc := 22) cx fl_X3_15 lk_31 rfl (cx.bl 31 rfl) dX3_fillBest_22 ?_
        refine wa_iload_n (pc := 25) cx 1 dX3_fillBest_25 rfl rfl ?_
        refine wa_iconst (pc := 26) (v := 1) cx dX3_fillBest_26 (by decide) ?_
        refine wa_iload (pc := 27) cx 5 dX3_fillBest_27 rfl ?_
        refine wa_ishl (pc := 29) cx dX3_fillBest_29 ?_
        refine wa_ixor (pc := 30) cx dX3_fillBest_30 ?_
        obtain ⟨g3, hf⟩ := gd_some hf
        refine wa_iald (pc := 31) cx lk_33 (cx.bl 33 rfl) g3 dX3_fillBest_31 ?_
        refine wa_aload_n (pc := 32) cx 0 dX3_fillBest_32 rfl rfl ?_
        refine wa_getR (pc := 33) cx fl_X3_9 lk_31 rfl (cx.bl 31 rfl) dX3_fillBest_33 ?_
        refine wa_iload (pc := 36) cx 5 dX3_fillBest_36 rfl ?_
        obtain ⟨g4, hf⟩ := gd_some hf
        refine wa_iald (pc := 38) cx lk_32 (cx.bl 32 rfl) g4 dX3_fillBest_38 ?_
        refine wa_iadd (pc := 39) cx dX3_fillBest_39 ?_
        refine wa_istore (pc := 40) cx 6 [some (.ref (eA E 31)), some (.int v1), some (.int v2), some (.int v3), some (.int v4), some (.int v5), some (.int (ga σ 33 (v1 ^^^ jshl 1 v5) + ga σ 32 v5))] dX3_fillBest_40 (by decide) rfl rfl ?_
        refine wa_iload (pc := 42) cx 6 dX3_fillBest_42 rfl ?_
        refine wa_ldc (pc := 44) (v := 65536) cx dX3_fillBest_44 tw_712 ?_
        refine wa_irem (pc := 46) cx dX3_fillBest_46 (by decide) ?_
        refine wa_iload_n (pc := 47) cx 3 dX3_fillBest_47 rfl rfl ?_
        refine wa_icmp_lt (pc := 48) cx 64 dX3_fillBest_48 rfl (fun c5 => ?_) (fun c5 => ?_)
        · have hf := (if_pos c5).symm.trans hf
          exact j64 _ _ _ _ _ _ _ _ hf hk1
        · have hf := (if_neg c5).symm.trans hf
          refine wa_iload (pc := 51) cx 6 dX3_fillBest_51 rfl ?_
          refine wa_iload (pc := 53) cx 6 dX3_fillBest_53 rfl ?_
          refine wa_ldc (pc := 55) (v := 65536) cx dX3_fillBest_55 tw_712 ?_
          refine wa_irem (pc := 57) cx dX3_fillBest_57 (by decide) ?_
          refine wa_isub (pc := 58) cx dX3_fillBest_58 ?_
          refine wa_ldc (pc := 59) (v := 65536) cx dX3_fillBest_59 tw_712 ?_
          refine wa_iadd (pc := 61) cx dX3_fillBest_61 ?_
          refine wa_istore (pc := 62) cx 6 [some (.ref (eA E 31)), some (.int v1), some (.int v2), some (.int v3), some (.int v4), some (.int v5), some (.int (((ga σ 33 (v1 ^^^ jshl 1 v5) + ga σ 32 v5) - irm (ga σ 33 (v1 ^^^ jshl 1 v5) + ga σ 32 v5) 65536) + 65536))] dX3_fillBest_62 (by decide) rfl rfl ?_
          exact j64 _ _ _ _ _ _ _ _ hf hk1
  refine wa_iconst (pc := 0) (v := 0) cx dX3_fillBest_0 (by decide) ?_
  refine wa_istore (pc := 1) cx 4 [some (.ref (eA E 31)), some (.int a1), some (.int a2), some (.int a3), some (.int 0), none, none] dX3_fillBest_1 (by decide) rfl rfl ?_
  refine wa_iconst (pc := 3) (v := 0) cx dX3_fillBest_3 (by decide) ?_
  refine wa_istore (pc := 4) cx 5 [some (.ref (eA E 31)), some (.int a1), some (.int a2), some (.int a3), some (.int 0), some (.int 0), none] dX3_fillBest_4 (by decide) rfl rfl ?_
  obtain ⟨o6, h7, hf⟩ := bd_some hf
  refine l6 _ _ _ _ _ _ h7 ?_
  refine wa_iload (pc := 79) cx 4 dX3_fillBest_79 rfl ?_
  obtain rfl := Option.some.inj hf
  exact wa_iret (pc := 81) cx dX3_fillBest_81
def fX3_search_B17 (v3 : Int32) (v4 : Int32) (σ : Sg) : Option ((Int32 × Sg) ⊕ (Sg)) :=
  if gf σ 8 4 ≤ v4 then (some (.inr σ)) else ((fX9_strength v4 σ).bind (fun q3 =>
  gd (inb v4 9) (
  some (.inl ((v4 + 1), sa σ 32 v4 q3)))))
def fX3_search_J130 (v3 : Int32) (v4 : Int32) (v5 : Int32) (v6 : Int32) (σ : Sg) : Option ((Int32 × Int32 × Int32 × Sg) ⊕ (Int32 × Sg)) :=
  some (.inl (v4, v5, (v6 + 1), σ))
def fX3_search_J122 (v3 : Int32) (v6 : Int32) (v7 : Int32) (σ : Sg) : Option ((Int32 × Int32 × Int32 × Sg) ⊕ (Int32 × Sg)) :=
  fX3_search_J130 v3 v6 v7 v6 σ
def fX3_search_B61 (v3 : Int32) (v4 : Int32) (v5 : Int32) (v6 : Int32) (σ : Sg) : Option ((Int32 × Int32 × Int32 × Sg) ⊕ (Int32 × Sg)) :=
  if jshl 1 (gf σ 8 4) ≤ v6 then (some (.inr (v4, σ))) else ((fX3_fillBest v6 (gf σ 8 4) v3 σ).bind (fun q9 =>
  gd (inb v6 512) (
  gd (inb v6 512) (
  if ga (sa σ 33 v6 q9) 33 v6 < 196608 then (fX3_search_J130 v3 v4 v5 v6 (sa σ 33 v6 q9)) else ((fX9_priceOf v6 (sa σ 33 v6 q9)).bind (fun q14 =>
  if v4 < 0 then (fX3_search_J122 v3 v6 q14 (sa σ 33 v6 q9)) else (if v5 ≤ q14 then (fX3_search_J130 v3 v4 v5 v6 (sa σ 33 v6 q9)) else (fX3_search_J122 v3 v6 q14 (sa σ 33 v6 q9)))))))))
def fX3_search (a2 : Int32) (σ : Sg) : Option (Int32 × Sg) :=
  if (((a2 + 3) - 1) / 3) = 0 then (some (0, σ)) else ((lpO (fun w => fX3_search_B17 (((a2 + 3) - 1) / 3) w.1 w.2) FUEL (0, σ)).bind (fun o6 =>
  gd (inb 0 512) (
  (lpO (fun w => fX3_search_B61 (((a2 + 3) - 1) / 3) w.1 w.2.1 w.2.2.1 w.2.2.2) FUEL ((-1), 0, 1, sa o6 33 0 0)).bind (fun o18 =>
  some (o18.1, o18.2)))))
set_option maxHeartbeats 4000000 in
set_option maxRecDepth 100000 in
theorem ct_X3_search (l : Launch) (E : En) (σ : Sg) (a2 : Int32) (q : Int32 × Sg) (hf : fX3_search a2 σ = some q) : CT l yX3_search cX3_search 8 (some .int) 3 E σ [.ref (eA E 31), .ref (eA E 8), .int a2] (some (.int q.1)) q.2 := by
  refine CT.of RX3 [some (.ref (eA E 31)), some (.ref (eA E 8)), some (.int a2), none, none, none, none, none] rfl (by decide +kernel) (Nat.le_of_ble_eq_true rfl) rfl ?_
  intro p e s m args below meth c cx
  unfold fX3_search at hf
  have l17 : ∀ (v3 : Int32) (y : Int32 × Sg) (o : Sg), lpO (fun w => fX3_search_B17 v3 w.1 w.2) FUEL y = some o → (WA p l e (rmd 3) s m args below meth c 8 E 0 0 (MQ below (Qcq E s.heap.size (some (.int q.1)) q.2) args s 0 0 (AE E s.heap.size)) 45 [some (.ref (eA E 31)), some (.ref (eA E 8)), none, some (.int v3), none, none, none, none] [] o) → WA p l e (rmd 3) s m args below meth c 8 E 0 0 (MQ below (Qcq E s.heap.size (some (.int q.1)) q.2) args s 0 0 (AE E s.heap.size)) 17 [some (.ref (eA E 31)), some (.ref (eA E 8)), none, some (.int v3), some (.int y.1), none, none, none] [] y.2 := by
    intro v3 y o hf hk
    refine lp_rule (P := fun y => WA p l e (rmd 3) s m args below meth c 8 E 0 0 (MQ below (Qcq E s.heap.size (some (.int q.1)) q.2) args s 0 0 (AE E s.heap.size)) 17 [some (.ref (eA E 31)), some (.ref (eA E 8)), none, some (.int v3), some (.int y.1), none, none, none] [] y.2) (K := fun o => WA p l e (rmd 3) s m args below meth c 8 E 0 0 (MQ below (Qcq E s.heap.size (some (.int q.1)) q.2) args s 0 0 (AE E s.heap.size)) 45 [some (.ref (eA E 31)), some (.ref (eA E 8)), none, some (.int v3), none, none, none, none] [] o) ?_ FUEL y o hf hk
    intro y0 r1 hf hk1
    obtain ⟨v4, σ⟩ := y0
    have hf : fX3_search_B17 v3 v4 σ = some r1 := hf
    unfold fX3_search_B17 at hf
    refine wa_iload (pc := 17) cx 4 dX3_search_17 rfl ?_
    refine wa_aload_n (pc := 19) cx 1 dX3_search_19 rfl rfl ?_
    refine wa_getI (pc := 20) cx fl_X3_18 lk_8 rfl (cx.bl 8 rfl) dX3_search_20 ?_
    refine wa_icmp_ge (pc := 23) cx 45 dX3_search_23 rfl (fun c2 => ?_) (fun c2 => ?_)
    · have hf := (if_pos c2).symm.trans hf
      obtain rfl := Option.some.inj hf
      refine wa_forget [true, true, false, true, false, false, false, false] [some (.ref (eA E 31)), some (.ref (eA E 8)), none, some (.int v3), none, none, none, none] rfl ?_
      exact hk1
    · have hf := (if_neg c2).symm.trans hf
      refine wa_aload_n (pc := 26) cx 0 dX3_search_26 rfl rfl ?_
      refine wa_getR (pc := 27) cx fl_X3_9 lk_31 rfl (cx.bl 31 rfl) dX3_search_27 ?_
      refine wa_iload (pc := 30) cx 4 dX3_search_30 rfl ?_
      refine wa_aload_n (pc := 32) cx 1 dX3_search_32 rfl rfl ?_
      refine wa_iload (pc := 33) cx 4 dX3_search_33 rfl ?_
      obtain ⟨q3, h4, hf⟩ := bd_some hf
      refine wa_callVi (pc := 35) cx [.int v4] (ct_X9_strength l E _ _ _ h4) mi_X9_strength tw_707 lk_8 rfl (cx.bl 8 rfl) rfl rfl (Nat.le_of_ble_eq_true rfl) ⟨Nat.le_of_ble_eq_true rfl, Nat.le_of_ble_eq_true rfl⟩ ⟨Nat.zero_le _, Nat.zero_le _⟩ dX3_search_35 ?_
      obtain ⟨g5, hf⟩ := gd_some hf
      refine wa_iast (pc := 38) cx lk_32 (cx.bl 32 rfl) g5 dX3_search_38 ?_
      refine wa_iinc (pc := 39) (v := 1) cx 4 [some (.ref (eA E 31)), some (.ref (eA E 8)), none, some (.int v3), some (.int (v4 + 1)), none, none, none] dX3_search_39 (by decide) rfl (by decide) rfl rfl ?_
      refine wa_goto (pc := 42) cx 17 dX3_search_42 rfl ?_
      obtain rfl := Option.some.inj hf
      refine wa_forget [true, true, false, true, true, false, false, false] [some (.ref (eA E 31)), some (.ref (eA E 8)), none, some (.int v3), some (.int (v4 + 1)), none, none, none] rfl ?_
      exact hk1
  have l61 : ∀ (v3 : Int32) (y : Int32 × Int32 × Int32 × Sg) (o : Int32 × Sg), lpO (fun w => fX3_search_B61 v3 w.1 w.2.1 w.2.2.1 w.2.2.2) FUEL y = some o → (WA p l e (rmd 3) s m args below meth c 8 E 0 0 (MQ below (Qcq E s.heap.size (some (.int q.1)) q.2) args s 0 0 (AE E s.heap.size)) 136 [none, none, none, none, some (.int o.1), none, none, none] [] o.2) → WA p l e (rmd 3) s m args below meth c 8 E 0 0 (MQ below (Qcq E s.heap.size (some (.int q.1)) q.2) args s 0 0 (AE E s.heap.size)) 61 [some (.ref (eA E 31)), some (.ref (eA E 8)), none, some (.int v3), some (.int y.1), some (.int y.2.1), some (.int y.2.2.1), none] [] y.2.2.2 := by
    intro v3 y o hf hk
    refine lp_rule (P := fun y => WA p l e (rmd 3) s m args below meth c 8 E 0 0 (MQ below (Qcq E s.heap.size (some (.int q.1)) q.2) args s 0 0 (AE E s.heap.size)) 61 [some (.ref (eA E 31)), some (.ref (eA E 8)), none, some (.int v3), some (.int y.1), some (.int y.2.1), some (.int y.2.2.1), none] [] y.2.2.2) (K := fun o => WA p l e (rmd 3) s m args below meth c 8 E 0 0 (MQ below (Qcq E s.heap.size (some (.int q.1)) q.2) args s 0 0 (AE E s.heap.size)) 136 [none, none, none, none, some (.int o.1), none, none, none] [] o.2) ?_ FUEL y o hf hk
    have j130 : ∀ (v3 : Int32) (v4 : Int32) (v5 : Int32) (v6 : Int32) (σ : Sg) (r1 : (Int32 × Int32 × Int32 × Sg) ⊕ (Int32 × Sg)), fX3_search_J130 v3 v4 v5 v6 σ = some r1 → (sel (fun y1 => WA p l e (rmd 3) s m args below meth c 8 E 0 0 (MQ below (Qcq E s.heap.size (some (.int q.1)) q.2) args s 0 0 (AE E s.heap.size)) 61 [some (.ref (eA E 31)), some (.ref (eA E 8)), none, some (.int v3), some (.int y1.1), some (.int y1.2.1), some (.int y1.2.2.1), none] [] y1.2.2.2) (fun y1 => WA p l e (rmd 3) s m args below meth c 8 E 0 0 (MQ below (Qcq E s.heap.size (some (.int q.1)) q.2) args s 0 0 (AE E s.heap.size)) 136 [none, none, none, none, some (.int y1.1), none, none, none] [] y1.2) r1) → WA p l e (rmd 3) s m args below meth c 8 E 0 0 (MQ below (Qcq E s.heap.size (some (.int q.1)) q.2) args s 0 0 (AE E s.heap.size)) 130 [some (.ref (eA E 31)), some (.ref (eA E 8)), none, some (.int v3), some (.int v4), some (.int v5), some (.int v6), none] [] σ := by
      intro v3 v4 v5 v6 σ r1 hf hk1
      unfold fX3_search_J130 at hf
      refine wa_iinc (pc := 130) (v := 1) cx 6 [some (.ref (eA E 31)), some (.ref (eA E 8)), none, some (.int v3), some (.int v4), some (.int v5), some (.int (v6 + 1)), none] dX3_search_130 (by decide) rfl (by decide) rfl rfl ?_
      refine wa_goto (pc := 133) cx 61 dX3_search_133 rfl ?_
      obtain rfl := Option.some.inj hf
      refine wa_forget [true, true, false, true, true, true, true, false] [some (.ref (eA E 31)), some (.ref (eA E 8)), none, some (.int v3), some (.int v4), some (.int v5), some (.int (v6 + 1)), none] rfl ?_
      exact hk1
    have j122 : ∀ (v3 : Int32) (v6 : Int32) (v7 : Int32) (σ : Sg) (r1 : (Int32 × Int32 × Int32 × Sg) ⊕ (Int32 × Sg)), fX3_search_J122 v3 v6 v7 σ = some r1 → (sel (fun y1 => WA p l e (rmd 3) s m args below meth c 8 E 0 0 (MQ below (Qcq E s.heap.size (some (.int q.1)) q.2) args s 0 0 (AE E s.heap.size)) 61 [some (.ref (eA E 31)), some (.ref (eA E 8)), none, some (.int v3), some (.int y1.1), some (.int y1.2.1), some (.int y1.2.2.1), none] [] y1.2.2.2) (fun y1 => WA p l e (rmd 3) s m args below meth c 8 E 0 0 (MQ below (Qcq E s.heap.size (some (.int q.1)) q.2) args s 0 0 (AE E s.heap.size)) 136 [none, none, none, none, some (.int y1.1), none, none, none] [] y1.2) r1) → WA p l e (rmd 3) s m args below meth c 8 E 0 0 (MQ below (Qcq E s.heap.size (some (.int q.1)) q.2) args s 0 0 (AE E s.heap.size)) 122 [some (.ref (eA E 31)), some (.ref (eA E 8)), none, some (.int v3), none, none, some (.int v6), some (.int v7)] [] σ := by
      intro v3 v6 v7 σ r1 hf hk1
      unfold fX3_search_J122 at hf
      refine wa_iload (pc := 122) cx 6 dX3_search_122 rfl ?_
      refine wa_istore (pc := 124) cx 4 [some (.ref (eA E 31)), some (.ref (eA E 8)), none, some (.int v3), some (.int v6), none, some (.int v6), some (.int v7)] dX3_search_124 (by decide) rfl rfl ?_
      refine wa_iload (pc := 126) cx 7 dX3_search_126 rfl ?_
      refine wa_istore (pc := 128) cx 5 [some (.ref (eA E 31)), some (.ref (eA E 8)), none, some (.int v3), some (.int v6), some (.int v7), some (.int v6), some (.int v7)] dX3_search_128 (by decide) rfl rfl ?_
      refine wa_forget [true, true, false, true, true, true, true, false] [some (.ref (eA E 31)), some (.ref (eA E 8)), none, some (.int v3), some (.int v6), some (.int v7), some (.int v6), none] rfl ?_
      exact j130 _ _ _ _ _ _ hf hk1
    intro y0 r1 hf hk1
    obtain ⟨v4, v5, v6, σ⟩ := y0
    have hf : fX3_search_B61 v3 v4 v5 v6 σ = some r1 := hf
    unfold fX3_search_B61 at hf
    refine wa_iload (pc := 61) cx 6 dX3_search_61 rfl ?_
    refine wa_iconst (pc := 63) (v := 1) cx dX3_search_63 (by decide) ?_
    refine wa_aload_n (pc := 64) cx 1 dX3_search_64 rfl rfl ?_
    refine wa_getI (pc := 65) cx fl_X3_18 lk_8 rfl (cx.bl 8 rfl) dX3_search_65 ?_
    refine wa_ishl (pc := 68) cx dX3_search_68 ?_
    refine wa_icmp_ge (pc := 69) cx 136 dX3_search_69 rfl (fun c8 => ?_) (fun c8 => ?_)
    · have hf := (if_pos c8).symm.trans hf
      obtain rfl := Option.some.inj hf
      refine wa_forget [false, false, false, false, true, false, false, false] [none, none, none, none, some (.int v4), none, none, none] rfl ?_
      exact hk1
    · have hf := (if_neg c8).symm.trans hf
      refine wa_aload_n (pc := 72) cx 0 dX3_search_72 rfl rfl ?_
      refine wa_getR (pc := 73) cx fl_X3_15 lk_31 rfl (cx.bl 31 rfl) dX3_search_73 ?_
      refine wa_iload (pc := 76) cx 6 dX3_search_76 rfl ?_
      refine wa_aload_n (pc := 78) cx 0 dX3_search_78 rfl rfl ?_
      refine wa_iload (pc := 79) cx 6 dX3_search_79 rfl ?_
      refine wa_aload_n (pc := 81) cx 1 dX3_search_81 rfl rfl ?_
      refine wa_getI (pc := 82) cx fl_X3_18 lk_8 rfl (cx.bl 8 rfl) dX3_search_82 ?_
      refine wa_iload_n (pc := 85) cx 3 dX3_search_85 rfl rfl ?_
      obtain ⟨q9, h10, hf⟩ := bd_some hf
      refine wa_callVi (pc := 86) cx [.int v6, .int (gf σ 8 4), .int v3] (ct_X3_fillBest l E _ _ _ _ _ h10) mi_X3_fillBest tw_708 lk_31 rfl (cx.bl 31 rfl) rfl rfl (Nat.le_of_ble_eq_true rfl) ⟨Nat.le_of_ble_eq_true rfl, Nat.le_of_ble_eq_true rfl⟩ ⟨Nat.zero_le _, Nat.zero_le _⟩ dX3_search_86 ?_
      obtain ⟨g11, hf⟩ := gd_some hf
      refine wa_iast (pc := 89) cx lk_33 (cx.bl 33 rfl) g11 dX3_search_89 ?_
      refine wa_aload_n (pc := 90) cx 0 dX3_search_90 rfl rfl ?_
      refine wa_getR (pc := 91) cx fl_X3_15 lk_31 rfl (cx.bl 31 rfl) dX3_search_91 ?_
      refine wa_iload (pc := 94) cx 6 dX3_search_94 rfl ?_
      obtain ⟨g12, hf⟩ := gd_some hf
      refine wa_iald (pc := 96) cx lk_33 (cx.bl 33 rfl) g12 dX3_search_96 ?_
      refine wa_ldc (pc := 97) (v := 196608) cx dX3_search_97 tw_714 ?_
      refine wa_icmp_lt (pc := 99) cx 130 dX3_search_99 rfl (fun c13 => ?_) (fun c13 => ?_)
      · have hf := (if_pos c13).symm.trans hf
        exact j130 _ _ _ _ _ _ hf hk1
      · have hf := (if_neg c13).symm.trans hf
        refine wa_aload_n (pc := 102) cx 1 dX3_search_102 rfl rfl ?_
        refine wa_iload (pc := 103) cx 6 dX3_search_103 rfl ?_
        obtain ⟨q14, h15, hf⟩ := bd_some hf
        refine wa_callVi (pc := 105) cx [.int v6] (ct_X9_priceOf l E _ _ _ h15) mi_X9_priceOf tw_715 lk_8 rfl (cx.bl 8 rfl) rfl rfl (Nat.le_of_ble_eq_true rfl) ⟨Nat.le_of_ble_eq_true rfl, Nat.le_of_ble_eq_true rfl⟩ ⟨Nat.zero_le _, Nat.zero_le _⟩ dX3_search_105 ?_
        refine wa_istore (pc := 108) cx 7 [some (.ref (eA E 31)), some (.ref (eA E 8)), none, some (.int v3), some (.int v4), some (.int v5), some (.int v6), some (.int q14)] dX3_search_108 (by decide) rfl rfl ?_
        refine wa_iload (pc := 110) cx 4 dX3_search_110 rfl ?_
        refine wa_if_lt (pc := 112) cx 122 dX3_search_112 rfl (fun c16 => ?_) (fun c16 => ?_)
        · have hf := (if_pos c16).symm.trans hf
          refine wa_forget [true, true, false, true, false, false, true, true] [some (.ref (eA E 31)), some (.ref (eA E 8)), none, some (.int v3), none, none, some (.int v6), some (.int q14)] rfl ?_
          exact j122 _ _ _ _ _ hf hk1
        · have hf := (if_neg c16).symm.trans hf
          refine wa_iload (pc := 115) cx 7 dX3_search_115 rfl ?_
          refine wa_iload (pc := 117) cx 5 dX3_search_117 rfl ?_
          refine wa_icmp_ge (pc := 119) cx 130 dX3_search_119 rfl (fun c17 => ?_) (fun c17 => ?_)
          · have hf := (if_pos c17).symm.trans hf
            refine wa_forget [true, true, false, true, true, true, true, false] [some (.ref (eA E 31)), some (.ref (eA E 8)), none, some (.int v3), some (.int v4), some (.int v5), some (.int v6), none] rfl ?_
            exact j130 _ _ _ _ _ _ hf hk1
          · have hf := (if_neg c17).symm.trans hf
            refine wa_forget [true, true, false, true, false, false, true, true] [some (.ref (eA E 31)), some (.ref (eA E 8)), none, some (.int v3), none, none, some (.int v6), some (.int q14)] rfl ?_
            exact j122 _ _ _ _ _ hf hk1
  refine wa_iload_n (pc := 0) cx 2 dX3_search_0 rfl rfl ?_
  refine wa_iconst (pc := 1) (v := 3) cx dX3_search_1 (by decide) ?_
  refine wa_iadd (pc := 2) cx dX3_search_2 ?_
  refine wa_iconst (pc := 3) (v := 1) cx dX3_search_3 (by decide) ?_
  refine wa_isub (pc := 4) cx dX3_search_4 ?_
  refine wa_iconst (pc := 5) (v := 3) cx dX3_search_5 (by decide) ?_
  refine wa_idiv (pc := 6) cx dX3_search_6 (by decide) ?_
  refine wa_istore_n (pc := 7) cx 3 [some (.ref (eA E 31)), some (.ref (eA E 8)), some (.int a2), some (.int (((a2 + 3) - 1) / 3)), none, none, none, none] dX3_search_7 rfl (by decide) rfl rfl ?_
  refine wa_iload_n (pc := 8) cx 3 dX3_search_8 rfl rfl ?_
  refine wa_if_ne (pc := 9) cx 14 dX3_search_9 rfl (fun c1 => ?_) (fun c1 => ?_)
  · have hf := (if_neg c1).symm.trans hf
    refine wa_iconst (pc := 14) (v := 0) cx dX3_search_14 (by decide) ?_
    refine wa_istore (pc := 15) cx 4 [some (.ref (eA E 31)), some (.ref (eA E 8)), some (.int a2), some (.int (((a2 + 3) - 1) / 3)), some (.int 0), none, none, none] dX3_search_15 (by decide) rfl rfl ?_
    refine wa_forget [true, true, false, true, true, false, false, false] [some (.ref (eA E 31)), some (.ref (eA E 8)), none, some (.int (((a2 + 3) - 1) / 3)), some (.int 0), none, none, none] rfl ?_
    obtain ⟨o6, h20, hf⟩ := bd_some hf
    refine l17 _ _ _ h20 ?_
    refine wa_iconst (pc := 45) (v := (-1)) cx dX3_search_45 (by decide) ?_
    refine wa_istore (pc := 46) cx 4 [some (.ref (eA E 31)), some (.ref (eA E 8)), none, some (.int (((a2 + 3) - 1) / 3)), some (.int (-1)), none, none, none] dX3_search_46 (by decide) rfl rfl ?_
    refine wa_iconst (pc := 48) (v := 0) cx dX3_search_48 (by decide) ?_
    refine wa_istore (pc := 49) cx 5 [some (.ref (eA E 31)), some (.ref (eA E 8)), none, some (.int (((a2 + 3) - 1) / 3)), some (.int (-1)), some (.int 0), none, none] dX3_search_49 (by decide) rfl rfl ?_
    refine wa_aload_n (pc := 51) cx 0 dX3_search_51 rfl rfl ?_
    refine wa_getR (pc := 52) cx fl_X3_15 lk_31 rfl (cx.bl 31 rfl) dX3_search_52 ?_
    refine wa_iconst (pc := 55) (v := 0) cx dX3_search_55 (by decide) ?_
    refine wa_iconst (pc := 56) (v := 0) cx dX3_search_56 (by decide) ?_
    obtain ⟨g7, hf⟩ := gd_some hf
    refine wa_iast (pc := 57) cx lk_33 (cx.bl 33 rfl) g7 dX3_search_57 ?_
    refine wa_iconst (pc := 58) (v := 1) cx dX3_search_58 (by decide) ?_
    refine wa_istore (pc := 59) cx 6 [some (.ref (eA E 31)), some (.ref (eA E 8)), none, some (.int (((a2 + 3) - 1) / 3)), some (.int (-1)), some (.int 0), some (.int 1), none] dX3_search_59 (by decide) rfl rfl ?_
    obtain ⟨o18, h19, hf⟩ := bd_some hf
    refine l61 _ _ _ h19 ?_
    refine wa_iload (pc := 136) cx 4 dX3_search_136 rfl ?_
    obtain rfl := Option.some.inj hf
    exact wa_iret (pc := 138) cx dX3_search_138
  · have hf := (if_pos c1).symm.trans hf
    refine wa_iconst (pc := 12) (v := 0) cx dX3_search_12 (by decide) ?_
    obtain rfl := Option.some.inj hf
    exact wa_iret (pc := 13) cx dX3_search_13
