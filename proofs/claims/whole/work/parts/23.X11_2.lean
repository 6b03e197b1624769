def fX11_vow_J25  (σ : Sg) : Option (Int32 × Sg) :=
  some ((-1000001), σ)
def fX11_vow (a1 : Int32) (a2 : Int32) (σ : Sg) : Option (Int32 × Sg) :=
  (fX11_isYarn a1 (sup σ 38 0 0)).bind (fun q1 =>
  if q1 = 0 then (fX11_vow_J25  (sup σ 38 0 0)) else ((fX11_in ((a2).toInt64) 0 2 (sup σ 38 0 0)).bind (fun q4 =>
  if q4 = 0 then (fX11_vow_J25  (sup σ 38 0 0)) else ((fX11_keep  (sup σ 38 0 0)).bind (fun q7 =>
  (fX11_of a1 4 q7).bind (fun q9 =>
  (fX11_becomes a1 4 a2 q7).bind (fun q11 =>
  some (q9, q11))))))))
set_option maxHeartbeats 4000000 in
set_option maxRecDepth 100000 in
theorem ct_X11_vow (l : Launch) (E : En) (σ : Sg) (a1 : Int32) (a2 : Int32) (q : Int32 × Sg) (hf : fX11_vow a1 a2 σ = some q) : CT l yX11_vow cX11_vow 4 (some .int) 2 E σ [.ref (eA E 38), .int a1, .int a2] (some (.int q.1)) q.2 := by
  refine CT.of RX11 [some (.ref (eA E 38)), some (.int a1), some (.int a2), none] rfl (by decide +kernel) (Nat.le_of_ble_eq_true rfl) rfl ?_
  intro p e s m args below meth c cx
  unfold fX11_vow at hf
  have j25 : ∀  (σ : Sg), fX11_vow_J25  σ = some q → WA p l e (rmd 2) s m args below meth c 4 E 0 0 (MQ below (Qcq E s.heap.size (some (.int q.1)) q.2) args s 0 0 (AE E s.heap.size)) 25 [none, none, none, none] [] σ := by
    intro  σ hf
    unfold fX11_vow_J25 at hf
    refine wa_ldc (pc := 25) (v := (-1000001)) cx dX11_vow_25 tw_956 ?_
    obtain rfl := Option.some.inj hf
    exact wa_iret (pc := 27) cx dX11_vow_27
  refine wa_aload_n (pc := 0) cx 0 dX11_vow_0 rfl rfl ?_
  refine wa_iconst (pc := 1) (v := 0) cx dX11_vow_1 (by decide) ?_
  refine wa_putI (pc := 2) cx fp_X11_50 lk_38 rfl (cx.bl 38 rfl) dX11_vow_2 ?_
  refine wa_aload_n (pc := 5) cx 0 dX11_vow_5 rfl rfl ?_
  refine wa_iload_n (pc := 6) cx 1 dX11_vow_6 rfl rfl ?_
  obtain ⟨q1, h2, hf⟩ := bd_some hf
  refine wa_callVi (pc := 7) cx [.int a1] (ct_X11_isYarn l E _ _ _ h2) mi_X11_isYarn tw_1060 lk_38 rfl (cx.bl 38 rfl) rfl rfl (Nat.le_of_ble_eq_true rfl) ⟨Nat.le_of_ble_eq_true rfl, Nat.le_of_ble_eq_true rfl⟩ ⟨Nat.zero_le _, Nat.zero_le _⟩ dX11_vow_7 ?_
  refine wa_if_eq (pc := 10) cx 25 dX11_vow_10 rfl (fun c3 => ?_) (fun c3 => ?_)
  · have hf := (if_pos c3).symm.trans hf
    refine wa_forget [false, false, false, false] [none, none, none, none] rfl ?_
    exact j25  _ hf
  · have hf := (if_neg c3).symm.trans hf
    refine wa_iload_n (pc := 13) cx 2 dX11_vow_13 rfl rfl ?_
    refine wa_i2l (pc := 14) cx dX11_vow_14 ?_
    refine wa_lconst (pc := 15) (v := 0) cx dX11_vow_15 (by decide) ?_
    refine wa_ldc2 (pc := 16) (v := 2) cx dX11_vow_16 tw_955 ?_
    obtain ⟨q4, h5, hf⟩ := bd_some hf
    refine wa_callSi (pc := 19) cx [.long ((a2).toInt64), .long 0, .long 2] (ct_X11_in l E _ _ _ _ _ h5) ms_X11_in tw_952 rfl rfl (Nat.le_of_ble_eq_true rfl) ⟨Nat.le_of_ble_eq_true rfl, Nat.le_of_ble_eq_true rfl⟩ ⟨Nat.zero_le _, Nat.zero_le _⟩ dX11_vow_19 ?_
    refine wa_if_ne (pc := 22) cx 28 dX11_vow_22 rfl (fun c6 => ?_) (fun c6 => ?_)
    · have hf := (if_neg c6).symm.trans hf
      refine wa_aload_n (pc := 28) cx 0 dX11_vow_28 rfl rfl ?_
      obtain ⟨q7, h8, hf⟩ := bd_some hf
      refine wa_callVv (pc := 29) cx [] (ct_X11_keep l E _  _ h8) mi_X11_keep tw_1065 lk_38 rfl (cx.bl 38 rfl) rfl rfl (Nat.le_of_ble_eq_true rfl) ⟨Nat.le_of_ble_eq_true rfl, Nat.le_of_ble_eq_true rfl⟩ ⟨Nat.zero_le _, Nat.zero_le _⟩ dX11_vow_29 ?_
      refine wa_aload_n (pc := 32) cx 0 dX11_vow_32 rfl rfl ?_
      refine wa_iload_n (pc := 33) cx 1 dX11_vow_33 rfl rfl ?_
      refine wa_iconst (pc := 34) (v := 4) cx dX11_vow_34 (by decide) ?_
      obtain ⟨q9, h10, hf⟩ := bd_some hf
      refine wa_callVi (pc := 35) cx [.int a1, .int 4] (ct_X11_of l E _ _ _ _ h10) mi_X11_of tw_1069 lk_38 rfl (cx.bl 38 rfl) rfl rfl (Nat.le_of_ble_eq_true rfl) ⟨Nat.le_of_ble_eq_true rfl, Nat.le_of_ble_eq_true rfl⟩ ⟨Nat.zero_le _, Nat.zero_le _⟩ dX11_vow_35 ?_
      refine wa_istore_n (pc := 38) cx 3 [some (.ref (eA E 38)), some (.int a1), some (.int a2), some (.int q9)] dX11_vow_38 rfl (by decide) rfl rfl ?_
      refine wa_aload_n (pc := 39) cx 0 dX11_vow_39 rfl rfl ?_
      refine wa_iload_n (pc := 40) cx 1 dX11_vow_40 rfl rfl ?_
      refine wa_iconst (pc := 41) (v := 4) cx dX11_vow_41 (by decide) ?_
      refine wa_iload_n (pc := 42) cx 2 dX11_vow_42 rfl rfl ?_
      obtain ⟨q11, h12, hf⟩ := bd_some hf
      refine wa_callVv (pc := 43) cx [.int a1, .int 4, .int a2] (ct_X11_becomes l E _ _ _ _ _ h12) mi_X11_becomes tw_1073 lk_38 rfl (cx.bl 38 rfl) rfl rfl (Nat.le_of_ble_eq_true rfl) ⟨Nat.le_of_ble_eq_true rfl, Nat.le_of_ble_eq_true rfl⟩ ⟨Nat.zero_le _, Nat.zero_le _⟩ dX11_vow_43 ?_
      refine wa_iload_n (pc := 46) cx 3 dX11_vow_46 rfl rfl ?_
      obtain rfl := Option.some.inj hf
      exact wa_iret (pc := 47) cx dX11_vow_47
    · have hf := (if_pos c6).symm.trans hf
      refine wa_forget [false, false, false, false] [none, none, none, none] rfl ?_
      exact j25  _ hf
def fX11_splice (a1 : Int32) (σ : Sg) : Option (Int32 × Sg) :=
  (fX11_isYarn a1 (sup σ 38 0 0)).bind (fun q1 =>
  if q1 = 0 then (some ((-1000001), sup σ 38 0 0)) else ((fX11_keep  (sup σ 38 0 0)).bind (fun q4 =>
  (fX11_of a1 5 q4).bind (fun q6 =>
  (fX11_becomes a1 5 0 q4).bind (fun q8 =>
  some (q6, q8))))))
set_option maxHeartbeats 4000000 in
set_option maxRecDepth 100000 in
theorem ct_X11_splice (l : Launch) (E : En) (σ : Sg) (a1 : Int32) (q : Int32 × Sg) (hf : fX11_splice a1 σ = some q) : CT l yX11_splice cX11_splice 3 (some .int) 2 E σ [.ref (eA E 38), .int a1] (some (.int q.1)) q.2 := by
  refine CT.of RX11 [some (.ref (eA E 38)), some (.int a1), none] rfl (by decide +kernel) (Nat.le_of_ble_eq_true rfl) rfl ?_
  intro p e s m args below meth c cx
  unfold fX11_splice at hf
  refine wa_aload_n (pc := 0) cx 0 dX11_splice_0 rfl rfl ?_
  refine wa_iconst (pc := 1) (v := 0) cx dX11_splice_1 (by decide) ?_
  refine wa_putI (pc := 2) cx fp_X11_50 lk_38 rfl (cx.bl 38 rfl) dX11_splice_2 ?_
  refine wa_aload_n (pc := 5) cx 0 dX11_splice_5 rfl rfl ?_
  refine wa_iload_n (pc := 6) cx 1 dX11_splice_6 rfl rfl ?_
  obtain ⟨q1, h2, hf⟩ := bd_some hf
  refine wa_callVi (pc := 7) cx [.int a1] (ct_X11_isYarn l E _ _ _ h2) mi_X11_isYarn tw_1060 lk_38 rfl (cx.bl 38 rfl) rfl rfl (Nat.le_of_ble_eq_true rfl) ⟨Nat.le_of_ble_eq_true rfl, Nat.le_of_ble_eq_true rfl⟩ ⟨Nat.zero_le _, Nat.zero_le _⟩ dX11_splice_7 ?_
  refine wa_if_ne (pc := 10) cx 16 dX11_splice_10 rfl (fun c3 => ?_) (fun c3 => ?_)
  · have hf := (if_neg c3).symm.trans hf
    refine wa_aload_n (pc := 16) cx 0 dX11_splice_16 rfl rfl ?_
    obtain ⟨q4, h5, hf⟩ := bd_some hf
    refine wa_callVv (pc := 17) cx [] (ct_X11_keep l E _  _ h5) mi_X11_keep tw_1065 lk_38 rfl (cx.bl 38 rfl) rfl rfl (Nat.le_of_ble_eq_true rfl) ⟨Nat.le_of_ble_eq_true rfl, Nat.le_of_ble_eq_true rfl⟩ ⟨Nat.zero_le _, Nat.zero_le _⟩ dX11_splice_17 ?_
    refine wa_aload_n (pc := 20) cx 0 dX11_splice_20 rfl rfl ?_
    refine wa_iload_n (pc := 21) cx 1 dX11_splice_21 rfl rfl ?_
    refine wa_iconst (pc := 22) (v := 5) cx dX11_splice_22 (by decide) ?_
    obtain ⟨q6, h7, hf⟩ := bd_some hf
    refine wa_callVi (pc := 23) cx [.int a1, .int 5] (ct_X11_of l E _ _ _ _ h7) mi_X11_of tw_1069 lk_38 rfl (cx.bl 38 rfl) rfl rfl (Nat.le_of_ble_eq_true rfl) ⟨Nat.le_of_ble_eq_true rfl, Nat.le_of_ble_eq_true rfl⟩ ⟨Nat.zero_le _, Nat.zero_le _⟩ dX11_splice_23 ?_
    refine wa_istore_n (pc := 26) cx 2 [some (.ref (eA E 38)), some (.int a1), some (.int q6)] dX11_splice_26 rfl (by decide) rfl rfl ?_
    refine wa_aload_n (pc := 27) cx 0 dX11_splice_27 rfl rfl ?_
    refine wa_iload_n (pc := 28) cx 1 dX11_splice_28 rfl rfl ?_
    refine wa_iconst (pc := 29) (v := 5) cx dX11_splice_29 (by decide) ?_
    refine wa_iconst (pc := 30) (v := 0) cx dX11_splice_30 (by decide) ?_
    obtain ⟨q8, h9, hf⟩ := bd_some hf
    refine wa_callVv (pc := 31) cx [.int a1, .int 5, .int 0] (ct_X11_becomes l E _ _ _ _ _ h9) mi_X11_becomes tw_1073 lk_38 rfl (cx.bl 38 rfl) rfl rfl (Nat.le_of_ble_eq_true rfl) ⟨Nat.le_of_ble_eq_true rfl, Nat.le_of_ble_eq_true rfl⟩ ⟨Nat.zero_le _, Nat.zero_le _⟩ dX11_splice_31 ?_
    refine wa_iload_n (pc := 34) cx 2 dX11_splice_34 rfl rfl ?_
    obtain rfl := Option.some.inj hf
    exact wa_iret (pc := 35) cx dX11_splice_35
  · have hf := (if_pos c3).symm.trans hf
    refine wa_ldc (pc := 13) (v := (-1000001)) cx dX11_splice_13 tw_956 ?_
    obtain rfl := Option.some.inj hf
    exact wa_iret (pc := 15) cx dX11_splice_15
def fX11_isLoad (a1 : Int32) (σ : Sg) : Option (Int32) :=
  (fX11_in ((a1).toInt64) 0 9999 σ).bind (fun q1 =>
  gd (isz q1) (
  some q1))
set_option maxHeartbeats 4000000 in
set_option maxRecDepth 100000 in
theorem ct_X11_isLoad (l : Launch) (E : En) (σ : Sg) (a1 : Int32) (q : Int32) (hf : fX11_isLoad a1 σ = some q) : CT l yX11_isLoad cX11_isLoad 1 (some .boolean) 1 E σ [.int a1] (some (.int q)) σ := by
  refine CT.of RX11 [some (.int a1)] rfl (by decide +kernel) (Nat.le_of_ble_eq_true rfl) rfl ?_
  intro p e s m args below meth c cx
  unfold fX11_isLoad at hf
  refine wa_iload_n (pc := 0) cx 0 dX11_isLoad_0 rfl rfl ?_
  refine wa_i2l (pc := 1) cx dX11_isLoad_1 ?_
  refine wa_lconst (pc := 2) (v := 0) cx dX11_isLoad_2 (by decide) ?_
  refine wa_ldc2 (pc := 3) (v := 9999) cx dX11_isLoad_3 tw_1109 ?_
  obtain ⟨q1, h2, hf⟩ := bd_some hf
  refine wa_callSi (pc := 6) cx [.long ((a1).toInt64), .long 0, .long 9999] (ct_X11_in l E _ _ _ _ _ h2) ms_X11_in tw_952 rfl rfl (Nat.le_of_ble_eq_true rfl) ⟨Nat.le_of_ble_eq_true rfl, Nat.le_of_ble_eq_true rfl⟩ ⟨Nat.zero_le _, Nat.zero_le _⟩ dX11_isLoad_6 ?_
  obtain ⟨g3, hf⟩ := gd_some hf
  obtain rfl := Option.some.inj hf
  exact wa_zret (pc := 9) cx g3 dX11_isLoad_9
def fX11_isSeed (a1 : Int32) (σ : Sg) : Option (Int32) :=
  (fX11_in ((a1).toInt64) 1 999999 σ).bind (fun q1 =>
  gd (isz q1) (
  some q1))
set_option maxHeartbeats 4000000 in
set_option maxRecDepth 100000 in
theorem ct_X11_isSeed (l : Launch) (E : En) (σ : Sg) (a1 : Int32) (q : Int32) (hf : fX11_isSeed a1 σ = some q) : CT l yX11_isSeed cX11_isSeed 1 (some .boolean) 1 E σ [.int a1] (some (.int q)) σ := by
  refine CT.of RX11 [some (.int a1)] rfl (by decide +kernel) (Nat.le_of_ble_eq_true rfl) rfl ?_
  intro p e s m args below meth c cx
  unfold fX11_isSeed at hf
  refine wa_iload_n (pc := 0) cx 0 dX11_isSeed_0 rfl rfl ?_
  refine wa_i2l (pc := 1) cx dX11_isSeed_1 ?_
  refine wa_lconst (pc := 2) (v := 1) cx dX11_isSeed_2 (by decide) ?_
  refine wa_ldc2 (pc := 3) (v := 999999) cx dX11_isSeed_3 tw_1113 ?_
  obtain ⟨q1, h2, hf⟩ := bd_some hf
  refine wa_callSi (pc := 6) cx [.long ((a1).toInt64), .long 1, .long 999999] (ct_X11_in l E _ _ _ _ _ h2) ms_X11_in tw_952 rfl rfl (Nat.le_of_ble_eq_true rfl) ⟨Nat.le_of_ble_eq_true rfl, Nat.le_of_ble_eq_true rfl⟩ ⟨Nat.zero_le _, Nat.zero_le _⟩ dX11_isSeed_6 ?_
  obtain ⟨g3, hf⟩ := gd_some hf
  obtain rfl := Option.some.inj hf
  exact wa_zret (pc := 9) cx g3 dX11_isSeed_9
def fX11_draw (a1 : Int32) (σ : Sg) : Option (Int32 × Sg) :=
  gd (nzL ((a1).toInt64)) (
  some ((lrm ((slg σ (lrm (σ.2 * 16807) 2147483647)).2) ((a1).toInt64)).toInt32, slg σ (lrm (σ.2 * 16807) 2147483647)))
set_option maxHeartbeats 4000000 in
set_option maxRecDepth 100000 in
theorem ct_X11_draw (l : Launch) (E : En) (σ : Sg) (a1 : Int32) (q : Int32 × Sg) (hf : fX11_draw a1 σ = some q) : CT l yX11_draw cX11_draw 2 (some .int) 0 E σ [.ref (eA E 38), .int a1] (some (.int q.1)) q.2 := by
  refine CT.of RX11 [some (.ref (eA E 38)), some (.int a1)] rfl (by decide +kernel) (Nat.le_of_ble_eq_true rfl) rfl ?_
  intro p e s m args below meth c cx
  unfold fX11_draw at hf
  refine wa_aload_n (pc := 0) cx 0 dX11_draw_0 rfl rfl ?_
  refine wa_aload_n (pc := 1) cx 0 dX11_draw_1 rfl rfl ?_
  refine wa_getL (pc := 2) cx fl_X11_219 lk_38 rfl (cx.bl 38 rfl) dX11_draw_2 ?_
  refine wa_ldc2 (pc := 5) (v := 16807) cx dX11_draw_5 tw_1118 ?_
  refine wa_lmul (pc := 8) cx dX11_draw_8 ?_
  refine wa_ldc2 (pc := 9) (v := 2147483647) cx dX11_draw_9 tw_1119 ?_
  refine wa_lrem (pc := 12) cx dX11_draw_12 (by decide) ?_
  refine wa_putL (pc := 13) cx fp_X11_219 lk_38 rfl (cx.bl 38 rfl) only_long rfl dX11_draw_13 ?_
  refine wa_aload_n (pc := 16) cx 0 dX11_draw_16 rfl rfl ?_
  refine wa_getL (pc := 17) cx fl_X11_219 lk_38 rfl (cx.bl 38 rfl) dX11_draw_17 ?_
  refine wa_iload_n (pc := 20) cx 1 dX11_draw_20 rfl rfl ?_
  refine wa_i2l (pc := 21) cx dX11_draw_21 ?_
  obtain ⟨g1, hf⟩ := gd_some hf
  refine wa_lrem (pc := 22) cx dX11_draw_22 (of_decide_eq_true g1) ?_
  refine wa_l2i (pc := 23) cx dX11_draw_23 ?_
  obtain rfl := Option.some.inj hf
  exact wa_iret (pc := 24) cx dX11_draw_24
def fX11_noStrands_B2  (v1 : Int32) (σ : Sg) : Option ((Int32 × Sg) ⊕ (Sg)) :=
  if (3 : Int32) ≤ v1 then (some (.inr σ)) else (gd (inb v1 3) (
  some (.inl ((v1 + 1), sa σ 46 v1 0))))
def fX11_noStrands  (σ : Sg) : Option (Sg) :=
  (lpO (fun w => fX11_noStrands_B2  w.1 w.2) FUEL (0, σ)).bind (fun o3 =>
  some o3)
set_option maxHeartbeats 4000000 in
set_option maxRecDepth 100000 in
theorem ct_X11_noStrands (l : Launch) (E : En) (σ : Sg)  (q : Sg) (hf : fX11_noStrands  σ = some q) : CT l yX11_noStrands cX11_noStrands 2 none 0 E σ [.ref (eA E 38)] none q := by
  refine CT.of RX11 [some (.ref (eA E 38)), none] rfl (by decide +kernel) (Nat.le_of_ble_eq_true rfl) rfl ?_
  intro p e s m args below meth c cx
  unfold fX11_noStrands at hf
  have l2 : ∀  (y : Int32 × Sg) (o : Sg), lpO (fun w => fX11_noStrands_B2  w.1 w.2) FUEL y = some o → (WA p l e (rmd 0) s m args below meth c 2 E 0 0 (MQ below (Qcq E s.heap.size (none) q) args s 0 0 (AE E s.heap.size)) 20 [none, none] [] o) → WA p l e (rmd 0) s m args below meth c 2 E 0 0 (MQ below (Qcq E s.heap.size (none) q) args s 0 0 (AE E s.heap.size)) 2 [some (.ref (eA E 38)), some (.int y.1)] [] y.2 := by
    intro  y o hf hk
    refine lp_rule (P := fun y => WA p l e (rmd 0) s m args below meth c 2 E 0 0 (MQ below (Qcq E s.heap.size (none) q) args s 0 0 (AE E s.heap.size)) 2 [some (.ref (eA E 38)), some (.int y.1)] [] y.2) (K := fun o => WA p l e (rmd 0) s m args below meth c 2 E 0 0 (MQ below (Qcq E s.heap.size (none) q) args s 0 0 (AE E s.heap.size)) 20 [none, none] [] o) ?_ FUEL y o hf hk
    intro y0 r1 hf hk1
    obtain ⟨v1, σ⟩ := y0
    have hf : fX11_noStrands_B2  v1 σ = some r1 := hf
    unfold fX11_noStrands_B2 at hf
    refine wa_iload_n (pc := 2) cx 1 dX11_noStrands_2 rfl rfl ?_
    refine wa_iconst (pc := 3) (v := 3) cx dX11_noStrands_3 (by decide) ?_
    refine wa_icmp_ge (pc := 4) cx 20 dX11_noStrands_4 rfl (fun c1 => ?_) (fun c1 => ?_)
    · have hf := (if_pos c1).symm.trans hf
      obtain rfl := Option.some.inj hf
      refine wa_forget [false, false] [none, none] rfl ?_
      exact hk1
    · have hf := (if_neg c1).symm.trans hf
      refine wa_aload_n (pc := 7) cx 0 dX11_noStrands_7 rfl rfl ?_
      refine wa_getR (pc := 8) cx fl_X11_31 lk_38 rfl (cx.bl 38 rfl) dX11_noStrands_8 ?_
      refine wa_iload_n (pc := 11) cx 1 dX11_noStrands_11 rfl rfl ?_
      refine wa_iconst (pc := 12) (v := 0) cx dX11_noStrands_12 (by decide) ?_
      obtain ⟨g2, hf⟩ := gd_some hf
      refine wa_iast (pc := 13) cx lk_46 (cx.bl 46 rfl) g2 dX11_noStrands_13 ?_
      refine wa_iinc (pc := 14) (v := 1) cx 1 [some (.ref (eA E 38)), some (.int (v1 + 1))] dX11_noStrands_14 (by decide) rfl (by decide) rfl rfl ?_
      refine wa_goto (pc := 17) cx 2 dX11_noStrands_17 rfl ?_
      obtain rfl := Option.some.inj hf
      refine wa_forget [true, true] [some (.ref (eA E 38)), some (.int (v1 + 1))] rfl ?_
      exact hk1
  refine wa_iconst (pc := 0) (v := 0) cx dX11_noStrands_0 (by decide) ?_
  refine wa_istore_n (pc := 1) cx 1 [some (.ref (eA E 38)), some (.int 0)] dX11_noStrands_1 rfl (by decide) rfl rfl ?_
  obtain ⟨o3, h4, hf⟩ := bd_some hf
  refine l2  _ _ h4 ?_
  obtain rfl := Option.some.inj hf
  exact wa_vret (pc := 20) cx dX11_noStrands_20
def fX11_layStrands_J44 (v1 : Int32) (σ : Sg) : Option ((Int32 × Sg) ⊕ (Sg)) :=
  some (.inl ((v1 + 1), σ))
def fX11_layStrands_B6  (v1 : Int32) (σ : Sg) : Option ((Int32 × Sg) ⊕ (Sg)) :=
  gd (inb 3 77) (
  if ga σ 42 3 ≤ v1 then (some (.inr σ)) else ((fX11_of v1 3 σ).bind (fun q5 =>
  if q5 < 0 then (fX11_layStrands_J44 v1 σ) else ((fX11_of v1 3 σ).bind (fun q8 =>
  gd (inb q8 3) (
  (fX11_strength v1 σ).bind (fun q11 =>
  gd (inb q8 3) (
  fX11_layStrands_J44 v1 (sa σ 46 q8 (ga σ 46 q8 + q11))))))))))
def fX11_layStrands  (σ : Sg) : Option (Sg) :=
  (fX11_noStrands  σ).bind (fun q1 =>
  (lpO (fun w => fX11_layStrands_B6  w.1 w.2) FUEL (0, q1)).bind (fun o14 =>
  some o14))
set_option maxHeartbeats 4000000 in
set_option maxRecDepth 100000 in
theorem ct_X11_layStrands (l : Launch) (E : En) (σ : Sg)  (q : Sg) (hf : fX11_layStrands  σ = some q) : CT l yX11_layStrands cX11_layStrands 2 none 4 E σ [.ref (eA E 38)] none q := by
  refine CT.of RX11 [some (.ref (eA E 38)), none] rfl (by decide +kernel) (Nat.le_of_ble_eq_true rfl) rfl ?_
  intro p e s m args below meth c cx
  unfold fX11_layStrands at hf
  have l6 : ∀  (y : Int32 × Sg) (o : Sg), lpO (fun w => fX11_layStrands_B6  w.1 w.2) FUEL y = some o → (WA p l e (rmd 4) s m args below meth c 2 E 0 0 (MQ below (Qcq E s.heap.size (none) q) args s 0 0 (AE E s.heap.size)) 50 [none, none] [] o) → WA p l e (rmd 4) s m args below meth c 2 E 0 0 (MQ below (Qcq E s.heap.size (none) q) args s 0 0 (AE E s.heap.size)) 6 [some (.ref (eA E 38)), some (.int y.1)] [] y.2 := by
    intro  y o hf hk
    refine lp_rule (P := fun y => WA p l e (rmd 4) s m args below meth c 2 E 0 0 (MQ below (Qcq E s.heap.size (none) q) args s 0 0 (AE E s.heap.size)) 6 [some (.ref (eA E 38)), some (.int y.1)] [] y.2) (K := fun o => WA p l e (rmd 4) s m args below meth c 2 E 0 0 (MQ below (Qcq E s.heap.size (none) q) args s 0 0 (AE E s.heap.size)) 50 [none, none] [] o) ?_ FUEL y o hf hk
    have j44 : ∀ (v1 : Int32) (σ : Sg) (r1 : (Int32 × Sg) ⊕ (Sg)), fX11_layStrands_J44 v1 σ = some r1 → (sel (fun y1 => WA p l e (rmd 4) s m args below meth c 2 E 0 0 (MQ below (Qcq E s.heap.size (none) q) args s 0 0 (AE E s.heap.size)) 6 [some (.ref (eA E 38)), some (.int y1.1)] [] y1.2) (fun y1 => WA p l e (rmd 4) s m args below meth c 2 E 0 0 (MQ below (Qcq E s.heap.size (none) q) args s 0 0 (AE E s.heap.size)) 50 [none, none] [] y1) r1) → WA p l e (rmd 4) s m args below meth c 2 E 0 0 (MQ below (Qcq E s.heap.size (none) q) args s 0 0 (AE E s.heap.size)) 44 [some (.ref (eA E 38)), some (.int v1)] [] σ := by
      intro v1 σ r1 hf hk1
      unfold fX11_layStrands_J44 at hf
      refine wa_iinc (pc := 44) (v := 1) cx 1 [some (.ref (eA E 38)), some (.int (v1 + 1))] dX11_layStrands_44 (by decide) rfl (by decide) rfl rfl ?_
      refine wa_goto (pc := 47) cx 6 dX11_layStrands_47 rfl ?_
      obtain rfl := Option.some.inj hf
      refine wa_forget [true, true] [some (.ref (eA E 38)), some (.int (v1 + 1))] rfl ?_
      exact hk1
    intro y0 r1 hf hk1
    obtain ⟨v1, σ⟩ := y0
    have hf : fX11_layStrands_B6  v1 σ = some r1 := hf
    unfold fX11_layStrands_B6 at hf
    refine wa_iload_n (pc := 6) cx 1 dX11_layStrands_6 rfl rfl ?_
    refine wa_aload_n (pc := 7) cx 0 dX11_layStrands_7 rfl rfl ?_
    refine wa_getR (pc := 8) cx fl_X11_19 lk_38 rfl (cx.bl 38 rfl) dX11_layStrands_8 ?_
    refine wa_iconst (pc := 11) (v := 3) cx dX11_layStrands_11 (by decide) ?_
    obtain ⟨g3, hf⟩ := gd_some hf
    refine wa_iald (pc := 12) cx lk_42 (cx.bl 42 rfl) g3 dX11_layStrands_12 ?_
    refine wa_icmp_ge (pc := 13) cx 50 dX11_layStrands_13 rfl (fun c4 => ?_) (fun c4 => ?_)
    · have hf := (if_pos c4).symm.trans hf
      obtain rfl := Option.some.inj hf
      refine wa_forget [false, false] [none, none] rfl ?_
      exact hk1
    · have hf := (if_neg c4).symm.trans hf
      refine wa_aload_n (pc := 16) cx 0 dX11_layStrands_16 rfl rfl ?_
      refine wa_iload_n (pc := 17) cx 1 dX11_layStrands_17 rfl rfl ?_
      refine wa_iconst (pc := 18) (v := 3) cx dX11_layStrands_18 (by decide) ?_
      obtain ⟨q5, h6, hf⟩ := bd_some hf
      refine wa_callVi (pc := 19) cx [.int v1, .int 3] (ct_X11_of l E _ _ _ _ h6) mi_X11_of tw_1069 lk_38 rfl (cx.bl 38 rfl) rfl rfl (Nat.le_of_ble_eq_true rfl) ⟨Nat.le_of_ble_eq_true rfl, Nat.le_of_ble_eq_true rfl⟩ ⟨Nat.zero_le _, Nat.zero_le _⟩ dX11_layStrands_19 ?_
      refine wa_if_lt (pc := 22) cx 44 dX11_layStrands_22 rfl (fun c7 => ?_) (fun c7 => ?_)
      · have hf := (if_pos c7).symm.trans hf
        exact j44 _ _ _ hf hk1
      · have hf := (if_neg c7).symm.trans hf
        refine wa_aload_n (pc := 25) cx 0 dX11_layStrands_25 rfl rfl ?_
        refine wa_getR (pc := 26) cx fl_X11_31 lk_38 rfl (cx.bl 38 rfl) dX11_layStrands_26 ?_
        refine wa_aload_n (pc := 29) cx 0 dX11_layStrands_29 rfl rfl ?_
        refine wa_iload_n (pc := 30) cx 1 dX11_layStrands_30 rfl rfl ?_
        refine wa_iconst (pc := 31) (v := 3) cx dX11_layStrands_31 (by decide) ?_
        obtain ⟨q8, h9, hf⟩ := bd_some hf
        refine wa_callVi (pc := 32) cx [.int v1, .int 3] (ct_X11_of l E _ _ _ _ h9) mi_X11_of tw_1069 lk_38 rfl (cx.bl 38 rfl) rfl rfl (Nat.le_of_ble_eq_true rfl) ⟨Nat.le_of_ble_eq_true rfl, Nat.le_of_ble_eq_true rfl⟩ ⟨Nat.zero_le _, Nat.zero_le _⟩ dX11_layStrands_32 ?_
        refine wa_dup2 (pc := 35) cx dX11_layStrands_35 rfl rfl ?_
        obtain ⟨g10, hf⟩ := gd_some hf
        refine wa_iald (pc := 36) cx lk_46 (cx.bl 46 rfl) g10 dX11_layStrands_36 ?_
        refine wa_aload_n (pc := 37) cx 0 dX11_layStrands_37 rfl rfl ?_
        refine wa_iload_n (pc := 38) cx 1 dX11_layStrands_38 rfl rfl ?_
        obtain ⟨q11, h12, hf⟩ := bd_some hf
        refine wa_callVi (pc := 39) cx [.int v1] (ct_X11_strength l E _ _ _ h12) mi_X11_strength tw_1082 lk_38 rfl (cx.bl 38 rfl) rfl rfl (Nat.le_of_ble_eq_true rfl) ⟨Nat.le_of_ble_eq_true rfl, Nat.le_of_ble_eq_true rfl⟩ ⟨Nat.zero_le _, Nat.zero_le _⟩ dX11_layStrands_39 ?_
        refine wa_iadd (pc := 42) cx dX11_layStrands_42 ?_
        obtain ⟨g13, hf⟩ := gd_some hf
        refine wa_iast (pc := 43) cx lk_46 (cx.bl 46 rfl) g13 dX11_layStrands_43 ?_
        exact j44 _ _ _ hf hk1
  refine wa_aload_n (pc := 0) cx 0 dX11_layStrands_0 rfl rfl ?_
  obtain ⟨q1, h2, hf⟩ := bd_some hf
  refine wa_callVv (pc := 1) cx [] (ct_X11_noStrands l E _  _ h2) mi_X11_noStrands tw_1124 lk_38 rfl (cx.bl 38 rfl) rfl rfl (Nat.le_of_ble_eq_true rfl) ⟨Nat.le_of_ble_eq_true rfl, Nat.le_of_ble_eq_true rfl⟩ ⟨Nat.zero_le _, Nat.zero_le _⟩ dX11_layStrands_1 ?_
  refine wa_iconst (pc := 4) (v := 0) cx dX11_layStrands_4 (by decide) ?_
  refine wa_istore_n (pc := 5) cx 1 [some (.ref (eA E 38)), some (.int 0)] dX11_layStrands_5 rfl (by decide) rfl rfl ?_
  obtain ⟨o14, h15, hf⟩ := bd_some hf
  refine l6  _ _ h15 ?_
  obtain rfl := Option.some.inj hf
  exact wa_vret (pc := 50) cx dX11_layStrands_50
def fX11_weakest_J29 (v2 : Int32) (t0 : Int32) (σ : Sg) : Option ((Int32 × Int32) ⊕ (Int32)) :=
  some (.inl (t0, (v2 + 1)))
def fX11_weakest_B4  (v1 : Int32) (v2 : Int32) (σ : Sg) : Option ((Int32 × Int32) ⊕ (Int32)) :=
  if (3 : Int32) ≤ v2 then (some (.inr v1)) else (gd (inb v2 3) (
  gd (inb v1 3) (
  if ga σ 46 v1 ≤ ga σ 46 v2 then (fX11_weakest_J29 v2 v1 σ) else (fX11_weakest_J29 v2 v2 σ))))
def fX11_weakest  (σ : Sg) : Option (Int32) :=
  (lpO (fun w => fX11_weakest_B4  w.1 w.2 σ) FUEL (0, 1)).bind (fun o5 =>
  some o5)
set_option maxHeartbeats 4000000 in
set_option maxRecDepth 100000 in
theorem ct_X11_weakest (l : Launch) (E : En) (σ : Sg)  (q : Int32) (hf : fX11_weakest  σ = some q) : CT l yX11_weakest cX11_weakest 3 (some .int) 0 E σ [.ref (eA E 38)] (some (.int q)) σ := by
  refine CT.of RX11 [some (.ref (eA E 38)), none, none] rfl (by decide +kernel) (Nat.le_of_ble_eq_true rfl) rfl ?_
  intro p e s m args below meth c cx
  unfold fX11_weakest at hf
  have l4 : ∀  (σ : Sg) (y : Int32 × Int32) (o : Int32), lpO (fun w => fX11_weakest_B4  w.1 w.2 σ) FUEL y = some o → (WA p l e (rmd 0) s m args below meth c 3 E 0 0 (MQ below (Qcq E s.heap.size (some (.int q)) σ) args s 0 0 (AE E s.heap.size)) 36 [none, some (.int o), none] [] σ) → WA p l e (rmd 0) s m args below meth c 3 E 0 0 (MQ below (Qcq E s.heap.size (some (.int q)) σ) args s 0 0 (AE E s.heap.size)) 4 [some (.ref (eA E 38)), some (.int y.1), some (.int y.2)] [] σ := by
    intro  σ y o hf hk
    refine lp_rule (P := fun y => WA p l e (rmd 0) s m args below meth c 3 E 0 0 (MQ below (Qcq E s.heap.size (some (.int q)) σ) args s 0 0 (AE E s.heap.size)) 4 [some (.ref (eA E 38)), some (.int y.1), some (.int y.2)] [] σ) (K := fun o => WA p l e (rmd 0) s m args below meth c 3 E 0 0 (MQ below (Qcq E s.heap.size (some (.int q)) σ) args s 0 0 (AE E s.heap.size)) 36 [none, some (.int o), none] [] σ) ?_ FUEL y o hf hk
    have j29 : ∀ (v2 : Int32) (t0 : Int32) (σ : Sg) (r1 : (Int32 × Int32) ⊕ (Int32)), fX11_weakest_J29 v2 t0 σ = some r1 → (sel (fun y1 => WA p l e (rmd 0) s m args below meth c 3 E 0 0 (MQ below (Qcq E s.heap.size (some (.int q)) σ) args s 0 0 (AE E s.heap.size)) 4 [some (.ref (eA E 38)), some (.int y1.1), some (.int y1.2)] [] σ) (fun y1 => WA p l e (rmd 0) s m args below meth c 3 E 0 0 (MQ below (Qcq E s.heap.size (some (.int q)) σ) args s 0 0 (AE E s.heap.size)) 36 [none, some (.int y1), none] [] σ) r1) → WA p l e (rmd 0) s m args below meth c 3 E 0 0 (MQ below (Qcq E s.heap.size (some (.int q)) σ) args s 0 0 (AE E s.heap.size)) 29 [some (.ref (eA E 38)), none, some (.int v2)] [.int t0] σ := by
      intro v2 t0 σ r1 hf hk1
      unfold fX11_weakest_J29 at hf
      refine wa_istore_n (pc := 29) cx 1 [some (.ref (eA E 38)), some (.int t0), some (.int v2)] dX11_weakest_29 rfl (by decide) rfl rfl ?_
      refine wa_iinc (pc := 30) (v := 1) cx 2 [some (.ref (eA E 38)), some (.int t0), some (.int (v2 + 1))] dX11_weakest_30 (by decide) rfl (by decide) rfl rfl ?_
      refine wa_goto (pc := 33) cx 4 dX11_weakest_33 rfl ?_
      obtain rfl := Option.some.inj hf
      refine wa_forget [true, true, true] [some (.ref (eA E 38)), some (.int t0), some (.int (v2 + 1))] rfl ?_
      exact hk1
    intro y0 r1 hf hk1
    obtain ⟨v1, v2⟩ := y0
    have hf : fX11_weakest_B4  v1 v2 σ = some r1 := hf
    unfold fX11_weakest_B4 at hf
    refine wa_iload_n (pc := 4) cx 2 dX11_weakest_4 rfl rfl ?_
    refine wa_iconst (pc := 5) (v := 3) cx dX11_weakest_5 (by decide) ?_
    refine wa_icmp_ge (pc := 6) cx 36 dX11_weakest_6 rfl (fun c1 => ?_) (fun c1 => ?_)
    · have hf := (if_pos c1).symm.trans hf
      obtain rfl := Option.some.inj hf
      refine wa_forget [false, true, false] [none, some (.int v1), none] rfl ?_
      exact hk1
    · have hf := (if_neg c1).symm.trans hf
      refine wa_aload_n (pc := 9) cx 0 dX11_weakest_9 rfl rfl ?_
      refine wa_getR (pc := 10) cx fl_X11_31 lk_38 rfl (cx.bl 38 rfl) dX11_weakest_10 ?_
      refine wa_iload_n (pc := 13) cx 2 dX11_weakest_13 rfl rfl ?_
      obtain ⟨g2, hf⟩ := gd_some hf
      refine wa_iald (pc := 14) cx lk_46 (cx.bl 46 rfl) g2 dX11_weakest_14 ?_
      refine wa_aload_n (pc := 15) cx 0 dX11_weakest_15 rfl rfl ?_
      refine wa_getR (pc := 16) cx fl_X11_31 lk_38 rfl (cx.bl 38 rfl) dX11_weakest_16 ?_
      refine wa_iload_n (pc := 19) cx 1 dX11_weakest_19 rfl rfl ?_
      obtain ⟨g3, hf⟩ := gd_some hf
      refine wa_iald (pc := 20) cx lk_46 (cx.bl 46 rfl) g3 dX11_weakest_20 ?_
      refine wa_icmp_ge (pc := 21) cx 28 dX11_weakest_21 rfl (fun c4 => ?_) (fun c4 => ?_)
      · have hf := (if_pos c4).symm.trans hf
        refine wa_iload_n (pc := 28) cx 1 dX11_weakest_28 rfl rfl ?_
        refine wa_forget [true, false, true] [some (.ref (eA E 38)), none, some (.int v2)] rfl ?_
        exact j29 _ _ _ _ hf hk1
      · have hf := (if_neg c4).symm.trans hf
        refine wa_iload_n (pc := 24) cx 2 dX11_weakest_24 rfl rfl ?_
        refine wa_goto (pc := 25) cx 29 dX11_weakest_25 rfl ?_
        refine wa_forget [true, false, true] [some (.ref (eA E 38)), none, some (.int v2)] rfl ?_
        exact j29 _ _ _ _ hf hk1
  refine wa_iconst (pc := 0) (v := 0) cx dX11_weakest_0 (by decide) ?_
  refine wa_istore_n (pc := 1) cx 1 [some (.ref (eA E 38)), some (.int 0), none] dX11_weakest_1 rfl (by decide) rfl rfl ?_
  refine wa_iconst (pc := 2) (v := 1) cx dX11_weakest_2 (by decide) ?_
  refine wa_istore_n (pc := 3) cx 2 [some (.ref (eA E 38)), some (.int 0), some (.int 1)] dX11_weakest_3 rfl (by decide) rfl rfl ?_
  obtain ⟨o5, h6, hf⟩ := bd_some hf
  refine l4  _ _ _ h6 ?_
  refine wa_iload_n (pc := 36) cx 1 dX11_weakest_36 rfl rfl ?_
  obtain rfl := Option.some.inj hf
  exact wa_iret (pc := 37) cx dX11_weakest_37
def fX11_ropeBears  (σ : Sg) : Option (Int32) :=
  (fX11_weakest  σ).bind (fun q1 =>
  gd (inb q1 3) (
  some (3 * ga σ 46 q1)))
set_option maxHeartbeats 4000000 in
set_option maxRecDepth 100000 in
theorem ct_X11_ropeBears (l : Launch) (E : En) (σ : Sg)  (q : Int32) (hf : fX11_ropeBears  σ = some q) : CT l yX11_ropeBears cX11_ropeBears 1 (some .int) 1 E σ [.ref (eA E 38)] (some (.int q)) σ := by
  refine CT.of RX11 [some (.ref (eA E 38))] rfl (by decide +kernel) (Nat.le_of_ble_eq_true rfl) rfl ?_
  intro p e s m args below meth c cx
  unfold fX11_ropeBears at hf
  refine wa_iconst (pc := 0) (v := 3) cx dX11_ropeBears_0 (by decide) ?_
  refine wa_aload_n (pc := 1) cx 0 dX11_ropeBears_1 rfl rfl ?_
  refine wa_getR (pc := 2) cx fl_X11_31 lk_38 rfl (cx.bl 38 rfl) dX11_ropeBears_2 ?_
  refine wa_aload_n (pc := 5) cx 0 dX11_ropeBears_5 rfl rfl ?_
  obtain ⟨q1, h2, hf⟩ := bd_some hf
  refine wa_callVi (pc := 6) cx [] (ct_X11_weakest l E _  _ h2) mi_X11_weakest tw_1128 lk_38 rfl (cx.bl 38 rfl) rfl rfl (Nat.le_of_ble_eq_true rfl) ⟨Nat.le_of_ble_eq_true rfl, Nat.le_of_ble_eq_true rfl⟩ ⟨Nat.zero_le _, Nat.zero_le _⟩ dX11_ropeBears_6 ?_
  obtain ⟨g3, hf⟩ := gd_some hf
  refine wa_iald (pc := 9) cx lk_46 (cx.bl 46 rfl) g3 dX11_ropeBears_9 ?_
  refine wa_imul (pc := 10) cx dX11_ropeBears_10 ?_
  obtain rfl := Option.some.inj hf
  exact wa_iret (pc := 11) cx dX11_ropeBears_11
def fX11_pull_J29  (σ : Sg) : Option (Int32 × Sg) :=
  some ((-1000001), σ)
def fX11_pull_J161 (v4 : Int32) (v5 : Int32) (v6 : Int32) (σ : Sg) : Option ((Int32 × Sg) ⊕ (Sg)) :=
  some (.inl ((v6 + 1), σ))
def fX11_pull_J135 (v4 : Int32) (v5 : Int32) (v6 : Int32) (v7 : Int32) (σ : Sg) : Option ((Int32 × Sg) ⊕ (Sg)) :=
  if v5 = 0 then (if v7 < 0 then (fX11_pull_J161 v4 v5 v6 σ) else ((fX11_of v6 5 σ).bind (fun q26 =>
  (fX11_becomes v6 5 (q26 + 1) σ).bind (fun q28 =>
  fX11_pull_J161 v4 v5 v6 q28)))) else (fX11_pull_J161 v4 v5 v6 σ)
def fX11_pull_B79 (v4 : Int32) (v5 : Int32) (v6 : Int32) (σ : Sg) : Option ((Int32 × Sg) ⊕ (Sg)) :=
  gd (inb 3 77) (
  if ga σ 42 3 ≤ v6 then (some (.inr σ)) else ((fX11_of v6 3 σ).bind (fun q21 =>
  if v5 = 0 then (fX11_pull_J135 v4 v5 v6 q21 σ) else (if q21 = v4 then ((fX11_becomes v6 3 (-1) σ).bind (fun q31 =>
  (fX11_of v6 5 q31).bind (fun q33 =>
  (fX11_becomes v6 5 (q33 + 5) q31).bind (fun q35 =>
  fX11_pull_J135 v4 v5 v6 q21 q35)))) else (fX11_pull_J135 v4 v5 v6 q21 σ)))))
def fX11_pull_J74 (v4 : Int32) (t0 : Int32) (σ : Sg) : Option (Int32 × Sg) :=
  (lpO (fun w => fX11_pull_B79 v4 t0 w.1 w.2) FUEL (0, σ)).bind (fun o37 =>
  if t0 = 0 then (some ((-1000000), o37)) else (some (v4, o37)))
def fX11_pull (a1 : Int32) (a2 : Int32) (σ : Sg) : Option (Int32 × Sg) :=
  if gf (sup σ 38 0 0) 38 7 = 0 then (some ((-1000002), sup σ 38 0 0)) else ((fX11_isLoad a1 (sup σ 38 0 0)).bind (fun q2 =>
  if q2 = 0 then (fX11_pull_J29  (sup σ 38 0 0)) else ((fX11_isSeed a2 (sup σ 38 0 0)).bind (fun q5 =>
  if q5 = 0 then (fX11_pull_J29  (sup σ 38 0 0)) else ((fX11_keep  (sup σ 38 0 0)).bind (fun q8 =>
  (fX11_draw 10 (slg q8 ((a2).toInt64))).bind (fun q10 =>
  (fX11_layStrands  q10.2).bind (fun q12 =>
  (fX11_weakest  q12).bind (fun q14 =>
  (fX11_ropeBears  q12).bind (fun q16 =>
  if (a1 + q10.1) ≤ q16 then (fX11_pull_J74 q14 0 q12) else (fX11_pull_J74 q14 1 q12)))))))))))
set_option maxHeartbeats 4000000 in
set_option maxRecDepth 100000 in
theorem ct_X11_pull (l : Launch) (E : En) (σ : Sg) (a1 : Int32) (a2 : Int32) (q : Int32 × Sg) (hf : fX11_pull a1 a2 σ = some q) : CT l yX11_pull cX11_pull 8 (some .int) 5 E σ [.ref (eA E 38), .int a1, .int a2] (some (.int q.1)) q.2 := by
  refine CT.of RX11 [some (.ref (eA E 38)), some (.int a1), some (.int a2), none, none, none, none, none] rfl (by decide +kernel) (Nat.le_of_ble_eq_true rfl) rfl ?_
  intro p e s m args below meth c cx
  unfold fX11_pull at hf
  have j29 : ∀  (σ : Sg), fX11_pull_J29  σ = some q → WA p l e (rmd 5) s m args below meth c 8 E 0 0 (MQ below (Qcq E s.heap.size (some (.int q.1)) q.2) args s 0 0 (AE E s.heap.size)) 29 [none, none, none, none, none, none, none, none] [] σ := by
    intro  σ hf
    unfold fX11_pull_J29 at hf
    refine wa_ldc (pc := 29) (v := (-1000001)) cx dX11_pull_29 tw_956 ?_
    obtain rfl := Option.some.inj hf
    exact wa_iret (pc := 31) cx dX11_pull_31
  have l79 : ∀ (v4 : Int32) (v5 : Int32) (y : Int32 × Sg) (o : Sg), lpO (fun w => fX11_pull_B79 v4 v5 w.1 w.2) FUEL y = some o → (WA p l e (rmd 5) s m args below meth c 8 E 0 0 (MQ below (Qcq E s.heap.size (some (.int q.1)) q.2) args s 0 0 (AE E s.heap.size)) 167 [none, none, none, none, some (.int v4), some (.int v5), none, none] [] o) → WA p l e (rmd 5) s m args below meth c 8 E 0 0 (MQ below (Qcq E s.heap.size (some (.int q.1)) q.2) args s 0 0 (AE E s.heap.size)) 79 [some (.ref (eA E 38)), none, none, none, some (.int v4), some (.int v5), some (.int y.1), none] [] y.2 := by
    intro v4 v5 y o hf hk
    refine lp_rule (P := fun y => WA p l e (rmd 5) s m args below meth c 8 E 0 0 (MQ below (Qcq E s.heap.size (some (.int q.1)) q.2) args s 0 0 (AE E s.heap.size)) 79 [some (.ref (eA E 38)), none, none, none, some (.int v4), some (.int v5), some (.int y.1), none] [] y.2) (K := fun o => WA p l e (rmd 5) s m args below meth c 8 E 0 0 (MQ below (Qcq E s.heap.size (some (.int q.1)) q.2) args s 0 0 (AE E s.heap.size)) 167 [none, none, none, none, some (.int v4), some (.int v5), none, none] [] o) ?_ FUEL y o hf hk
    have j161 : ∀ (v4 : Int32) (v5 : Int32) (v6 : Int32) (σ : Sg) (r1 : (Int32 × Sg) ⊕ (Sg)), fX11_pull_J161 v4 v5 v6 σ = some r1 → (sel (fun y1 => WA p l e (rmd 5) s m args below meth c 8 E 0 0 (MQ below (Qcq E s.heap.size (some (.int q.1)) q.2) args s 0 0 (AE E s.heap.size)) 79 [some (.ref (eA E 38)), none, none, none, some (.int v4), some (.int v5), some (.int y1.1), none] [] y1.2) (fun y1 => WA p l e (rmd 5) s m args below meth c 8 E 0 0 (MQ below (Qcq E s.heap.size (some (.int q.1)) q.2) args s 0 0 (AE E s.heap.size)) 167 [none, none, none, none, some (.int v4), some (.int v5), none, none] [] y1) r1) → WA p l e (rmd 5) s m args below meth c 8 E 0 0 (MQ below (Qcq E s.heap.size (some (.int q.1)) q.2) args s 0 0 (AE E s.heap.size)) 161 [some (.ref (eA E 38)), none, none, none, some (.int v4), some (.int v5), some (.int v6), none] [] σ := by
      intro v4 v5 v6 σ r1 hf hk1
      unfold fX11_pull_J161 at hf
      refine wa_iinc (pc := 161) (v := 1) cx 6 [some (.ref (eA E 38)), none, none, none, some (.int v4), some (.int v5), some (.int (v6 + 1)), none] dX11_pull_161 (by decide) rfl (by decide) rfl rfl ?_
      refine wa_goto (pc := 164) cx 79 dX11_pull_164 rfl ?_
      obtain rfl := Option.some.inj hf
      refine wa_forget [true, false, false, false, true, true, true, false] [some (.ref (eA E 38)), none, none, none, some (.int v4), some (.int v5), some (.int (v6 + 1)), none] rfl ?_
      exact hk1
    have j135 : ∀ (v4 : Int32) (v5 : Int32) (v6 : Int32) (v7 : Int32) (σ : Sg) (r1 : (Int32 × Sg) ⊕ (Sg)), fX11_pull_J135 v4 v5 v6 v7 σ = some r1 → (sel (fun y1 => WA p l e (rmd 5) s m args below meth c 8 E 0 0 (MQ below (Qcq E s.heap.size (some (.int q.1)) q.2) args s 0 0 (AE E s.heap.size)) 79 [some (.ref (eA E 38)), none, none, none, some (.int v4), some (.int v5), some (.int y1.1), none] [] y1.2) (fun y1 => WA p l e (rmd 5) s m args below meth c 8 E 0 0 (MQ below (Qcq E s.heap.size (some (.int q.1)) q.2) args s 0 0 (AE E s.heap.size)) 167 [none, none, none, none, some (.int v4), some (.int v5), none, none] [] y1) r1) → WA p l e (rmd 5) s m args below meth c 8 E 0 0 (MQ below (Qcq E s.heap.size (some (.int q.1)) q.2) args s 0 0 (AE E s.heap.size)) 135 [some (.ref (eA E 38)), none, none, none, some (.int v4), some (.int v5), some (.int v6), some (.int v7)] [] σ := by
      intro v4 v5 v6 v7 σ r1 hf hk1
      unfold fX11_pull_J135 at hf
      refine wa_iload (pc := 135) cx 5 dX11_pull_135 rfl ?_
      refine wa_if_ne (pc := 137) cx 161 dX11_pull_137 rfl (fun c24 => ?_) (fun c24 => ?_)
      · have hf := (if_neg c24).symm.trans hf
        refine wa_forget [true, false, false, false, true, true, true, false] [some (.ref (eA E 38)), none, none, none, some (.int v4), some (.int v5), some (.int v6), none] rfl ?_
        exact j161 _ _ _ _ _ hf hk1
      · have hf := (if_pos c24).symm.trans hf
        refine wa_iload (pc := 140) cx 7 dX11_pull_140 rfl ?_
        refine wa_if_lt (pc := 142) cx 161 dX11_pull_142 rfl (fun c25 => ?_) (fun c25 => ?_)
        · have hf := (if_pos c25).symm.trans hf
          refine wa_forget [true, false, false, false, true, true, true, false] [some (.ref (eA E 38)), none, none, none, some (.int v4), some (.int v5), some (.int v6), none] rfl ?_
          exact j161 _ _ _ _ _ hf hk1
        · have hf := (if_neg c25).symm.trans hf
          refine wa_aload_n (pc := 145) cx 0 dX11_pull_145 rfl rfl ?_
          refine wa_iload (pc := 146) cx 6 dX11_pull_146 rfl ?_
          refine wa_iconst (pc := 148) (v := 5) cx dX11_pull_148 (by decide) ?_
          refine wa_aload_n (pc := 149) cx 0 dX11_pull_149 rfl rfl ?_
          refine wa_iload (pc := 150) cx 6 dX11_pull_150 rfl ?_
          refine wa_iconst (pc := 152) (v := 5) cx dX11_pull_152 (by decide) ?_
          obtain ⟨q26, h27, hf⟩ := bd_some hf
          refine wa_callVi (pc := 153) cx [.int v6, .int 5] (ct_X11_of l E _ _ _ _ h27) mi_X11_of tw_1069 lk_38 rfl (cx.bl 38 rfl) rfl rfl (Nat.le_of_ble_eq_true rfl) ⟨Nat.le_of_ble_eq_true rfl, Nat.le_of_ble_eq_true rfl⟩ ⟨Nat.zero_le _, Nat.zero_le _⟩ dX11_pull_153 ?_
          refine wa_iconst (pc := 156) (v := 1) cx dX11_pull_156 (by decide) ?_
          refine wa_iadd (pc := 157) cx dX11_pull_157 ?_
          obtain ⟨q28, h29, hf⟩ := bd_some hf
          refine wa_callVv (pc := 158) cx [.int v6, .int 5, .int (q26 + 1)] (ct_X11_becomes l E _ _ _ _ _ h29) mi_X11_becomes tw_1073 lk_38 rfl (cx.bl 38 rfl) rfl rfl (Nat.le_of_ble_eq_true rfl) ⟨Nat.le_of_ble_eq_true rfl, Nat.le_of_ble_eq_true rfl⟩ ⟨Nat.zero_le _, Nat.zero_le _⟩ dX11_pull_158 ?_
          refine wa_forget [true, false, false, false, true, true, true, false] [some (.ref (eA E 38)), none, none, none, some (.int v4), some (.int v5), some (.int v6), none] rfl ?_
          exact j161 _ _ _ _ _ hf hk1
    intro y0 r1 hf hk1
    obtain ⟨v6, σ⟩ := y0
    have hf : fX11_pull_B79 v4 v5 v6 σ = some r1 := hf
    unfold fX11_pull_B79 at hf
    refine wa_iload (pc := 79) cx 6 dX11_pull_79 rfl ?_
    refine wa_aload_n (pc := 81) cx 0 dX11_pull_81 rfl rfl ?_
    refine wa_getR (pc := 82) cx fl_X11_19 lk_38 rfl (cx.bl 38 rfl) dX11_pull_82 ?_
    refine wa_iconst (pc := 85) (v := 3) cx dX11_pull_85 (by decide) ?_
    obtain ⟨g19, hf⟩ := gd_some hf
    refine wa_iald (pc := 86) cx lk_42 (cx.bl 42 rfl) g19 dX11_pull_86 ?_
    refine wa_icmp_ge (pc := 87) cx 167 dX11_pull_87 rfl (fun c20 => ?_) (fun c20 => ?_)
    · have hf := (if_pos c20).symm.trans hf
      obtain rfl := Option.some.inj hf
      refine wa_forget [false, false, false, false, true, true, false, false] [none, none, none, none, some (.int v4), some (.int v5), none, none] rfl ?_
      exact hk1
    · have hf := (if_neg c20).symm.trans hf
      refine wa_aload_n (pc := 90) cx 0 dX11_pull_90 rfl rfl ?_
      refine wa_iload (pc := 91) cx 6 dX11_pull_91 rfl ?_
      refine wa_iconst (pc := 93) (v := 3) cx dX11_pull_93 (by decide) ?_
      obtain ⟨q21, h22, hf⟩ := bd_some hf
      refine wa_callVi (pc := 94) cx [.int v6, .int 3] (ct_X11_of l E _ _ _ _ h22) mi_X11_of tw_1069 lk_38 rfl (cx.bl 38 rfl) rfl rfl (Nat.le_of_ble_eq_true rfl) ⟨Nat.le_of_ble_eq_true rfl, Nat.le_of_ble_eq_true rfl⟩ ⟨Nat.zero_le _, Nat.zero_le _⟩ dX11_pull_94 ?_
      refine wa_istore (pc := 97) cx 7 [some (.ref (eA E 38)), none, none, none, some (.int v4), some (.int v5), some (.int v6), some (.int q21)] dX11_pull_97 (by decide) rfl rfl ?_
      refine wa_iload (pc := 99) cx 5 dX11_pull_99 rfl ?_
      refine wa_if_eq (pc := 101) cx 135 dX11_pull_101 rfl (fun c23 => ?_) (fun c23 => ?_)
      · have hf := (if_pos c23).symm.trans hf
        exact j135 _ _ _ _ _ _ hf hk1
      · have hf := (if_neg c23).symm.trans hf
        refine wa_iload (pc := 104) cx 7 dX11_pull_104 rfl ?_
        refine wa_iload (pc := 106) cx 4 dX11_pull_106 rfl ?_
        refine wa_icmp_ne (pc := 108) cx 135 dX11_pull_108 rfl (fun c30 => ?_) (fun c30 => ?_)
        · have hf := (if_neg c30).symm.trans hf
          exact j135 _ _ _ _ _ _ hf hk1
        · have hf := (if_pos c30).symm.trans hf
          refine wa_aload_n (pc := 111) cx 0 dX11_pull_111 rfl rfl ?_
          refine wa_iload (pc := 112) cx 6 dX11_pull_112 rfl ?_
          refine wa_iconst (pc := 114) (v := 3) cx dX11_pull_114 (by decide) ?_
          refine wa_iconst (pc := 115) (v := (-1)) cx dX11_pull_115 (by decide) ?_
          obtain ⟨q31, h32, hf⟩ := bd_some hf
          refine wa_callVv (pc := 116) cx [.int v6, .int 3, .int (-1)] (ct_X11_becomes l E _ _ _ _ _ h32) mi_X11_becomes tw_1073 lk_38 rfl (cx.bl 38 rfl) rfl rfl (Nat.le_of_ble_eq_true rfl) ⟨Nat.le_of_ble_eq_true rfl, Nat.le_of_ble_eq_true rfl⟩ ⟨Nat.zero_le _, Nat.zero_le _⟩ dX11_pull_116 ?_
          refine wa_aload_n (pc := 119) cx 0 dX11_pull_119 rfl rfl ?_
          refine wa_iload (pc := 120) cx 6 dX11_pull_120 rfl ?_
          refine wa_iconst (pc := 122) (v := 5) cx dX11_pull_122 (by decide) ?_
          refine wa_aload_n (pc := 123) cx 0 dX11_pull_123 rfl rfl ?_
          refine wa_iload (pc := 124) cx 6 dX11_pull_124 rfl ?_
          refine wa_iconst (pc := 126) (v := 5) cx dX11_pull_126 (by decide) ?_
          obtain ⟨q33, h34, hf⟩ := bd_some hf
          refine wa_callVi (pc := 127) cx [.int v6, .int 5] (ct_X11_of l E _ _ _ _ h34) mi_X11_of tw_1069 lk_38 rfl (cx.bl 38 rfl) rfl rfl (Nat.le_of_ble_eq_true rfl) ⟨Nat.le_of_ble_eq_true rfl, Nat.le_of_ble_eq_true rfl⟩ ⟨Nat.zero_le _, Nat.zero_le _⟩ dX11_pull_127 ?_
          refine wa_iconst (pc := 130) (v := 5) cx dX11_pull_130 (by decide) ?_
          refine wa_iadd (pc := 131) cx dX11_pull_131 ?_
          obtain ⟨q35, h36, hf⟩ := bd_some hf
          refine wa_callVv (pc := 132) cx [.int v6, .int 5, .int (q33 + 5)] (ct_X11_becomes l E _ _ _ _ _ h36) mi_X11_becomes tw_1073 lk_38 rfl (cx.bl 38 rfl) rfl rfl (Nat.le_of_ble_eq_true rfl) ⟨Nat.le_of_ble_eq_true rfl, Nat.le_of_ble_eq_true rfl⟩ ⟨Nat.zero_le _, Nat.zero_le _⟩ dX11_pull_132 ?_
          exact j135 _ _ _ _ _ _ hf hk1
  have j74 : ∀ (v4 : Int32) (t0 : Int32) (σ : Sg), fX11_pull_J74 v4 t0 σ = some q → WA p l e (rmd 5) s m args below meth c 8 E 0 0 (MQ below (Qcq E s.heap.size (some (.int q.1)) q.2) args s 0 0 (AE E s.heap.size)) 74 [some (.ref (eA E 38)), none, none, none, some (.int v4), none, none, none] [.int t0] σ := by
    intro v4 t0 σ hf
    unfold fX11_pull_J74 at hf
    refine wa_istore (pc := 74) cx 5 [some (.ref (eA E 38)), none, none, none, some (.int v4), some (.int t0), none, none] dX11_pull_74 (by decide) rfl rfl ?_
    refine wa_iconst (pc := 76) (v := 0) cx dX11_pull_76 (by decide) ?_
    refine wa_istore (pc := 77) cx 6 [some (.ref (eA E 38)), none, none, none, some (.int v4), some (.int t0), some (.int 0), none] dX11_pull_77 (by decide) rfl rfl ?_
    obtain ⟨o37, h39, hf⟩ := bd_some hf
    refine l79 _ _ _ _ h39 ?_
    refine wa_iload (pc := 167) cx 5 dX11_pull_167 rfl ?_
    refine wa_if_eq (pc := 169) cx 177 dX11_pull_169 rfl (fun c38 => ?_) (fun c38 => ?_)
    · have hf := (if_pos c38).symm.trans hf
      refine wa_ldc (pc := 177) (v := (-1000000)) cx dX11_pull_177 tw_997 ?_
      obtain rfl := Option.some.inj hf
      exact wa_iret (pc := 179) cx dX11_pull_179
    · have hf := (if_neg c38).symm.trans hf
      refine wa_iload (pc := 172) cx 4 dX11_pull_172 rfl ?_
      refine wa_goto (pc := 174) cx 179 dX11_pull_174 rfl ?_
      obtain rfl := Option.some.inj hf
      exact wa_iret (pc := 179) cx dX11_pull_179
  refine wa_aload_n (pc := 0) cx 0 dX11_pull_0 rfl rfl ?_
  refine wa_iconst (pc := 1) (v := 0) cx dX11_pull_1 (by decide) ?_
  refine wa_putI (pc := 2) cx fp_X11_50 lk_38 rfl (cx.bl 38 rfl) dX11_pull_2 ?_
  refine wa_aload_n (pc := 5) cx 0 dX11_pull_5 rfl rfl ?_
  refine wa_getI (pc := 6) cx fl_X11_177 lk_38 rfl (cx.bl 38 rfl) dX11_pull_6 ?_
  refine wa_if_ne (pc := 9) cx 15 dX11_pull_9 rfl (fun c1 => ?_) (fun c1 => ?_)
  · have hf := (if_neg c1).symm.trans hf
    refine wa_iload_n (pc := 15) cx 1 dX11_pull_15 rfl rfl ?_
    obtain ⟨q2, h3, hf⟩ := bd_some hf
    refine wa_callSi (pc := 16) cx [.int a1] (ct_X11_isLoad l E _ _ _ h3) ms_X11_isLoad tw_1106 rfl rfl (Nat.le_of_ble_eq_true rfl) ⟨Nat.le_of_ble_eq_true rfl, Nat.le_of_ble_eq_true rfl⟩ ⟨Nat.zero_le _, Nat.zero_le _⟩ dX11_pull_16 ?_
    refine wa_if_eq (pc := 19) cx 29 dX11_pull_19 rfl (fun c4 => ?_) (fun c4 => ?_)
    · have hf := (if_pos c4).symm.trans hf
      refine wa_forget [false, false, false, false, false, false, false, false] [none, none, none, none, none, none, none, none] rfl ?_
      exact j29  _ hf
    · have hf := (if_neg c4).symm.trans hf
      refine wa_iload_n (pc := 22) cx 2 dX11_pull_22 rfl rfl ?_
      obtain ⟨q5, h6, hf⟩ := bd_some hf
      refine wa_callSi (pc := 23) cx [.int a2] (ct_X11_isSeed l E _ _ _ h6) ms_X11_isSeed tw_1110 rfl rfl (Nat.le_of_ble_eq_true rfl) ⟨Nat.le_of_ble_eq_true rfl, Nat.le_of_ble_eq_true rfl⟩ ⟨Nat.zero_le _, Nat.zero_le _⟩ dX11_pull_23 ?_
      refine wa_if_ne (pc := 26) cx 32 dX11_pull_26 rfl (fun c7 => ?_) (fun c7 => ?_)
      · have hf := (if_neg c7).symm.trans hf
        refine wa_aload_n (pc := 32) cx 0 dX11_pull_32 rfl rfl ?_
        obtain ⟨q8, h9, hf⟩ := bd_some hf
        refine wa_callVv (pc := 33) cx [] (ct_X11_keep l E _  _ h9) mi_X11_keep tw_1065 lk_38 rfl (cx.bl 38 rfl) rfl rfl (Nat.le_of_ble_eq_true rfl) ⟨Nat.le_of_ble_eq_true rfl, Nat.le_of_ble_eq_true rfl⟩ ⟨Nat.zero_le _, Nat.zero_le _⟩ dX11_pull_33 ?_
        refine wa_aload_n (pc := 36) cx 0 dX11_pull_36 rfl rfl ?_
        refine wa_iload_n (pc := 37) cx 2 dX11_pull_37 rfl rfl ?_
        refine wa_i2l (pc := 38) cx dX11_pull_38 ?_
        refine wa_putL (pc := 39) cx fp_X11_219 lk_38 rfl (cx.bl 38 rfl) only_long rfl dX11_pull_39 ?_
        refine wa_iload_n (pc := 42) cx 1 dX11_pull_42 rfl rfl ?_
        refine wa_aload_n (pc := 43) cx 0 dX11_pull_43 rfl rfl ?_
        refine wa_bipush (pc := 44) (v := 10) cx dX11_pull_44 (by decide) ?_
        obtain ⟨q10, h11, hf⟩ := bd_some hf
        refine wa_callVi (pc := 46) cx [.int 10] (ct_X11_draw l E _ _ _ h11) mi_X11_draw tw_1114 lk_38 rfl (cx.bl 38 rfl) rfl rfl (Nat.le_of_ble_eq_true rfl) ⟨Nat.le_of_ble_eq_true rfl, Nat.le_of_ble_eq_true rfl⟩ ⟨Nat.zero_le _, Nat.zero_le _⟩ dX11_pull_46 ?_
        refine wa_iadd (pc := 49) cx dX11_pull_49 ?_
        refine wa_istore_n (pc := 50) cx 3 [some (.ref (eA E 38)), some (.int a1), some (.int a2), some (.int (a1 + q10.1)), none, none, none, none] dX11_pull_50 rfl (by decide) rfl rfl ?_
        refine wa_aload_n (pc := 51) cx 0 dX11_pull_51 rfl rfl ?_
        obtain ⟨q12, h13, hf⟩ := bd_some hf
        refine wa_callVv (pc := 52) cx [] (ct_X11_layStrands l E _  _ h13) mi_X11_layStrands tw_1120 lk_38 rfl (cx.bl 38 rfl) rfl rfl (Nat.le_of_ble_eq_true rfl) ⟨Nat.le_of_ble_eq_true rfl, Nat.le_of_ble_eq_true rfl⟩ ⟨Nat.zero_le _, Nat.zero_le _⟩ dX11_pull_52 ?_
        refine wa_aload_n (pc := 55) cx 0 dX11_pull_55 rfl rfl ?_
        obtain ⟨q14, h15, hf⟩ := bd_some hf
        refine wa_callVi (pc := 56) cx [] (ct_X11_weakest l E _  _ h15) mi_X11_weakest tw_1128 lk_38 rfl (cx.bl 38 rfl) rfl rfl (Nat.le_of_ble_eq_true rfl) ⟨Nat.le_of_ble_eq_true rfl, Nat.le_of_ble_eq_true rfl⟩ ⟨Nat.zero_le _, Nat.zero_le _⟩ dX11_pull_56 ?_
        refine wa_istore (pc := 59) cx 4 [some (.ref (eA E 38)), some (.int a1), some (.int a2), some (.int (a1 + q10.1)), some (.int q14), none, none, none] dX11_pull_59 (by decide) rfl rfl ?_
        refine wa_iload_n (pc := 61) cx 3 dX11_pull_61 rfl rfl ?_
        refine wa_aload_n (pc := 62) cx 0 dX11_pull_62 rfl rfl ?_
        obtain ⟨q16, h17, hf⟩ := bd_some hf
        refine wa_callVi (pc := 63) cx [] (ct_X11_ropeBears l E _  _ h17) mi_X11_ropeBears tw_1132 lk_38 rfl (cx.bl 38 rfl) rfl rfl (Nat.le_of_ble_eq_true rfl) ⟨Nat.le_of_ble_eq_true rfl, Nat.le_of_ble_eq_true rfl⟩ ⟨Nat.zero_le _, Nat.zero_le _⟩ dX11_pull_63 ?_
        refine wa_icmp_le (pc := 66) cx 73 dX11_pull_66 rfl (fun c18 => ?_) (fun c18 => ?_)
        · have hf := (if_pos c18).symm.trans hf
          refine wa_iconst (pc := 73) (v := 0) cx dX11_pull_73 (by decide) ?_
          refine wa_forget [true, false, false, false, true, false, false, false] [some (.ref (eA E 38)), none, none, none, some (.int q14), none, none, none] rfl ?_
          exact j74 _ _ _ hf
        · have hf := (if_neg c18).symm.trans hf
          refine wa_iconst (pc := 69) (v := 1) cx dX11_pull_69 (by decide) ?_
          refine wa_goto (pc := 70) cx 74 dX11_pull_70 rfl ?_
          refine wa_forget [true, false, false, false, true, false, false, false] [some (.ref (eA E 38)), none, none, none, some (.int q14), none, none, none] rfl ?_
          exact j74 _ _ _ hf
      · have hf := (if_pos c7).symm.trans hf
        refine wa_forget [false, false, false, false, false, false, false, false] [none, none, none, none, none, none, none, none] rfl ?_
        exact j29  _ hf
  · have hf := (if_pos c1).symm.trans hf
    refine wa_ldc (pc := 12) (v := (-1000002)) cx dX11_pull_12 tw_1081 ?_
    obtain rfl := Option.some.inj hf
    exact wa_iret (pc := 14) cx dX11_pull_14
def fX11_truthOf (a1 : Int32) (σ : Sg) : Option (Int32) :=
  (fX11_of a1 1 σ).bind (fun q1 =>
  gd (inb (4 + (2 * q1)) 77) (
  some (ga σ 42 (4 + (2 * q1)))))
set_option maxHeartbeats 4000000 in
set_option maxRecDepth 100000 in
theorem ct_X11_truthOf (l : Launch) (E : En) (σ : Sg) (a1 : Int32) (q : Int32) (hf : fX11_truthOf a1 σ = some q) : CT l yX11_truthOf cX11_truthOf 2 (some .int) 1 E σ [.ref (eA E 38), .int a1] (some (.int q)) σ := by
  refine CT.of RX11 [some (.ref (eA E 38)), some (.int a1)] rfl (by decide +kernel) (Nat.le_of_ble_eq_true rfl) rfl ?_
  intro p e s m args below meth c cx
  unfold fX11_truthOf at hf
  refine wa_aload_n (pc := 0) cx 0 dX11_truthOf_0 rfl rfl ?_
  refine wa_getR (pc := 1) cx fl_X11_19 lk_38 rfl (cx.bl 38 rfl) dX11_truthOf_1 ?_
  refine wa_iconst (pc := 4) (v := 4) cx dX11_truthOf_4 (by decide) ?_
  refine wa_iconst (pc := 5) (v := 2) cx dX11_truthOf_5 (by decide) ?_
  refine wa_aload_n (pc := 6) cx 0 dX11_truthOf_6 rfl rfl ?_
  refine wa_iload_n (pc := 7) cx 1 dX11_truthOf_7 rfl rfl ?_
  refine wa_iconst (pc := 8) (v := 1) cx dX11_truthOf_8 (by decide) ?_
  obtain ⟨q1, h2, hf⟩ := bd_some hf
  refine wa_callVi (pc := 9) cx [.int a1, .int 1] (ct_X11_of l E _ _ _ _ h2) mi_X11_of tw_1069 lk_38 rfl (cx.bl 38 rfl) rfl rfl (Nat.le_of_ble_eq_true rfl) ⟨Nat.le_of_ble_eq_true rfl, Nat.le_of_ble_eq_true rfl⟩ ⟨Nat.zero_le _, Nat.zero_le _⟩ dX11_truthOf_9 ?_
  refine wa_imul (pc := 12) cx dX11_truthOf_12 ?_
  refine wa_iadd (pc := 13) cx dX11_truthOf_13 ?_
  obtain ⟨g3, hf⟩ := gd_some hf
  refine wa_iald (pc := 14) cx lk_42 (cx.bl 42 rfl) g3 dX11_truthOf_14 ?_
  obtain rfl := Option.some.inj hf
  exact wa_iret (pc := 15) cx dX11_truthOf_15
def fX11_year_J130 (v2 : Int32) (v3 : Int32) (σ : Sg) : Option ((Int32 × Int32 × Sg) ⊕ (Int32 × Sg)) :=
  some (.inl (v2, (v3 + 1), σ))
def fX11_year_J128 (v3 : Int32) (t1 : Int32) (t0 : Int32) (σ : Sg) : Option ((Int32 × Int32 × Sg) ⊕ (Int32 × Sg)) :=
  fX11_year_J130 (t0 ||| t1) v3 σ
def fX11_year_J112 (v2 : Int32) (v3 : Int32) (v5 : Int32) (t3 : Int32) (t2 : Int32) (t1 : Int32) (σ : Sg) : Option ((Int32 × Int32 × Sg) ⊕ (Int32 × Sg)) :=
  (fX11_becomes t1 t2 t3 σ).bind (fun q16 =>
  if v5 = 0 then (fX11_year_J128 v3 (jshl 1 v3) v2 q16) else (fX11_year_J128 v3 0 v2 q16))
def fX11_year_J97 (v2 : Int32) (v3 : Int32) (t0 : Int32) (σ : Sg) : Option ((Int32 × Int32 × Sg) ⊕ (Int32 × Sg)) :=
  if t0 = 0 then (fX11_year_J112 v2 v3 t0 2 4 v3 σ) else (fX11_year_J112 v2 v3 t0 1 4 v3 σ)
def fX11_year_J92 (v2 : Int32) (v3 : Int32) (σ : Sg) : Option ((Int32 × Int32 × Sg) ⊕ (Int32 × Sg)) :=
  fX11_year_J97 v2 v3 1 σ
def fX11_year_J96 (v2 : Int32) (v3 : Int32) (σ : Sg) : Option ((Int32 × Int32 × Sg) ⊕ (Int32 × Sg)) :=
  fX11_year_J97 v2 v3 0 σ
def fX11_year_B39  (v2 : Int32) (v3 : Int32) (σ : Sg) : Option ((Int32 × Int32 × Sg) ⊕ (Int32 × Sg)) :=
  gd (inb 3 77) (
  if ga σ 42 3 ≤ v3 then (some (.inr (v2, σ))) else ((fX11_of v3 4 σ).bind (fun q9 =>
  if q9 = 0 then ((fX11_of v3 0 σ).bind (fun q12 =>
  if q12 = 2 then (fX11_year_J92 v2 v3 σ) else (if q12 = 4 then (fX11_year_J96 v2 v3 σ) else ((fX11_draw 10 σ).bind (fun q20 =>
  (fX11_truthOf v3 q20.2).bind (fun q22 =>
  if q22 ≤ q20.1 then (fX11_year_J96 v2 v3 q20.2) else (fX11_year_J92 v2 v3 q20.2))))))) else (fX11_year_J130 v2 v3 σ))))
def fX11_year (a1 : Int32) (σ : Sg) : Option (Int32 × Sg) :=
  if gf (sup σ 38 0 0) 38 7 = 0 then (some ((-1000002), sup σ 38 0 0)) else ((fX11_isSeed a1 (sup σ 38 0 0)).bind (fun q2 =>
  if q2 = 0 then (some ((-1000001), sup σ 38 0 0)) else ((fX11_keep  (sup σ 38 0 0)).bind (fun q5 =>
  (lpO (fun w => fX11_year_B39  w.1 w.2.1 w.2.2) FUEL (0, 0, slg q5 ((a1).toInt64))).bind (fun o25 =>
  some (o25.1, o25.2))))))
set_option maxHeartbeats 4000000 in
set_option maxRecDepth 100000 in
theorem ct_X11_year (l : Launch) (E : En) (σ : Sg) (a1 : Int32) (q : Int32 × Sg) (hf : fX11_year a1 σ = some q) : CT l yX11_year cX11_year 6 (some .int) 2 E σ [.ref (eA E 38), .int a1] (some (.int q.1)) q.2 := by
  refine CT.of RX11 [some (.ref (eA E 38)), some (.int a1), none, none, none, none] rfl (by decide +kernel) (Nat.le_of_ble_eq_true rfl) rfl ?_
  intro p e s m args below meth c cx
  unfold fX11_year at hf
  have l39 : ∀  (y : Int32 × Int32 × Sg) (o : Int32 × Sg), lpO (fun w => fX11_year_B39  w.1 w.2.1 w.2.2) FUEL y = some o → (WA p l e (rmd 2) s m args below meth c 6 E 0 0 (MQ below (Qcq E s.heap.size (some (.int q.1)) q.2) args s 0 0 (AE E s.heap.size)) 136 [none, none, some (.int o.1), none, none, none] [] o.2) → WA p l e (rmd 2) s m args below meth c 6 E 0 0 (MQ below (Qcq E s.heap.size (some (.int q.1)) q.2) args s 0 0 (AE E s.heap.size)) 39 [some (.ref (eA E 38)), none, some (.int y.1), some (.int y.2.1), none, none] [] y.2.2 := by
    intro  y o hf hk
    refine lp_rule (P := fun y => WA p l e (rmd 2) s m args below meth c 6 E 0 0 (MQ below (Qcq E s.heap.size (some (.int q.1)) q.2) args s 0 0 (AE E s.heap.size)) 39 [some (.ref (eA E 38)), none, some (.int y.1), some (.int y.2.1), none, none] [] y.2.2) (K := fun o => WA p l e (rmd 2) s m args below meth c 6 E 0 0 (MQ below (Qcq E s.heap.size (some (.int q.1)) q.2) args s 0 0 (AE E s.heap.size)) 136 [none, none, some (.int o.1), none, none, none] [] o.2) ?_ FUEL y o hf hk
    have j130 : ∀ (v2 : Int32) (v3 : Int32) (σ : Sg) (r1 : (Int32 × Int32 × Sg) ⊕ (Int32 × Sg)), fX11_year_J130 v2 v3 σ = some r1 → (sel (fun y1 => WA p l e (rmd 2) s m args below meth c 6 E 0 0 (MQ below (Qcq E s.heap.size (some (.int q.1)) q.2) args s 0 0 (AE E s.heap.size)) 39 [some (.ref (eA E 38)), none, some (.int y1.1), some (.int y1.2.1), none, none] [] y1.2.2) (fun y1 => WA p l e (rmd 2) s m args below meth c 6 E 0 0 (MQ below (Qcq E s.heap.size (some (.int q.1)) q.2) args s 0 0 (AE E s.heap.size)) 136 [none, none, some (.int y1.1), none, none, none] [] y1.2) r1) → WA p l e (rmd 2) s m args below meth c 6 E 0 0 (MQ below (Qcq E s.heap.size (some (.int q.1)) q.2) args s 0 0 (AE E s.heap.size)) 130 [some (.ref (eA E 38)), none, some (.int v2), some (.int v3), none, none] [] σ := by
      intro v2 v3 σ r1 hf hk1
      unfold fX11_year_J130 at hf
      refine wa_iinc (pc := 130) (v := 1) cx 3 [some (.ref (eA E 38)), none, some (.int v2), some (.int (v3 + 1)), none, none] dX11_year_130 (by decide) rfl (by decide) rfl rfl ?_
      refine wa_goto (pc := 133) cx 39 dX11_year_133 rfl ?_
      obtain rfl := Option.some.inj hf
      refine wa_forget [true, false, true, true, false, false] [some (.ref (eA E 38)), none, some (.int v2), some (.int (v3 + 1)), none, none] rfl ?_
      exact hk1
    have j128 : ∀ (v3 : Int32) (t1 : Int32) (t0 : Int32) (σ : Sg) (r1 : (Int32 × Int32 × Sg) ⊕ (Int32 × Sg)), fX11_year_J128 v3 t1 t0 σ = some r1 → (sel (fun y1 => WA p l e (rmd 2) s m args below meth c 6 E 0 0 (MQ below (Qcq E s.heap.size (some (.int q.1)) q.2) args s 0 0 (AE E s.heap.size)) 39 [some (.ref (eA E 38)), none, some (.int y1.1), some (.int y1.2.1), none, none] [] y1.2.2) (fun y1 => WA p l e (rmd 2) s m args below meth c 6 E 0 0 (MQ below (Qcq E s.heap.size (some (.int q.1)) q.2) args s 0 0 (AE E s.heap.size)) 136 [none, none, some (.int y1.1), none, none, none] [] y1.2) r1) → WA p l e (rmd 2) s m args below meth c 6 E 0 0 (MQ below (Qcq E s.heap.size (some (.int q.1)) q.2) args s 0 0 (AE E s.heap.size)) 128 [some (.ref (eA E 38)), none, none, some (.int v3), none, none] [.int t1, .int t0] σ := by
      intro v3 t1 t0 σ r1 hf hk1
      unfold fX11_year_J128 at hf
      refine wa_ior (pc := 128) cx dX11_year_128 ?_
      refine wa_istore_n (pc := 129) cx 2 [some (.ref (eA E 38)), none, some (.int (t0 ||| t1)), some (.int v3), none, none] dX11_year_129 rfl (by decide) rfl rfl ?_
      exact j130 _ _ _ _ hf hk1
    have j112 : ∀ (v2 : Int32) (v3 : Int32) (v5 : Int32) (t3 : Int32) (t2 : Int32) (t1 : Int32) (σ : Sg) (r1 : (Int32 × Int32 × Sg) ⊕ (Int32 × Sg)), fX11_year_J112 v2 v3 v5 t3 t2 t1 σ = some r1 → (sel (fun y1 => WA p l e (rmd 2) s m args below meth c 6 E 0 0 (MQ below (Qcq E s.heap.size (some (.int q.1)) q.2) args s 0 0 (AE E s.heap.size)) 39 [some (.ref (eA E 38)), none, some (.int y1.1), some (.int y1.2.1), none, none] [] y1.2.2) (fun y1 => WA p l e (rmd 2) s m args below meth c 6 E 0 0 (MQ below (Qcq E s.heap.size (some (.int q.1)) q.2) args s 0 0 (AE E s.heap.size)) 136 [none, none, some (.int y1.1), none, none, none] [] y1.2) r1) → WA p l e (rmd 2) s m args below meth c 6 E 0 0 (MQ below (Qcq E s.heap.size (some (.int q.1)) q.2) args s 0 0 (AE E s.heap.size)) 112 [some (.ref (eA E 38)), none, some (.int v2), some (.int v3), none, some (.int v5)] [.int t3, .int t2, .int t1, .ref (eA E 38)] σ := by
      intro v2 v3 v5 t3 t2 t1 σ r1 hf hk1
      unfold fX11_year_J112 at hf
      obtain ⟨q16, h17, hf⟩ := bd_some hf
      refine wa_callVv (pc := 112) cx [.int t1, .int t2, .int t3] (ct_X11_becomes l E _ _ _ _ _ h17) mi_X11_becomes tw_1073 lk_38 rfl (cx.bl 38 rfl) rfl rfl (Nat.le_of_ble_eq_true rfl) ⟨Nat.le_of_ble_eq_true rfl, Nat.le_of_ble_eq_true rfl⟩ ⟨Nat.zero_le _, Nat.zero_le _⟩ dX11_year_112 ?_
      refine wa_iload_n (pc := 115) cx 2 dX11_year_115 rfl rfl ?_
      refine wa_iload (pc := 116) cx 5 dX11_year_116 rfl ?_
      refine wa_if_eq (pc := 118) cx 125 dX11_year_118 rfl (fun c18 => ?_) (fun c18 => ?_)
      · have hf := (if_pos c18).symm.trans hf
        refine wa_iconst (pc := 125) (v := 1) cx dX11_year_125 (by decide) ?_
        refine wa_iload_n (pc := 126) cx 3 dX11_year_126 rfl rfl ?_
        refine wa_ishl (pc := 127) cx dX11_year_127 ?_
        refine wa_forget [true, false, false, true, false, false] [some (.ref (eA E 38)), none, none, some (.int v3), none, none] rfl ?_
        exact j128 _ _ _ _ _ hf hk1
      · have hf := (if_neg c18).symm.trans hf
        refine wa_iconst (pc := 121) (v := 0) cx dX11_year_121 (by decide) ?_
        refine wa_goto (pc := 122) cx 128 dX11_year_122 rfl ?_
        refine wa_forget [true, false, false, true, false, false] [some (.ref (eA E 38)), none, none, some (.int v3), none, none] rfl ?_
        exact j128 _ _ _ _ _ hf hk1
    have j97 : ∀ (v2 : Int32) (v3 : Int32) (t0 : Int32) (σ : Sg) (r1 : (Int32 × Int32 × Sg) ⊕ (Int32 × Sg)), fX11_year_J97 v2 v3 t0 σ = some r1 → (sel (fun y1 => WA p l e (rmd 2) s m args below meth c 6 E 0 0 (MQ below (Qcq E s.heap.size (some (.int q.1)) q.2) args s 0 0 (AE E s.heap.size)) 39 [some (.ref (eA E 38)), none, some (.int y1.1), some (.int y1.2.1), none, none] [] y1.2.2) (fun y1 => WA p l e (rmd 2) s m args below meth c 6 E 0 0 (MQ below (Qcq E s.heap.size (some (.int q.1)) q.2) args s 0 0 (AE E s.heap.size)) 136 [none, none, some (.int y1.1), none, none, none] [] y1.2) r1) → WA p l e (rmd 2) s m args below meth c 6 E 0 0 (MQ below (Qcq E s.heap.size (some (.int q.1)) q.2) args s 0 0 (AE E s.heap.size)) 97 [some (.ref (eA E 38)), none, some (.int v2), some (.int v3), none, none] [.int t0] σ := by
      intro v2 v3 t0 σ r1 hf hk1
      unfold fX11_year_J97 at hf
      refine wa_istore (pc := 97) cx 5 [some (.ref (eA E 38)), none, some (.int v2), some (.int v3), none, some (.int t0)] dX11_year_97 (by decide) rfl rfl ?_
      refine wa_aload_n (pc := 99) cx 0 dX11_year_99 rfl rfl ?_
      refine wa_iload_n (pc := 100) cx 3 dX11_year_100 rfl rfl ?_
      refine wa_iconst (pc := 101) (v := 4) cx dX11_year_101 (by decide) ?_
      refine wa_iload (pc := 102) cx 5 dX11_year_102 rfl ?_
      refine wa_if_eq (pc := 104) cx 111 dX11_year_104 rfl (fun c15 => ?_) (fun c15 => ?_)
      · have hf := (if_pos c15).symm.trans hf
        refine wa_iconst (pc := 111) (v := 2) cx dX11_year_111 (by decide) ?_
        exact j112 _ _ _ _ _ _ _ _ hf hk1
      · have hf := (if_neg c15).symm.trans hf
        refine wa_iconst (pc := 107) (v := 1) cx dX11_year_107 (by decide) ?_
        refine wa_goto (pc := 108) cx 112 dX11_year_108 rfl ?_
        exact j112 _ _ _ _ _ _ _ _ hf hk1
    have j92 : ∀ (v2 : Int32) (v3 : Int32) (σ : Sg) (r1 : (Int32 × Int32 × Sg) ⊕ (Int32 × Sg)), fX11_year_J92 v2 v3 σ = some r1 → (sel (fun y1 => WA p l e (rmd 2) s m args below meth c 6 E 0 0 (MQ below (Qcq E s.heap.size (some (.int q.1)) q.2) args s 0 0 (AE E s.heap.size)) 39 [some (.ref (eA E 38)), none, some (.int y1.1), some (.int y1.2.1), none, none] [] y1.2.2) (fun y1 => WA p l e (rmd 2) s m args below meth c 6 E 0 0 (MQ below (Qcq E s.heap.size (some (.int q.1)) q.2) args s 0 0 (AE E s.heap.size)) 136 [none, none, some (.int y1.1), none, none, none] [] y1.2) r1) → WA p l e (rmd 2) s m args below meth c 6 E 0 0 (MQ below (Qcq E s.heap.size (some (.int q.1)) q.2) args s 0 0 (AE E s.heap.size)) 92 [some (.ref (eA E 38)), none, some (.int v2), some (.int v3), none, none] [] σ := by
      intro v2 v3 σ r1 hf hk1
      unfold fX11_year_J92 at hf
      refine wa_iconst (pc := 92) (v := 1) cx dX11_year_92 (by decide) ?_
      refine wa_goto (pc := 93) cx 97 dX11_year_93 rfl ?_
      exact j97 _ _ _ _ _ hf hk1
    have j96 : ∀ (v2 : Int32) (v3 : Int32) (σ : Sg) (r1 : (Int32 × Int32 × Sg) ⊕ (Int32 × Sg)), fX11_year_J96 v2 v3 σ = some r1 → (sel (fun y1 => WA p l e (rmd 2) s m args below meth c 6 E 0 0 (MQ below (Qcq E s.heap.size (some (.int q.1)) q.2) args s 0 0 (AE E s.heap.size)) 39 [some (.ref (eA E 38)), none, some (.int y1.1), some (.int y1.2.1), none, none] [] y1.2.2) (fun y1 => WA p l e (rmd 2) s m args below meth c 6 E 0 0 (MQ below (Qcq E s.heap.size (some (.int q.1)) q.2) args s 0 0 (AE E s.heap.size)) 136 [none, none, some (.int y1.1), none, none, none] [] y1.2) r1) → WA p l e (rmd 2) s m args below meth c 6 E 0 0 (MQ below (Qcq E s.heap.size (some (.int q.1)) q.2) args s 0 0 (AE E s.heap.size)) 96 [some (.ref (eA E 38)), none, some (.int v2), some (.int v3), none, none] [] σ := by
      intro v2 v3 σ r1 hf hk1
      unfold fX11_year_J96 at hf
      refine wa_iconst (pc := 96) (v := 0) cx dX11_year_96 (by decide) ?_
      exact j97 _ _ _ _ _ hf hk1
    intro y0 r1 hf hk1
    obtain ⟨v2, v3, σ⟩ := y0
    have hf : fX11_year_B39  v2 v3 σ = some r1 := hf
    unfold fX11_year_B39 at hf
    refine wa_iload_n (pc := 39) cx 3 dX11_year_39 rfl rfl ?_
    refine wa_aload_n (pc := 40) cx 0 dX11_year_40 rfl rfl ?_
    refine wa_getR (pc := 41) cx fl_X11_19 lk_38 rfl (cx.bl 38 rfl) dX11_year_41 ?_
    refine wa_iconst (pc := 44) (v := 3) cx dX11_year_44 (by decide) ?_
    obtain ⟨g7, hf⟩ := gd_some hf
    refine wa_iald (pc := 45) cx lk_42 (cx.bl 42 rfl) g7 dX11_year_45 ?_
    refine wa_icmp_ge (pc := 46) cx 136 dX11_year_46 rfl (fun c8 => ?_) (fun c8 => ?_)
    · have hf := (if_pos c8).symm.trans hf
      obtain rfl := Option.some.inj hf
      refine wa_forget [false, false, true, false, false, false] [none, none, some (.int v2), none, none, none] rfl ?_
      exact hk1
    · have hf := (if_neg c8).symm.trans hf
      refine wa_aload_n (pc := 49) cx 0 dX11_year_49 rfl rfl ?_
      refine wa_iload_n (pc := 50) cx 3 dX11_year_50 rfl rfl ?_
      refine wa_iconst (pc := 51) (v := 4) cx dX11_year_51 (by decide) ?_
      obtain ⟨q9, h10, hf⟩ := bd_some hf
      refine wa_callVi (pc := 52) cx [.int v3, .int 4] (ct_X11_of l E _ _ _ _ h10) mi_X11_of tw_1069 lk_38 rfl (cx.bl 38 rfl) rfl rfl (Nat.le_of_ble_eq_true rfl) ⟨Nat.le_of_ble_eq_true rfl, Nat.le_of_ble_eq_true rfl⟩ ⟨Nat.zero_le _, Nat.zero_le _⟩ dX11_year_52 ?_
      refine wa_if_ne (pc := 55) cx 130 dX11_year_55 rfl (fun c11 => ?_) (fun c11 => ?_)
      · have hf := (if_neg c11).symm.trans hf
        exact j130 _ _ _ _ hf hk1
      · have hf := (if_pos c11).symm.trans hf
        refine wa_aload_n (pc := 58) cx 0 dX11_year_58 rfl rfl ?_
        refine wa_iload_n (pc := 59) cx 3 dX11_year_59 rfl rfl ?_
        refine wa_iconst (pc := 60) (v := 0) cx dX11_year_60 (by decide) ?_
        obtain ⟨q12, h13, hf⟩ := bd_some hf
        refine wa_callVi (pc := 61) cx [.int v3, .int 0] (ct_X11_of l E _ _ _ _ h13) mi_X11_of tw_1069 lk_38 rfl (cx.bl 38 rfl) rfl rfl (Nat.le_of_ble_eq_true rfl) ⟨Nat.le_of_ble_eq_true rfl, Nat.le_of_ble_eq_true rfl⟩ ⟨Nat.zero_le _, Nat.zero_le _⟩ dX11_year_61 ?_
        refine wa_istore (pc := 64) cx 4 [some (.ref (eA E 38)), none, some (.int v2), some (.int v3), some (.int q12), none] dX11_year_64 (by decide) rfl rfl ?_
        refine wa_iload (pc := 66) cx 4 dX11_year_66 rfl ?_
        refine wa_iconst (pc := 68) (v := 2) cx dX11_year_68 (by decide) ?_
        refine wa_icmp_eq (pc := 69) cx 92 dX11_year_69 rfl (fun c14 => ?_) (fun c14 => ?_)
        · have hf := (if_pos c14).symm.trans hf
          refine wa_forget [true, false, true, true, false, false] [some (.ref (eA E 38)), none, some (.int v2), some (.int v3), none, none] rfl ?_
          exact j92 _ _ _ _ hf hk1
        · have hf := (if_neg c14).symm.trans hf
          refine wa_iload (pc := 72) cx 4 dX11_year_72 rfl ?_
          refine wa_iconst (pc := 74) (v := 4) cx dX11_year_74 (by decide) ?_
          refine wa_icmp_eq (pc := 75) cx 96 dX11_year_75 rfl (fun c19 => ?_) (fun c19 => ?_)
          · have hf := (if_pos c19).symm.trans hf
            refine wa_forget [true, false, true, true, false, false] [some (.ref (eA E 38)), none, some (.int v2), some (.int v3), none, none] rfl ?_
            exact j96 _ _ _ _ hf hk1
          · have hf := (if_neg c19).symm.trans hf
            refine wa_aload_n (pc := 78) cx 0 dX11_year_78 rfl rfl ?_
            refine wa_bipush (pc := 79) (v := 10) cx dX11_year_79 (by decide) ?_
            obtain ⟨q20, h21, hf⟩ := bd_some hf
            refine wa_callVi (pc := 81) cx [.int 10] (ct_X11_draw l E _ _ _ h21) mi_X11_draw tw_1114 lk_38 rfl (cx.bl 38 rfl) rfl rfl (Nat.le_of_ble_eq_true rfl) ⟨Nat.le_of_ble_eq_true rfl, Nat.le_of_ble_eq_true rfl⟩ ⟨Nat.zero_le _, Nat.zero_le _⟩ dX11_year_81 ?_
            refine wa_aload_n (pc := 84) cx 0 dX11_year_84 rfl rfl ?_
            refine wa_iload_n (pc := 85) cx 3 dX11_year_85 rfl rfl ?_
            obtain ⟨q22, h23, hf⟩ := bd_some hf
            refine wa_callVi (pc := 86) cx [.int v3] (ct_X11_truthOf l E _ _ _ h23) mi_X11_truthOf tw_1140 lk_38 rfl (cx.bl 38 rfl) rfl rfl (Nat.le_of_ble_eq_true rfl) ⟨Nat.le_of_ble_eq_true rfl, Nat.le_of_ble_eq_true rfl⟩ ⟨Nat.zero_le _, Nat.zero_le _⟩ dX11_year_86 ?_
            refine wa_icmp_ge (pc := 89) cx 96 dX11_year_89 rfl (fun c24 => ?_) (fun c24 => ?_)
            · have hf := (if_pos c24).symm.trans hf
              refine wa_forget [true, false, true, true, false, false] [some (.ref (eA E 38)), none, some (.int v2), some (.int v3), none, none] rfl ?_
              exact j96 _ _ _ _ hf hk1
            · have hf := (if_neg c24).symm.trans hf
              refine wa_forget [true, false, true, true, false, false] [some (.ref (eA E 38)), none, some (.int v2), some (.int v3), none, none] rfl ?_
              exact j92 _ _ _ _ hf hk1
  refine wa_aload_n (pc := 0) cx 0 dX11_year_0 rfl rfl ?_
  refine wa_iconst (pc := 1) (v := 0) cx dX11_year_1 (by decide) ?_
  refine wa_putI (pc := 2) cx fp_X11_50 lk_38 rfl (cx.bl 38 rfl) dX11_year_2 ?_
  refine wa_aload_n (pc := 5) cx 0 dX11_year_5 rfl rfl ?_
  refine wa_getI (pc := 6) cx fl_X11_177 lk_38 rfl (cx.bl 38 rfl) dX11_year_6 ?_
  refine wa_if_ne (pc := 9) cx 15 dX11_year_9 rfl (fun c1 => ?_) (fun c1 => ?_)
  · have hf := (if_neg c1).symm.trans hf
    refine wa_iload_n (pc := 15) cx 1 dX11_year_15 rfl rfl ?_
    obtain ⟨q2, h3, hf⟩ := bd_some hf
    refine wa_callSi (pc := 16) cx [.int a1] (ct_X11_isSeed l E _ _ _ h3) ms_X11_isSeed tw_1110 rfl rfl (Nat.le_of_ble_eq_true rfl) ⟨Nat.le_of_ble_eq_true rfl, Nat.le_of_ble_eq_true rfl⟩ ⟨Nat.zero_le _, Nat.zero_le _⟩ dX11_year_16 ?_
    refine wa_if_ne (pc := 19) cx 25 dX11_year_19 rfl (fun c4 => ?_) (fun c4 => ?_)
    · have hf := (if_neg c4).symm.trans hf
      refine wa_aload_n (pc := 25) cx 0 dX11_year_25 rfl rfl ?_
      obtain ⟨q5, h6, hf⟩ := bd_some hf
      refine wa_callVv (pc := 26) cx [] (ct_X11_keep l E _  _ h6) mi_X11_keep tw_1065 lk_38 rfl (cx.bl 38 rfl) rfl rfl (Nat.le_of_ble_eq_true rfl) ⟨Nat.le_of_ble_eq_true rfl, Nat.le_of_ble_eq_true rfl⟩ ⟨Nat.zero_le _, Nat.zero_le _⟩ dX11_year_26 ?_
      refine wa_aload_n (pc := 29) cx 0 dX11_year_29 rfl rfl ?_
      refine wa_iload_n (pc := 30) cx 1 dX11_year_30 rfl rfl ?_
      refine wa_i2l (pc := 31) cx dX11_year_31 ?_
      refine wa_putL (pc := 32) cx fp_X11_219 lk_38 rfl (cx.bl 38 rfl) only_long rfl dX11_year_32 ?_
      refine wa_iconst (pc := 35) (v := 0) cx dX11_year_35 (by decide) ?_
      refine wa_istore_n (pc := 36) cx 2 [some (.ref (eA E 38)), some (.int a1), some (.int 0), none, none, none] dX11_year_36 rfl (by decide) rfl rfl ?_
      refine wa_iconst (pc := 37) (v := 0) cx dX11_year_37 (by decide) ?_
      refine wa_istore_n (pc := 38) cx 3 [some (.ref (eA E 38)), some (.int a1), some (.int 0), some (.int 0), none, none] dX11_year_38 rfl (by decide) rfl rfl ?_
      refine wa_forget [true, false, true, true, false, false] [some (.ref (eA E 38)), none, some (.int 0), some (.int 0), none, none] rfl ?_
      obtain ⟨o25, h26, hf⟩ := bd_some hf
      refine l39  _ _ h26 ?_
      refine wa_iload_n (pc := 136) cx 2 dX11_year_136 rfl rfl ?_
      obtain rfl := Option.some.inj hf
      exact wa_iret (pc := 137) cx dX11_year_137
    · have hf := (if_pos c4).symm.trans hf
      refine wa_ldc (pc := 22) (v := (-1000001)) cx dX11_year_22 tw_956 ?_
      obtain rfl := Option.some.inj hf
      exact wa_iret (pc := 24) cx dX11_year_24
  · have hf := (if_pos c1).symm.trans hf
    refine wa_ldc (pc := 12) (v := (-1000002)) cx dX11_year_12 tw_1081 ?_
    obtain rfl := Option.some.inj hf
    exact wa_iret (pc := 14) cx dX11_year_14
def fX11_undo_B27  (v1 : Int32) (σ : Sg) : Option ((Int32 × Sg) ⊕ (Sg)) :=
  if (77 : Int32) ≤ v1 then (some (.inr σ)) else (gd (inb ((77 * gf σ 38 9) + v1) 1848) (
  gd (inb v1 77) (
  some (.inl ((v1 + 1), sa σ 42 v1 (ga σ 44 ((77 * gf σ 38 9) + v1)))))))
def fX11_undo  (σ : Sg) : Option (Int32 × Sg) :=
  if gf (sup σ 38 0 0) 38 9 = 0 then (some ((-1000002), sup σ 38 0 0)) else ((lpO (fun w => fX11_undo_B27  w.1 w.2) FUEL (0, sup (sup σ 38 0 0) 38 9 (gf (sup σ 38 0 0) 38 9 - 1))).bind (fun o5 =>
  some (gf o5 38 9, o5)))
set_option maxHeartbeats 4000000 in
set_option maxRecDepth 100000 in
theorem ct_X11_undo (l : Launch) (E : En) (σ : Sg)  (q : Int32 × Sg) (hf : fX11_undo  σ = some q) : CT l yX11_undo cX11_undo 2 (some .int) 0 E σ [.ref (eA E 38)] (some (.int q.1)) q.2 := by
  refine CT.of RX11 [some (.ref (eA E 38)), none] rfl (by decide +kernel) (Nat.le_of_ble_eq_true rfl) rfl ?_
  intro p e s m args below meth c cx
  unfold fX11_undo at hf
  have l27 : ∀  (y : Int32 × Sg) (o : Sg), lpO (fun w => fX11_undo_B27  w.1 w.2) FUEL y = some o → (WA p l e (rmd 0) s m args below meth c 2 E 0 0 (MQ below (Qcq E s.heap.size (some (.int q.1)) q.2) args s 0 0 (AE E s.heap.size)) 59 [some (.ref (eA E 38)), none] [] o) → WA p l e (rmd 0) s m args below meth c 2 E 0 0 (MQ below (Qcq E s.heap.size (some (.int q.1)) q.2) args s 0 0 (AE E s.heap.size)) 27 [some (.ref (eA E 38)), some (.int y.1)] [] y.2 := by
    intro  y o hf hk
    refine lp_rule (P := fun y => WA p l e (rmd 0) s m args below meth c 2 E 0 0 (MQ below (Qcq E s.heap.size (some (.int q.1)) q.2) args s 0 0 (AE E s.heap.size)) 27 [some (.ref (eA E 38)), some (.int y.1)] [] y.2) (K := fun o => WA p l e (rmd 0) s m args below meth c 2 E 0 0 (MQ below (Qcq E s.heap.size (some (.int q.1)) q.2) args s 0 0 (AE E s.heap.size)) 59 [some (.ref (eA E 38)), none] [] o) ?_ FUEL y o hf hk
    intro y0 r1 hf hk1
    obtain ⟨v1, σ⟩ := y0
    have hf : fX11_undo_B27  v1 σ = some r1 := hf
    unfold fX11_undo_B27 at hf
    refine wa_iload_n (pc := 27) cx 1 dX11_undo_27 rfl rfl ?_
    refine wa_bipush (pc := 28) (v := 77) cx dX11_undo_28 (by decide) ?_
    refine wa_icmp_ge (pc := 30) cx 59 dX11_undo_30 rfl (fun c2 => ?_) (fun c2 => ?_)
    · have hf := (if_pos c2).symm.trans hf
      obtain rfl := Option.some.inj hf
      refine wa_forget [true, false] [some (.ref (eA E 38)), none] rfl ?_
      exact hk1
    · have hf := (if_neg c2).symm.trans hf
      refine wa_aload_n (pc := 33) cx 0 dX11_undo_33 rfl rfl ?_
      refine wa_getR (pc := 34) cx fl_X11_19 lk_38 rfl (cx.bl 38 rfl) dX11_undo_34 ?_
      refine wa_iload_n (pc := 37) cx 1 dX11_undo_37 rfl rfl ?_
      refine wa_aload_n (pc := 38) cx 0 dX11_undo_38 rfl rfl ?_
      refine wa_getR (pc := 39) cx fl_X11_25 lk_38 rfl (cx.bl 38 rfl) dX11_undo_39 ?_
      refine wa_bipush (pc := 42) (v := 77) cx dX11_undo_42 (by decide) ?_
      refine wa_aload_n (pc := 44) cx 0 dX11_undo_44 rfl rfl ?_
      refine wa_getI (pc := 45) cx fl_X11_181 lk_38 rfl (cx.bl 38 rfl) dX11_undo_45 ?_
      refine wa_imul (pc := 48) cx dX11_undo_48 ?_
      refine wa_iload_n (pc := 49) cx 1 dX11_undo_49 rfl rfl ?_
      refine wa_iadd (pc := 50) cx dX11_undo_50 ?_
      obtain ⟨g3, hf⟩ := gd_some hf
      refine wa_iald (pc := 51) cx lk_44 (cx.bl 44 rfl) g3 dX11_undo_51 ?_
      obtain ⟨g4, hf⟩ := gd_some hf
      refine wa_iast (pc := 52) cx lk_42 (cx.bl 42 rfl) g4 dX11_undo_52 ?_
      refine wa_iinc (pc := 53) (v := 1) cx 1 [some (.ref (eA E 38)), some (.int (v1 + 1))] dX11_undo_53 (by decide) rfl (by decide) rfl rfl ?_
      refine wa_goto (pc := 56) cx 27 dX11_undo_56 rfl ?_
      obtain rfl := Option.some.inj hf
      refine wa_forget [true, true] [some (.ref (eA E 38)), some (.int (v1 + 1))] rfl ?_
      exact hk1
  refine wa_aload_n (pc := 0) cx 0 dX11_undo_0 rfl rfl ?_
  refine wa_iconst (pc := 1) (v := 0) cx dX11_undo_1 (by decide) ?_
  refine wa_putI (pc := 2) cx fp_X11_50 lk_38 rfl (cx.bl 38 rfl) dX11_undo_2 ?_
  refine wa_aload_n (pc := 5) cx 0 dX11_undo_5 rfl rfl ?_
  refine wa_getI (pc := 6) cx fl_X11_181 lk_38 rfl (cx.bl 38 rfl) dX11_undo_6 ?_
  refine wa_if_ne (pc := 9) cx 15 dX11_undo_9 rfl (fun c1 => ?_) (fun c1 => ?_)
  · have hf := (if_neg c1).symm.trans hf
    refine wa_aload_n (pc := 15) cx 0 dX11_undo_15 rfl rfl ?_
    refine wa_dup (pc := 16) cx dX11_undo_16 rfl ?_
    refine wa_getI (pc := 17) cx fl_X11_181 lk_38 rfl (cx.bl 38 rfl) dX11_undo_17 ?_
    refine wa_iconst (pc := 20) (v := 1) cx dX11_undo_20 (by decide) ?_
    refine wa_isub (pc := 21) cx dX11_undo_21 ?_
    refine wa_putI (pc := 22) cx fp_X11_181 lk_38 rfl (cx.bl 38 rfl) dX11_undo_22 ?_
    refine wa_iconst (pc := 25) (v := 0) cx dX11_undo_25 (by decide) ?_
    refine wa_istore_n (pc := 26) cx 1 [some (.ref (eA E 38)), some (.int 0)] dX11_undo_26 rfl (by decide) rfl rfl ?_
    obtain ⟨o5, h6, hf⟩ := bd_some hf
    refine l27  _ _ h6 ?_
    refine wa_aload_n (pc := 59) cx 0 dX11_undo_59 rfl rfl ?_
    refine wa_getI (pc := 60) cx fl_X11_181 lk_38 rfl (cx.bl 38 rfl) dX11_undo_60 ?_
    obtain rfl := Option.some.inj hf
    exact wa_iret (pc := 63) cx dX11_undo_63
  · have hf := (if_pos c1).symm.trans hf
    refine wa_ldc (pc := 12) (v := (-1000002)) cx dX11_undo_12 tw_1081 ?_
    obtain rfl := Option.some.inj hf
    exact wa_iret (pc := 14) cx dX11_undo_14
def fX11_yarn_J25  (σ : Sg) : Option (Int32 × Sg) :=
  some ((-1000001), σ)
def fX11_yarn (a1 : Int32) (a2 : Int32) (σ : Sg) : Option (Int32 × Sg) :=
  (fX11_isYarn a1 (sup σ 38 0 0)).bind (fun q1 =>
  if q1 = 0 then (fX11_yarn_J25  (sup σ 38 0 0)) else ((fX11_in ((a2).toInt64) 0 6 (sup σ 38 0 0)).bind (fun q4 =>
  if q4 = 0 then (fX11_yarn_J25  (sup σ 38 0 0)) else (if a2 = 0 then ((fX11_of a1 1 (sup σ 38 0 0)).bind (fun q8 =>
  some (q8, sup σ 38 0 0))) else (if a2 = 1 then ((fX11_of a1 2 (sup σ 38 0 0)).bind (fun q11 =>
  some (q11, sup σ 38 0 0))) else (if a2 = 2 then ((fX11_strength a1 (sup σ 38 0 0)).bind (fun q14 =>
  some (q14, sup σ 38 0 0))) else ((fX11_of a1 a2 (sup σ 38 0 0)).bind (fun q16 =>
  some (q16, sup σ 38 0 0)))))))))
set_option maxHeartbeats 4000000 in
set_option maxRecDepth 100000 in
theorem ct_X11_yarn (l : Launch) (E : En) (σ : Sg) (a1 : Int32) (a2 : Int32) (q : Int32 × Sg) (hf : fX11_yarn a1 a2 σ = some q) : CT l yX11_yarn cX11_yarn 3 (some .int) 4 E σ [.ref (eA E 38), .int a1, .int a2] (some (.int q.1)) q.2 := by
  refine CT.of RX11 [some (.ref (eA E 38)), some (.int a1), some (.int a2)] rfl (by decide +kernel) (Nat.le_of_ble_eq_true rfl) rfl ?_
  intro p e s m args below meth c cx
  unfold fX11_yarn at hf
  have j25 : ∀  (σ : Sg), fX11_yarn_J25  σ = some q → WA p l e (rmd 4) s m args below meth c 3 E 0 0 (MQ below (Qcq E s.heap.size (some (.int q.1)) q.2) args s 0 0 (AE E s.heap.size)) 25 [none, none, none] [] σ := by
    intro  σ hf
    unfold fX11_yarn_J25 at hf
    refine wa_ldc (pc := 25) (v := (-1000001)) cx dX11_yarn_25 tw_956 ?_
    obtain rfl := Option.some.inj hf
    exact wa_iret (pc := 27) cx dX11_yarn_27
  refine wa_aload_n (pc := 0) cx 0 dX11_yarn_0 rfl rfl ?_
  refine wa_iconst (pc := 1) (v := 0) cx dX11_yarn_1 (by decide) ?_
  refine wa_putI (pc := 2) cx fp_X11_50 lk_38 rfl (cx.bl 38 rfl) dX11_yarn_2 ?_
  refine wa_aload_n (pc := 5) cx 0 dX11_yarn_5 rfl rfl ?_
  refine wa_iload_n (pc := 6) cx 1 dX11_yarn_6 rfl rfl ?_
  obtain ⟨q1, h2, hf⟩ := bd_some hf
  refine wa_callVi (pc := 7) cx [.int a1] (ct_X11_isYarn l E _ _ _ h2) mi_X11_isYarn tw_1060 lk_38 rfl (cx.bl 38 rfl) rfl rfl (Nat.le_of_ble_eq_true rfl) ⟨Nat.le_of_ble_eq_true rfl, Nat.le_of_ble_eq_true rfl⟩ ⟨Nat.zero_le _, Nat.zero_le _⟩ dX11_yarn_7 ?_
  refine wa_if_eq (pc := 10) cx 25 dX11_yarn_10 rfl (fun c3 => ?_) (fun c3 => ?_)
  · have hf := (if_pos c3).symm.trans hf
    refine wa_forget [false, false, false] [none, none, none] rfl ?_
    exact j25  _ hf
  · have hf := (if_neg c3).symm.trans hf
    refine wa_iload_n (pc := 13) cx 2 dX11_yarn_13 rfl rfl ?_
    refine wa_i2l (pc := 14) cx dX11_yarn_14 ?_
    refine wa_lconst (pc := 15) (v := 0) cx dX11_yarn_15 (by decide) ?_
    refine wa_ldc2 (pc := 16) (v := 6) cx dX11_yarn_16 tw_1152 ?_
    obtain ⟨q4, h5, hf⟩ := bd_some hf
    refine wa_callSi (pc := 19) cx [.long ((a2).toInt64), .long 0, .long 6] (ct_X11_in l E _ _ _ _ _ h5) ms_X11_in tw_952 rfl rfl (Nat.le_of_ble_eq_true rfl) ⟨Nat.le_of_ble_eq_true rfl, Nat.le_of_ble_eq_true rfl⟩ ⟨Nat.zero_le _, Nat.zero_le _⟩ dX11_yarn_19 ?_
    refine wa_if_ne (pc := 22) cx 28 dX11_yarn_22 rfl (fun c6 => ?_) (fun c6 => ?_)
    · have hf := (if_neg c6).symm.trans hf
      refine wa_iload_n (pc := 28) cx 2 dX11_yarn_28 rfl rfl ?_
      by_cases c7 : a2 = 0
      · have hf := (if_pos c7).symm.trans hf
        refine wa_tabIn (pc := 29) cx 56 dX11_yarn_29 (by rw [c7]; decide) (by rw [c7]; decide) (by rw [c7]; rfl) rfl ?_
        refine wa_aload_n (pc := 56) cx 0 dX11_yarn_56 rfl rfl ?_
        refine wa_iload_n (pc := 57) cx 1 dX11_yarn_57 rfl rfl ?_
        refine wa_iconst (pc := 58) (v := 1) cx dX11_yarn_58 (by decide) ?_
        obtain ⟨q8, h9, hf⟩ := bd_some hf
        refine wa_callVi (pc := 59) cx [.int a1, .int 1] (ct_X11_of l E _ _ _ _ h9) mi_X11_of tw_1069 lk_38 rfl (cx.bl 38 rfl) rfl rfl (Nat.le_of_ble_eq_true rfl) ⟨Nat.le_of_ble_eq_true rfl, Nat.le_of_ble_eq_true rfl⟩ ⟨Nat.zero_le _, Nat.zero_le _⟩ dX11_yarn_59 ?_
        obtain rfl := Option.some.inj hf
        exact wa_iret (pc := 62) cx dX11_yarn_62
      · have hf := (if_neg c7).symm.trans hf
        by_cases c10 : a2 = 1
        · have hf := (if_pos c10).symm.trans hf
          refine wa_tabIn (pc := 29) cx 63 dX11_yarn_29 (by rw [c10]; decide) (by rw [c10]; decide) (by rw [c10]; rfl) rfl ?_
          refine wa_aload_n (pc := 63) cx 0 dX11_yarn_63 rfl rfl ?_
          refine wa_iload_n (pc := 64) cx 1 dX11_yarn_64 rfl rfl ?_
          refine wa_iconst (pc := 65) (v := 2) cx dX11_yarn_65 (by decide) ?_
          obtain ⟨q11, h12, hf⟩ := bd_some hf
          refine wa_callVi (pc := 66) cx [.int a1, .int 2] (ct_X11_of l E _ _ _ _ h12) mi_X11_of tw_1069 lk_38 rfl (cx.bl 38 rfl) rfl rfl (Nat.le_of_ble_eq_true rfl) ⟨Nat.le_of_ble_eq_true rfl, Nat.le_of_ble_eq_true rfl⟩ ⟨Nat.zero_le _, Nat.zero_le _⟩ dX11_yarn_66 ?_
          obtain rfl := Option.some.inj hf
          exact wa_iret (pc := 69) cx dX11_yarn_69
        · have hf := (if_neg c10).symm.trans hf
          by_cases c13 : a2 = 2
          · have hf := (if_pos c13).symm.trans hf
            refine wa_tabIn (pc := 29) cx 70 dX11_yarn_29 (by rw [c13]; decide) (by rw [c13]; decide) (by rw [c13]; rfl) rfl ?_
            refine wa_aload_n (pc := 70) cx 0 dX11_yarn_70 rfl rfl ?_
            refine wa_iload_n (pc := 71) cx 1 dX11_yarn_71 rfl rfl ?_
            obtain ⟨q14, h15, hf⟩ := bd_some hf
            refine wa_callVi (pc := 72) cx [.int a1] (ct_X11_strength l E _ _ _ h15) mi_X11_strength tw_1082 lk_38 rfl (cx.bl 38 rfl) rfl rfl (Nat.le_of_ble_eq_true rfl) ⟨Nat.le_of_ble_eq_true rfl, Nat.le_of_ble_eq_true rfl⟩ ⟨Nat.zero_le _, Nat.zero_le _⟩ dX11_yarn_72 ?_
            obtain rfl := Option.some.inj hf
            exact wa_iret (pc := 75) cx dX11_yarn_75
          · have hf := (if_neg c13).symm.trans hf
            have ec7 : (a2).toInt ≠ 0 := fun z => c7 (Int32.toInt_inj.mp (z.trans (by decide)))
            have ec10 : (a2).toInt ≠ 1 := fun z => c10 (Int32.toInt_inj.mp (z.trans (by decide)))
            have ec13 : (a2).toInt ≠ 2 := fun z => c13 (Int32.toInt_inj.mp (z.trans (by decide)))
            refine wa_tabOut (pc := 29) cx 76 dX11_yarn_29 (by omega) rfl ?_
            refine wa_aload_n (pc := 76) cx 0 dX11_yarn_76 rfl rfl ?_
            refine wa_iload_n (pc := 77) cx 1 dX11_yarn_77 rfl rfl ?_
            refine wa_iload_n (pc := 78) cx 2 dX11_yarn_78 rfl rfl ?_
            obtain ⟨q16, h17, hf⟩ := bd_some hf
            refine wa_callVi (pc := 79) cx [.int a1, .int a2] (ct_X11_of l E _ _ _ _ h17) mi_X11_of tw_1069 lk_38 rfl (cx.bl 38 rfl) rfl rfl (Nat.le_of_ble_eq_true rfl) ⟨Nat.le_of_ble_eq_true rfl, Nat.le_of_ble_eq_true rfl⟩ ⟨Nat.zero_le _, Nat.zero_le _⟩ dX11_yarn_79 ?_
            obtain rfl := Option.some.inj hf
            exact wa_iret (pc := 82) cx dX11_yarn_82
    · have hf := (if_pos c6).symm.trans hf
      refine wa_forget [false, false, false] [none, none, none] rfl ?_
      exact j25  _ hf
def fX11_bears (a1 : Int32) (σ : Sg) : Option (Int32 × Sg) :=
  if gf (sup σ 38 0 0) 38 7 = 0 then (some ((-1000002), sup σ 38 0 0)) else ((fX11_in ((a1).toInt64) 0 3 (sup σ 38 0 0)).bind (fun q2 =>
  if q2 = 0 then (some ((-1000001), sup σ 38 0 0)) else ((fX11_layStrands  (sup σ 38 0 0)).bind (fun q5 =>
  if a1 = 3 then ((fX11_ropeBears  q5).bind (fun q9 =>
  some (q9, q5))) else (gd (inb a1 3) (
  some (ga q5 46 a1, q5)))))))
set_option maxHeartbeats 4000000 in
set_option maxRecDepth 100000 in
theorem ct_X11_bears (l : Launch) (E : En) (σ : Sg) (a1 : Int32) (q : Int32 × Sg) (hf : fX11_bears a1 σ = some q) : CT l yX11_bears cX11_bears 2 (some .int) 5 E σ [.ref (eA E 38), .int a1] (some (.int q.1)) q.2 := by
  refine CT.of RX11 [some (.ref (eA E 38)), some (.int a1)] rfl (by decide +kernel) (Nat.le_of_ble_eq_true rfl) rfl ?_
  intro p e s m args below meth c cx
  unfold fX11_bears at hf
  refine wa_aload_n (pc := 0) cx 0 dX11_bears_0 rfl rfl ?_
  refine wa_iconst (pc := 1) (v := 0) cx dX11_bears_1 (by decide) ?_
  refine wa_putI (pc := 2) cx fp_X11_50 lk_38 rfl (cx.bl 38 rfl) dX11_bears_2 ?_
  refine wa_aload_n (pc := 5) cx 0 dX11_bears_5 rfl rfl ?_
  refine wa_getI (pc := 6) cx fl_X11_177 lk_38 rfl (cx.bl 38 rfl) dX11_bears_6 ?_
  refine wa_if_ne (pc := 9) cx 15 dX11_bears_9 rfl (fun c1 => ?_) (fun c1 => ?_)
  · have hf := (if_neg c1).symm.trans hf
    refine wa_iload_n (pc := 15) cx 1 dX11_bears_15 rfl rfl ?_
    refine wa_i2l (pc := 16) cx dX11_bears_16 ?_
    refine wa_lconst (pc := 17) (v := 0) cx dX11_bears_17 (by decide) ?_
    refine wa_ldc2 (pc := 18) (v := 3) cx dX11_bears_18 tw_1157 ?_
    obtain ⟨q2, h3, hf⟩ := bd_some hf
    refine wa_callSi (pc := 21) cx [.long ((a1).toInt64), .long 0, .long 3] (ct_X11_in l E _ _ _ _ _ h3) ms_X11_in tw_952 rfl rfl (Nat.le_of_ble_eq_true rfl) ⟨Nat.le_of_ble_eq_true rfl, Nat.le_of_ble_eq_true rfl⟩ ⟨Nat.zero_le _, Nat.zero_le _⟩ dX11_bears_21 ?_
    refine wa_if_ne (pc := 24) cx 30 dX11_bears_24 rfl (fun c4 => ?_) (fun c4 => ?_)
    · have hf := (if_neg c4).symm.trans hf
      refine wa_aload_n (pc := 30) cx 0 dX11_bears_30 rfl rfl ?_
      obtain ⟨q5, h6, hf⟩ := bd_some hf
      refine wa_callVv (pc := 31) cx [] (ct_X11_layStrands l E _  _ h6) mi_X11_layStrands tw_1120 lk_38 rfl (cx.bl 38 rfl) rfl rfl (Nat.le_of_ble_eq_true rfl) ⟨Nat.le_of_ble_eq_true rfl, Nat.le_of_ble_eq_true rfl⟩ ⟨Nat.zero_le _, Nat.zero_le _⟩ dX11_bears_31 ?_
      refine wa_iload_n (pc := 34) cx 1 dX11_bears_34 rfl rfl ?_
      refine wa_iconst (pc := 35) (v := 3) cx dX11_bears_35 (by decide) ?_
      refine wa_icmp_ne (pc := 36) cx 46 dX11_bears_36 rfl (fun c7 => ?_) (fun c7 => ?_)
      · have hf := (if_neg c7).symm.trans hf
        refine wa_aload_n (pc := 46) cx 0 dX11_bears_46 rfl rfl ?_
        refine wa_getR (pc := 47) cx fl_X11_31 lk_38 rfl (cx.bl 38 rfl) dX11_bears_47 ?_
        refine wa_iload_n (pc := 50) cx 1 dX11_bears_50 rfl rfl ?_
        obtain ⟨g8, hf⟩ := gd_some hf
        refine wa_iald (pc := 51) cx lk_46 (cx.bl 46 rfl) g8 dX11_bears_51 ?_
        obtain rfl := Option.some.inj hf
        exact wa_iret (pc := 52) cx dX11_bears_52
      · have hf := (if_pos c7).symm.trans hf
        refine wa_aload_n (pc := 39) cx 0 dX11_bears_39 rfl rfl ?_
        obtain ⟨q9, h10, hf⟩ := bd_some hf
        refine wa_callVi (pc := 40) cx [] (ct_X11_ropeBears l E _  _ h10) mi_X11_ropeBears tw_1132 lk_38 rfl (cx.bl 38 rfl) rfl rfl (Nat.le_of_ble_eq_true rfl) ⟨Nat.le_of_ble_eq_true rfl, Nat.le_of_ble_eq_true rfl⟩ ⟨Nat.zero_le _, Nat.zero_le _⟩ dX11_bears_40 ?_
        refine wa_goto (pc := 43) cx 52 dX11_bears_43 rfl ?_
        obtain rfl := Option.some.inj hf
        exact wa_iret (pc := 52) cx dX11_bears_52
    · have hf := (if_pos c4).symm.trans hf
      refine wa_ldc (pc := 27) (v := (-1000001)) cx dX11_bears_27 tw_956 ?_
      obtain rfl := Option.some.inj hf
      exact wa_iret (pc := 29) cx dX11_bears_29
  · have hf := (if_pos c1).symm.trans hf
    refine wa_ldc (pc := 12) (v := (-1000002)) cx dX11_bears_12 tw_1081 ?_
    obtain rfl := Option.some.inj hf
    exact wa_iret (pc := 14) cx dX11_bears_14
def fX11_bearsBy_B15  (v2 : Int32) (v3 : Int32) (σ : Sg) : Option ((Int32 × Int32 × Sg) ⊕ (Sg)) :=
  if v3 < 0 then (some (.inr σ)) else (gd (inb (irm v2 3) 3) (
  (fX11_strength v3 σ).bind (fun q6 =>
  gd (inb (irm v2 3) 3) (
  some (.inl ((v2 / 3), (v3 + (-1)), sa σ 46 (irm v2 3) (ga σ 46 (irm v2 3) + q6)))))))
def fX11_bearsBy (a1 : Int32) (σ : Sg) : Option (Int32 × Sg) :=
  (fX11_noStrands  σ).bind (fun q1 =>
  gd (inb 3 77) (
  (lpO (fun w => fX11_bearsBy_B15  w.1 w.2.1 w.2.2) FUEL (a1, (ga q1 42 3 - 1), q1)).bind (fun o9 =>
  (fX11_ropeBears  o9).bind (fun q10 =>
  some (q10, o9)))))
set_option maxHeartbeats 4000000 in
set_option maxRecDepth 100000 in
theorem ct_X11_bearsBy (l : Launch) (E : En) (σ : Sg) (a1 : Int32) (q : Int32 × Sg) (hf : fX11_bearsBy a1 σ = some q) : CT l yX11_bearsBy cX11_bearsBy 4 (some .int) 4 E σ [.ref (eA E 38), .int a1] (some (.int q.1)) q.2 := by
  refine CT.of RX11 [some (.ref (eA E 38)), some (.int a1), none, none] rfl (by decide +kernel) (Nat.le_of_ble_eq_true rfl) rfl ?_
  intro p e s m args below meth c cx
  unfold fX11_bearsBy at hf
  have l15 : ∀  (y : Int32 × Int32 × Sg) (o : Sg), lpO (fun w => fX11_bearsBy_B15  w.1 w.2.1 w.2.2) FUEL y = some o → (WA p l e (rmd 4) s m args below meth c 4 E 0 0 (MQ below (Qcq E s.heap.size (some (.int q.1)) q.2) args s 0 0 (AE E s.heap.size)) 45 [some (.ref (eA E 38)), none, none, none] [] o) → WA p l e (rmd 4) s m args below meth c 4 E 0 0 (MQ below (Qcq E s.heap.size (some (.int q.1)) q.2) args s 0 0 (AE E s.heap.size)) 15 [some (.ref (eA E 38)), none, some (.int y.1), some (.int y.2.1)] [] y.2.2 := by
    intro  y o hf hk
    refine lp_rule (P := fun y => WA p l e (rmd 4) s m args below meth c 4 E 0 0 (MQ below (Qcq E s.heap.size (some (.int q.1)) q.2) args s 0 0 (AE E s.heap.size)) 15 [some (.ref (eA E 38)), none, some (.int y.1), some (.int y.2.1)] [] y.2.2) (K := fun o => WA p l e (rmd 4) s m args below meth c 4 E 0 0 (MQ below (Qcq E s.heap.size (some (.int q.1)) q.2) args s 0 0 (AE E s.heap.size)) 45 [some (.ref (eA E 38)), none, none, none] [] o) ?_ FUEL y o hf hk
    intro y0 r1 hf hk1
    obtain ⟨v2, v3, σ⟩ := y0
    have hf : fX11_bearsBy_B15  v2 v3 σ = some r1 := hf
    unfold fX11_bearsBy_B15 at hf
    refine wa_iload_n (pc := 15) cx 3 dX11_bearsBy_15 rfl rfl ?_
    refine wa_if_lt (pc := 16) cx 45 dX11_bearsBy_16 rfl (fun c4 => ?_) (fun c4 => ?_)
    · have hf := (if_pos c4).symm.trans hf
      obtain rfl := Option.some.inj hf
      refine wa_forget [true, false, false, false] [some (.ref (eA E 38)), none, none, none] rfl ?_
      exact hk1
    · have hf := (if_neg c4).symm.trans hf
      refine wa_aload_n (pc := 19) cx 0 dX11_bearsBy_19 rfl rfl ?_
      refine wa_getR (pc := 20) cx fl_X11_31 lk_38 rfl (cx.bl 38 rfl) dX11_bearsBy_20 ?_
      refine wa_iload_n (pc := 23) cx 2 dX11_bearsBy_23 rfl rfl ?_
      refine wa_iconst (pc := 24) (v := 3) cx dX11_bearsBy_24 (by decide) ?_
      refine wa_irem (pc := 25) cx dX11_bearsBy_25 (by decide) ?_
      refine wa_dup2 (pc := 26) cx dX11_bearsBy_26 rfl rfl ?_
      obtain ⟨g5, hf⟩ := gd_some hf
      refine wa_iald (pc := 27) cx lk_46 (cx.bl 46 rfl) g5 dX11_bearsBy_27 ?_
      refine wa_aload_n (pc := 28) cx 0 dX11_bearsBy_28 rfl rfl ?_
      refine wa_iload_n (pc := 29) cx 3 dX11_bearsBy_29 rfl rfl ?_
      obtain ⟨q6, h7, hf⟩ := bd_some hf
      refine wa_callVi (pc := 30) cx [.int v3] (ct_X11_strength l E _ _ _ h7) mi_X11_strength tw_1082 lk_38 rfl (cx.bl 38 rfl) rfl rfl (Nat.le_of_ble_eq_true rfl) ⟨Nat.le_of_ble_eq_true rfl, Nat.le_of_ble_eq_true rfl⟩ ⟨Nat.zero_le _, Nat.zero_le _⟩ dX11_bearsBy_30 ?_
      refine wa_iadd (pc := 33) cx dX11_bearsBy_33 ?_
      obtain ⟨g8, hf⟩ := gd_some hf
      refine wa_iast (pc := 34) cx lk_46 (cx.bl 46 rfl) g8 dX11_bearsBy_34 ?_
      refine wa_iload_n (pc := 35) cx 2 dX11_bearsBy_35 rfl rfl ?_
      refine wa_iconst (pc := 36) (v := 3) cx dX11_bearsBy_36 (by decide) ?_
      refine wa_idiv (pc := 37) cx dX11_bearsBy_37 (by decide) ?_
      refine wa_istore_n (pc := 38) cx 2 [some (.ref (eA E 38)), none, some (.int (v2 / 3)), some (.int v3)] dX11_bearsBy_38 rfl (by decide) rfl rfl ?_
      refine wa_iinc (pc := 39) (v := (-1)) cx 3 [some (.ref (eA E 38)), none, some (.int (v2 / 3)), some (.int (v3 + (-1)))] dX11_bearsBy_39 (by decide) rfl (by decide) rfl rfl ?_
      refine wa_goto (pc := 42) cx 15 dX11_bearsBy_42 rfl ?_
      obtain rfl := Option.some.inj hf
      refine wa_forget [true, false, true, true] [some (.ref (eA E 38)), none, some (.int (v2 / 3)), some (.int (v3 + (-1)))] rfl ?_
      exact hk1
  refine wa_iload_n (pc := 0) cx 1 dX11_bearsBy_0 rfl rfl ?_
  refine wa_istore_n (pc := 1) cx 2 [some (.ref (eA E 38)), some (.int a1), some (.int a1), none] dX11_bearsBy_1 rfl (by decide) rfl rfl ?_
  refine wa_aload_n (pc := 2) cx 0 dX11_bearsBy_2 rfl rfl ?_
  obtain ⟨q1, h2, hf⟩ := bd_some hf
  refine wa_callVv (pc := 3) cx [] (ct_X11_noStrands l E _  _ h2) mi_X11_noStrands tw_1124 lk_38 rfl (cx.bl 38 rfl) rfl rfl (Nat.le_of_ble_eq_true rfl) ⟨Nat.le_of_ble_eq_true rfl, Nat.le_of_ble_eq_true rfl⟩ ⟨Nat.zero_le _, Nat.zero_le _⟩ dX11_bearsBy_3 ?_
  refine wa_aload_n (pc := 6) cx 0 dX11_bearsBy_6 rfl rfl ?_
  refine wa_getR (pc := 7) cx fl_X11_19 lk_38 rfl (cx.bl 38 rfl) dX11_bearsBy_7 ?_
  refine wa_iconst (pc := 10) (v := 3) cx dX11_bearsBy_10 (by decide) ?_
  obtain ⟨g3, hf⟩ := gd_some hf
  refine wa_iald (pc := 11) cx lk_42 (cx.bl 42 rfl) g3 dX11_bearsBy_11 ?_
  refine wa_iconst (pc := 12) (v := 1) cx dX11_bearsBy_12 (by decide) ?_
  refine wa_isub (pc := 13) cx dX11_bearsBy_13 ?_
  refine wa_istore_n (pc := 14) cx 3 [some (.ref (eA E 38)), some (.int a1), some (.int a1), some (.int (ga q1 42 3 - 1))] dX11_bearsBy_14 rfl (by decide) rfl rfl ?_
  refine wa_forget [true, false, true, true] [some (.ref (eA E 38)), none, some (.int a1), some (.int (ga q1 42 3 - 1))] rfl ?_
  obtain ⟨o9, h12, hf⟩ := bd_some hf
  refine l15  _ _ h12 ?_
  refine wa_aload_n (pc := 45) cx 0 dX11_bearsBy_45 rfl rfl ?_
  obtain ⟨q10, h11, hf⟩ := bd_some hf
  refine wa_callVi (pc := 46) cx [] (ct_X11_ropeBears l E _  _ h11) mi_X11_ropeBears tw_1132 lk_38 rfl (cx.bl 38 rfl) rfl rfl (Nat.le_of_ble_eq_true rfl) ⟨Nat.le_of_ble_eq_true rfl, Nat.le_of_ble_eq_true rfl⟩ ⟨Nat.zero_le _, Nat.zero_le _⟩ dX11_bearsBy_46 ?_
  obtain rfl := Option.some.inj hf
  exact wa_iret (pc := 49) cx dX11_bearsBy_49
