def fX11_image_B30 (v1 : Int32) (v2 : Int32) (σ : Sg) : Option ((Int32 × Sg) ⊕ (Sg)) :=
  if (77 : Int32) ≤ v2 then (some (.inr σ)) else (gd (inb v2 77) (
  gd (inb ((77 * v1) + v2) 154) (
  some (.inl ((v2 + 1), sa σ 50 ((77 * v1) + v2) (ga σ 42 v2))))))
def fX11_image (a1 : Int32) (σ : Sg) : Option (Int32 × Sg) :=
  (fX11_in ((a1).toInt64) 0 1 (sup σ 38 0 0)).bind (fun q1 =>
  if q1 = 0 then (some ((-1000001), sup σ 38 0 0)) else (if gf (sup σ 38 0 0) 38 7 = 0 then (some ((-1000002), sup σ 38 0 0)) else ((lpO (fun w => fX11_image_B30 a1 w.1 w.2) FUEL (0, sup σ 38 0 0)).bind (fun o8 =>
  gd (inb a1 2) (
  some (1, sa o8 49 a1 (vp_nar .boolean 1)))))))
set_option maxHeartbeats 4000000 in
set_option maxRecDepth 100000 in
theorem ct_X11_image (l : Launch) (E : En) (σ : Sg) (a1 : Int32) (q : Int32 × Sg) (hf : fX11_image a1 σ = some q) : CT l yX11_image cX11_image 3 (some .int) 1 E σ [.ref (eA E 38), .int a1] (some (.int q.1)) q.2 := by
  refine CT.of RX11 [some (.ref (eA E 38)), some (.int a1), none] rfl (by decide +kernel) (Nat.le_of_ble_eq_true rfl) rfl ?_
  intro p e s m args below meth c cx
  unfold fX11_image at hf
  have l30 : ∀ (v1 : Int32) (y : Int32 × Sg) (o : Sg), lpO (fun w => fX11_image_B30 v1 w.1 w.2) FUEL y = some o → (WA p l e (rmd 1) s m args below meth c 3 E 0 0 (MQ below (Qcq E s.heap.size (some (.int q.1)) q.2) args s 0 0 (AE E s.heap.size)) 59 [some (.ref (eA E 38)), some (.int v1), none] [] o) → WA p l e (rmd 1) s m args below meth c 3 E 0 0 (MQ below (Qcq E s.heap.size (some (.int q.1)) q.2) args s 0 0 (AE E s.heap.size)) 30 [some (.ref (eA E 38)), some (.int v1), some (.int y.1)] [] y.2 := by
    intro v1 y o hf hk
    refine lp_rule (P := fun y => WA p l e (rmd 1) s m args below meth c 3 E 0 0 (MQ below (Qcq E s.heap.size (some (.int q.1)) q.2) args s 0 0 (AE E s.heap.size)) 30 [some (.ref (eA E 38)), some (.int v1), some (.int y.1)] [] y.2) (K := fun o => WA p l e (rmd 1) s m args below meth c 3 E 0 0 (MQ below (Qcq E s.heap.size (some (.int q.1)) q.2) args s 0 0 (AE E s.heap.size)) 59 [some (.ref (eA E 38)), some (.int v1), none] [] o) ?_ FUEL y o hf hk
    intro y0 r1 hf hk1
    obtain ⟨v2, σ⟩ := y0
    have hf : fX11_image_B30 v1 v2 σ = some r1 := hf
    unfold fX11_image_B30 at hf
    refine wa_iload_n (pc := 30) cx 2 dX11_image_30 rfl rfl ?_
    refine wa_bipush (pc := 31) (v := 77) cx dX11_image_31 (by decide) ?_
    refine wa_icmp_ge (pc := 33) cx 59 dX11_image_33 rfl (fun c5 => ?_) (fun c5 => ?_)
    · have hf := (if_pos c5).symm.trans hf
      obtain rfl := Option.some.inj hf
      refine wa_forget [true, true, false] [some (.ref (eA E 38)), some (.int v1), none] rfl ?_
      exact hk1
    · have hf := (if_neg c5).symm.trans hf
      refine wa_aload_n (pc := 36) cx 0 dX11_image_36 rfl rfl ?_
      refine wa_getR (pc := 37) cx fl_X11_44 lk_38 rfl (cx.bl 38 rfl) dX11_image_37 ?_
      refine wa_bipush (pc := 40) (v := 77) cx dX11_image_40 (by decide) ?_
      refine wa_iload_n (pc := 42) cx 1 dX11_image_42 rfl rfl ?_
      refine wa_imul (pc := 43) cx dX11_image_43 ?_
      refine wa_iload_n (pc := 44) cx 2 dX11_image_44 rfl rfl ?_
      refine wa_iadd (pc := 45) cx dX11_image_45 ?_
      refine wa_aload_n (pc := 46) cx 0 dX11_image_46 rfl rfl ?_
      refine wa_getR (pc := 47) cx fl_X11_19 lk_38 rfl (cx.bl 38 rfl) dX11_image_47 ?_
      refine wa_iload_n (pc := 50) cx 2 dX11_image_50 rfl rfl ?_
      obtain ⟨g6, hf⟩ := gd_some hf
      refine wa_iald (pc := 51) cx lk_42 (cx.bl 42 rfl) g6 dX11_image_51 ?_
      obtain ⟨g7, hf⟩ := gd_some hf
      refine wa_iast (pc := 52) cx lk_50 (cx.bl 50 rfl) g7 dX11_image_52 ?_
      refine wa_iinc (pc := 53) (v := 1) cx 2 [some (.ref (eA E 38)), some (.int v1), some (.int (v2 + 1))] dX11_image_53 (by decide) rfl (by decide) rfl rfl ?_
      refine wa_goto (pc := 56) cx 30 dX11_image_56 rfl ?_
      obtain rfl := Option.some.inj hf
      refine wa_forget [true, true, true] [some (.ref (eA E 38)), some (.int v1), some (.int (v2 + 1))] rfl ?_
      exact hk1
  refine wa_aload_n (pc := 0) cx 0 dX11_image_0 rfl rfl ?_
  refine wa_iconst (pc := 1) (v := 0) cx dX11_image_1 (by decide) ?_
  refine wa_putI (pc := 2) cx fp_X11_50 lk_38 rfl (cx.bl 38 rfl) dX11_image_2 ?_
  refine wa_iload_n (pc := 5) cx 1 dX11_image_5 rfl rfl ?_
  refine wa_i2l (pc := 6) cx dX11_image_6 ?_
  refine wa_lconst (pc := 7) (v := 0) cx dX11_image_7 (by decide) ?_
  refine wa_lconst (pc := 8) (v := 1) cx dX11_image_8 (by decide) ?_
  obtain ⟨q1, h2, hf⟩ := bd_some hf
  refine wa_callSi (pc := 9) cx [.long ((a1).toInt64), .long 0, .long 1] (ct_X11_in l E _ _ _ _ _ h2) ms_X11_in tw_952 rfl rfl (Nat.le_of_ble_eq_true rfl) ⟨Nat.le_of_ble_eq_true rfl, Nat.le_of_ble_eq_true rfl⟩ ⟨Nat.zero_le _, Nat.zero_le _⟩ dX11_image_9 ?_
  refine wa_if_ne (pc := 12) cx 18 dX11_image_12 rfl (fun c3 => ?_) (fun c3 => ?_)
  · have hf := (if_neg c3).symm.trans hf
    refine wa_aload_n (pc := 18) cx 0 dX11_image_18 rfl rfl ?_
    refine wa_getI (pc := 19) cx fl_X11_177 lk_38 rfl (cx.bl 38 rfl) dX11_image_19 ?_
    refine wa_if_ne (pc := 22) cx 28 dX11_image_22 rfl (fun c4 => ?_) (fun c4 => ?_)
    · have hf := (if_neg c4).symm.trans hf
      refine wa_iconst (pc := 28) (v := 0) cx dX11_image_28 (by decide) ?_
      refine wa_istore_n (pc := 29) cx 2 [some (.ref (eA E 38)), some (.int a1), some (.int 0)] dX11_image_29 rfl (by decide) rfl rfl ?_
      obtain ⟨o8, h10, hf⟩ := bd_some hf
      refine l30 _ _ _ h10 ?_
      refine wa_aload_n (pc := 59) cx 0 dX11_image_59 rfl rfl ?_
      refine wa_getR (pc := 60) cx fl_X11_40 lk_38 rfl (cx.bl 38 rfl) dX11_image_60 ?_
      refine wa_iload_n (pc := 63) cx 1 dX11_image_63 rfl rfl ?_
      refine wa_iconst (pc := 64) (v := 1) cx dX11_image_64 (by decide) ?_
      obtain ⟨g9, hf⟩ := gd_some hf
      refine wa_zast (pc := 65) cx lk_49 (cx.bl 49 rfl) g9 dX11_image_65 ?_
      refine wa_iconst (pc := 66) (v := 1) cx dX11_image_66 (by decide) ?_
      obtain rfl := Option.some.inj hf
      exact wa_iret (pc := 67) cx dX11_image_67
    · have hf := (if_pos c4).symm.trans hf
      refine wa_ldc (pc := 25) (v := (-1000002)) cx dX11_image_25 tw_1081 ?_
      obtain rfl := Option.some.inj hf
      exact wa_iret (pc := 27) cx dX11_image_27
  · have hf := (if_pos c3).symm.trans hf
    refine wa_ldc (pc := 15) (v := (-1000001)) cx dX11_image_15 tw_956 ?_
    obtain rfl := Option.some.inj hf
    exact wa_iret (pc := 17) cx dX11_image_17
def fX11_restore_B32 (v1 : Int32) (v2 : Int32) (σ : Sg) : Option ((Int32 × Sg) ⊕ (Sg)) :=
  if (77 : Int32) ≤ v2 then (some (.inr σ)) else (gd (inb ((77 * v1) + v2) 154) (
  gd (inb v2 77) (
  some (.inl ((v2 + 1), sa σ 42 v2 (ga σ 50 ((77 * v1) + v2)))))))
def fX11_restore (a1 : Int32) (σ : Sg) : Option (Int32 × Sg) :=
  (fX11_in ((a1).toInt64) 0 1 (sup σ 38 0 0)).bind (fun q1 =>
  if q1 = 0 then (some ((-1000001), sup σ 38 0 0)) else (gd (inb a1 2) (
  if ga (sup σ 38 0 0) 49 a1 = 0 then (some ((-1000002), sup σ 38 0 0)) else ((lpO (fun w => fX11_restore_B32 a1 w.1 w.2) FUEL (0, sup σ 38 0 0)).bind (fun o9 =>
  some (1, sup o9 38 9 0))))))
set_option maxHeartbeats 4000000 in
set_option maxRecDepth 100000 in
theorem ct_X11_restore (l : Launch) (E : En) (σ : Sg) (a1 : Int32) (q : Int32 × Sg) (hf : fX11_restore a1 σ = some q) : CT l yX11_restore cX11_restore 3 (some .int) 1 E σ [.ref (eA E 38), .int a1] (some (.int q.1)) q.2 := by
  refine CT.of RX11 [some (.ref (eA E 38)), some (.int a1), none] rfl (by decide +kernel) (Nat.le_of_ble_eq_true rfl) rfl ?_
  intro p e s m args below meth c cx
  unfold fX11_restore at hf
  have l32 : ∀ (v1 : Int32) (y : Int32 × Sg) (o : Sg), lpO (fun w => fX11_restore_B32 v1 w.1 w.2) FUEL y = some o → (WA p l e (rmd 1) s m args below meth c 3 E 0 0 (MQ below (Qcq E s.heap.size (some (.int q.1)) q.2) args s 0 0 (AE E s.heap.size)) 61 [some (.ref (eA E 38)), none, none] [] o) → WA p l e (rmd 1) s m args below meth c 3 E 0 0 (MQ below (Qcq E s.heap.size (some (.int q.1)) q.2) args s 0 0 (AE E s.heap.size)) 32 [some (.ref (eA E 38)), some (.int v1), some (.int y.1)] [] y.2 := by
    intro v1 y o hf hk
    refine lp_rule (P := fun y => WA p l e (rmd 1) s m args below meth c 3 E 0 0 (MQ below (Qcq E s.heap.size (some (.int q.1)) q.2) args s 0 0 (AE E s.heap.size)) 32 [some (.ref (eA E 38)), some (.int v1), some (.int y.1)] [] y.2) (K := fun o => WA p l e (rmd 1) s m args below meth c 3 E 0 0 (MQ below (Qcq E s.heap.size (some (.int q.1)) q.2) args s 0 0 (AE E s.heap.size)) 61 [some (.ref (eA E 38)), none, none] [] o) ?_ FUEL y o hf hk
    intro y0 r1 hf hk1
    obtain ⟨v2, σ⟩ := y0
    have hf : fX11_restore_B32 v1 v2 σ = some r1 := hf
    unfold fX11_restore_B32 at hf
    refine wa_iload_n (pc := 32) cx 2 dX11_restore_32 rfl rfl ?_
    refine wa_bipush (pc := 33) (v := 77) cx dX11_restore_33 (by decide) ?_
    refine wa_icmp_ge (pc := 35) cx 61 dX11_restore_35 rfl (fun c6 => ?_) (fun c6 => ?_)
    · have hf := (if_pos c6).symm.trans hf
      obtain rfl := Option.some.inj hf
      refine wa_forget [true, false, false] [some (.ref (eA E 38)), none, none] rfl ?_
      exact hk1
    · have hf := (if_neg c6).symm.trans hf
      refine wa_aload_n (pc := 38) cx 0 dX11_restore_38 rfl rfl ?_
      refine wa_getR (pc := 39) cx fl_X11_19 lk_38 rfl (cx.bl 38 rfl) dX11_restore_39 ?_
      refine wa_iload_n (pc := 42) cx 2 dX11_restore_42 rfl rfl ?_
      refine wa_aload_n (pc := 43) cx 0 dX11_restore_43 rfl rfl ?_
      refine wa_getR (pc := 44) cx fl_X11_44 lk_38 rfl (cx.bl 38 rfl) dX11_restore_44 ?_
      refine wa_bipush (pc := 47) (v := 77) cx dX11_restore_47 (by decide) ?_
      refine wa_iload_n (pc := 49) cx 1 dX11_restore_49 rfl rfl ?_
      refine wa_imul (pc := 50) cx dX11_restore_50 ?_
      refine wa_iload_n (pc := 51) cx 2 dX11_restore_51 rfl rfl ?_
      refine wa_iadd (pc := 52) cx dX11_restore_52 ?_
      obtain ⟨g7, hf⟩ := gd_some hf
      refine wa_iald (pc := 53) cx lk_50 (cx.bl 50 rfl) g7 dX11_restore_53 ?_
      obtain ⟨g8, hf⟩ := gd_some hf
      refine wa_iast (pc := 54) cx lk_42 (cx.bl 42 rfl) g8 dX11_restore_54 ?_
      refine wa_iinc (pc := 55) (v := 1) cx 2 [some (.ref (eA E 38)), some (.int v1), some (.int (v2 + 1))] dX11_restore_55 (by decide) rfl (by decide) rfl rfl ?_
      refine wa_goto (pc := 58) cx 32 dX11_restore_58 rfl ?_
      obtain rfl := Option.some.inj hf
      refine wa_forget [true, true, true] [some (.ref (eA E 38)), some (.int v1), some (.int (v2 + 1))] rfl ?_
      exact hk1
  refine wa_aload_n (pc := 0) cx 0 dX11_restore_0 rfl rfl ?_
  refine wa_iconst (pc := 1) (v := 0) cx dX11_restore_1 (by decide) ?_
  refine wa_putI (pc := 2) cx fp_X11_50 lk_38 rfl (cx.bl 38 rfl) dX11_restore_2 ?_
  refine wa_iload_n (pc := 5) cx 1 dX11_restore_5 rfl rfl ?_
  refine wa_i2l (pc := 6) cx dX11_restore_6 ?_
  refine wa_lconst (pc := 7) (v := 0) cx dX11_restore_7 (by decide) ?_
  refine wa_lconst (pc := 8) (v := 1) cx dX11_restore_8 (by decide) ?_
  obtain ⟨q1, h2, hf⟩ := bd_some hf
  refine wa_callSi (pc := 9) cx [.long ((a1).toInt64), .long 0, .long 1] (ct_X11_in l E _ _ _ _ _ h2) ms_X11_in tw_952 rfl rfl (Nat.le_of_ble_eq_true rfl) ⟨Nat.le_of_ble_eq_true rfl, Nat.le_of_ble_eq_true rfl⟩ ⟨Nat.zero_le _, Nat.zero_le _⟩ dX11_restore_9 ?_
  refine wa_if_ne (pc := 12) cx 18 dX11_restore_12 rfl (fun c3 => ?_) (fun c3 => ?_)
  · have hf := (if_neg c3).symm.trans hf
    refine wa_aload_n (pc := 18) cx 0 dX11_restore_18 rfl rfl ?_
    refine wa_getR (pc := 19) cx fl_X11_40 lk_38 rfl (cx.bl 38 rfl) dX11_restore_19 ?_
    refine wa_iload_n (pc := 22) cx 1 dX11_restore_22 rfl rfl ?_
    obtain ⟨g4, hf⟩ := gd_some hf
    refine wa_zald (pc := 23) cx lk_49 (cx.bl 49 rfl) g4 dX11_restore_23 ?_
    refine wa_if_ne (pc := 24) cx 30 dX11_restore_24 rfl (fun c5 => ?_) (fun c5 => ?_)
    · have hf := (if_neg c5).symm.trans hf
      refine wa_iconst (pc := 30) (v := 0) cx dX11_restore_30 (by decide) ?_
      refine wa_istore_n (pc := 31) cx 2 [some (.ref (eA E 38)), some (.int a1), some (.int 0)] dX11_restore_31 rfl (by decide) rfl rfl ?_
      obtain ⟨o9, h10, hf⟩ := bd_some hf
      refine l32 _ _ _ h10 ?_
      refine wa_aload_n (pc := 61) cx 0 dX11_restore_61 rfl rfl ?_
      refine wa_iconst (pc := 62) (v := 0) cx dX11_restore_62 (by decide) ?_
      refine wa_putI (pc := 63) cx fp_X11_181 lk_38 rfl (cx.bl 38 rfl) dX11_restore_63 ?_
      refine wa_iconst (pc := 66) (v := 1) cx dX11_restore_66 (by decide) ?_
      obtain rfl := Option.some.inj hf
      exact wa_iret (pc := 67) cx dX11_restore_67
    · have hf := (if_pos c5).symm.trans hf
      refine wa_ldc (pc := 27) (v := (-1000002)) cx dX11_restore_27 tw_1081 ?_
      obtain rfl := Option.some.inj hf
      exact wa_iret (pc := 29) cx dX11_restore_29
  · have hf := (if_pos c3).symm.trans hf
    refine wa_ldc (pc := 15) (v := (-1000001)) cx dX11_restore_15 tw_956 ?_
    obtain rfl := Option.some.inj hf
    exact wa_iret (pc := 17) cx dX11_restore_17
def fX11_kind (a1 : Int32) (σ : Sg) : Option (Int32 × Sg) :=
  (fX11_isYarn a1 (sup σ 38 0 0)).bind (fun q1 =>
  if q1 = 0 then (some ((-1000001), sup σ 38 0 0)) else ((fX11_of a1 0 (sup σ 38 0 0)).bind (fun q4 =>
  some (q4, sup σ 38 0 0))))
set_option maxHeartbeats 4000000 in
set_option maxRecDepth 100000 in
theorem ct_X11_kind (l : Launch) (E : En) (σ : Sg) (a1 : Int32) (q : Int32 × Sg) (hf : fX11_kind a1 σ = some q) : CT l yX11_kind cX11_kind 2 (some .int) 2 E σ [.ref (eA E 38), .int a1] (some (.int q.1)) q.2 := by
  refine CT.of RX11 [some (.ref (eA E 38)), some (.int a1)] rfl (by decide +kernel) (Nat.le_of_ble_eq_true rfl) rfl ?_
  intro p e s m args below meth c cx
  unfold fX11_kind at hf
  refine wa_aload_n (pc := 0) cx 0 dX11_kind_0 rfl rfl ?_
  refine wa_iconst (pc := 1) (v := 0) cx dX11_kind_1 (by decide) ?_
  refine wa_putI (pc := 2) cx fp_X11_50 lk_38 rfl (cx.bl 38 rfl) dX11_kind_2 ?_
  refine wa_aload_n (pc := 5) cx 0 dX11_kind_5 rfl rfl ?_
  refine wa_iload_n (pc := 6) cx 1 dX11_kind_6 rfl rfl ?_
  obtain ⟨q1, h2, hf⟩ := bd_some hf
  refine wa_callVi (pc := 7) cx [.int a1] (ct_X11_isYarn l E _ _ _ h2) mi_X11_isYarn tw_1060 lk_38 rfl (cx.bl 38 rfl) rfl rfl (Nat.le_of_ble_eq_true rfl) ⟨Nat.le_of_ble_eq_true rfl, Nat.le_of_ble_eq_true rfl⟩ ⟨Nat.zero_le _, Nat.zero_le _⟩ dX11_kind_7 ?_
  refine wa_if_eq (pc := 10) cx 22 dX11_kind_10 rfl (fun c3 => ?_) (fun c3 => ?_)
  · have hf := (if_pos c3).symm.trans hf
    refine wa_ldc (pc := 22) (v := (-1000001)) cx dX11_kind_22 tw_956 ?_
    obtain rfl := Option.some.inj hf
    exact wa_iret (pc := 24) cx dX11_kind_24
  · have hf := (if_neg c3).symm.trans hf
    refine wa_aload_n (pc := 13) cx 0 dX11_kind_13 rfl rfl ?_
    refine wa_iload_n (pc := 14) cx 1 dX11_kind_14 rfl rfl ?_
    refine wa_iconst (pc := 15) (v := 0) cx dX11_kind_15 (by decide) ?_
    obtain ⟨q4, h5, hf⟩ := bd_some hf
    refine wa_callVi (pc := 16) cx [.int a1, .int 0] (ct_X11_of l E _ _ _ _ h5) mi_X11_of tw_1069 lk_38 rfl (cx.bl 38 rfl) rfl rfl (Nat.le_of_ble_eq_true rfl) ⟨Nat.le_of_ble_eq_true rfl, Nat.le_of_ble_eq_true rfl⟩ ⟨Nat.zero_le _, Nat.zero_le _⟩ dX11_kind_16 ?_
    refine wa_goto (pc := 19) cx 24 dX11_kind_19 rfl ?_
    obtain rfl := Option.some.inj hf
    exact wa_iret (pc := 24) cx dX11_kind_24
def fX11_isOf_J39  (σ : Sg) : Option (Int32) :=
  some 1
def fX11_isOf_J43  (σ : Sg) : Option (Int32) :=
  some 0
def fX11_isOf_J29 (v0 : Int32) (v1 : Int32) (σ : Sg) : Option (Int32) :=
  if v1 = 4 then (if v0 = 5 then (fX11_isOf_J39  σ) else (fX11_isOf_J43  σ)) else (fX11_isOf_J43  σ)
def fX11_isOf_J19 (v0 : Int32) (v1 : Int32) (σ : Sg) : Option (Int32) :=
  if v1 = 2 then (if v0 = 3 then (fX11_isOf_J39  σ) else (fX11_isOf_J29 v0 v1 σ)) else (fX11_isOf_J29 v0 v1 σ)
def fX11_isOf (a1 : Int32) (a2 : Int32) (σ : Sg) : Option (Int32) :=
  if a2 = 0 then (fX11_isOf_J39  σ) else (if a1 = a2 then (fX11_isOf_J39  σ) else (if a2 = 1 then (if a1 < 4 then (fX11_isOf_J39  σ) else (fX11_isOf_J19 a1 a2 σ)) else (fX11_isOf_J19 a1 a2 σ)))
set_option maxHeartbeats 4000000 in
set_option maxRecDepth 100000 in
theorem ct_X11_isOf (l : Launch) (E : En) (σ : Sg) (a1 : Int32) (a2 : Int32) (q : Int32) (hf : fX11_isOf a1 a2 σ = some q) : CT l yX11_isOf cX11_isOf 2 (some .boolean) 0 E σ [.int a1, .int a2] (some (.int q)) σ := by
  refine CT.of RX11 [some (.int a1), some (.int a2)] rfl (by decide +kernel) (Nat.le_of_ble_eq_true rfl) rfl ?_
  intro p e s m args below meth c cx
  unfold fX11_isOf at hf
  have j39 : ∀  (σ : Sg), fX11_isOf_J39  σ = some q → WA p l e (rmd 0) s m args below meth c 2 E 0 0 (MQ below (Qcq E s.heap.size (some (.int q)) σ) args s 0 0 (AE E s.heap.size)) 39 [none, none] [] σ := by
    intro  σ hf
    unfold fX11_isOf_J39 at hf
    refine wa_iconst (pc := 39) (v := 1) cx dX11_isOf_39 (by decide) ?_
    refine wa_goto (pc := 40) cx 44 dX11_isOf_40 rfl ?_
    obtain rfl := Option.some.inj hf
    exact wa_zret (pc := 44) cx rfl dX11_isOf_44
  have j43 : ∀  (σ : Sg), fX11_isOf_J43  σ = some q → WA p l e (rmd 0) s m args below meth c 2 E 0 0 (MQ below (Qcq E s.heap.size (some (.int q)) σ) args s 0 0 (AE E s.heap.size)) 43 [none, none] [] σ := by
    intro  σ hf
    unfold fX11_isOf_J43 at hf
    refine wa_iconst (pc := 43) (v := 0) cx dX11_isOf_43 (by decide) ?_
    obtain rfl := Option.some.inj hf
    exact wa_zret (pc := 44) cx rfl dX11_isOf_44
  have j29 : ∀ (v0 : Int32) (v1 : Int32) (σ : Sg), fX11_isOf_J29 v0 v1 σ = some q → WA p l e (rmd 0) s m args below meth c 2 E 0 0 (MQ below (Qcq E s.heap.size (some (.int q)) σ) args s 0 0 (AE E s.heap.size)) 29 [some (.int v0), some (.int v1)] [] σ := by
    intro v0 v1 σ hf
    unfold fX11_isOf_J29 at hf
    refine wa_iload_n (pc := 29) cx 1 dX11_isOf_29 rfl rfl ?_
    refine wa_iconst (pc := 30) (v := 4) cx dX11_isOf_30 (by decide) ?_
    refine wa_icmp_ne (pc := 31) cx 43 dX11_isOf_31 rfl (fun c5 => ?_) (fun c5 => ?_)
    · have hf := (if_neg c5).symm.trans hf
      refine wa_forget [false, false] [none, none] rfl ?_
      exact j43  _ hf
    · have hf := (if_pos c5).symm.trans hf
      refine wa_iload_n (pc := 34) cx 0 dX11_isOf_34 rfl rfl ?_
      refine wa_iconst (pc := 35) (v := 5) cx dX11_isOf_35 (by decide) ?_
      refine wa_icmp_ne (pc := 36) cx 43 dX11_isOf_36 rfl (fun c6 => ?_) (fun c6 => ?_)
      · have hf := (if_neg c6).symm.trans hf
        refine wa_forget [false, false] [none, none] rfl ?_
        exact j43  _ hf
      · have hf := (if_pos c6).symm.trans hf
        refine wa_forget [false, false] [none, none] rfl ?_
        exact j39  _ hf
  have j19 : ∀ (v0 : Int32) (v1 : Int32) (σ : Sg), fX11_isOf_J19 v0 v1 σ = some q → WA p l e (rmd 0) s m args below meth c 2 E 0 0 (MQ below (Qcq E s.heap.size (some (.int q)) σ) args s 0 0 (AE E s.heap.size)) 19 [some (.int v0), some (.int v1)] [] σ := by
    intro v0 v1 σ hf
    unfold fX11_isOf_J19 at hf
    refine wa_iload_n (pc := 19) cx 1 dX11_isOf_19 rfl rfl ?_
    refine wa_iconst (pc := 20) (v := 2) cx dX11_isOf_20 (by decide) ?_
    refine wa_icmp_ne (pc := 21) cx 29 dX11_isOf_21 rfl (fun c4 => ?_) (fun c4 => ?_)
    · have hf := (if_neg c4).symm.trans hf
      exact j29 _ _ _ hf
    · have hf := (if_pos c4).symm.trans hf
      refine wa_iload_n (pc := 24) cx 0 dX11_isOf_24 rfl rfl ?_
      refine wa_iconst (pc := 25) (v := 3) cx dX11_isOf_25 (by decide) ?_
      refine wa_icmp_eq (pc := 26) cx 39 dX11_isOf_26 rfl (fun c7 => ?_) (fun c7 => ?_)
      · have hf := (if_pos c7).symm.trans hf
        refine wa_forget [false, false] [none, none] rfl ?_
        exact j39  _ hf
      · have hf := (if_neg c7).symm.trans hf
        exact j29 _ _ _ hf
  refine wa_iload_n (pc := 0) cx 1 dX11_isOf_0 rfl rfl ?_
  refine wa_if_eq (pc := 1) cx 39 dX11_isOf_1 rfl (fun c1 => ?_) (fun c1 => ?_)
  · have hf := (if_pos c1).symm.trans hf
    refine wa_forget [false, false] [none, none] rfl ?_
    exact j39  _ hf
  · have hf := (if_neg c1).symm.trans hf
    refine wa_iload_n (pc := 4) cx 0 dX11_isOf_4 rfl rfl ?_
    refine wa_iload_n (pc := 5) cx 1 dX11_isOf_5 rfl rfl ?_
    refine wa_icmp_eq (pc := 6) cx 39 dX11_isOf_6 rfl (fun c2 => ?_) (fun c2 => ?_)
    · have hf := (if_pos c2).symm.trans hf
      refine wa_forget [false, false] [none, none] rfl ?_
      exact j39  _ hf
    · have hf := (if_neg c2).symm.trans hf
      refine wa_iload_n (pc := 9) cx 1 dX11_isOf_9 rfl rfl ?_
      refine wa_iconst (pc := 10) (v := 1) cx dX11_isOf_10 (by decide) ?_
      refine wa_icmp_ne (pc := 11) cx 19 dX11_isOf_11 rfl (fun c3 => ?_) (fun c3 => ?_)
      · have hf := (if_neg c3).symm.trans hf
        exact j19 _ _ _ hf
      · have hf := (if_pos c3).symm.trans hf
        refine wa_iload_n (pc := 14) cx 0 dX11_isOf_14 rfl rfl ?_
        refine wa_iconst (pc := 15) (v := 4) cx dX11_isOf_15 (by decide) ?_
        refine wa_icmp_lt (pc := 16) cx 39 dX11_isOf_16 rfl (fun c8 => ?_) (fun c8 => ?_)
        · have hf := (if_pos c8).symm.trans hf
          refine wa_forget [false, false] [none, none] rfl ?_
          exact j39  _ hf
        · have hf := (if_neg c8).symm.trans hf
          exact j19 _ _ _ hf
def fX11_as_J25  (σ : Sg) : Option (Int32 × Sg) :=
  some ((-1000001), σ)
def fX11_as (a1 : Int32) (a2 : Int32) (σ : Sg) : Option (Int32 × Sg) :=
  (fX11_isYarn a1 (sup σ 38 0 0)).bind (fun q1 =>
  if q1 = 0 then (fX11_as_J25  (sup σ 38 0 0)) else ((fX11_in ((a2).toInt64) 0 5 (sup σ 38 0 0)).bind (fun q4 =>
  if q4 = 0 then (fX11_as_J25  (sup σ 38 0 0)) else ((fX11_of a1 0 (sup (sup σ 38 0 0) 38 1 0)).bind (fun q7 =>
  (fX11_isOf q7 a2 (sup (sup σ 38 0 0) 38 1 0)).bind (fun q9 =>
  if q9 = 0 then ((fX11_finding 3 (sup (sup σ 38 0 0) 38 1 0)).bind (fun q12 =>
  some (q12.1, q12.2))) else (some (a1, sup (sup σ 38 0 0) 38 1 0))))))))
set_option maxHeartbeats 4000000 in
set_option maxRecDepth 100000 in
theorem ct_X11_as (l : Launch) (E : En) (σ : Sg) (a1 : Int32) (a2 : Int32) (q : Int32 × Sg) (hf : fX11_as a1 a2 σ = some q) : CT l yX11_as cX11_as 3 (some .int) 2 E σ [.ref (eA E 38), .int a1, .int a2] (some (.int q.1)) q.2 := by
  refine CT.of RX11 [some (.ref (eA E 38)), some (.int a1), some (.int a2)] rfl (by decide +kernel) (Nat.le_of_ble_eq_true rfl) rfl ?_
  intro p e s m args below meth c cx
  unfold fX11_as at hf
  have j25 : ∀  (σ : Sg), fX11_as_J25  σ = some q → WA p l e (rmd 2) s m args below meth c 3 E 0 0 (MQ below (Qcq E s.heap.size (some (.int q.1)) q.2) args s 0 0 (AE E s.heap.size)) 25 [none, none, none] [] σ := by
    intro  σ hf
    unfold fX11_as_J25 at hf
    refine wa_ldc (pc := 25) (v := (-1000001)) cx dX11_as_25 tw_956 ?_
    obtain rfl := Option.some.inj hf
    exact wa_iret (pc := 27) cx dX11_as_27
  refine wa_aload_n (pc := 0) cx 0 dX11_as_0 rfl rfl ?_
  refine wa_iconst (pc := 1) (v := 0) cx dX11_as_1 (by decide) ?_
  refine wa_putI (pc := 2) cx fp_X11_50 lk_38 rfl (cx.bl 38 rfl) dX11_as_2 ?_
  refine wa_aload_n (pc := 5) cx 0 dX11_as_5 rfl rfl ?_
  refine wa_iload_n (pc := 6) cx 1 dX11_as_6 rfl rfl ?_
  obtain ⟨q1, h2, hf⟩ := bd_some hf
  refine wa_callVi (pc := 7) cx [.int a1] (ct_X11_isYarn l E _ _ _ h2) mi_X11_isYarn tw_1060 lk_38 rfl (cx.bl 38 rfl) rfl rfl (Nat.le_of_ble_eq_true rfl) ⟨Nat.le_of_ble_eq_true rfl, Nat.le_of_ble_eq_true rfl⟩ ⟨Nat.zero_le _, Nat.zero_le _⟩ dX11_as_7 ?_
  refine wa_if_eq (pc := 10) cx 25 dX11_as_10 rfl (fun c3 => ?_) (fun c3 => ?_)
  · have hf := (if_pos c3).symm.trans hf
    refine wa_forget [false, false, false] [none, none, none] rfl ?_
    exact j25  _ hf
  · have hf := (if_neg c3).symm.trans hf
    refine wa_iload_n (pc := 13) cx 2 dX11_as_13 rfl rfl ?_
    refine wa_i2l (pc := 14) cx dX11_as_14 ?_
    refine wa_lconst (pc := 15) (v := 0) cx dX11_as_15 (by decide) ?_
    refine wa_ldc2 (pc := 16) (v := 5) cx dX11_as_16 tw_1231 ?_
    obtain ⟨q4, h5, hf⟩ := bd_some hf
    refine wa_callSi (pc := 19) cx [.long ((a2).toInt64), .long 0, .long 5] (ct_X11_in l E _ _ _ _ _ h5) ms_X11_in tw_952 rfl rfl (Nat.le_of_ble_eq_true rfl) ⟨Nat.le_of_ble_eq_true rfl, Nat.le_of_ble_eq_true rfl⟩ ⟨Nat.zero_le _, Nat.zero_le _⟩ dX11_as_19 ?_
    refine wa_if_ne (pc := 22) cx 28 dX11_as_22 rfl (fun c6 => ?_) (fun c6 => ?_)
    · have hf := (if_neg c6).symm.trans hf
      refine wa_aload_n (pc := 28) cx 0 dX11_as_28 rfl rfl ?_
      refine wa_iconst (pc := 29) (v := 0) cx dX11_as_29 (by decide) ?_
      refine wa_putI (pc := 30) cx fp_X11_54 lk_38 rfl (cx.bl 38 rfl) dX11_as_30 ?_
      refine wa_aload_n (pc := 33) cx 0 dX11_as_33 rfl rfl ?_
      refine wa_iload_n (pc := 34) cx 1 dX11_as_34 rfl rfl ?_
      refine wa_iconst (pc := 35) (v := 0) cx dX11_as_35 (by decide) ?_
      obtain ⟨q7, h8, hf⟩ := bd_some hf
      refine wa_callVi (pc := 36) cx [.int a1, .int 0] (ct_X11_of l E _ _ _ _ h8) mi_X11_of tw_1069 lk_38 rfl (cx.bl 38 rfl) rfl rfl (Nat.le_of_ble_eq_true rfl) ⟨Nat.le_of_ble_eq_true rfl, Nat.le_of_ble_eq_true rfl⟩ ⟨Nat.zero_le _, Nat.zero_le _⟩ dX11_as_36 ?_
      refine wa_iload_n (pc := 39) cx 2 dX11_as_39 rfl rfl ?_
      obtain ⟨q9, h10, hf⟩ := bd_some hf
      refine wa_callSi (pc := 40) cx [.int q7, .int a2] (ct_X11_isOf l E _ _ _ _ h10) ms_X11_isOf tw_1232 rfl rfl (Nat.le_of_ble_eq_true rfl) ⟨Nat.le_of_ble_eq_true rfl, Nat.le_of_ble_eq_true rfl⟩ ⟨Nat.zero_le _, Nat.zero_le _⟩ dX11_as_40 ?_
      refine wa_if_eq (pc := 43) cx 50 dX11_as_43 rfl (fun c11 => ?_) (fun c11 => ?_)
      · have hf := (if_pos c11).symm.trans hf
        refine wa_aload_n (pc := 50) cx 0 dX11_as_50 rfl rfl ?_
        refine wa_iconst (pc := 51) (v := 3) cx dX11_as_51 (by decide) ?_
        obtain ⟨q12, h13, hf⟩ := bd_some hf
        refine wa_callVi (pc := 52) cx [.int 3] (ct_X11_finding l E _ _ _ h13) mi_X11_finding tw_957 lk_38 rfl (cx.bl 38 rfl) rfl rfl (Nat.le_of_ble_eq_true rfl) ⟨Nat.le_of_ble_eq_true rfl, Nat.le_of_ble_eq_true rfl⟩ ⟨Nat.zero_le _, Nat.zero_le _⟩ dX11_as_52 ?_
        obtain rfl := Option.some.inj hf
        exact wa_iret (pc := 55) cx dX11_as_55
      · have hf := (if_neg c11).symm.trans hf
        refine wa_iload_n (pc := 46) cx 1 dX11_as_46 rfl rfl ?_
        refine wa_goto (pc := 47) cx 55 dX11_as_47 rfl ?_
        obtain rfl := Option.some.inj hf
        exact wa_iret (pc := 55) cx dX11_as_55
    · have hf := (if_pos c6).symm.trans hf
      refine wa_forget [false, false, false] [none, none, none] rfl ?_
      exact j25  _ hf
def fX11_began (a1 : Int32) (σ : Sg) : Option (Sg) :=
  if (16 : Int32) ≤ gf σ 38 28 then (some σ) else (gd (inb (gf σ 38 28) 16) (
  some (sup (sa σ 51 (gf σ 38 28) a1) 38 28 (gf (sa σ 51 (gf σ 38 28) a1) 38 28 + 1))))
set_option maxHeartbeats 4000000 in
set_option maxRecDepth 100000 in
theorem ct_X11_began (l : Launch) (E : En) (σ : Sg) (a1 : Int32) (q : Sg) (hf : fX11_began a1 σ = some q) : CT l yX11_began cX11_began 2 none 0 E σ [.ref (eA E 38), .int a1] none q := by
  refine CT.of RX11 [some (.ref (eA E 38)), some (.int a1)] rfl (by decide +kernel) (Nat.le_of_ble_eq_true rfl) rfl ?_
  intro p e s m args below meth c cx
  unfold fX11_began at hf
  refine wa_aload_n (pc := 0) cx 0 dX11_began_0 rfl rfl ?_
  refine wa_getI (pc := 1) cx fl_X11_281 lk_38 rfl (cx.bl 38 rfl) dX11_began_1 ?_
  refine wa_bipush (pc := 4) (v := 16) cx dX11_began_4 (by decide) ?_
  refine wa_icmp_ge (pc := 6) cx 29 dX11_began_6 rfl (fun c1 => ?_) (fun c1 => ?_)
  · have hf := (if_pos c1).symm.trans hf
    obtain rfl := Option.some.inj hf
    exact wa_vret (pc := 29) cx dX11_began_29
  · have hf := (if_neg c1).symm.trans hf
    refine wa_aload_n (pc := 9) cx 0 dX11_began_9 rfl rfl ?_
    refine wa_getR (pc := 10) cx fl_X11_47 lk_38 rfl (cx.bl 38 rfl) dX11_began_10 ?_
    refine wa_aload_n (pc := 13) cx 0 dX11_began_13 rfl rfl ?_
    refine wa_getI (pc := 14) cx fl_X11_281 lk_38 rfl (cx.bl 38 rfl) dX11_began_14 ?_
    refine wa_iload_n (pc := 17) cx 1 dX11_began_17 rfl rfl ?_
    obtain ⟨g2, hf⟩ := gd_some hf
    refine wa_iast (pc := 18) cx lk_51 (cx.bl 51 rfl) g2 dX11_began_18 ?_
    refine wa_aload_n (pc := 19) cx 0 dX11_began_19 rfl rfl ?_
    refine wa_dup (pc := 20) cx dX11_began_20 rfl ?_
    refine wa_getI (pc := 21) cx fl_X11_281 lk_38 rfl (cx.bl 38 rfl) dX11_began_21 ?_
    refine wa_iconst (pc := 24) (v := 1) cx dX11_began_24 (by decide) ?_
    refine wa_iadd (pc := 25) cx dX11_began_25 ?_
    refine wa_putI (pc := 26) cx fp_X11_281 lk_38 rfl (cx.bl 38 rfl) dX11_began_26 ?_
    obtain rfl := Option.some.inj hf
    exact wa_vret (pc := 29) cx dX11_began_29
def fX11_plainSize (a1 : Int32) (σ : Sg) : Option (Int32 × Sg) :=
  (fX11_began 10 σ).bind (fun q1 =>
  (fX11_of a1 2 q1).bind (fun q3 =>
  some (q3, q1)))
set_option maxHeartbeats 4000000 in
set_option maxRecDepth 100000 in
theorem ct_X11_plainSize (l : Launch) (E : En) (σ : Sg) (a1 : Int32) (q : Int32 × Sg) (hf : fX11_plainSize a1 σ = some q) : CT l yX11_plainSize cX11_plainSize 2 (some .int) 1 E σ [.ref (eA E 38), .int a1] (some (.int q.1)) q.2 := by
  refine CT.of RX11 [some (.ref (eA E 38)), some (.int a1)] rfl (by decide +kernel) (Nat.le_of_ble_eq_true rfl) rfl ?_
  intro p e s m args below meth c cx
  unfold fX11_plainSize at hf
  refine wa_aload_n (pc := 0) cx 0 dX11_plainSize_0 rfl rfl ?_
  refine wa_bipush (pc := 1) (v := 10) cx dX11_plainSize_1 (by decide) ?_
  obtain ⟨q1, h2, hf⟩ := bd_some hf
  refine wa_callVv (pc := 3) cx [.int 10] (ct_X11_began l E _ _ _ h2) mi_X11_began tw_1247 lk_38 rfl (cx.bl 38 rfl) rfl rfl (Nat.le_of_ble_eq_true rfl) ⟨Nat.le_of_ble_eq_true rfl, Nat.le_of_ble_eq_true rfl⟩ ⟨Nat.zero_le _, Nat.zero_le _⟩ dX11_plainSize_3 ?_
  refine wa_aload_n (pc := 6) cx 0 dX11_plainSize_6 rfl rfl ?_
  refine wa_iload_n (pc := 7) cx 1 dX11_plainSize_7 rfl rfl ?_
  refine wa_iconst (pc := 8) (v := 2) cx dX11_plainSize_8 (by decide) ?_
  obtain ⟨q3, h4, hf⟩ := bd_some hf
  refine wa_callVi (pc := 9) cx [.int a1, .int 2] (ct_X11_of l E _ _ _ _ h4) mi_X11_of tw_1069 lk_38 rfl (cx.bl 38 rfl) rfl rfl (Nat.le_of_ble_eq_true rfl) ⟨Nat.le_of_ble_eq_true rfl, Nat.le_of_ble_eq_true rfl⟩ ⟨Nat.zero_le _, Nat.zero_le _⟩ dX11_plainSize_9 ?_
  obtain rfl := Option.some.inj hf
  exact wa_iret (pc := 12) cx dX11_plainSize_12
def fX11_lieSize_J16 (v1 : Int32) (σ : Sg) : Option (Int32 × Sg) :=
  (fX11_began 13 σ).bind (fun q4 =>
  (fX11_plainSize v1 q4).bind (fun q6 =>
  (fX11_of v1 0 q6.2).bind (fun q8 =>
  if q8 = 5 then (some ((2 * (q6.1 - 100)), q6.2)) else (some ((q6.1 - 100), q6.2)))))
def fX11_lieSize (a1 : Int32) (σ : Sg) : Option (Int32 × Sg) :=
  (fX11_of a1 0 σ).bind (fun q1 =>
  if q1 = 5 then ((fX11_began 14 σ).bind (fun q11 =>
  fX11_lieSize_J16 a1 q11)) else (fX11_lieSize_J16 a1 σ))
set_option maxHeartbeats 4000000 in
set_option maxRecDepth 100000 in
theorem ct_X11_lieSize (l : Launch) (E : En) (σ : Sg) (a1 : Int32) (q : Int32 × Sg) (hf : fX11_lieSize a1 σ = some q) : CT l yX11_lieSize cX11_lieSize 3 (some .int) 2 E σ [.ref (eA E 38), .int a1] (some (.int q.1)) q.2 := by
  refine CT.of RX11 [some (.ref (eA E 38)), some (.int a1), none] rfl (by decide +kernel) (Nat.le_of_ble_eq_true rfl) rfl ?_
  intro p e s m args below meth c cx
  unfold fX11_lieSize at hf
  have j16 : ∀ (v1 : Int32) (σ : Sg), fX11_lieSize_J16 v1 σ = some q → WA p l e (rmd 2) s m args below meth c 3 E 0 0 (MQ below (Qcq E s.heap.size (some (.int q.1)) q.2) args s 0 0 (AE E s.heap.size)) 16 [some (.ref (eA E 38)), some (.int v1), none] [] σ := by
    intro v1 σ hf
    unfold fX11_lieSize_J16 at hf
    refine wa_aload_n (pc := 16) cx 0 dX11_lieSize_16 rfl rfl ?_
    refine wa_bipush (pc := 17) (v := 13) cx dX11_lieSize_17 (by decide) ?_
    obtain ⟨q4, h5, hf⟩ := bd_some hf
    refine wa_callVv (pc := 19) cx [.int 13] (ct_X11_began l E _ _ _ h5) mi_X11_began tw_1247 lk_38 rfl (cx.bl 38 rfl) rfl rfl (Nat.le_of_ble_eq_true rfl) ⟨Nat.le_of_ble_eq_true rfl, Nat.le_of_ble_eq_true rfl⟩ ⟨Nat.zero_le _, Nat.zero_le _⟩ dX11_lieSize_19 ?_
    refine wa_aload_n (pc := 22) cx 0 dX11_lieSize_22 rfl rfl ?_
    refine wa_iload_n (pc := 23) cx 1 dX11_lieSize_23 rfl rfl ?_
    obtain ⟨q6, h7, hf⟩ := bd_some hf
    refine wa_callVi (pc := 24) cx [.int v1] (ct_X11_plainSize l E _ _ _ h7) mi_X11_plainSize tw_1251 lk_38 rfl (cx.bl 38 rfl) rfl rfl (Nat.le_of_ble_eq_true rfl) ⟨Nat.le_of_ble_eq_true rfl, Nat.le_of_ble_eq_true rfl⟩ ⟨Nat.zero_le _, Nat.zero_le _⟩ dX11_lieSize_24 ?_
    refine wa_bipush (pc := 27) (v := 100) cx dX11_lieSize_27 (by decide) ?_
    refine wa_isub (pc := 29) cx dX11_lieSize_29 ?_
    refine wa_istore_n (pc := 30) cx 2 [some (.ref (eA E 38)), some (.int v1), some (.int (q6.1 - 100))] dX11_lieSize_30 rfl (by decide) rfl rfl ?_
    refine wa_aload_n (pc := 31) cx 0 dX11_lieSize_31 rfl rfl ?_
    refine wa_iload_n (pc := 32) cx 1 dX11_lieSize_32 rfl rfl ?_
    refine wa_iconst (pc := 33) (v := 0) cx dX11_lieSize_33 (by decide) ?_
    obtain ⟨q8, h9, hf⟩ := bd_some hf
    refine wa_callVi (pc := 34) cx [.int v1, .int 0] (ct_X11_of l E _ _ _ _ h9) mi_X11_of tw_1069 lk_38 rfl (cx.bl 38 rfl) rfl rfl (Nat.le_of_ble_eq_true rfl) ⟨Nat.le_of_ble_eq_true rfl, Nat.le_of_ble_eq_true rfl⟩ ⟨Nat.zero_le _, Nat.zero_le _⟩ dX11_lieSize_34 ?_
    refine wa_iconst (pc := 37) (v := 5) cx dX11_lieSize_37 (by decide) ?_
    refine wa_icmp_ne (pc := 38) cx 47 dX11_lieSize_38 rfl (fun c10 => ?_) (fun c10 => ?_)
    · have hf := (if_neg c10).symm.trans hf
      refine wa_iload_n (pc := 47) cx 2 dX11_lieSize_47 rfl rfl ?_
      obtain rfl := Option.some.inj hf
      exact wa_iret (pc := 48) cx dX11_lieSize_48
    · have hf := (if_pos c10).symm.trans hf
      refine wa_iconst (pc := 41) (v := 2) cx dX11_lieSize_41 (by decide) ?_
      refine wa_iload_n (pc := 42) cx 2 dX11_lieSize_42 rfl rfl ?_
      refine wa_imul (pc := 43) cx dX11_lieSize_43 ?_
      refine wa_goto (pc := 44) cx 48 dX11_lieSize_44 rfl ?_
      obtain rfl := Option.some.inj hf
      exact wa_iret (pc := 48) cx dX11_lieSize_48
  refine wa_aload_n (pc := 0) cx 0 dX11_lieSize_0 rfl rfl ?_
  refine wa_iload_n (pc := 1) cx 1 dX11_lieSize_1 rfl rfl ?_
  refine wa_iconst (pc := 2) (v := 0) cx dX11_lieSize_2 (by decide) ?_
  obtain ⟨q1, h2, hf⟩ := bd_some hf
  refine wa_callVi (pc := 3) cx [.int a1, .int 0] (ct_X11_of l E _ _ _ _ h2) mi_X11_of tw_1069 lk_38 rfl (cx.bl 38 rfl) rfl rfl (Nat.le_of_ble_eq_true rfl) ⟨Nat.le_of_ble_eq_true rfl, Nat.le_of_ble_eq_true rfl⟩ ⟨Nat.zero_le _, Nat.zero_le _⟩ dX11_lieSize_3 ?_
  refine wa_iconst (pc := 6) (v := 5) cx dX11_lieSize_6 (by decide) ?_
  refine wa_icmp_ne (pc := 7) cx 16 dX11_lieSize_7 rfl (fun c3 => ?_) (fun c3 => ?_)
  · have hf := (if_neg c3).symm.trans hf
    exact j16 _ _ hf
  · have hf := (if_pos c3).symm.trans hf
    refine wa_aload_n (pc := 10) cx 0 dX11_lieSize_10 rfl rfl ?_
    refine wa_bipush (pc := 11) (v := 14) cx dX11_lieSize_11 (by decide) ?_
    obtain ⟨q11, h12, hf⟩ := bd_some hf
    refine wa_callVv (pc := 13) cx [.int 14] (ct_X11_began l E _ _ _ h12) mi_X11_began tw_1247 lk_38 rfl (cx.bl 38 rfl) rfl rfl (Nat.le_of_ble_eq_true rfl) ⟨Nat.le_of_ble_eq_true rfl, Nat.le_of_ble_eq_true rfl⟩ ⟨Nat.zero_le _, Nat.zero_le _⟩ dX11_lieSize_13 ?_
    exact j16 _ _ hf
def fX11_markOf_J86 (v2 : Int32) (t1 : Int32) (t0 : Int32) (σ : Sg) : Option (Int32 × Sg) :=
  if v2 = 3 then (some ((2 * (t0 - t1)), σ)) else (some ((t0 - t1), σ))
def fX11_markOf_J54 (v1 : Int32) (v2 : Int32) (σ : Sg) : Option (Int32 × Sg) :=
  (fX11_began 21 σ).bind (fun q6 =>
  (fX11_began 20 q6).bind (fun q8 =>
  (fX11_of v1 1 q8).bind (fun q10 =>
  if v2 = 1 then (fX11_markOf_J86 v2 0 (v1 + q10) q8) else (fX11_markOf_J86 v2 1000 (v1 + q10) q8))))
def fX11_markOf_J43 (v1 : Int32) (v2 : Int32) (σ : Sg) : Option (Int32 × Sg) :=
  if v2 = 1 then (fX11_markOf_J54 v1 v2 σ) else ((fX11_began 22 σ).bind (fun q14 =>
  fX11_markOf_J54 v1 v2 q14))
def fX11_markOf (a1 : Int32) (σ : Sg) : Option (Int32 × Sg) :=
  (fX11_of a1 0 σ).bind (fun q1 =>
  if q1 < 4 then (if q1 = 3 then ((fX11_began 24 σ).bind (fun q16 =>
  fX11_markOf_J43 a1 q1 q16)) else (fX11_markOf_J43 a1 q1 σ)) else ((fX11_began 23 σ).bind (fun q18 =>
  (fX11_began 20 q18).bind (fun q20 =>
  (fX11_lieSize a1 q20).bind (fun q22 =>
  some ((a1 - q22.1), q22.2))))))
set_option maxHeartbeats 4000000 in
set_option maxRecDepth 100000 in
theorem ct_X11_markOf (l : Launch) (E : En) (σ : Sg) (a1 : Int32) (q : Int32 × Sg) (hf : fX11_markOf a1 σ = some q) : CT l yX11_markOf cX11_markOf 4 (some .int) 3 E σ [.ref (eA E 38), .int a1] (some (.int q.1)) q.2 := by
  refine CT.of RX11 [some (.ref (eA E 38)), some (.int a1), none, none] rfl (by decide +kernel) (Nat.le_of_ble_eq_true rfl) rfl ?_
  intro p e s m args below meth c cx
  unfold fX11_markOf at hf
  have j86 : ∀ (v2 : Int32) (t1 : Int32) (t0 : Int32) (σ : Sg), fX11_markOf_J86 v2 t1 t0 σ = some q → WA p l e (rmd 3) s m args below meth c 4 E 0 0 (MQ below (Qcq E s.heap.size (some (.int q.1)) q.2) args s 0 0 (AE E s.heap.size)) 86 [none, none, some (.int v2), none] [.int t1, .int t0] σ := by
    intro v2 t1 t0 σ hf
    unfold fX11_markOf_J86 at hf
    refine wa_isub (pc := 86) cx dX11_markOf_86 ?_
    refine wa_istore_n (pc := 87) cx 3 [none, none, some (.int v2), some (.int (t0 - t1))] dX11_markOf_87 rfl (by decide) rfl rfl ?_
    refine wa_iload_n (pc := 88) cx 2 dX11_markOf_88 rfl rfl ?_
    refine wa_iconst (pc := 89) (v := 3) cx dX11_markOf_89 (by decide) ?_
    refine wa_icmp_ne (pc := 90) cx 99 dX11_markOf_90 rfl (fun c13 => ?_) (fun c13 => ?_)
    · have hf := (if_neg c13).symm.trans hf
      refine wa_iload_n (pc := 99) cx 3 dX11_markOf_99 rfl rfl ?_
      obtain rfl := Option.some.inj hf
      exact wa_iret (pc := 100) cx dX11_markOf_100
    · have hf := (if_pos c13).symm.trans hf
      refine wa_iconst (pc := 93) (v := 2) cx dX11_markOf_93 (by decide) ?_
      refine wa_iload_n (pc := 94) cx 3 dX11_markOf_94 rfl rfl ?_
      refine wa_imul (pc := 95) cx dX11_markOf_95 ?_
      refine wa_goto (pc := 96) cx 100 dX11_markOf_96 rfl ?_
      obtain rfl := Option.some.inj hf
      exact wa_iret (pc := 100) cx dX11_markOf_100
  have j54 : ∀ (v1 : Int32) (v2 : Int32) (σ : Sg), fX11_markOf_J54 v1 v2 σ = some q → WA p l e (rmd 3) s m args below meth c 4 E 0 0 (MQ below (Qcq E s.heap.size (some (.int q.1)) q.2) args s 0 0 (AE E s.heap.size)) 54 [some (.ref (eA E 38)), some (.int v1), some (.int v2), none] [] σ := by
    intro v1 v2 σ hf
    unfold fX11_markOf_J54 at hf
    refine wa_aload_n (pc := 54) cx 0 dX11_markOf_54 rfl rfl ?_
    refine wa_bipush (pc := 55) (v := 21) cx dX11_markOf_55 (by decide) ?_
    obtain ⟨q6, h7, hf⟩ := bd_some hf
    refine wa_callVv (pc := 57) cx [.int 21] (ct_X11_began l E _ _ _ h7) mi_X11_began tw_1247 lk_38 rfl (cx.bl 38 rfl) rfl rfl (Nat.le_of_ble_eq_true rfl) ⟨Nat.le_of_ble_eq_true rfl, Nat.le_of_ble_eq_true rfl⟩ ⟨Nat.zero_le _, Nat.zero_le _⟩ dX11_markOf_57 ?_
    refine wa_aload_n (pc := 60) cx 0 dX11_markOf_60 rfl rfl ?_
    refine wa_bipush (pc := 61) (v := 20) cx dX11_markOf_61 (by decide) ?_
    obtain ⟨q8, h9, hf⟩ := bd_some hf
    refine wa_callVv (pc := 63) cx [.int 20] (ct_X11_began l E _ _ _ h9) mi_X11_began tw_1247 lk_38 rfl (cx.bl 38 rfl) rfl rfl (Nat.le_of_ble_eq_true rfl) ⟨Nat.le_of_ble_eq_true rfl, Nat.le_of_ble_eq_true rfl⟩ ⟨Nat.zero_le _, Nat.zero_le _⟩ dX11_markOf_63 ?_
    refine wa_iload_n (pc := 66) cx 1 dX11_markOf_66 rfl rfl ?_
    refine wa_aload_n (pc := 67) cx 0 dX11_markOf_67 rfl rfl ?_
    refine wa_iload_n (pc := 68) cx 1 dX11_markOf_68 rfl rfl ?_
    refine wa_iconst (pc := 69) (v := 1) cx dX11_markOf_69 (by decide) ?_
    obtain ⟨q10, h11, hf⟩ := bd_some hf
    refine wa_callVi (pc := 70) cx [.int v1, .int 1] (ct_X11_of l E _ _ _ _ h11) mi_X11_of tw_1069 lk_38 rfl (cx.bl 38 rfl) rfl rfl (Nat.le_of_ble_eq_true rfl) ⟨Nat.le_of_ble_eq_true rfl, Nat.le_of_ble_eq_true rfl⟩ ⟨Nat.zero_le _, Nat.zero_le _⟩ dX11_markOf_70 ?_
    refine wa_iadd (pc := 73) cx dX11_markOf_73 ?_
    refine wa_iload_n (pc := 74) cx 2 dX11_markOf_74 rfl rfl ?_
    refine wa_iconst (pc := 75) (v := 1) cx dX11_markOf_75 (by decide) ?_
    refine wa_icmp_ne (pc := 76) cx 83 dX11_markOf_76 rfl (fun c12 => ?_) (fun c12 => ?_)
    · have hf := (if_neg c12).symm.trans hf
      refine wa_sipush (pc := 83) (v := 1000) cx dX11_markOf_83 (by decide) ?_
      refine wa_forget [false, false, true, false] [none, none, some (.int v2), none] rfl ?_
      exact j86 _ _ _ _ hf
    · have hf := (if_pos c12).symm.trans hf
      refine wa_iconst (pc := 79) (v := 0) cx dX11_markOf_79 (by decide) ?_
      refine wa_goto (pc := 80) cx 86 dX11_markOf_80 rfl ?_
      refine wa_forget [false, false, true, false] [none, none, some (.int v2), none] rfl ?_
      exact j86 _ _ _ _ hf
  have j43 : ∀ (v1 : Int32) (v2 : Int32) (σ : Sg), fX11_markOf_J43 v1 v2 σ = some q → WA p l e (rmd 3) s m args below meth c 4 E 0 0 (MQ below (Qcq E s.heap.size (some (.int q.1)) q.2) args s 0 0 (AE E s.heap.size)) 43 [some (.ref (eA E 38)), some (.int v1), some (.int v2), none] [] σ := by
    intro v1 v2 σ hf
    unfold fX11_markOf_J43 at hf
    refine wa_iload_n (pc := 43) cx 2 dX11_markOf_43 rfl rfl ?_
    refine wa_iconst (pc := 44) (v := 1) cx dX11_markOf_44 (by decide) ?_
    refine wa_icmp_eq (pc := 45) cx 54 dX11_markOf_45 rfl (fun c5 => ?_) (fun c5 => ?_)
    · have hf := (if_pos c5).symm.trans hf
      exact j54 _ _ _ hf
    · have hf := (if_neg c5).symm.trans hf
      refine wa_aload_n (pc := 48) cx 0 dX11_markOf_48 rfl rfl ?_
      refine wa_bipush (pc := 49) (v := 22) cx dX11_markOf_49 (by decide) ?_
      obtain ⟨q14, h15, hf⟩ := bd_some hf
      refine wa_callVv (pc := 51) cx [.int 22] (ct_X11_began l E _ _ _ h15) mi_X11_began tw_1247 lk_38 rfl (cx.bl 38 rfl) rfl rfl (Nat.le_of_ble_eq_true rfl) ⟨Nat.le_of_ble_eq_true rfl, Nat.le_of_ble_eq_true rfl⟩ ⟨Nat.zero_le _, Nat.zero_le _⟩ dX11_markOf_51 ?_
      exact j54 _ _ _ hf
  refine wa_aload_n (pc := 0) cx 0 dX11_markOf_0 rfl rfl ?_
  refine wa_iload_n (pc := 1) cx 1 dX11_markOf_1 rfl rfl ?_
  refine wa_iconst (pc := 2) (v := 0) cx dX11_markOf_2 (by decide) ?_
  obtain ⟨q1, h2, hf⟩ := bd_some hf
  refine wa_callVi (pc := 3) cx [.int a1, .int 0] (ct_X11_of l E _ _ _ _ h2) mi_X11_of tw_1069 lk_38 rfl (cx.bl 38 rfl) rfl rfl (Nat.le_of_ble_eq_true rfl) ⟨Nat.le_of_ble_eq_true rfl, Nat.le_of_ble_eq_true rfl⟩ ⟨Nat.zero_le _, Nat.zero_le _⟩ dX11_markOf_3 ?_
  refine wa_istore_n (pc := 6) cx 2 [some (.ref (eA E 38)), some (.int a1), some (.int q1), none] dX11_markOf_6 rfl (by decide) rfl rfl ?_
  refine wa_iload_n (pc := 7) cx 2 dX11_markOf_7 rfl rfl ?_
  refine wa_iconst (pc := 8) (v := 4) cx dX11_markOf_8 (by decide) ?_
  refine wa_icmp_lt (pc := 9) cx 32 dX11_markOf_9 rfl (fun c3 => ?_) (fun c3 => ?_)
  · have hf := (if_pos c3).symm.trans hf
    refine wa_iload_n (pc := 32) cx 2 dX11_markOf_32 rfl rfl ?_
    refine wa_iconst (pc := 33) (v := 3) cx dX11_markOf_33 (by decide) ?_
    refine wa_icmp_ne (pc := 34) cx 43 dX11_markOf_34 rfl (fun c4 => ?_) (fun c4 => ?_)
    · have hf := (if_neg c4).symm.trans hf
      exact j43 _ _ _ hf
    · have hf := (if_pos c4).symm.trans hf
      refine wa_aload_n (pc := 37) cx 0 dX11_markOf_37 rfl rfl ?_
      refine wa_bipush (pc := 38) (v := 24) cx dX11_markOf_38 (by decide) ?_
      obtain ⟨q16, h17, hf⟩ := bd_some hf
      refine wa_callVv (pc := 40) cx [.int 24] (ct_X11_began l E _ _ _ h17) mi_X11_began tw_1247 lk_38 rfl (cx.bl 38 rfl) rfl rfl (Nat.le_of_ble_eq_true rfl) ⟨Nat.le_of_ble_eq_true rfl, Nat.le_of_ble_eq_true rfl⟩ ⟨Nat.zero_le _, Nat.zero_le _⟩ dX11_markOf_40 ?_
      exact j43 _ _ _ hf
  · have hf := (if_neg c3).symm.trans hf
    refine wa_aload_n (pc := 12) cx 0 dX11_markOf_12 rfl rfl ?_
    refine wa_bipush (pc := 13) (v := 23) cx dX11_markOf_13 (by decide) ?_
    obtain ⟨q18, h19, hf⟩ := bd_some hf
    refine wa_callVv (pc := 15) cx [.int 23] (ct_X11_began l E _ _ _ h19) mi_X11_began tw_1247 lk_38 rfl (cx.bl 38 rfl) rfl rfl (Nat.le_of_ble_eq_true rfl) ⟨Nat.le_of_ble_eq_true rfl, Nat.le_of_ble_eq_true rfl⟩ ⟨Nat.zero_le _, Nat.zero_le _⟩ dX11_markOf_15 ?_
    refine wa_aload_n (pc := 18) cx 0 dX11_markOf_18 rfl rfl ?_
    refine wa_bipush (pc := 19) (v := 20) cx dX11_markOf_19 (by decide) ?_
    obtain ⟨q20, h21, hf⟩ := bd_some hf
    refine wa_callVv (pc := 21) cx [.int 20] (ct_X11_began l E _ _ _ h21) mi_X11_began tw_1247 lk_38 rfl (cx.bl 38 rfl) rfl rfl (Nat.le_of_ble_eq_true rfl) ⟨Nat.le_of_ble_eq_true rfl, Nat.le_of_ble_eq_true rfl⟩ ⟨Nat.zero_le _, Nat.zero_le _⟩ dX11_markOf_21 ?_
    refine wa_iload_n (pc := 24) cx 1 dX11_markOf_24 rfl rfl ?_
    refine wa_aload_n (pc := 25) cx 0 dX11_markOf_25 rfl rfl ?_
    refine wa_iload_n (pc := 26) cx 1 dX11_markOf_26 rfl rfl ?_
    obtain ⟨q22, h23, hf⟩ := bd_some hf
    refine wa_callVi (pc := 27) cx [.int a1] (ct_X11_lieSize l E _ _ _ h23) mi_X11_lieSize tw_1243 lk_38 rfl (cx.bl 38 rfl) rfl rfl (Nat.le_of_ble_eq_true rfl) ⟨Nat.le_of_ble_eq_true rfl, Nat.le_of_ble_eq_true rfl⟩ ⟨Nat.zero_le _, Nat.zero_le _⟩ dX11_markOf_27 ?_
    refine wa_isub (pc := 30) cx dX11_markOf_30 ?_
    obtain rfl := Option.some.inj hf
    exact wa_iret (pc := 31) cx dX11_markOf_31
def fX11_sizeOf_J29 (v1 : Int32) (v2 : Int32) (σ : Sg) : Option (Int32 × Sg) :=
  (fX11_began 11 σ).bind (fun q5 =>
  (fX11_plainSize v1 q5).bind (fun q7 =>
  (fX11_markOf v1 q7.2).bind (fun q9 =>
  if v2 = 3 then (some ((-(q7.1 + q9.1)), q9.2)) else (some ((q7.1 + q9.1), q9.2)))))
def fX11_sizeOf (a1 : Int32) (σ : Sg) : Option (Int32 × Sg) :=
  (fX11_of a1 0 σ).bind (fun q1 =>
  if q1 < 4 then (if q1 = 3 then ((fX11_began 12 σ).bind (fun q12 =>
  fX11_sizeOf_J29 a1 q1 q12)) else (fX11_sizeOf_J29 a1 q1 σ)) else ((fX11_lieSize a1 σ).bind (fun q14 =>
  some (q14.1, q14.2))))
set_option maxHeartbeats 4000000 in
set_option maxRecDepth 100000 in
theorem ct_X11_sizeOf (l : Launch) (E : En) (σ : Sg) (a1 : Int32) (q : Int32 × Sg) (hf : fX11_sizeOf a1 σ = some q) : CT l yX11_sizeOf cX11_sizeOf 4 (some .int) 4 E σ [.ref (eA E 38), .int a1] (some (.int q.1)) q.2 := by
  refine CT.of RX11 [some (.ref (eA E 38)), some (.int a1), none, none] rfl (by decide +kernel) (Nat.le_of_ble_eq_true rfl) rfl ?_
  intro p e s m args below meth c cx
  unfold fX11_sizeOf at hf
  have j29 : ∀ (v1 : Int32) (v2 : Int32) (σ : Sg), fX11_sizeOf_J29 v1 v2 σ = some q → WA p l e (rmd 4) s m args below meth c 4 E 0 0 (MQ below (Qcq E s.heap.size (some (.int q.1)) q.2) args s 0 0 (AE E s.heap.size)) 29 [some (.ref (eA E 38)), some (.int v1), some (.int v2), none] [] σ := by
    intro v1 v2 σ hf
    unfold fX11_sizeOf_J29 at hf
    refine wa_aload_n (pc := 29) cx 0 dX11_sizeOf_29 rfl rfl ?_
    refine wa_bipush (pc := 30) (v := 11) cx dX11_sizeOf_30 (by decide) ?_
    obtain ⟨q5, h6, hf⟩ := bd_some hf
    refine wa_callVv (pc := 32) cx [.int 11] (ct_X11_began l E _ _ _ h6) mi_X11_began tw_1247 lk_38 rfl (cx.bl 38 rfl) rfl rfl (Nat.le_of_ble_eq_true rfl) ⟨Nat.le_of_ble_eq_true rfl, Nat.le_of_ble_eq_true rfl⟩ ⟨Nat.zero_le _, Nat.zero_le _⟩ dX11_sizeOf_32 ?_
    refine wa_aload_n (pc := 35) cx 0 dX11_sizeOf_35 rfl rfl ?_
    refine wa_iload_n (pc := 36) cx 1 dX11_sizeOf_36 rfl rfl ?_
    obtain ⟨q7, h8, hf⟩ := bd_some hf
    refine wa_callVi (pc := 37) cx [.int v1] (ct_X11_plainSize l E _ _ _ h8) mi_X11_plainSize tw_1251 lk_38 rfl (cx.bl 38 rfl) rfl rfl (Nat.le_of_ble_eq_true rfl) ⟨Nat.le_of_ble_eq_true rfl, Nat.le_of_ble_eq_true rfl⟩ ⟨Nat.zero_le _, Nat.zero_le _⟩ dX11_sizeOf_37 ?_
    refine wa_istore_n (pc := 40) cx 3 [some (.ref (eA E 38)), some (.int v1), some (.int v2), some (.int q7.1)] dX11_sizeOf_40 rfl (by decide) rfl rfl ?_
    refine wa_iload_n (pc := 41) cx 3 dX11_sizeOf_41 rfl rfl ?_
    refine wa_aload_n (pc := 42) cx 0 dX11_sizeOf_42 rfl rfl ?_
    refine wa_iload_n (pc := 43) cx 1 dX11_sizeOf_43 rfl rfl ?_
    obtain ⟨q9, h10, hf⟩ := bd_some hf
    refine wa_callVi (pc := 44) cx [.int v1] (ct_X11_markOf l E _ _ _ h10) mi_X11_markOf tw_1255 lk_38 rfl (cx.bl 38 rfl) rfl rfl (Nat.le_of_ble_eq_true rfl) ⟨Nat.le_of_ble_eq_true rfl, Nat.le_of_ble_eq_true rfl⟩ ⟨Nat.zero_le _, Nat.zero_le _⟩ dX11_sizeOf_44 ?_
    refine wa_iadd (pc := 47) cx dX11_sizeOf_47 ?_
    refine wa_istore_n (pc := 48) cx 3 [some (.ref (eA E 38)), some (.int v1), some (.int v2), some (.int (q7.1 + q9.1))] dX11_sizeOf_48 rfl (by decide) rfl rfl ?_
    refine wa_iload_n (pc := 49) cx 2 dX11_sizeOf_49 rfl rfl ?_
    refine wa_iconst (pc := 50) (v := 3) cx dX11_sizeOf_50 (by decide) ?_
    refine wa_icmp_ne (pc := 51) cx 59 dX11_sizeOf_51 rfl (fun c11 => ?_) (fun c11 => ?_)
    · have hf := (if_neg c11).symm.trans hf
      refine wa_iload_n (pc := 59) cx 3 dX11_sizeOf_59 rfl rfl ?_
      obtain rfl := Option.some.inj hf
      exact wa_iret (pc := 60) cx dX11_sizeOf_60
    · have hf := (if_pos c11).symm.trans hf
      refine wa_iload_n (pc := 54) cx 3 dX11_sizeOf_54 rfl rfl ?_
      refine wa_ineg (pc := 55) cx dX11_sizeOf_55 ?_
      refine wa_goto (pc := 56) cx 60 dX11_sizeOf_56 rfl ?_
      obtain rfl := Option.some.inj hf
      exact wa_iret (pc := 60) cx dX11_sizeOf_60
  refine wa_aload_n (pc := 0) cx 0 dX11_sizeOf_0 rfl rfl ?_
  refine wa_iload_n (pc := 1) cx 1 dX11_sizeOf_1 rfl rfl ?_
  refine wa_iconst (pc := 2) (v := 0) cx dX11_sizeOf_2 (by decide) ?_
  obtain ⟨q1, h2, hf⟩ := bd_some hf
  refine wa_callVi (pc := 3) cx [.int a1, .int 0] (ct_X11_of l E _ _ _ _ h2) mi_X11_of tw_1069 lk_38 rfl (cx.bl 38 rfl) rfl rfl (Nat.le_of_ble_eq_true rfl) ⟨Nat.le_of_ble_eq_true rfl, Nat.le_of_ble_eq_true rfl⟩ ⟨Nat.zero_le _, Nat.zero_le _⟩ dX11_sizeOf_3 ?_
  refine wa_istore_n (pc := 6) cx 2 [some (.ref (eA E 38)), some (.int a1), some (.int q1), none] dX11_sizeOf_6 rfl (by decide) rfl rfl ?_
  refine wa_iload_n (pc := 7) cx 2 dX11_sizeOf_7 rfl rfl ?_
  refine wa_iconst (pc := 8) (v := 4) cx dX11_sizeOf_8 (by decide) ?_
  refine wa_icmp_lt (pc := 9) cx 18 dX11_sizeOf_9 rfl (fun c3 => ?_) (fun c3 => ?_)
  · have hf := (if_pos c3).symm.trans hf
    refine wa_iload_n (pc := 18) cx 2 dX11_sizeOf_18 rfl rfl ?_
    refine wa_iconst (pc := 19) (v := 3) cx dX11_sizeOf_19 (by decide) ?_
    refine wa_icmp_ne (pc := 20) cx 29 dX11_sizeOf_20 rfl (fun c4 => ?_) (fun c4 => ?_)
    · have hf := (if_neg c4).symm.trans hf
      exact j29 _ _ _ hf
    · have hf := (if_pos c4).symm.trans hf
      refine wa_aload_n (pc := 23) cx 0 dX11_sizeOf_23 rfl rfl ?_
      refine wa_bipush (pc := 24) (v := 12) cx dX11_sizeOf_24 (by decide) ?_
      obtain ⟨q12, h13, hf⟩ := bd_some hf
      refine wa_callVv (pc := 26) cx [.int 12] (ct_X11_began l E _ _ _ h13) mi_X11_began tw_1247 lk_38 rfl (cx.bl 38 rfl) rfl rfl (Nat.le_of_ble_eq_true rfl) ⟨Nat.le_of_ble_eq_true rfl, Nat.le_of_ble_eq_true rfl⟩ ⟨Nat.zero_le _, Nat.zero_le _⟩ dX11_sizeOf_26 ?_
      exact j29 _ _ _ hf
  · have hf := (if_neg c3).symm.trans hf
    refine wa_aload_n (pc := 12) cx 0 dX11_sizeOf_12 rfl rfl ?_
    refine wa_iload_n (pc := 13) cx 1 dX11_sizeOf_13 rfl rfl ?_
    obtain ⟨q14, h15, hf⟩ := bd_some hf
    refine wa_callVi (pc := 14) cx [.int a1] (ct_X11_lieSize l E _ _ _ h15) mi_X11_lieSize tw_1243 lk_38 rfl (cx.bl 38 rfl) rfl rfl (Nat.le_of_ble_eq_true rfl) ⟨Nat.le_of_ble_eq_true rfl, Nat.le_of_ble_eq_true rfl⟩ ⟨Nat.zero_le _, Nat.zero_le _⟩ dX11_sizeOf_14 ?_
    obtain rfl := Option.some.inj hf
    exact wa_iret (pc := 17) cx dX11_sizeOf_17
def fX11_ask_J23  (σ : Sg) : Option (Int32 × Sg) :=
  some ((-1000001), σ)
def fX11_ask (a1 : Int32) (a2 : Int32) (σ : Sg) : Option (Int32 × Sg) :=
  (fX11_isYarn a1 (sup σ 38 0 0)).bind (fun q1 =>
  if q1 = 0 then (fX11_ask_J23  (sup σ 38 0 0)) else ((fX11_in ((a2).toInt64) 0 1 (sup σ 38 0 0)).bind (fun q4 =>
  if q4 = 0 then (fX11_ask_J23  (sup σ 38 0 0)) else (if a2 = 0 then ((fX11_sizeOf a1 (sup (sup σ 38 0 0) 38 28 0)).bind (fun q10 =>
  some (q10.1, q10.2))) else ((fX11_markOf a1 (sup (sup σ 38 0 0) 38 28 0)).bind (fun q8 =>
  some (q8.1, q8.2)))))))
set_option maxHeartbeats 4000000 in
set_option maxRecDepth 100000 in
theorem ct_X11_ask (l : Launch) (E : En) (σ : Sg) (a1 : Int32) (a2 : Int32) (q : Int32 × Sg) (hf : fX11_ask a1 a2 σ = some q) : CT l yX11_ask cX11_ask 3 (some .int) 5 E σ [.ref (eA E 38), .int a1, .int a2] (some (.int q.1)) q.2 := by
  refine CT.of RX11 [some (.ref (eA E 38)), some (.int a1), some (.int a2)] rfl (by decide +kernel) (Nat.le_of_ble_eq_true rfl) rfl ?_
  intro p e s m args below meth c cx
  unfold fX11_ask at hf
  have j23 : ∀  (σ : Sg), fX11_ask_J23  σ = some q → WA p l e (rmd 5) s m args below meth c 3 E 0 0 (MQ below (Qcq E s.heap.size (some (.int q.1)) q.2) args s 0 0 (AE E s.heap.size)) 23 [none, none, none] [] σ := by
    intro  σ hf
    unfold fX11_ask_J23 at hf
    refine wa_ldc (pc := 23) (v := (-1000001)) cx dX11_ask_23 tw_956 ?_
    obtain rfl := Option.some.inj hf
    exact wa_iret (pc := 25) cx dX11_ask_25
  refine wa_aload_n (pc := 0) cx 0 dX11_ask_0 rfl rfl ?_
  refine wa_iconst (pc := 1) (v := 0) cx dX11_ask_1 (by decide) ?_
  refine wa_putI (pc := 2) cx fp_X11_50 lk_38 rfl (cx.bl 38 rfl) dX11_ask_2 ?_
  refine wa_aload_n (pc := 5) cx 0 dX11_ask_5 rfl rfl ?_
  refine wa_iload_n (pc := 6) cx 1 dX11_ask_6 rfl rfl ?_
  obtain ⟨q1, h2, hf⟩ := bd_some hf
  refine wa_callVi (pc := 7) cx [.int a1] (ct_X11_isYarn l E _ _ _ h2) mi_X11_isYarn tw_1060 lk_38 rfl (cx.bl 38 rfl) rfl rfl (Nat.le_of_ble_eq_true rfl) ⟨Nat.le_of_ble_eq_true rfl, Nat.le_of_ble_eq_true rfl⟩ ⟨Nat.zero_le _, Nat.zero_le _⟩ dX11_ask_7 ?_
  refine wa_if_eq (pc := 10) cx 23 dX11_ask_10 rfl (fun c3 => ?_) (fun c3 => ?_)
  · have hf := (if_pos c3).symm.trans hf
    refine wa_forget [false, false, false] [none, none, none] rfl ?_
    exact j23  _ hf
  · have hf := (if_neg c3).symm.trans hf
    refine wa_iload_n (pc := 13) cx 2 dX11_ask_13 rfl rfl ?_
    refine wa_i2l (pc := 14) cx dX11_ask_14 ?_
    refine wa_lconst (pc := 15) (v := 0) cx dX11_ask_15 (by decide) ?_
    refine wa_lconst (pc := 16) (v := 1) cx dX11_ask_16 (by decide) ?_
    obtain ⟨q4, h5, hf⟩ := bd_some hf
    refine wa_callSi (pc := 17) cx [.long ((a2).toInt64), .long 0, .long 1] (ct_X11_in l E _ _ _ _ _ h5) ms_X11_in tw_952 rfl rfl (Nat.le_of_ble_eq_true rfl) ⟨Nat.le_of_ble_eq_true rfl, Nat.le_of_ble_eq_true rfl⟩ ⟨Nat.zero_le _, Nat.zero_le _⟩ dX11_ask_17 ?_
    refine wa_if_ne (pc := 20) cx 26 dX11_ask_20 rfl (fun c6 => ?_) (fun c6 => ?_)
    · have hf := (if_neg c6).symm.trans hf
      refine wa_aload_n (pc := 26) cx 0 dX11_ask_26 rfl rfl ?_
      refine wa_iconst (pc := 27) (v := 0) cx dX11_ask_27 (by decide) ?_
      refine wa_putI (pc := 28) cx fp_X11_281 lk_38 rfl (cx.bl 38 rfl) dX11_ask_28 ?_
      refine wa_iload_n (pc := 31) cx 2 dX11_ask_31 rfl rfl ?_
      refine wa_if_ne (pc := 32) cx 43 dX11_ask_32 rfl (fun c7 => ?_) (fun c7 => ?_)
      · have hf := (if_neg c7).symm.trans hf
        refine wa_aload_n (pc := 43) cx 0 dX11_ask_43 rfl rfl ?_
        refine wa_iload_n (pc := 44) cx 1 dX11_ask_44 rfl rfl ?_
        obtain ⟨q8, h9, hf⟩ := bd_some hf
        refine wa_callVi (pc := 45) cx [.int a1] (ct_X11_markOf l E _ _ _ h9) mi_X11_markOf tw_1255 lk_38 rfl (cx.bl 38 rfl) rfl rfl (Nat.le_of_ble_eq_true rfl) ⟨Nat.le_of_ble_eq_true rfl, Nat.le_of_ble_eq_true rfl⟩ ⟨Nat.zero_le _, Nat.zero_le _⟩ dX11_ask_45 ?_
        obtain rfl := Option.some.inj hf
        exact wa_iret (pc := 48) cx dX11_ask_48
      · have hf := (if_pos c7).symm.trans hf
        refine wa_aload_n (pc := 35) cx 0 dX11_ask_35 rfl rfl ?_
        refine wa_iload_n (pc := 36) cx 1 dX11_ask_36 rfl rfl ?_
        obtain ⟨q10, h11, hf⟩ := bd_some hf
        refine wa_callVi (pc := 37) cx [.int a1] (ct_X11_sizeOf l E _ _ _ h11) mi_X11_sizeOf tw_1239 lk_38 rfl (cx.bl 38 rfl) rfl rfl (Nat.le_of_ble_eq_true rfl) ⟨Nat.le_of_ble_eq_true rfl, Nat.le_of_ble_eq_true rfl⟩ ⟨Nat.zero_le _, Nat.zero_le _⟩ dX11_ask_37 ?_
        refine wa_goto (pc := 40) cx 48 dX11_ask_40 rfl ?_
        obtain rfl := Option.some.inj hf
        exact wa_iret (pc := 48) cx dX11_ask_48
    · have hf := (if_pos c6).symm.trans hf
      refine wa_forget [false, false, false] [none, none, none] rfl ?_
      exact j23  _ hf
def fX11_trace (a1 : Int32) (σ : Sg) : Option (Int32 × Sg) :=
  (fX11_in ((a1).toInt64) 0 (((gf (sup σ 38 0 0) 38 28 - 1)).toInt64) (sup σ 38 0 0)).bind (fun q1 =>
  if q1 = 0 then (some ((-1000000), sup σ 38 0 0)) else (gd (inb a1 16) (
  some (ga (sup σ 38 0 0) 51 a1, sup σ 38 0 0))))
set_option maxHeartbeats 4000000 in
set_option maxRecDepth 100000 in
theorem ct_X11_trace (l : Launch) (E : En) (σ : Sg) (a1 : Int32) (q : Int32 × Sg) (hf : fX11_trace a1 σ = some q) : CT l yX11_trace cX11_trace 2 (some .int) 1 E σ [.ref (eA E 38), .int a1] (some (.int q.1)) q.2 := by
  refine CT.of RX11 [some (.ref (eA E 38)), some (.int a1)] rfl (by decide +kernel) (Nat.le_of_ble_eq_true rfl) rfl ?_
  intro p e s m args below meth c cx
  unfold fX11_trace at hf
  refine wa_aload_n (pc := 0) cx 0 dX11_trace_0 rfl rfl ?_
  refine wa_iconst (pc := 1) (v := 0) cx dX11_trace_1 (by decide) ?_
  refine wa_putI (pc := 2) cx fp_X11_50 lk_38 rfl (cx.bl 38 rfl) dX11_trace_2 ?_
  refine wa_iload_n (pc := 5) cx 1 dX11_trace_5 rfl rfl ?_
  refine wa_i2l (pc := 6) cx dX11_trace_6 ?_
  refine wa_lconst (pc := 7) (v := 0) cx dX11_trace_7 (by decide) ?_
  refine wa_aload_n (pc := 8) cx 0 dX11_trace_8 rfl rfl ?_
  refine wa_getI (pc := 9) cx fl_X11_281 lk_38 rfl (cx.bl 38 rfl) dX11_trace_9 ?_
  refine wa_iconst (pc := 12) (v := 1) cx dX11_trace_12 (by decide) ?_
  refine wa_isub (pc := 13) cx dX11_trace_13 ?_
  refine wa_i2l (pc := 14) cx dX11_trace_14 ?_
  obtain ⟨q1, h2, hf⟩ := bd_some hf
  refine wa_callSi (pc := 15) cx [.long ((a1).toInt64), .long 0, .long (((gf (sup σ 38 0 0) 38 28 - 1)).toInt64)] (ct_X11_in l E _ _ _ _ _ h2) ms_X11_in tw_952 rfl rfl (Nat.le_of_ble_eq_true rfl) ⟨Nat.le_of_ble_eq_true rfl, Nat.le_of_ble_eq_true rfl⟩ ⟨Nat.zero_le _, Nat.zero_le _⟩ dX11_trace_15 ?_
  refine wa_if_eq (pc := 18) cx 30 dX11_trace_18 rfl (fun c3 => ?_) (fun c3 => ?_)
  · have hf := (if_pos c3).symm.trans hf
    refine wa_ldc (pc := 30) (v := (-1000000)) cx dX11_trace_30 tw_997 ?_
    obtain rfl := Option.some.inj hf
    exact wa_iret (pc := 32) cx dX11_trace_32
  · have hf := (if_neg c3).symm.trans hf
    refine wa_aload_n (pc := 21) cx 0 dX11_trace_21 rfl rfl ?_
    refine wa_getR (pc := 22) cx fl_X11_47 lk_38 rfl (cx.bl 38 rfl) dX11_trace_22 ?_
    refine wa_iload_n (pc := 25) cx 1 dX11_trace_25 rfl rfl ?_
    obtain ⟨g4, hf⟩ := gd_some hf
    refine wa_iald (pc := 26) cx lk_51 (cx.bl 51 rfl) g4 dX11_trace_26 ?_
    refine wa_goto (pc := 27) cx 32 dX11_trace_27 rfl ?_
    obtain rfl := Option.some.inj hf
    exact wa_iret (pc := 32) cx dX11_trace_32
def fX11_count_J75 (v3 : Int32) (t1 : Int32) (t0 : Int32) (σ : Sg) : Option ((Int32 × Int32) ⊕ (Int32)) :=
  some (.inl ((t0 + t1), (v3 + 1)))
def fX11_count_B54  (v2 : Int32) (v3 : Int32) (σ : Sg) : Option ((Int32 × Int32) ⊕ (Int32)) :=
  if (8 : Int32) ≤ v3 then (some (.inr v2)) else (gd (inb v3 8) (
  if ga σ 39 v3 < 0 then (fX11_count_J75 v3 0 v2 σ) else (fX11_count_J75 v3 1 v2 σ)))
def fX11_count_J149 (v1 : Int32) (v3 : Int32) (t1 : Int32) (t0 : Int32) (σ : Sg) : Option ((Int32 × Int32) ⊕ (Int32)) :=
  some (.inl ((t0 + t1), (v3 + 1)))
def fX11_count_B101 (v1 : Int32) (v2 : Int32) (v3 : Int32) (σ : Sg) : Option ((Int32 × Int32) ⊕ (Int32)) :=
  gd (inb 3 77) (
  if ga σ 42 3 ≤ v3 then (some (.inr v2)) else (if v1 = 3 then ((fX11_of v3 3 σ).bind (fun q18 =>
  if q18 < 0 then (fX11_count_J149 v1 v3 0 v2 σ) else (fX11_count_J149 v1 v3 1 v2 σ))) else ((fX11_of v3 4 σ).bind (fun q15 =>
  if q15 = 2 then (fX11_count_J149 v1 v3 1 v2 σ) else (fX11_count_J149 v1 v3 0 v2 σ)))))
def fX11_count_J99 (v1 : Int32) (v2 : Int32) (σ : Sg) : Option (Int32 × Sg) :=
  (lpO (fun w => fX11_count_B101 v1 w.1 w.2 σ) FUEL (v2, 0)).bind (fun o21 =>
  some (o21, σ))
def fX11_count (a1 : Int32) (σ : Sg) : Option (Int32 × Sg) :=
  if a1 = 0 then ((lpO (fun w => fX11_count_B54  w.1 w.2 (sup σ 38 0 0)) FUEL (0, 0)).bind (fun o5 =>
  some (o5, sup σ 38 0 0))) else (if a1 = 1 then (gd (inb 2 77) (
  some (ga (sup σ 38 0 0) 42 2, sup σ 38 0 0))) else (if a1 = 2 then (gd (inb 3 77) (
  some (ga (sup σ 38 0 0) 42 3, sup σ 38 0 0))) else (if a1 = 3 then (fX11_count_J99 a1 0 (sup σ 38 0 0)) else (if a1 = 4 then (some (gf (sup σ 38 0 0) 38 9, sup σ 38 0 0)) else (if a1 = 5 then (fX11_count_J99 a1 0 (sup σ 38 0 0)) else (if a1 = 6 then (some (gf (sup σ 38 0 0) 38 11, sup σ 38 0 0)) else (some ((-1000001), sup σ 38 0 0))))))))
set_option maxHeartbeats 4000000 in
set_option maxRecDepth 100000 in
theorem ct_X11_count (l : Launch) (E : En) (σ : Sg) (a1 : Int32) (q : Int32 × Sg) (hf : fX11_count a1 σ = some q) : CT l yX11_count cX11_count 4 (some .int) 1 E σ [.ref (eA E 38), .int a1] (some (.int q.1)) q.2 := by
  refine CT.of RX11 [some (.ref (eA E 38)), some (.int a1), none, none] rfl (by decide +kernel) (Nat.le_of_ble_eq_true rfl) rfl ?_
  intro p e s m args below meth c cx
  unfold fX11_count at hf
  have l54 : ∀  (σ : Sg) (y : Int32 × Int32) (o : Int32), lpO (fun w => fX11_count_B54  w.1 w.2 σ) FUEL y = some o → (WA p l e (rmd 1) s m args below meth c 4 E 0 0 (MQ below (Qcq E s.heap.size (some (.int q.1)) q.2) args s 0 0 (AE E s.heap.size)) 83 [none, none, some (.int o), none] [] σ) → WA p l e (rmd 1) s m args below meth c 4 E 0 0 (MQ below (Qcq E s.heap.size (some (.int q.1)) q.2) args s 0 0 (AE E s.heap.size)) 54 [some (.ref (eA E 38)), none, some (.int y.1), some (.int y.2)] [] σ := by
    intro  σ y o hf hk
    refine lp_rule (P := fun y => WA p l e (rmd 1) s m args below meth c 4 E 0 0 (MQ below (Qcq E s.heap.size (some (.int q.1)) q.2) args s 0 0 (AE E s.heap.size)) 54 [some (.ref (eA E 38)), none, some (.int y.1), some (.int y.2)] [] σ) (K := fun o => WA p l e (rmd 1) s m args below meth c 4 E 0 0 (MQ below (Qcq E s.heap.size (some (.int q.1)) q.2) args s 0 0 (AE E s.heap.size)) 83 [none, none, some (.int o), none] [] σ) ?_ FUEL y o hf hk
    have j75 : ∀ (v3 : Int32) (t1 : Int32) (t0 : Int32) (σ : Sg) (r1 : (Int32 × Int32) ⊕ (Int32)), fX11_count_J75 v3 t1 t0 σ = some r1 → (sel (fun y1 => WA p l e (rmd 1) s m args below meth c 4 E 0 0 (MQ below (Qcq E s.heap.size (some (.int q.1)) q.2) args s 0 0 (AE E s.heap.size)) 54 [some (.ref (eA E 38)), none, some (.int y1.1), some (.int y1.2)] [] σ) (fun y1 => WA p l e (rmd 1) s m args below meth c 4 E 0 0 (MQ below (Qcq E s.heap.size (some (.int q.1)) q.2) args s 0 0 (AE E s.heap.size)) 83 [none, none, some (.int y1), none] [] σ) r1) → WA p l e (rmd 1) s m args below meth c 4 E 0 0 (MQ below (Qcq E s.heap.size (some (.int q.1)) q.2) args s 0 0 (AE E s.heap.size)) 75 [some (.ref (eA E 38)), none, none, some (.int v3)] [.int t1, .int t0] σ := by
      intro v3 t1 t0 σ r1 hf hk1
      unfold fX11_count_J75 at hf
      refine wa_iadd (pc := 75) cx dX11_count_75 ?_
      refine wa_istore_n (pc := 76) cx 2 [some (.ref (eA E 38)), none, some (.int (t0 + t1)), some (.int v3)] dX11_count_76 rfl (by decide) rfl rfl ?_
      refine wa_iinc (pc := 77) (v := 1) cx 3 [some (.ref (eA E 38)), none, some (.int (t0 + t1)), some (.int (v3 + 1))] dX11_count_77 (by decide) rfl (by decide) rfl rfl ?_
      refine wa_goto (pc := 80) cx 54 dX11_count_80 rfl ?_
      obtain rfl := Option.some.inj hf
      refine wa_forget [true, false, true, true] [some (.ref (eA E 38)), none, some (.int (t0 + t1)), some (.int (v3 + 1))] rfl ?_
      exact hk1
    intro y0 r1 hf hk1
    obtain ⟨v2, v3⟩ := y0
    have hf : fX11_count_B54  v2 v3 σ = some r1 := hf
    unfold fX11_count_B54 at hf
    refine wa_iload_n (pc := 54) cx 3 dX11_count_54 rfl rfl ?_
    refine wa_bipush (pc := 55) (v := 8) cx dX11_count_55 (by decide) ?_
    refine wa_icmp_ge (pc := 57) cx 83 dX11_count_57 rfl (fun c2 => ?_) (fun c2 => ?_)
    · have hf := (if_pos c2).symm.trans hf
      obtain rfl := Option.some.inj hf
      refine wa_forget [false, false, true, false] [none, none, some (.int v2), none] rfl ?_
      exact hk1
    · have hf := (if_neg c2).symm.trans hf
      refine wa_iload_n (pc := 60) cx 2 dX11_count_60 rfl rfl ?_
      refine wa_aload_n (pc := 61) cx 0 dX11_count_61 rfl rfl ?_
      refine wa_getR (pc := 62) cx fl_X11_7 lk_38 rfl (cx.bl 38 rfl) dX11_count_62 ?_
      refine wa_iload_n (pc := 65) cx 3 dX11_count_65 rfl rfl ?_
      obtain ⟨g3, hf⟩ := gd_some hf
      refine wa_iald (pc := 66) cx lk_39 (cx.bl 39 rfl) g3 dX11_count_66 ?_
      refine wa_if_lt (pc := 67) cx 74 dX11_count_67 rfl (fun c4 => ?_) (fun c4 => ?_)
      · have hf := (if_pos c4).symm.trans hf
        refine wa_iconst (pc := 74) (v := 0) cx dX11_count_74 (by decide) ?_
        refine wa_forget [true, false, false, true] [some (.ref (eA E 38)), none, none, some (.int v3)] rfl ?_
        exact j75 _ _ _ _ _ hf hk1
      · have hf := (if_neg c4).symm.trans hf
        refine wa_iconst (pc := 70) (v := 1) cx dX11_count_70 (by decide) ?_
        refine wa_goto (pc := 71) cx 75 dX11_count_71 rfl ?_
        refine wa_forget [true, false, false, true] [some (.ref (eA E 38)), none, none, some (.int v3)] rfl ?_
        exact j75 _ _ _ _ _ hf hk1
  have l101 : ∀ (v1 : Int32) (σ : Sg) (y : Int32 × Int32) (o : Int32), lpO (fun w => fX11_count_B101 v1 w.1 w.2 σ) FUEL y = some o → (WA p l e (rmd 1) s m args below meth c 4 E 0 0 (MQ below (Qcq E s.heap.size (some (.int q.1)) q.2) args s 0 0 (AE E s.heap.size)) 157 [none, none, some (.int o), none] [] σ) → WA p l e (rmd 1) s m args below meth c 4 E 0 0 (MQ below (Qcq E s.heap.size (some (.int q.1)) q.2) args s 0 0 (AE E s.heap.size)) 101 [some (.ref (eA E 38)), some (.int v1), some (.int y.1), some (.int y.2)] [] σ := by
    intro v1 σ y o hf hk
    refine lp_rule (P := fun y => WA p l e (rmd 1) s m args below meth c 4 E 0 0 (MQ below (Qcq E s.heap.size (some (.int q.1)) q.2) args s 0 0 (AE E s.heap.size)) 101 [some (.ref (eA E 38)), some (.int v1), some (.int y.1), some (.int y.2)] [] σ) (K := fun o => WA p l e (rmd 1) s m args below meth c 4 E 0 0 (MQ below (Qcq E s.heap.size (some (.int q.1)) q.2) args s 0 0 (AE E s.heap.size)) 157 [none, none, some (.int o), none] [] σ) ?_ FUEL y o hf hk
    have j149 : ∀ (v1 : Int32) (v3 : Int32) (t1 : Int32) (t0 : Int32) (σ : Sg) (r1 : (Int32 × Int32) ⊕ (Int32)), fX11_count_J149 v1 v3 t1 t0 σ = some r1 → (sel (fun y1 => WA p l e (rmd 1) s m args below meth c 4 E 0 0 (MQ below (Qcq E s.heap.size (some (.int q.1)) q.2) args s 0 0 (AE E s.heap.size)) 101 [some (.ref (eA E 38)), some (.int v1), some (.int y1.1), some (.int y1.2)] [] σ) (fun y1 => WA p l e (rmd 1) s m args below meth c 4 E 0 0 (MQ below (Qcq E s.heap.size (some (.int q.1)) q.2) args s 0 0 (AE E s.heap.size)) 157 [none, none, some (.int y1), none] [] σ) r1) → WA p l e (rmd 1) s m args below meth c 4 E 0 0 (MQ below (Qcq E s.heap.size (some (.int q.1)) q.2) args s 0 0 (AE E s.heap.size)) 149 [some (.ref (eA E 38)), some (.int v1), none, some (.int v3)] [.int t1, .int t0] σ := by
      intro v1 v3 t1 t0 σ r1 hf hk1
      unfold fX11_count_J149 at hf
      refine wa_iadd (pc := 149) cx dX11_count_149 ?_
      refine wa_istore_n (pc := 150) cx 2 [some (.ref (eA E 38)), some (.int v1), some (.int (t0 + t1)), some (.int v3)] dX11_count_150 rfl (by decide) rfl rfl ?_
      refine wa_iinc (pc := 151) (v := 1) cx 3 [some (.ref (eA E 38)), some (.int v1), some (.int (t0 + t1)), some (.int (v3 + 1))] dX11_count_151 (by decide) rfl (by decide) rfl rfl ?_
      refine wa_goto (pc := 154) cx 101 dX11_count_154 rfl ?_
      obtain rfl := Option.some.inj hf
      refine wa_forget [true, true, true, true] [some (.ref (eA E 38)), some (.int v1), some (.int (t0 + t1)), some (.int (v3 + 1))] rfl ?_
      exact hk1
    intro y0 r1 hf hk1
    obtain ⟨v2, v3⟩ := y0
    have hf : fX11_count_B101 v1 v2 v3 σ = some r1 := hf
    unfold fX11_count_B101 at hf
    refine wa_iload_n (pc := 101) cx 3 dX11_count_101 rfl rfl ?_
    refine wa_aload_n (pc := 102) cx 0 dX11_count_102 rfl rfl ?_
    refine wa_getR (pc := 103) cx fl_X11_19 lk_38 rfl (cx.bl 38 rfl) dX11_count_103 ?_
    refine wa_iconst (pc := 106) (v := 3) cx dX11_count_106 (by decide) ?_
    obtain ⟨g12, hf⟩ := gd_some hf
    refine wa_iald (pc := 107) cx lk_42 (cx.bl 42 rfl) g12 dX11_count_107 ?_
    refine wa_icmp_ge (pc := 108) cx 157 dX11_count_108 rfl (fun c13 => ?_) (fun c13 => ?_)
    · have hf := (if_pos c13).symm.trans hf
      obtain rfl := Option.some.inj hf
      refine wa_forget [false, false, true, false] [none, none, some (.int v2), none] rfl ?_
      exact hk1
    · have hf := (if_neg c13).symm.trans hf
      refine wa_iload_n (pc := 111) cx 2 dX11_count_111 rfl rfl ?_
      refine wa_iload_n (pc := 112) cx 1 dX11_count_112 rfl rfl ?_
      refine wa_iconst (pc := 113) (v := 3) cx dX11_count_113 (by decide) ?_
      refine wa_icmp_ne (pc := 114) cx 134 dX11_count_114 rfl (fun c14 => ?_) (fun c14 => ?_)
      · have hf := (if_neg c14).symm.trans hf
        refine wa_aload_n (pc := 134) cx 0 dX11_count_134 rfl rfl ?_
        refine wa_iload_n (pc := 135) cx 3 dX11_count_135 rfl rfl ?_
        refine wa_iconst (pc := 136) (v := 4) cx dX11_count_136 (by decide) ?_
        obtain ⟨q15, h16, hf⟩ := bd_some hf
        refine wa_callVi (pc := 137) cx [.int v3, .int 4] (ct_X11_of l E _ _ _ _ h16) mi_X11_of tw_1069 lk_38 rfl (cx.bl 38 rfl) rfl rfl (Nat.le_of_ble_eq_true rfl) ⟨Nat.le_of_ble_eq_true rfl, Nat.le_of_ble_eq_true rfl⟩ ⟨Nat.zero_le _, Nat.zero_le _⟩ dX11_count_137 ?_
        refine wa_iconst (pc := 140) (v := 2) cx dX11_count_140 (by decide) ?_
        refine wa_icmp_ne (pc := 141) cx 148 dX11_count_141 rfl (fun c17 => ?_) (fun c17 => ?_)
        · have hf := (if_neg c17).symm.trans hf
          refine wa_iconst (pc := 148) (v := 0) cx dX11_count_148 (by decide) ?_
          refine wa_forget [true, true, false, true] [some (.ref (eA E 38)), some (.int v1), none, some (.int v3)] rfl ?_
          exact j149 _ _ _ _ _ _ hf hk1
        · have hf := (if_pos c17).symm.trans hf
          refine wa_iconst (pc := 144) (v := 1) cx dX11_count_144 (by decide) ?_
          refine wa_goto (pc := 145) cx 149 dX11_count_145 rfl ?_
          refine wa_forget [true, true, false, true] [some (.ref (eA E 38)), some (.int v1), none, some (.int v3)] rfl ?_
          exact j149 _ _ _ _ _ _ hf hk1
      · have hf := (if_pos c14).symm.trans hf
        refine wa_aload_n (pc := 117) cx 0 dX11_count_117 rfl rfl ?_
        refine wa_iload_n (pc := 118) cx 3 dX11_count_118 rfl rfl ?_
        refine wa_iconst (pc := 119) (v := 3) cx dX11_count_119 (by decide) ?_
        obtain ⟨q18, h19, hf⟩ := bd_some hf
        refine wa_callVi (pc := 120) cx [.int v3, .int 3] (ct_X11_of l E _ _ _ _ h19) mi_X11_of tw_1069 lk_38 rfl (cx.bl 38 rfl) rfl rfl (Nat.le_of_ble_eq_true rfl) ⟨Nat.le_of_ble_eq_true rfl, Nat.le_of_ble_eq_true rfl⟩ ⟨Nat.zero_le _, Nat.zero_le _⟩ dX11_count_120 ?_
        refine wa_if_lt (pc := 123) cx 130 dX11_count_123 rfl (fun c20 => ?_) (fun c20 => ?_)
        · have hf := (if_pos c20).symm.trans hf
          refine wa_iconst (pc := 130) (v := 0) cx dX11_count_130 (by decide) ?_
          refine wa_goto (pc := 131) cx 149 dX11_count_131 rfl ?_
          refine wa_forget [true, true, false, true] [some (.ref (eA E 38)), some (.int v1), none, some (.int v3)] rfl ?_
          exact j149 _ _ _ _ _ _ hf hk1
        · have hf := (if_neg c20).symm.trans hf
          refine wa_iconst (pc := 126) (v := 1) cx dX11_count_126 (by decide) ?_
          refine wa_goto (pc := 127) cx 149 dX11_count_127 rfl ?_
          refine wa_forget [true, true, false, true] [some (.ref (eA E 38)), some (.int v1), none, some (.int v3)] rfl ?_
          exact j149 _ _ _ _ _ _ hf hk1
  have j99 : ∀ (v1 : Int32) (v2 : Int32) (σ : Sg), fX11_count_J99 v1 v2 σ = some q → WA p l e (rmd 1) s m args below meth c 4 E 0 0 (MQ below (Qcq E s.heap.size (some (.int q.1)) q.2) args s 0 0 (AE E s.heap.size)) 99 [some (.ref (eA E 38)), some (.int v1), some (.int v2), none] [] σ := by
    intro v1 v2 σ hf
    unfold fX11_count_J99 at hf
    refine wa_iconst (pc := 99) (v := 0) cx dX11_count_99 (by decide) ?_
    refine wa_istore_n (pc := 100) cx 3 [some (.ref (eA E 38)), some (.int v1), some (.int v2), some (.int 0)] dX11_count_100 rfl (by decide) rfl rfl ?_
    obtain ⟨o21, h22, hf⟩ := bd_some hf
    refine l101 _ _ _ _ h22 ?_
    refine wa_iload_n (pc := 157) cx 2 dX11_count_157 rfl rfl ?_
    obtain rfl := Option.some.inj hf
    exact wa_iret (pc := 158) cx dX11_count_158
  refine wa_aload_n (pc := 0) cx 0 dX11_count_0 rfl rfl ?_
  refine wa_iconst (pc := 1) (v := 0) cx dX11_count_1 (by decide) ?_
  refine wa_putI (pc := 2) cx fp_X11_50 lk_38 rfl (cx.bl 38 rfl) dX11_count_2 ?_
  refine wa_iconst (pc := 5) (v := 0) cx dX11_count_5 (by decide) ?_
  refine wa_istore_n (pc := 6) cx 2 [some (.ref (eA E 38)), some (.int a1), some (.int 0), none] dX11_count_6 rfl (by decide) rfl rfl ?_
  refine wa_iload_n (pc := 7) cx 1 dX11_count_7 rfl rfl ?_
  by_cases c1 : a1 = 0
  · have hf := (if_pos c1).symm.trans hf
    refine wa_tabIn (pc := 8) cx 52 dX11_count_8 (by rw [c1]; decide) (by rw [c1]; decide) (by rw [c1]; rfl) rfl ?_
    refine wa_iconst (pc := 52) (v := 0) cx dX11_count_52 (by decide) ?_
    refine wa_istore_n (pc := 53) cx 3 [some (.ref (eA E 38)), some (.int a1), some (.int 0), some (.int 0)] dX11_count_53 rfl (by decide) rfl rfl ?_
    refine wa_forget [true, false, true, true] [some (.ref (eA E 38)), none, some (.int 0), some (.int 0)] rfl ?_
    obtain ⟨o5, h6, hf⟩ := bd_some hf
    refine l54  _ _ _ h6 ?_
    refine wa_iload_n (pc := 83) cx 2 dX11_count_83 rfl rfl ?_
    obtain rfl := Option.some.inj hf
    exact wa_iret (pc := 84) cx dX11_count_84
  · have hf := (if_neg c1).symm.trans hf
    by_cases c7 : a1 = 1
    · have hf := (if_pos c7).symm.trans hf
      refine wa_tabIn (pc := 8) cx 85 dX11_count_8 (by rw [c7]; decide) (by rw [c7]; decide) (by rw [c7]; rfl) rfl ?_
      refine wa_aload_n (pc := 85) cx 0 dX11_count_85 rfl rfl ?_
      refine wa_getR (pc := 86) cx fl_X11_19 lk_38 rfl (cx.bl 38 rfl) dX11_count_86 ?_
      refine wa_iconst (pc := 89) (v := 2) cx dX11_count_89 (by decide) ?_
      obtain ⟨g8, hf⟩ := gd_some hf
      refine wa_iald (pc := 90) cx lk_42 (cx.bl 42 rfl) g8 dX11_count_90 ?_
      obtain rfl := Option.some.inj hf
      exact wa_iret (pc := 91) cx dX11_count_91
    · have hf := (if_neg c7).symm.trans hf
      by_cases c9 : a1 = 2
      · have hf := (if_pos c9).symm.trans hf
        refine wa_tabIn (pc := 8) cx 92 dX11_count_8 (by rw [c9]; decide) (by rw [c9]; decide) (by rw [c9]; rfl) rfl ?_
        refine wa_aload_n (pc := 92) cx 0 dX11_count_92 rfl rfl ?_
        refine wa_getR (pc := 93) cx fl_X11_19 lk_38 rfl (cx.bl 38 rfl) dX11_count_93 ?_
        refine wa_iconst (pc := 96) (v := 3) cx dX11_count_96 (by decide) ?_
        obtain ⟨g10, hf⟩ := gd_some hf
        refine wa_iald (pc := 97) cx lk_42 (cx.bl 42 rfl) g10 dX11_count_97 ?_
        obtain rfl := Option.some.inj hf
        exact wa_iret (pc := 98) cx dX11_count_98
      · have hf := (if_neg c9).symm.trans hf
        by_cases c11 : a1 = 3
        · have hf := (if_pos c11).symm.trans hf
          refine wa_tabIn (pc := 8) cx 99 dX11_count_8 (by rw [c11]; decide) (by rw [c11]; decide) (by rw [c11]; rfl) rfl ?_
          exact j99 _ _ _ hf
        · have hf := (if_neg c11).symm.trans hf
          by_cases c23 : a1 = 4
          · have hf := (if_pos c23).symm.trans hf
            refine wa_tabIn (pc := 8) cx 159 dX11_count_8 (by rw [c23]; decide) (by rw [c23]; decide) (by rw [c23]; rfl) rfl ?_
            refine wa_aload_n (pc := 159) cx 0 dX11_count_159 rfl rfl ?_
            refine wa_getI (pc := 160) cx fl_X11_181 lk_38 rfl (cx.bl 38 rfl) dX11_count_160 ?_
            obtain rfl := Option.some.inj hf
            exact wa_iret (pc := 163) cx dX11_count_163
          · have hf := (if_neg c23).symm.trans hf
            by_cases c24 : a1 = 5
            · have hf := (if_pos c24).symm.trans hf
              refine wa_tabIn (pc := 8) cx 99 dX11_count_8 (by rw [c24]; decide) (by rw [c24]; decide) (by rw [c24]; rfl) rfl ?_
              exact j99 _ _ _ hf
            · have hf := (if_neg c24).symm.trans hf
              by_cases c25 : a1 = 6
              · have hf := (if_pos c25).symm.trans hf
                refine wa_tabIn (pc := 8) cx 164 dX11_count_8 (by rw [c25]; decide) (by rw [c25]; decide) (by rw [c25]; rfl) rfl ?_
                refine wa_aload_n (pc := 164) cx 0 dX11_count_164 rfl rfl ?_
                refine wa_getI (pc := 165) cx fl_X11_77 lk_38 rfl (cx.bl 38 rfl) dX11_count_165 ?_
                obtain rfl := Option.some.inj hf
                exact wa_iret (pc := 168) cx dX11_count_168
              · have hf := (if_neg c25).symm.trans hf
                have ec1 : (a1).toInt ≠ 0 := fun z => c1 (Int32.toInt_inj.mp (z.trans (by decide)))
                have ec7 : (a1).toInt ≠ 1 := fun z => c7 (Int32.toInt_inj.mp (z.trans (by decide)))
                have ec9 : (a1).toInt ≠ 2 := fun z => c9 (Int32.toInt_inj.mp (z.trans (by decide)))
                have ec11 : (a1).toInt ≠ 3 := fun z => c11 (Int32.toInt_inj.mp (z.trans (by decide)))
                have ec23 : (a1).toInt ≠ 4 := fun z => c23 (Int32.toInt_inj.mp (z.trans (by decide)))
                have ec24 : (a1).toInt ≠ 5 := fun z => c24 (Int32.toInt_inj.mp (z.trans (by decide)))
                have ec25 : (a1).toInt ≠ 6 := fun z => c25 (Int32.toInt_inj.mp (z.trans (by decide)))
                refine wa_tabOut (pc := 8) cx 169 dX11_count_8 (by omega) rfl ?_
                refine wa_ldc (pc := 169) (v := (-1000001)) cx dX11_count_169 tw_956 ?_
                obtain rfl := Option.some.inj hf
                exact wa_iret (pc := 171) cx dX11_count_171
def fX11_status  (σ : Sg) : Option (Int32 × Sg) :=
  some (gf (sup σ 38 0 0) 38 1, sup σ 38 0 0)
set_option maxHeartbeats 4000000 in
set_option maxRecDepth 100000 in
theorem ct_X11_status (l : Launch) (E : En) (σ : Sg)  (q : Int32 × Sg) (hf : fX11_status  σ = some q) : CT l yX11_status cX11_status 1 (some .int) 0 E σ [.ref (eA E 38)] (some (.int q.1)) q.2 := by
  refine CT.of RX11 [some (.ref (eA E 38))] rfl (by decide +kernel) (Nat.le_of_ble_eq_true rfl) rfl ?_
  intro p e s m args below meth c cx
  unfold fX11_status at hf
  refine wa_aload_n (pc := 0) cx 0 dX11_status_0 rfl rfl ?_
  refine wa_iconst (pc := 1) (v := 0) cx dX11_status_1 (by decide) ?_
  refine wa_putI (pc := 2) cx fp_X11_50 lk_38 rfl (cx.bl 38 rfl) dX11_status_2 ?_
  refine wa_aload_n (pc := 5) cx 0 dX11_status_5 rfl rfl ?_
  refine wa_getI (pc := 6) cx fl_X11_54 lk_38 rfl (cx.bl 38 rfl) dX11_status_6 ?_
  obtain rfl := Option.some.inj hf
  exact wa_iret (pc := 9) cx dX11_status_9
