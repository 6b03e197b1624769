def fX8_hasRoom (a1 : Int32) (σ : Sg) : Option (Int32) :=
  if (400 : Int32) < (gf σ 6 1 + a1) then (some 0) else (some 1)
set_option maxHeartbeats 4000000 in
set_option maxRecDepth 100000 in
theorem ct_X8_hasRoom (l : Launch) (E : En) (σ : Sg) (a1 : Int32) (q : Int32) (hf : fX8_hasRoom a1 σ = some q) : CT l yX8_hasRoom cX8_hasRoom 2 (some .boolean) 0 E σ [.ref (eA E 6), .int a1] (some (.int q)) σ := by
  refine CT.of RX8 [some (.ref (eA E 6)), some (.int a1)] rfl (by decide +kernel) (Nat.le_of_ble_eq_true rfl) rfl ?_
  intro p e s m args below meth c cx
  unfold fX8_hasRoom at hf
  refine wa_aload_n (pc := 0) cx 0 dX8_hasRoom_0 rfl rfl ?_
  refine wa_getI (pc := 1) cx fl_X8_13 lk_6 rfl (cx.bl 6 rfl) dX8_hasRoom_1 ?_
  refine wa_iload_n (pc := 4) cx 1 dX8_hasRoom_4 rfl rfl ?_
  refine wa_iadd (pc := 5) cx dX8_hasRoom_5 ?_
  refine wa_sipush (pc := 6) (v := 400) cx dX8_hasRoom_6 (by decide) ?_
  refine wa_icmp_gt (pc := 9) cx 16 dX8_hasRoom_9 rfl (fun c1 => ?_) (fun c1 => ?_)
  · have hf := (if_pos c1).symm.trans hf
    refine wa_iconst (pc := 16) (v := 0) cx dX8_hasRoom_16 (by decide) ?_
    obtain rfl := Option.some.inj hf
    exact wa_zret (pc := 17) cx rfl dX8_hasRoom_17
  · have hf := (if_neg c1).symm.trans hf
    refine wa_iconst (pc := 12) (v := 1) cx dX8_hasRoom_12 (by decide) ?_
    refine wa_goto (pc := 13) cx 17 dX8_hasRoom_13 rfl ?_
    obtain rfl := Option.some.inj hf
    exact wa_zret (pc := 17) cx rfl dX8_hasRoom_17
def fX8_add (a1 : Int32) (σ : Sg) : Option (Sg) :=
  gd (inb (gf σ 6 1) 400) (
  some (sup (sa σ 7 (gf σ 6 1) (i2b a1)) 6 1 (gf (sa σ 7 (gf σ 6 1) (i2b a1)) 6 1 + 1)))
set_option maxHeartbeats 4000000 in
set_option maxRecDepth 100000 in
theorem ct_X8_add (l : Launch) (E : En) (σ : Sg) (a1 : Int32) (q : Sg) (hf : fX8_add a1 σ = some q) : CT l yX8_add cX8_add 2 none 0 E σ [.ref (eA E 6), .int a1] none q := by
  refine CT.of RX8 [some (.ref (eA E 6)), some (.int a1)] rfl (by decide +kernel) (Nat.le_of_ble_eq_true rfl) rfl ?_
  intro p e s m args below meth c cx
  unfold fX8_add at hf
  refine wa_aload_n (pc := 0) cx 0 dX8_add_0 rfl rfl ?_
  refine wa_getR (pc := 1) cx fl_X8_9 lk_6 rfl (cx.bl 6 rfl) dX8_add_1 ?_
  refine wa_aload_n (pc := 4) cx 0 dX8_add_4 rfl rfl ?_
  refine wa_getI (pc := 5) cx fl_X8_13 lk_6 rfl (cx.bl 6 rfl) dX8_add_5 ?_
  refine wa_iload_n (pc := 8) cx 1 dX8_add_8 rfl rfl ?_
  obtain ⟨g1, hf⟩ := gd_some hf
  refine wa_bast (pc := 9) cx lk_7 (cx.bl 7 rfl) g1 dX8_add_9 ?_
  refine wa_aload_n (pc := 10) cx 0 dX8_add_10 rfl rfl ?_
  refine wa_dup (pc := 11) cx dX8_add_11 rfl ?_
  refine wa_getI (pc := 12) cx fl_X8_13 lk_6 rfl (cx.bl 6 rfl) dX8_add_12 ?_
  refine wa_iconst (pc := 15) (v := 1) cx dX8_add_15 (by decide) ?_
  refine wa_iadd (pc := 16) cx dX8_add_16 ?_
  refine wa_putI (pc := 17) cx fp_X8_13 lk_6 rfl (cx.bl 6 rfl) dX8_add_17 ?_
  obtain rfl := Option.some.inj hf
  exact wa_vret (pc := 20) cx dX8_add_20
def fX8_isBlank_J12  (σ : Sg) : Option (Int32) :=
  some 1
def fX8_isBlank (a1 : Int32) (σ : Sg) : Option (Int32) :=
  if a1 = 32 then (fX8_isBlank_J12  σ) else (if a1 = 10 then (fX8_isBlank_J12  σ) else (some 0))
set_option maxHeartbeats 4000000 in
set_option maxRecDepth 100000 in
theorem ct_X8_isBlank (l : Launch) (E : En) (σ : Sg) (a1 : Int32) (q : Int32) (hf : fX8_isBlank a1 σ = some q) : CT l yX8_isBlank cX8_isBlank 1 (some .boolean) 0 E σ [.int a1] (some (.int q)) σ := by
  refine CT.of RX8 [some (.int a1)] rfl (by decide +kernel) (Nat.le_of_ble_eq_true rfl) rfl ?_
  intro p e s m args below meth c cx
  unfold fX8_isBlank at hf
  have j12 : ∀  (σ : Sg), fX8_isBlank_J12  σ = some q → WA p l e (rmd 0) s m args below meth c 1 E 0 0 (MQ below (Qcq E s.heap.size (some (.int q)) σ) args s 0 0 (AE E s.heap.size)) 12 [none] [] σ := by
    intro  σ hf
    unfold fX8_isBlank_J12 at hf
    refine wa_iconst (pc := 12) (v := 1) cx dX8_isBlank_12 (by decide) ?_
    refine wa_goto (pc := 13) cx 17 dX8_isBlank_13 rfl ?_
    obtain rfl := Option.some.inj hf
    exact wa_zret (pc := 17) cx rfl dX8_isBlank_17
  refine wa_iload_n (pc := 0) cx 0 dX8_isBlank_0 rfl rfl ?_
  refine wa_bipush (pc := 1) (v := 32) cx dX8_isBlank_1 (by decide) ?_
  refine wa_icmp_eq (pc := 3) cx 12 dX8_isBlank_3 rfl (fun c1 => ?_) (fun c1 => ?_)
  · have hf := (if_pos c1).symm.trans hf
    refine wa_forget [false] [none] rfl ?_
    exact j12  _ hf
  · have hf := (if_neg c1).symm.trans hf
    refine wa_iload_n (pc := 6) cx 0 dX8_isBlank_6 rfl rfl ?_
    refine wa_bipush (pc := 7) (v := 10) cx dX8_isBlank_7 (by decide) ?_
    refine wa_icmp_ne (pc := 9) cx 16 dX8_isBlank_9 rfl (fun c2 => ?_) (fun c2 => ?_)
    · have hf := (if_neg c2).symm.trans hf
      refine wa_iconst (pc := 16) (v := 0) cx dX8_isBlank_16 (by decide) ?_
      obtain rfl := Option.some.inj hf
      exact wa_zret (pc := 17) cx rfl dX8_isBlank_17
    · have hf := (if_pos c2).symm.trans hf
      refine wa_forget [false] [none] rfl ?_
      exact j12  _ hf
def fX8_isLetter_J16  (σ : Sg) : Option (Int32) :=
  some 0
def fX8_isLetter (a1 : Int32) (σ : Sg) : Option (Int32) :=
  if a1 < 97 then (fX8_isLetter_J16  σ) else (if (122 : Int32) < a1 then (fX8_isLetter_J16  σ) else (some 1))
set_option maxHeartbeats 4000000 in
set_option maxRecDepth 100000 in
theorem ct_X8_isLetter (l : Launch) (E : En) (σ : Sg) (a1 : Int32) (q : Int32) (hf : fX8_isLetter a1 σ = some q) : CT l yX8_isLetter cX8_isLetter 1 (some .boolean) 0 E σ [.int a1] (some (.int q)) σ := by
  refine CT.of RX8 [some (.int a1)] rfl (by decide +kernel) (Nat.le_of_ble_eq_true rfl) rfl ?_
  intro p e s m args below meth c cx
  unfold fX8_isLetter at hf
  have j16 : ∀  (σ : Sg), fX8_isLetter_J16  σ = some q → WA p l e (rmd 0) s m args below meth c 1 E 0 0 (MQ below (Qcq E s.heap.size (some (.int q)) σ) args s 0 0 (AE E s.heap.size)) 16 [none] [] σ := by
    intro  σ hf
    unfold fX8_isLetter_J16 at hf
    refine wa_iconst (pc := 16) (v := 0) cx dX8_isLetter_16 (by decide) ?_
    obtain rfl := Option.some.inj hf
    exact wa_zret (pc := 17) cx rfl dX8_isLetter_17
  refine wa_iload_n (pc := 0) cx 0 dX8_isLetter_0 rfl rfl ?_
  refine wa_bipush (pc := 1) (v := 97) cx dX8_isLetter_1 (by decide) ?_
  refine wa_icmp_lt (pc := 3) cx 16 dX8_isLetter_3 rfl (fun c1 => ?_) (fun c1 => ?_)
  · have hf := (if_pos c1).symm.trans hf
    refine wa_forget [false] [none] rfl ?_
    exact j16  _ hf
  · have hf := (if_neg c1).symm.trans hf
    refine wa_iload_n (pc := 6) cx 0 dX8_isLetter_6 rfl rfl ?_
    refine wa_bipush (pc := 7) (v := 122) cx dX8_isLetter_7 (by decide) ?_
    refine wa_icmp_gt (pc := 9) cx 16 dX8_isLetter_9 rfl (fun c2 => ?_) (fun c2 => ?_)
    · have hf := (if_pos c2).symm.trans hf
      refine wa_forget [false] [none] rfl ?_
      exact j16  _ hf
    · have hf := (if_neg c2).symm.trans hf
      refine wa_iconst (pc := 12) (v := 1) cx dX8_isLetter_12 (by decide) ?_
      refine wa_goto (pc := 13) cx 17 dX8_isLetter_13 rfl ?_
      obtain rfl := Option.some.inj hf
      exact wa_zret (pc := 17) cx rfl dX8_isLetter_17
def fX8_isFigure_J16  (σ : Sg) : Option (Int32) :=
  some 0
def fX8_isFigure (a1 : Int32) (σ : Sg) : Option (Int32) :=
  if a1 < 48 then (fX8_isFigure_J16  σ) else (if (57 : Int32) < a1 then (fX8_isFigure_J16  σ) else (some 1))
set_option maxHeartbeats 4000000 in
set_option maxRecDepth 100000 in
theorem ct_X8_isFigure (l : Launch) (E : En) (σ : Sg) (a1 : Int32) (q : Int32) (hf : fX8_isFigure a1 σ = some q) : CT l yX8_isFigure cX8_isFigure 1 (some .boolean) 0 E σ [.int a1] (some (.int q)) σ := by
  refine CT.of RX8 [some (.int a1)] rfl (by decide +kernel) (Nat.le_of_ble_eq_true rfl) rfl ?_
  intro p e s m args below meth c cx
  unfold fX8_isFigure at hf
  have j16 : ∀  (σ : Sg), fX8_isFigure_J16  σ = some q → WA p l e (rmd 0) s m args below meth c 1 E 0 0 (MQ below (Qcq E s.heap.size (some (.int q)) σ) args s 0 0 (AE E s.heap.size)) 16 [none] [] σ := by
    intro  σ hf
    unfold fX8_isFigure_J16 at hf
    refine wa_iconst (pc := 16) (v := 0) cx dX8_isFigure_16 (by decide) ?_
    obtain rfl := Option.some.inj hf
    exact wa_zret (pc := 17) cx rfl dX8_isFigure_17
  refine wa_iload_n (pc := 0) cx 0 dX8_isFigure_0 rfl rfl ?_
  refine wa_bipush (pc := 1) (v := 48) cx dX8_isFigure_1 (by decide) ?_
  refine wa_icmp_lt (pc := 3) cx 16 dX8_isFigure_3 rfl (fun c1 => ?_) (fun c1 => ?_)
  · have hf := (if_pos c1).symm.trans hf
    refine wa_forget [false] [none] rfl ?_
    exact j16  _ hf
  · have hf := (if_neg c1).symm.trans hf
    refine wa_iload_n (pc := 6) cx 0 dX8_isFigure_6 rfl rfl ?_
    refine wa_bipush (pc := 7) (v := 57) cx dX8_isFigure_7 (by decide) ?_
    refine wa_icmp_gt (pc := 9) cx 16 dX8_isFigure_9 rfl (fun c2 => ?_) (fun c2 => ?_)
    · have hf := (if_pos c2).symm.trans hf
      refine wa_forget [false] [none] rfl ?_
      exact j16  _ hf
    · have hf := (if_neg c2).symm.trans hf
      refine wa_iconst (pc := 12) (v := 1) cx dX8_isFigure_12 (by decide) ?_
      refine wa_goto (pc := 13) cx 17 dX8_isFigure_13 rfl ?_
      obtain rfl := Option.some.inj hf
      exact wa_zret (pc := 17) cx rfl dX8_isFigure_17
def fX8_takeNumber_B5   (σ : Sg) : Option ((Sg) ⊕ (Sg)) :=
  if gf σ 6 1 ≤ gf σ 6 5 then (some (.inr σ)) else (gd (inb (gf σ 6 5) 400) (
  (fX8_isFigure (ga σ 7 (gf σ 6 5)) σ).bind (fun q3 =>
  if q3 = 0 then (some (.inr σ)) else (gd (inb (gf σ 6 5) 400) (
  some (.inl (sup (sup σ 6 4 (((gf σ 6 4 * 10) + ga σ 7 (gf σ 6 5)) - 48)) 6 5 (gf (sup σ 6 4 (((gf σ 6 4 * 10) + ga σ 7 (gf σ 6 5)) - 48)) 6 5 + 1))))))))
def fX8_takeNumber_J87 (t1 : Int32) (σ : Sg) : Option (Sg) :=
  some (sup σ 6 2 t1)
def fX8_takeNumber  (σ : Sg) : Option (Sg) :=
  (lpO (fun w => fX8_takeNumber_B5   w) FUEL (sup σ 6 4 0)).bind (fun o7 =>
  if (3 : Int32) < (gf o7 6 5 - gf o7 6 3) then (fX8_takeNumber_J87 4 o7) else (fX8_takeNumber_J87 2 o7))
set_option maxHeartbeats 4000000 in
set_option maxRecDepth 100000 in
theorem ct_X8_takeNumber (l : Launch) (E : En) (σ : Sg)  (q : Sg) (hf : fX8_takeNumber  σ = some q) : CT l yX8_takeNumber cX8_takeNumber 1 none 1 E σ [.ref (eA E 6)] none q := by
  refine CT.of RX8 [some (.ref (eA E 6))] rfl (by decide +kernel) (Nat.le_of_ble_eq_true rfl) rfl ?_
  intro p e s m args below meth c cx
  unfold fX8_takeNumber at hf
  have l5 : ∀  (y : Sg) (o : Sg), lpO (fun w => fX8_takeNumber_B5   w) FUEL y = some o → (WA p l e (rmd 1) s m args below meth c 1 E 0 0 (MQ below (Qcq E s.heap.size (none) q) args s 0 0 (AE E s.heap.size)) 68 [some (.ref (eA E 6))] [] o) → WA p l e (rmd 1) s m args below meth c 1 E 0 0 (MQ below (Qcq E s.heap.size (none) q) args s 0 0 (AE E s.heap.size)) 5 [some (.ref (eA E 6))] [] y := by
    intro  y o hf hk
    refine lp_rule (P := fun y => WA p l e (rmd 1) s m args below meth c 1 E 0 0 (MQ below (Qcq E s.heap.size (none) q) args s 0 0 (AE E s.heap.size)) 5 [some (.ref (eA E 6))] [] y) (K := fun o => WA p l e (rmd 1) s m args below meth c 1 E 0 0 (MQ below (Qcq E s.heap.size (none) q) args s 0 0 (AE E s.heap.size)) 68 [some (.ref (eA E 6))] [] o) ?_ FUEL y o hf hk
    intro σ r1 hf hk1
    have hf : fX8_takeNumber_B5   σ = some r1 := hf
    unfold fX8_takeNumber_B5 at hf
    refine wa_aload_n (pc := 5) cx 0 dX8_takeNumber_5 rfl rfl ?_
    refine wa_getI (pc := 6) cx fl_X8_26 lk_6 rfl (cx.bl 6 rfl) dX8_takeNumber_6 ?_
    refine wa_aload_n (pc := 9) cx 0 dX8_takeNumber_9 rfl rfl ?_
    refine wa_getI (pc := 10) cx fl_X8_13 lk_6 rfl (cx.bl 6 rfl) dX8_takeNumber_10 ?_
    refine wa_icmp_ge (pc := 13) cx 68 dX8_takeNumber_13 rfl (fun c1 => ?_) (fun c1 => ?_)
    · have hf := (if_pos c1).symm.trans hf
      obtain rfl := Option.some.inj hf
      refine wa_forget [true] [some (.ref (eA E 6))] rfl ?_
      exact hk1
    · have hf := (if_neg c1).symm.trans hf
      refine wa_aload_n (pc := 16) cx 0 dX8_takeNumber_16 rfl rfl ?_
      refine wa_getR (pc := 17) cx fl_X8_9 lk_6 rfl (cx.bl 6 rfl) dX8_takeNumber_17 ?_
      refine wa_aload_n (pc := 20) cx 0 dX8_takeNumber_20 rfl rfl ?_
      refine wa_getI (pc := 21) cx fl_X8_26 lk_6 rfl (cx.bl 6 rfl) dX8_takeNumber_21 ?_
      obtain ⟨g2, hf⟩ := gd_some hf
      refine wa_bald (pc := 24) cx lk_7 (cx.bl 7 rfl) g2 dX8_takeNumber_24 ?_
      obtain ⟨q3, h4, hf⟩ := bd_some hf
      refine wa_callSi (pc := 25) cx [.int (ga σ 7 (gf σ 6 5))] (ct_X8_isFigure l E _ _ _ h4) ms_X8_isFigure tw_453 rfl rfl (Nat.le_of_ble_eq_true rfl) ⟨Nat.le_of_ble_eq_true rfl, Nat.le_of_ble_eq_true rfl⟩ ⟨Nat.zero_le _, Nat.zero_le _⟩ dX8_takeNumber_25 ?_
      refine wa_if_eq (pc := 28) cx 68 dX8_takeNumber_28 rfl (fun c5 => ?_) (fun c5 => ?_)
      · have hf := (if_pos c5).symm.trans hf
        obtain rfl := Option.some.inj hf
        refine wa_forget [true] [some (.ref (eA E 6))] rfl ?_
        exact hk1
      · have hf := (if_neg c5).symm.trans hf
        refine wa_aload_n (pc := 31) cx 0 dX8_takeNumber_31 rfl rfl ?_
        refine wa_aload_n (pc := 32) cx 0 dX8_takeNumber_32 rfl rfl ?_
        refine wa_getI (pc := 33) cx fl_X8_23 lk_6 rfl (cx.bl 6 rfl) dX8_takeNumber_33 ?_
        refine wa_bipush (pc := 36) (v := 10) cx dX8_takeNumber_36 (by decide) ?_
        refine wa_imul (pc := 38) cx dX8_takeNumber_38 ?_
        refine wa_aload_n (pc := 39) cx 0 dX8_takeNumber_39 rfl rfl ?_
        refine wa_getR (pc := 40) cx fl_X8_9 lk_6 rfl (cx.bl 6 rfl) dX8_takeNumber_40 ?_
        refine wa_aload_n (pc := 43) cx 0 dX8_takeNumber_43 rfl rfl ?_
        refine wa_getI (pc := 44) cx fl_X8_26 lk_6 rfl (cx.bl 6 rfl) dX8_takeNumber_44 ?_
        obtain ⟨g6, hf⟩ := gd_some hf
        refine wa_bald (pc := 47) cx lk_7 (cx.bl 7 rfl) g6 dX8_takeNumber_47 ?_
        refine wa_iadd (pc := 48) cx dX8_takeNumber_48 ?_
        refine wa_bipush (pc := 49) (v := 48) cx dX8_takeNumber_49 (by decide) ?_
        refine wa_isub (pc := 51) cx dX8_takeNumber_51 ?_
        refine wa_putI (pc := 52) cx fp_X8_23 lk_6 rfl (cx.bl 6 rfl) dX8_takeNumber_52 ?_
        refine wa_aload_n (pc := 55) cx 0 dX8_takeNumber_55 rfl rfl ?_
        refine wa_dup (pc := 56) cx dX8_takeNumber_56 rfl ?_
        refine wa_getI (pc := 57) cx fl_X8_26 lk_6 rfl (cx.bl 6 rfl) dX8_takeNumber_57 ?_
        refine wa_iconst (pc := 60) (v := 1) cx dX8_takeNumber_60 (by decide) ?_
        refine wa_iadd (pc := 61) cx dX8_takeNumber_61 ?_
        refine wa_putI (pc := 62) cx fp_X8_26 lk_6 rfl (cx.bl 6 rfl) dX8_takeNumber_62 ?_
        refine wa_goto (pc := 65) cx 5 dX8_takeNumber_65 rfl ?_
        obtain rfl := Option.some.inj hf
        refine wa_forget [true] [some (.ref (eA E 6))] rfl ?_
        exact hk1
  have j87 : ∀ (t1 : Int32) (σ : Sg), fX8_takeNumber_J87 t1 σ = some q → WA p l e (rmd 1) s m args below meth c 1 E 0 0 (MQ below (Qcq E s.heap.size (none) q) args s 0 0 (AE E s.heap.size)) 87 [none] [.int t1, .ref (eA E 6)] σ := by
    intro t1 σ hf
    unfold fX8_takeNumber_J87 at hf
    refine wa_putI (pc := 87) cx fp_X8_17 lk_6 rfl (cx.bl 6 rfl) dX8_takeNumber_87 ?_
    obtain rfl := Option.some.inj hf
    exact wa_vret (pc := 90) cx dX8_takeNumber_90
  refine wa_aload_n (pc := 0) cx 0 dX8_takeNumber_0 rfl rfl ?_
  refine wa_iconst (pc := 1) (v := 0) cx dX8_takeNumber_1 (by decide) ?_
  refine wa_putI (pc := 2) cx fp_X8_23 lk_6 rfl (cx.bl 6 rfl) dX8_takeNumber_2 ?_
  obtain ⟨o7, h9, hf⟩ := bd_some hf
  refine l5  _ _ h9 ?_
  refine wa_aload_n (pc := 68) cx 0 dX8_takeNumber_68 rfl rfl ?_
  refine wa_aload_n (pc := 69) cx 0 dX8_takeNumber_69 rfl rfl ?_
  refine wa_getI (pc := 70) cx fl_X8_26 lk_6 rfl (cx.bl 6 rfl) dX8_takeNumber_70 ?_
  refine wa_aload_n (pc := 73) cx 0 dX8_takeNumber_73 rfl rfl ?_
  refine wa_getI (pc := 74) cx fl_X8_20 lk_6 rfl (cx.bl 6 rfl) dX8_takeNumber_74 ?_
  refine wa_isub (pc := 77) cx dX8_takeNumber_77 ?_
  refine wa_iconst (pc := 78) (v := 3) cx dX8_takeNumber_78 (by decide) ?_
  refine wa_icmp_gt (pc := 79) cx 86 dX8_takeNumber_79 rfl (fun c8 => ?_) (fun c8 => ?_)
  · have hf := (if_pos c8).symm.trans hf
    refine wa_iconst (pc := 86) (v := 4) cx dX8_takeNumber_86 (by decide) ?_
    refine wa_forget [false] [none] rfl ?_
    exact j87 _ _ hf
  · have hf := (if_neg c8).symm.trans hf
    refine wa_iconst (pc := 82) (v := 2) cx dX8_takeNumber_82 (by decide) ?_
    refine wa_goto (pc := 83) cx 87 dX8_takeNumber_83 rfl ?_
    refine wa_forget [false] [none] rfl ?_
    exact j87 _ _ hf
def fX8_takeName_B5   (σ : Sg) : Option ((Sg) ⊕ (Sg)) :=
  if gf σ 6 1 ≤ gf σ 6 5 then (some (.inr σ)) else (gd (inb (gf σ 6 5) 400) (
  (fX8_isLetter (ga σ 7 (gf σ 6 5)) σ).bind (fun q3 =>
  if q3 = 0 then (some (.inr σ)) else (some (.inl (sup σ 6 5 (gf σ 6 5 + 1)))))))
def fX8_takeName  (σ : Sg) : Option (Sg) :=
  (lpO (fun w => fX8_takeName_B5   w) FUEL (sup σ 6 2 1)).bind (fun o6 =>
  some o6)
set_option maxHeartbeats 4000000 in
set_option maxRecDepth 100000 in
theorem ct_X8_takeName (l : Launch) (E : En) (σ : Sg)  (q : Sg) (hf : fX8_takeName  σ = some q) : CT l yX8_takeName cX8_takeName 1 none 1 E σ [.ref (eA E 6)] none q := by
  refine CT.of RX8 [some (.ref (eA E 6))] rfl (by decide +kernel) (Nat.le_of_ble_eq_true rfl) rfl ?_
  intro p e s m args below meth c cx
  unfold fX8_takeName at hf
  have l5 : ∀  (y : Sg) (o : Sg), lpO (fun w => fX8_takeName_B5   w) FUEL y = some o → (WA p l e (rmd 1) s m args below meth c 1 E 0 0 (MQ below (Qcq E s.heap.size (none) q) args s 0 0 (AE E s.heap.size)) 44 [none] [] o) → WA p l e (rmd 1) s m args below meth c 1 E 0 0 (MQ below (Qcq E s.heap.size (none) q) args s 0 0 (AE E s.heap.size)) 5 [some (.ref (eA E 6))] [] y := by
    intro  y o hf hk
    refine lp_rule (P := fun y => WA p l e (rmd 1) s m args below meth c 1 E 0 0 (MQ below (Qcq E s.heap.size (none) q) args s 0 0 (AE E s.heap.size)) 5 [some (.ref (eA E 6))] [] y) (K := fun o => WA p l e (rmd 1) s m args below meth c 1 E 0 0 (MQ below (Qcq E s.heap.size (none) q) args s 0 0 (AE E s.heap.size)) 44 [none] [] o) ?_ FUEL y o hf hk
    intro σ r1 hf hk1
    have hf : fX8_takeName_B5   σ = some r1 := hf
    unfold fX8_takeName_B5 at hf
    refine wa_aload_n (pc := 5) cx 0 dX8_takeName_5 rfl rfl ?_
    refine wa_getI (pc := 6) cx fl_X8_26 lk_6 rfl (cx.bl 6 rfl) dX8_takeName_6 ?_
    refine wa_aload_n (pc := 9) cx 0 dX8_takeName_9 rfl rfl ?_
    refine wa_getI (pc := 10) cx fl_X8_13 lk_6 rfl (cx.bl 6 rfl) dX8_takeName_10 ?_
    refine wa_icmp_ge (pc := 13) cx 44 dX8_takeName_13 rfl (fun c1 => ?_) (fun c1 => ?_)
    · have hf := (if_pos c1).symm.trans hf
      obtain rfl := Option.some.inj hf
      refine wa_forget [false] [none] rfl ?_
      exact hk1
    · have hf := (if_neg c1).symm.trans hf
      refine wa_aload_n (pc := 16) cx 0 dX8_takeName_16 rfl rfl ?_
      refine wa_getR (pc := 17) cx fl_X8_9 lk_6 rfl (cx.bl 6 rfl) dX8_takeName_17 ?_
      refine wa_aload_n (pc := 20) cx 0 dX8_takeName_20 rfl rfl ?_
      refine wa_getI (pc := 21) cx fl_X8_26 lk_6 rfl (cx.bl 6 rfl) dX8_takeName_21 ?_
      obtain ⟨g2, hf⟩ := gd_some hf
      refine wa_bald (pc := 24) cx lk_7 (cx.bl 7 rfl) g2 dX8_takeName_24 ?_
      obtain ⟨q3, h4, hf⟩ := bd_some hf
      refine wa_callSi (pc := 25) cx [.int (ga σ 7 (gf σ 6 5))] (ct_X8_isLetter l E _ _ _ h4) ms_X8_isLetter tw_446 rfl rfl (Nat.le_of_ble_eq_true rfl) ⟨Nat.le_of_ble_eq_true rfl, Nat.le_of_ble_eq_true rfl⟩ ⟨Nat.zero_le _, Nat.zero_le _⟩ dX8_takeName_25 ?_
      refine wa_if_eq (pc := 28) cx 44 dX8_takeName_28 rfl (fun c5 => ?_) (fun c5 => ?_)
      · have hf := (if_pos c5).symm.trans hf
        obtain rfl := Option.some.inj hf
        refine wa_forget [false] [none] rfl ?_
        exact hk1
      · have hf := (if_neg c5).symm.trans hf
        refine wa_aload_n (pc := 31) cx 0 dX8_takeName_31 rfl rfl ?_
        refine wa_dup (pc := 32) cx dX8_takeName_32 rfl ?_
        refine wa_getI (pc := 33) cx fl_X8_26 lk_6 rfl (cx.bl 6 rfl) dX8_takeName_33 ?_
        refine wa_iconst (pc := 36) (v := 1) cx dX8_takeName_36 (by decide) ?_
        refine wa_iadd (pc := 37) cx dX8_takeName_37 ?_
        refine wa_putI (pc := 38) cx fp_X8_26 lk_6 rfl (cx.bl 6 rfl) dX8_takeName_38 ?_
        refine wa_goto (pc := 41) cx 5 dX8_takeName_41 rfl ?_
        obtain rfl := Option.some.inj hf
        refine wa_forget [true] [some (.ref (eA E 6))] rfl ?_
        exact hk1
  refine wa_aload_n (pc := 0) cx 0 dX8_takeName_0 rfl rfl ?_
  refine wa_iconst (pc := 1) (v := 1) cx dX8_takeName_1 (by decide) ?_
  refine wa_putI (pc := 2) cx fp_X8_17 lk_6 rfl (cx.bl 6 rfl) dX8_takeName_2 ?_
  obtain ⟨o6, h7, hf⟩ := bd_some hf
  refine l5  _ _ h7 ?_
  obtain rfl := Option.some.inj hf
  exact wa_vret (pc := 44) cx dX8_takeName_44
def fX8_next_B0   (σ : Sg) : Option ((Sg) ⊕ (Sg)) :=
  if gf σ 6 1 ≤ gf σ 6 5 then (some (.inr σ)) else (gd (inb (gf σ 6 5) 400) (
  (fX8_isBlank (ga σ 7 (gf σ 6 5)) σ).bind (fun q3 =>
  if q3 = 0 then (some (.inr σ)) else (some (.inl (sup σ 6 5 (gf σ 6 5 + 1)))))))
def fX8_next_J130 (t1 : Int32) (σ : Sg) : Option (Sg) :=
  some (sup (sup σ 6 2 t1) 6 5 (gf (sup σ 6 2 t1) 6 5 + 1))
def fX8_next  (σ : Sg) : Option (Sg) :=
  (lpO (fun w => fX8_next_B0   w) FUEL σ).bind (fun o6 =>
  if gf (sup o6 6 3 (gf o6 6 5)) 6 5 < gf (sup o6 6 3 (gf o6 6 5)) 6 1 then (gd (inb (gf (sup o6 6 3 (gf o6 6 5)) 6 5) 400) (
  (fX8_isLetter (ga (sup o6 6 3 (gf o6 6 5)) 7 (gf (sup o6 6 3 (gf o6 6 5)) 6 5)) (sup o6 6 3 (gf o6 6 5))).bind (fun q9 =>
  if q9 = 0 then (gd (inb (gf (sup o6 6 3 (gf o6 6 5)) 6 5) 400) (
  (fX8_isFigure (ga (sup o6 6 3 (gf o6 6 5)) 7 (gf (sup o6 6 3 (gf o6 6 5)) 6 5)) (sup o6 6 3 (gf o6 6 5))).bind (fun q13 =>
  if q13 = 0 then (gd (inb (gf (sup o6 6 3 (gf o6 6 5)) 6 5) 400) (
  if ga (sup o6 6 3 (gf o6 6 5)) 7 (gf (sup o6 6 3 (gf o6 6 5)) 6 5) = 59 then (fX8_next_J130 3 (sup o6 6 3 (gf o6 6 5))) else (fX8_next_J130 4 (sup o6 6 3 (gf o6 6 5))))) else ((fX8_takeNumber  (sup o6 6 3 (gf o6 6 5))).bind (fun q18 =>
  some q18))))) else ((fX8_takeName  (sup o6 6 3 (gf o6 6 5))).bind (fun q20 =>
  some q20))))) else (some (sup (sup o6 6 3 (gf o6 6 5)) 6 2 0)))
set_option maxHeartbeats 4000000 in
set_option maxRecDepth 100000 in
theorem ct_X8_next (l : Launch) (E : En) (σ : Sg)  (q : Sg) (hf : fX8_next  σ = some q) : CT l yX8_next cX8_next 1 none 2 E σ [.ref (eA E 6)] none q := by
  refine CT.of RX8 [some (.ref (eA E 6))] rfl (by decide +kernel) (Nat.le_of_ble_eq_true rfl) rfl ?_
  intro p e s m args below meth c cx
  unfold fX8_next at hf
  have l0 : ∀  (y : Sg) (o : Sg), lpO (fun w => fX8_next_B0   w) FUEL y = some o → (WA p l e (rmd 2) s m args below meth c 1 E 0 0 (MQ below (Qcq E s.heap.size (none) q) args s 0 0 (AE E s.heap.size)) 39 [some (.ref (eA E 6))] [] o) → WA p l e (rmd 2) s m args below meth c 1 E 0 0 (MQ below (Qcq E s.heap.size (none) q) args s 0 0 (AE E s.heap.size)) 0 [some (.ref (eA E 6))] [] y := by
    intro  y o hf hk
    refine lp_rule (P := fun y => WA p l e (rmd 2) s m args below meth c 1 E 0 0 (MQ below (Qcq E s.heap.size (none) q) args s 0 0 (AE E s.heap.size)) 0 [some (.ref (eA E 6))] [] y) (K := fun o => WA p l e (rmd 2) s m args below meth c 1 E 0 0 (MQ below (Qcq E s.heap.size (none) q) args s 0 0 (AE E s.heap.size)) 39 [some (.ref (eA E 6))] [] o) ?_ FUEL y o hf hk
    intro σ r1 hf hk1
    have hf : fX8_next_B0   σ = some r1 := hf
    unfold fX8_next_B0 at hf
    refine wa_aload_n (pc := 0) cx 0 dX8_next_0 rfl rfl ?_
    refine wa_getI (pc := 1) cx fl_X8_26 lk_6 rfl (cx.bl 6 rfl) dX8_next_1 ?_
    refine wa_aload_n (pc := 4) cx 0 dX8_next_4 rfl rfl ?_
    refine wa_getI (pc := 5) cx fl_X8_13 lk_6 rfl (cx.bl 6 rfl) dX8_next_5 ?_
    refine wa_icmp_ge (pc := 8) cx 39 dX8_next_8 rfl (fun c1 => ?_) (fun c1 => ?_)
    · have hf := (if_pos c1).symm.trans hf
      obtain rfl := Option.some.inj hf
      refine wa_forget [true] [some (.ref (eA E 6))] rfl ?_
      exact hk1
    · have hf := (if_neg c1).symm.trans hf
      refine wa_aload_n (pc := 11) cx 0 dX8_next_11 rfl rfl ?_
      refine wa_getR (pc := 12) cx fl_X8_9 lk_6 rfl (cx.bl 6 rfl) dX8_next_12 ?_
      refine wa_aload_n (pc := 15) cx 0 dX8_next_15 rfl rfl ?_
      refine wa_getI (pc := 16) cx fl_X8_26 lk_6 rfl (cx.bl 6 rfl) dX8_next_16 ?_
      obtain ⟨g2, hf⟩ := gd_some hf
      refine wa_bald (pc := 19) cx lk_7 (cx.bl 7 rfl) g2 dX8_next_19 ?_
      obtain ⟨q3, h4, hf⟩ := bd_some hf
      refine wa_callSi (pc := 20) cx [.int (ga σ 7 (gf σ 6 5))] (ct_X8_isBlank l E _ _ _ h4) ms_X8_isBlank tw_443 rfl rfl (Nat.le_of_ble_eq_true rfl) ⟨Nat.le_of_ble_eq_true rfl, Nat.le_of_ble_eq_true rfl⟩ ⟨Nat.zero_le _, Nat.zero_le _⟩ dX8_next_20 ?_
      refine wa_if_eq (pc := 23) cx 39 dX8_next_23 rfl (fun c5 => ?_) (fun c5 => ?_)
      · have hf := (if_pos c5).symm.trans hf
        obtain rfl := Option.some.inj hf
        refine wa_forget [true] [some (.ref (eA E 6))] rfl ?_
        exact hk1
      · have hf := (if_neg c5).symm.trans hf
        refine wa_aload_n (pc := 26) cx 0 dX8_next_26 rfl rfl ?_
        refine wa_dup (pc := 27) cx dX8_next_27 rfl ?_
        refine wa_getI (pc := 28) cx fl_X8_26 lk_6 rfl (cx.bl 6 rfl) dX8_next_28 ?_
        refine wa_iconst (pc := 31) (v := 1) cx dX8_next_31 (by decide) ?_
        refine wa_iadd (pc := 32) cx dX8_next_32 ?_
        refine wa_putI (pc := 33) cx fp_X8_26 lk_6 rfl (cx.bl 6 rfl) dX8_next_33 ?_
        refine wa_goto (pc := 36) cx 0 dX8_next_36 rfl ?_
        obtain rfl := Option.some.inj hf
        refine wa_forget [true] [some (.ref (eA E 6))] rfl ?_
        exact hk1
  have j130 : ∀ (t1 : Int32) (σ : Sg), fX8_next_J130 t1 σ = some q → WA p l e (rmd 2) s m args below meth c 1 E 0 0 (MQ below (Qcq E s.heap.size (none) q) args s 0 0 (AE E s.heap.size)) 130 [some (.ref (eA E 6))] [.int t1, .ref (eA E 6)] σ := by
    intro t1 σ hf
    unfold fX8_next_J130 at hf
    refine wa_putI (pc := 130) cx fp_X8_17 lk_6 rfl (cx.bl 6 rfl) dX8_next_130 ?_
    refine wa_aload_n (pc := 133) cx 0 dX8_next_133 rfl rfl ?_
    refine wa_dup (pc := 134) cx dX8_next_134 rfl ?_
    refine wa_getI (pc := 135) cx fl_X8_26 lk_6 rfl (cx.bl 6 rfl) dX8_next_135 ?_
    refine wa_iconst (pc := 138) (v := 1) cx dX8_next_138 (by decide) ?_
    refine wa_iadd (pc := 139) cx dX8_next_139 ?_
    refine wa_putI (pc := 140) cx fp_X8_26 lk_6 rfl (cx.bl 6 rfl) dX8_next_140 ?_
    obtain rfl := Option.some.inj hf
    exact wa_vret (pc := 143) cx dX8_next_143
  obtain ⟨o6, h22, hf⟩ := bd_some hf
  refine l0  _ _ h22 ?_
  refine wa_aload_n (pc := 39) cx 0 dX8_next_39 rfl rfl ?_
  refine wa_aload_n (pc := 40) cx 0 dX8_next_40 rfl rfl ?_
  refine wa_getI (pc := 41) cx fl_X8_26 lk_6 rfl (cx.bl 6 rfl) dX8_next_41 ?_
  refine wa_putI (pc := 44) cx fp_X8_20 lk_6 rfl (cx.bl 6 rfl) dX8_next_44 ?_
  refine wa_aload_n (pc := 47) cx 0 dX8_next_47 rfl rfl ?_
  refine wa_getI (pc := 48) cx fl_X8_26 lk_6 rfl (cx.bl 6 rfl) dX8_next_48 ?_
  refine wa_aload_n (pc := 51) cx 0 dX8_next_51 rfl rfl ?_
  refine wa_getI (pc := 52) cx fl_X8_13 lk_6 rfl (cx.bl 6 rfl) dX8_next_52 ?_
  refine wa_icmp_lt (pc := 55) cx 66 dX8_next_55 rfl (fun c7 => ?_) (fun c7 => ?_)
  · have hf := (if_pos c7).symm.trans hf
    refine wa_aload_n (pc := 66) cx 0 dX8_next_66 rfl rfl ?_
    refine wa_getR (pc := 67) cx fl_X8_9 lk_6 rfl (cx.bl 6 rfl) dX8_next_67 ?_
    refine wa_aload_n (pc := 70) cx 0 dX8_next_70 rfl rfl ?_
    refine wa_getI (pc := 71) cx fl_X8_26 lk_6 rfl (cx.bl 6 rfl) dX8_next_71 ?_
    obtain ⟨g8, hf⟩ := gd_some hf
    refine wa_bald (pc := 74) cx lk_7 (cx.bl 7 rfl) g8 dX8_next_74 ?_
    obtain ⟨q9, h10, hf⟩ := bd_some hf
    refine wa_callSi (pc := 75) cx [.int (ga (sup o6 6 3 (gf o6 6 5)) 7 (gf (sup o6 6 3 (gf o6 6 5)) 6 5))] (ct_X8_isLetter l E _ _ _ h10) ms_X8_isLetter tw_446 rfl rfl (Nat.le_of_ble_eq_true rfl) ⟨Nat.le_of_ble_eq_true rfl, Nat.le_of_ble_eq_true rfl⟩ ⟨Nat.zero_le _, Nat.zero_le _⟩ dX8_next_75 ?_
    refine wa_if_eq (pc := 78) cx 88 dX8_next_78 rfl (fun c11 => ?_) (fun c11 => ?_)
    · have hf := (if_pos c11).symm.trans hf
      refine wa_aload_n (pc := 88) cx 0 dX8_next_88 rfl rfl ?_
      refine wa_getR (pc := 89) cx fl_X8_9 lk_6 rfl (cx.bl 6 rfl) dX8_next_89 ?_
      refine wa_aload_n (pc := 92) cx 0 dX8_next_92 rfl rfl ?_
      refine wa_getI (pc := 93) cx fl_X8_26 lk_6 rfl (cx.bl 6 rfl) dX8_next_93 ?_
      obtain ⟨g12, hf⟩ := gd_some hf
      refine wa_bald (pc := 96) cx lk_7 (cx.bl 7 rfl) g12 dX8_next_96 ?_
      obtain ⟨q13, h14, hf⟩ := bd_some hf
      refine wa_callSi (pc := 97) cx [.int (ga (sup o6 6 3 (gf o6 6 5)) 7 (gf (sup o6 6 3 (gf o6 6 5)) 6 5))] (ct_X8_isFigure l E _ _ _ h14) ms_X8_isFigure tw_453 rfl rfl (Nat.le_of_ble_eq_true rfl) ⟨Nat.le_of_ble_eq_true rfl, Nat.le_of_ble_eq_true rfl⟩ ⟨Nat.zero_le _, Nat.zero_le _⟩ dX8_next_97 ?_
      refine wa_if_eq (pc := 100) cx 110 dX8_next_100 rfl (fun c15 => ?_) (fun c15 => ?_)
      · have hf := (if_pos c15).symm.trans hf
        refine wa_aload_n (pc := 110) cx 0 dX8_next_110 rfl rfl ?_
        refine wa_aload_n (pc := 111) cx 0 dX8_next_111 rfl rfl ?_
        refine wa_getR (pc := 112) cx fl_X8_9 lk_6 rfl (cx.bl 6 rfl) dX8_next_112 ?_
        refine wa_aload_n (pc := 115) cx 0 dX8_next_115 rfl rfl ?_
        refine wa_getI (pc := 116) cx fl_X8_26 lk_6 rfl (cx.bl 6 rfl) dX8_next_116 ?_
        obtain ⟨g16, hf⟩ := gd_some hf
        refine wa_bald (pc := 119) cx lk_7 (cx.bl 7 rfl) g16 dX8_next_119 ?_
        refine wa_bipush (pc := 120) (v := 59) cx dX8_next_120 (by decide) ?_
        refine wa_icmp_ne (pc := 122) cx 129 dX8_next_122 rfl (fun c17 => ?_) (fun c17 => ?_)
        · have hf := (if_neg c17).symm.trans hf
          refine wa_iconst (pc := 129) (v := 4) cx dX8_next_129 (by decide) ?_
          exact j130 _ _ hf
        · have hf := (if_pos c17).symm.trans hf
          refine wa_iconst (pc := 125) (v := 3) cx dX8_next_125 (by decide) ?_
          refine wa_goto (pc := 126) cx 130 dX8_next_126 rfl ?_
          exact j130 _ _ hf
      · have hf := (if_neg c15).symm.trans hf
        refine wa_aload_n (pc := 103) cx 0 dX8_next_103 rfl rfl ?_
        obtain ⟨q18, h19, hf⟩ := bd_some hf
        refine wa_callVv (pc := 104) cx [] (ct_X8_takeNumber l E _  _ h19) mi_X8_takeNumber tw_456 lk_6 rfl (cx.bl 6 rfl) rfl rfl (Nat.le_of_ble_eq_true rfl) ⟨Nat.le_of_ble_eq_true rfl, Nat.le_of_ble_eq_true rfl⟩ ⟨Nat.zero_le _, Nat.zero_le _⟩ dX8_next_104 ?_
        refine wa_goto (pc := 107) cx 143 dX8_next_107 rfl ?_
        obtain rfl := Option.some.inj hf
        exact wa_vret (pc := 143) cx dX8_next_143
    · have hf := (if_neg c11).symm.trans hf
      refine wa_aload_n (pc := 81) cx 0 dX8_next_81 rfl rfl ?_
      obtain ⟨q20, h21, hf⟩ := bd_some hf
      refine wa_callVv (pc := 82) cx [] (ct_X8_takeName l E _  _ h21) mi_X8_takeName tw_449 lk_6 rfl (cx.bl 6 rfl) rfl rfl (Nat.le_of_ble_eq_true rfl) ⟨Nat.le_of_ble_eq_true rfl, Nat.le_of_ble_eq_true rfl⟩ ⟨Nat.zero_le _, Nat.zero_le _⟩ dX8_next_82 ?_
      refine wa_goto (pc := 85) cx 143 dX8_next_85 rfl ?_
      obtain rfl := Option.some.inj hf
      exact wa_vret (pc := 143) cx dX8_next_143
  · have hf := (if_neg c7).symm.trans hf
    refine wa_aload_n (pc := 58) cx 0 dX8_next_58 rfl rfl ?_
    refine wa_iconst (pc := 59) (v := 0) cx dX8_next_59 (by decide) ?_
    refine wa_putI (pc := 60) cx fp_X8_17 lk_6 rfl (cx.bl 6 rfl) dX8_next_60 ?_
    refine wa_goto (pc := 63) cx 143 dX8_next_63 rfl ?_
    obtain rfl := Option.some.inj hf
    exact wa_vret (pc := 143) cx dX8_next_143
def fX8_rewind  (σ : Sg) : Option (Sg) :=
  (fX8_next  (sup σ 6 5 0)).bind (fun q1 =>
  some q1)
set_option maxHeartbeats 4000000 in
set_option maxRecDepth 100000 in
theorem ct_X8_rewind (l : Launch) (E : En) (σ : Sg)  (q : Sg) (hf : fX8_rewind  σ = some q) : CT l yX8_rewind cX8_rewind 1 none 3 E σ [.ref (eA E 6)] none q := by
  refine CT.of RX8 [some (.ref (eA E 6))] rfl (by decide +kernel) (Nat.le_of_ble_eq_true rfl) rfl ?_
  intro p e s m args below meth c cx
  unfold fX8_rewind at hf
  refine wa_aload_n (pc := 0) cx 0 dX8_rewind_0 rfl rfl ?_
  refine wa_iconst (pc := 1) (v := 0) cx dX8_rewind_1 (by decide) ?_
  refine wa_putI (pc := 2) cx fp_X8_26 lk_6 rfl (cx.bl 6 rfl) dX8_rewind_2 ?_
  refine wa_aload_n (pc := 5) cx 0 dX8_rewind_5 rfl rfl ?_
  obtain ⟨q1, h2, hf⟩ := bd_some hf
  refine wa_callVv (pc := 6) cx [] (ct_X8_next l E _  _ h2) mi_X8_next tw_439 lk_6 rfl (cx.bl 6 rfl) rfl rfl (Nat.le_of_ble_eq_true rfl) ⟨Nat.le_of_ble_eq_true rfl, Nat.le_of_ble_eq_true rfl⟩ ⟨Nat.zero_le _, Nat.zero_le _⟩ dX8_rewind_6 ?_
  obtain rfl := Option.some.inj hf
  exact wa_vret (pc := 9) cx dX8_rewind_9
def fX8_isWord_6_K0_J24  (σ : Sg) : Option (Int32 × Sg) :=
  some (0, σ)
def fX8_isWord_6_K0_B28  (v2 : Int32) (σ : Sg) : Option ((Int32 × Sg) ⊕ ((Sg) ⊕ (Sg))) :=
  if jshr (Int32.ofNat (klen.getD 0 0)) 0 ≤ v2 then (some (.inr (.inr σ))) else (gd (inb (gf σ 6 3 + v2) 400) (
  gd (inb v2 (klen.getD 0 0)) (
  if ga σ 7 (gf σ 6 3 + v2) = kch 0 v2 then (some (.inl ((v2 + 1), σ))) else (some (.inr (.inl σ))))))
def fX8_isWord_6_K0  (σ : Sg) : Option (Int32 × Sg) :=
  if gf σ 6 2 = 1 then (if (gf σ 6 5 - gf σ 6 3) = jshr (Int32.ofNat (klen.getD 0 0)) 0 then ((lpO (fun w => fX8_isWord_6_K0_B28  w.1 w.2) FUEL (0, σ)).bind (fun o9 => match o9 with
  | .inl z10 => some (0, z10)
  | .inr z11 => some (1, z11))) else (fX8_isWord_6_K0_J24  σ)) else (fX8_isWord_6_K0_J24  σ)
set_option maxHeartbeats 4000000 in
set_option maxRecDepth 100000 in
theorem ct_X8_isWord_6_K0 (l : Launch) (E : En) (σ : Sg)  (q : Int32 × Sg) (hf : fX8_isWord_6_K0  σ = some q) : CT l yX8_isWord cX8_isWord 3 (some .boolean) 4 E σ [.ref (eA E 6), .ref (eK E 0)] (some (.int q.1)) q.2 := by
  refine CT.of RX8 [some (.ref (eA E 6)), some (.ref (eK E 0)), none] rfl (by decide +kernel) (Nat.le_of_ble_eq_true rfl) rfl ?_
  intro p e s m args below meth c cx
  unfold fX8_isWord_6_K0 at hf
  have j24 : ∀  (σ : Sg), fX8_isWord_6_K0_J24  σ = some q → WA p l e (rmd 4) s m args below meth c 3 E 0 0 (MQ below (Qcq E s.heap.size (some (.int q.1)) q.2) args s 0 0 (AE E s.heap.size)) 24 [none, none, none] [] σ := by
    intro  σ hf
    unfold fX8_isWord_6_K0_J24 at hf
    refine wa_iconst (pc := 24) (v := 0) cx dX8_isWord_24 (by decide) ?_
    obtain rfl := Option.some.inj hf
    exact wa_zret (pc := 25) cx rfl dX8_isWord_25
  have l28 : ∀  (y : Int32 × Sg) (o : (Sg) ⊕ (Sg)), lpO (fun w => fX8_isWord_6_K0_B28  w.1 w.2) FUEL y = some o → (sel (fun z7 => WA p l e (rmd 4) s m args below meth c 3 E 0 0 (MQ below (Qcq E s.heap.size (some (.int q.1)) q.2) args s 0 0 (AE E s.heap.size)) 55 [none, none, none] [] z7) (fun z7 => WA p l e (rmd 4) s m args below meth c 3 E 0 0 (MQ below (Qcq E s.heap.size (some (.int q.1)) q.2) args s 0 0 (AE E s.heap.size)) 63 [none, none, none] [] z7) o) → WA p l e (rmd 4) s m args below meth c 3 E 0 0 (MQ below (Qcq E s.heap.size (some (.int q.1)) q.2) args s 0 0 (AE E s.heap.size)) 28 [some (.ref (eA E 6)), some (.ref (eK E 0)), some (.int y.1)] [] y.2 := by
    intro  y o hf hk
    refine lp_rule (P := fun y => WA p l e (rmd 4) s m args below meth c 3 E 0 0 (MQ below (Qcq E s.heap.size (some (.int q.1)) q.2) args s 0 0 (AE E s.heap.size)) 28 [some (.ref (eA E 6)), some (.ref (eK E 0)), some (.int y.1)] [] y.2) (K := fun o => sel (fun z8 => WA p l e (rmd 4) s m args below meth c 3 E 0 0 (MQ below (Qcq E s.heap.size (some (.int q.1)) q.2) args s 0 0 (AE E s.heap.size)) 55 [none, none, none] [] z8) (fun z8 => WA p l e (rmd 4) s m args below meth c 3 E 0 0 (MQ below (Qcq E s.heap.size (some (.int q.1)) q.2) args s 0 0 (AE E s.heap.size)) 63 [none, none, none] [] z8) o) ?_ FUEL y o hf hk
    intro y0 r1 hf hk1
    obtain ⟨v2, σ⟩ := y0
    have hf : fX8_isWord_6_K0_B28  v2 σ = some r1 := hf
    unfold fX8_isWord_6_K0_B28 at hf
    refine wa_iload_n (pc := 28) cx 2 dX8_isWord_28 rfl rfl ?_
    refine wa_aload_n (pc := 29) cx 1 dX8_isWord_29 rfl rfl ?_
    refine wa_callK (pc := 30) cx [] (by decide) (ct_length l E _ 0 (by decide)) mi_J0_length_8abf5 tw_469 rfl rfl rfl (Nat.le_of_ble_eq_true rfl) ⟨Nat.le_of_ble_eq_true rfl, Nat.le_of_ble_eq_true rfl⟩ ⟨Nat.zero_le _, Nat.zero_le _⟩ dX8_isWord_30 ?_
    refine wa_icmp_ge (pc := 33) cx 63 dX8_isWord_33 rfl (fun c3 => ?_) (fun c3 => ?_)
    · have hf := (if_pos c3).symm.trans hf
      obtain rfl := Option.some.inj hf
      refine wa_forget [false, false, false] [none, none, none] rfl ?_
      exact hk1
    · have hf := (if_neg c3).symm.trans hf
      refine wa_aload_n (pc := 36) cx 0 dX8_isWord_36 rfl rfl ?_
      refine wa_getR (pc := 37) cx fl_X8_9 lk_6 rfl (cx.bl 6 rfl) dX8_isWord_37 ?_
      refine wa_aload_n (pc := 40) cx 0 dX8_isWord_40 rfl rfl ?_
      refine wa_getI (pc := 41) cx fl_X8_20 lk_6 rfl (cx.bl 6 rfl) dX8_isWord_41 ?_
      refine wa_iload_n (pc := 44) cx 2 dX8_isWord_44 rfl rfl ?_
      refine wa_iadd (pc := 45) cx dX8_isWord_45 ?_
      obtain ⟨g4, hf⟩ := gd_some hf
      refine wa_bald (pc := 46) cx lk_7 (cx.bl 7 rfl) g4 dX8_isWord_46 ?_
      refine wa_aload_n (pc := 47) cx 1 dX8_isWord_47 rfl rfl ?_
      refine wa_iload_n (pc := 48) cx 2 dX8_isWord_48 rfl rfl ?_
      obtain ⟨g5, hf⟩ := gd_some hf
      refine wa_callK (pc := 49) cx [.int v2] (by decide) (ct_charAt l E _ 0 (by decide) _ g5) mi_J0_charAt_5068e tw_479 rfl rfl rfl (Nat.le_of_ble_eq_true rfl) ⟨Nat.le_of_ble_eq_true rfl, Nat.le_of_ble_eq_true rfl⟩ ⟨Nat.zero_le _, Nat.zero_le _⟩ dX8_isWord_49 ?_
      refine wa_icmp_eq (pc := 52) cx 57 dX8_isWord_52 rfl (fun c6 => ?_) (fun c6 => ?_)
      · have hf := (if_pos c6).symm.trans hf
        refine wa_iinc (pc := 57) (v := 1) cx 2 [some (.ref (eA E 6)), some (.ref (eK E 0)), some (.int (v2 + 1))] dX8_isWord_57 (by decide) rfl (by decide) rfl rfl ?_
        refine wa_goto (pc := 60) cx 28 dX8_isWord_60 rfl ?_
        obtain rfl := Option.some.inj hf
        refine wa_forget [true, true, true] [some (.ref (eA E 6)), some (.ref (eK E 0)), some (.int (v2 + 1))] rfl ?_
        exact hk1
      · have hf := (if_neg c6).symm.trans hf
        obtain rfl := Option.some.inj hf
        refine wa_forget [false, false, false] [none, none, none] rfl ?_
        exact hk1
  refine wa_aload_n (pc := 0) cx 0 dX8_isWord_0 rfl rfl ?_
  refine wa_getI (pc := 1) cx fl_X8_17 lk_6 rfl (cx.bl 6 rfl) dX8_isWord_1 ?_
  refine wa_iconst (pc := 4) (v := 1) cx dX8_isWord_4 (by decide) ?_
  refine wa_icmp_ne (pc := 5) cx 24 dX8_isWord_5 rfl (fun c1 => ?_) (fun c1 => ?_)
  · have hf := (if_neg c1).symm.trans hf
    refine wa_forget [false, false, false] [none, none, none] rfl ?_
    exact j24  _ hf
  · have hf := (if_pos c1).symm.trans hf
    refine wa_aload_n (pc := 8) cx 0 dX8_isWord_8 rfl rfl ?_
    refine wa_getI (pc := 9) cx fl_X8_26 lk_6 rfl (cx.bl 6 rfl) dX8_isWord_9 ?_
    refine wa_aload_n (pc := 12) cx 0 dX8_isWord_12 rfl rfl ?_
    refine wa_getI (pc := 13) cx fl_X8_20 lk_6 rfl (cx.bl 6 rfl) dX8_isWord_13 ?_
    refine wa_isub (pc := 16) cx dX8_isWord_16 ?_
    refine wa_aload_n (pc := 17) cx 1 dX8_isWord_17 rfl rfl ?_
    refine wa_callK (pc := 18) cx [] (by decide) (ct_length l E _ 0 (by decide)) mi_J0_length_8abf5 tw_469 rfl rfl rfl (Nat.le_of_ble_eq_true rfl) ⟨Nat.le_of_ble_eq_true rfl, Nat.le_of_ble_eq_true rfl⟩ ⟨Nat.zero_le _, Nat.zero_le _⟩ dX8_isWord_18 ?_
    refine wa_icmp_eq (pc := 21) cx 26 dX8_isWord_21 rfl (fun c2 => ?_) (fun c2 => ?_)
    · have hf := (if_pos c2).symm.trans hf
      refine wa_iconst (pc := 26) (v := 0) cx dX8_isWord_26 (by decide) ?_
      refine wa_istore_n (pc := 27) cx 2 [some (.ref (eA E 6)), some (.ref (eK E 0)), some (.int 0)] dX8_isWord_27 rfl (by decide) rfl rfl ?_
      obtain ⟨o9, h12, hf⟩ := bd_some hf
      refine l28  _ _ h12 ?_
      cases o9 with
      | inl z10 =>
        refine wa_iconst (pc := 55) (v := 0) cx dX8_isWord_55 (by decide) ?_
        obtain rfl := Option.some.inj hf
        exact wa_zret (pc := 56) cx rfl dX8_isWord_56
      | inr z11 =>
        refine wa_iconst (pc := 63) (v := 1) cx dX8_isWord_63 (by decide) ?_
        obtain rfl := Option.some.inj hf
        exact wa_zret (pc := 64) cx rfl dX8_isWord_64
    · have hf := (if_neg c2).symm.trans hf
      refine wa_forget [false, false, false] [none, none, none] rfl ?_
      exact j24  _ hf
def fX8_isWord_6_K1_J24  (σ : Sg) : Option (Int32 × Sg) :=
  some (0, σ)
def fX8_isWord_6_K1_B28  (v2 : Int32) (σ : Sg) : Option ((Int32 × Sg) ⊕ ((Sg) ⊕ (Sg))) :=
  if jshr (Int32.ofNat (klen.getD 1 0)) 0 ≤ v2 then (some (.inr (.inr σ))) else (gd (inb (gf σ 6 3 + v2) 400) (
  gd (inb v2 (klen.getD 1 0)) (
  if ga σ 7 (gf σ 6 3 + v2) = kch 1 v2 then (some (.inl ((v2 + 1), σ))) else (some (.inr (.inl σ))))))
def fX8_isWord_6_K1  (σ : Sg) : Option (Int32 × Sg) :=
  if gf σ 6 2 = 1 then (if (gf σ 6 5 - gf σ 6 3) = jshr (Int32.ofNat (klen.getD 1 0)) 0 then ((lpO (fun w => fX8_isWord_6_K1_B28  w.1 w.2) FUEL (0, σ)).bind (fun o9 => match o9 with
  | .inl z10 => some (0, z10)
  | .inr z11 => some (1, z11))) else (fX8_isWord_6_K1_J24  σ)) else (fX8_isWord_6_K1_J24  σ)
set_option maxHeartbeats 4000000 in
set_option maxRecDepth 100000 in
theorem ct_X8_isWord_6_K1 (l : Launch) (E : En) (σ : Sg)  (q : Int32 × Sg) (hf : fX8_isWord_6_K1  σ = some q) : CT l yX8_isWord cX8_isWord 3 (some .boolean) 4 E σ [.ref (eA E 6), .ref (eK E 1)] (some (.int q.1)) q.2 := by
  refine CT.of RX8 [some (.ref (eA E 6)), some (.ref (eK E 1)), none] rfl (by decide +kernel) (Nat.le_of_ble_eq_true rfl) rfl ?_
  intro p e s m args below meth c cx
  unfold fX8_isWord_6_K1 at hf
  have j24 : ∀  (σ : Sg), fX8_isWord_6_K1_J24  σ = some q → WA p l e (rmd 4) s m args below meth c 3 E 0 0 (MQ below (Qcq E s.heap.size (some (.int q.1)) q.2) args s 0 0 (AE E s.heap.size)) 24 [none, none, none] [] σ := by
    intro  σ hf
    unfold fX8_isWord_6_K1_J24 at hf
    refine wa_iconst (pc := 24) (v := 0) cx dX8_isWord_24 (by decide) ?_
    obtain rfl := Option.some.inj hf
    exact wa_zret (pc := 25) cx rfl dX8_isWord_25
  have l28 : ∀  (y : Int32 × Sg) (o : (Sg) ⊕ (Sg)), lpO (fun w => fX8_isWord_6_K1_B28  w.1 w.2) FUEL y = some o → (sel (fun z7 => WA p l e (rmd 4) s m args below meth c 3 E 0 0 (MQ below (Qcq E s.heap.size (some (.int q.1)) q.2) args s 0 0 (AE E s.heap.size)) 55 [none, none, none] [] z7) (fun z7 => WA p l e (rmd 4) s m args below meth c 3 E 0 0 (MQ below (Qcq E s.heap.size (some (.int q.1)) q.2) args s 0 0 (AE E s.heap.size)) 63 [none, none, none] [] z7) o) → WA p l e (rmd 4) s m args below meth c 3 E 0 0 (MQ below (Qcq E s.heap.size (some (.int q.1)) q.2) args s 0 0 (AE E s.heap.size)) 28 [some (.ref (eA E 6)), some (.ref (eK E 1)), some (.int y.1)] [] y.2 := by
    intro  y o hf hk
    refine lp_rule (P := fun y => WA p l e (rmd 4) s m args below meth c 3 E 0 0 (MQ below (Qcq E s.heap.size (some (.int q.1)) q.2) args s 0 0 (AE E s.heap.size)) 28 [some (.ref (eA E 6)), some (.ref (eK E 1)), some (.int y.1)] [] y.2) (K := fun o => sel (fun z8 => WA p l e (rmd 4) s m args below meth c 3 E 0 0 (MQ below (Qcq E s.heap.size (some (.int q.1)) q.2) args s 0 0 (AE E s.heap.size)) 55 [none, none, none] [] z8) (fun z8 => WA p l e (rmd 4) s m args below meth c 3 E 0 0 (MQ below (Qcq E s.heap.size (some (.int q.1)) q.2) args s 0 0 (AE E s.heap.size)) 63 [none, none, none] [] z8) o) ?_ FUEL y o hf hk
    intro y0 r1 hf hk1
    obtain ⟨v2, σ⟩ := y0
    have hf : fX8_isWord_6_K1_B28  v2 σ = some r1 := hf
    unfold fX8_isWord_6_K1_B28 at hf
    refine wa_iload_n (pc := 28) cx 2 dX8_isWord_28 rfl rfl ?_
    refine wa_aload_n (pc := 29) cx 1 dX8_isWord_29 rfl rfl ?_
    refine wa_callK (pc := 30) cx [] (by decide) (ct_length l E _ 1 (by decide)) mi_J0_length_8abf5 tw_469 rfl rfl rfl (Nat.le_of_ble_eq_true rfl) ⟨Nat.le_of_ble_eq_true rfl, Nat.le_of_ble_eq_true rfl⟩ ⟨Nat.zero_le _, Nat.zero_le _⟩ dX8_isWord_30 ?_
    refine wa_icmp_ge (pc := 33) cx 63 dX8_isWord_33 rfl (fun c3 => ?_) (fun c3 => ?_)
    · have hf := (if_pos c3).symm.trans hf
      obtain rfl := Option.some.inj hf
      refine wa_forget [false, false, false] [none, none, none] rfl ?_
      exact hk1
    · have hf := (if_neg c3).symm.trans hf
      refine wa_aload_n (pc := 36) cx 0 dX8_isWord_36 rfl rfl ?_
      refine wa_getR (pc := 37) cx fl_X8_9 lk_6 rfl (cx.bl 6 rfl) dX8_isWord_37 ?_
      refine wa_aload_n (pc := 40) cx 0 dX8_isWord_40 rfl rfl ?_
      refine wa_getI (pc := 41) cx fl_X8_20 lk_6 rfl (cx.bl 6 rfl) dX8_isWord_41 ?_
      refine wa_iload_n (pc := 44) cx 2 dX8_isWord_44 rfl rfl ?_
      refine wa_iadd (pc := 45) cx dX8_isWord_45 ?_
      obtain ⟨g4, hf⟩ := gd_some hf
      refine wa_bald (pc := 46) cx lk_7 (cx.bl 7 rfl) g4 dX8_isWord_46 ?_
      refine wa_aload_n (pc := 47) cx 1 dX8_isWord_47 rfl rfl ?_
      refine wa_iload_n (pc := 48) cx 2 dX8_isWord_48 rfl rfl ?_
      obtain ⟨g5, hf⟩ := gd_some hf
      refine wa_callK (pc := 49) cx [.int v2] (by decide) (ct_charAt l E _ 1 (by decide) _ g5) mi_J0_charAt_5068e tw_479 rfl rfl rfl (Nat.le_of_ble_eq_true rfl) ⟨Nat.le_of_ble_eq_true rfl, Nat.le_of_ble_eq_true rfl⟩ ⟨Nat.zero_le _, Nat.zero_le _⟩ dX8_isWord_49 ?_
      refine wa_icmp_eq (pc := 52) cx 57 dX8_isWord_52 rfl (fun c6 => ?_) (fun c6 => ?_)
      · have hf := (if_pos c6).symm.trans hf
        refine wa_iinc (pc := 57) (v := 1) cx 2 [some (.ref (eA E 6)), some (.ref (eK E 1)), some (.int (v2 + 1))] dX8_isWord_57 (by decide) rfl (by decide) rfl rfl ?_
        refine wa_goto (pc := 60) cx 28 dX8_isWord_60 rfl ?_
        obtain rfl := Option.some.inj hf
        refine wa_forget [true, true, true] [some (.ref (eA E 6)), some (.ref (eK E 1)), some (.int (v2 + 1))] rfl ?_
        exact hk1
      · have hf := (if_neg c6).symm.trans hf
        obtain rfl := Option.some.inj hf
        refine wa_forget [false, false, false] [none, none, none] rfl ?_
        exact hk1
  refine wa_aload_n (pc := 0) cx 0 dX8_isWord_0 rfl rfl ?_
  refine wa_getI (pc := 1) cx fl_X8_17 lk_6 rfl (cx.bl 6 rfl) dX8_isWord_1 ?_
  refine wa_iconst (pc := 4) (v := 1) cx dX8_isWord_4 (by decide) ?_
  refine wa_icmp_ne (pc := 5) cx 24 dX8_isWord_5 rfl (fun c1 => ?_) (fun c1 => ?_)
  · have hf := (if_neg c1).symm.trans hf
    refine wa_forget [false, false, false] [none, none, none] rfl ?_
    exact j24  _ hf
  · have hf := (if_pos c1).symm.trans hf
    refine wa_aload_n (pc := 8) cx 0 dX8_isWord_8 rfl rfl ?_
    refine wa_getI (pc := 9) cx fl_X8_26 lk_6 rfl (cx.bl 6 rfl) dX8_isWord_9 ?_
    refine wa_aload_n (pc := 12) cx 0 dX8_isWord_12 rfl rfl ?_
    refine wa_getI (pc := 13) cx fl_X8_20 lk_6 rfl (cx.bl 6 rfl) dX8_isWord_13 ?_
    refine wa_isub (pc := 16) cx dX8_isWord_16 ?_
    refine wa_aload_n (pc := 17) cx 1 dX8_isWord_17 rfl rfl ?_
    refine wa_callK (pc := 18) cx [] (by decide) (ct_length l E _ 1 (by decide)) mi_J0_length_8abf5 tw_469 rfl rfl rfl (Nat.le_of_ble_eq_true rfl) ⟨Nat.le_of_ble_eq_true rfl, Nat.le_of_ble_eq_true rfl⟩ ⟨Nat.zero_le _, Nat.zero_le _⟩ dX8_isWord_18 ?_
    refine wa_icmp_eq (pc := 21) cx 26 dX8_isWord_21 rfl (fun c2 => ?_) (fun c2 => ?_)
    · have hf := (if_pos c2).symm.trans hf
      refine wa_iconst (pc := 26) (v := 0) cx dX8_isWord_26 (by decide) ?_
      refine wa_istore_n (pc := 27) cx 2 [some (.ref (eA E 6)), some (.ref (eK E 1)), some (.int 0)] dX8_isWord_27 rfl (by decide) rfl rfl ?_
      obtain ⟨o9, h12, hf⟩ := bd_some hf
      refine l28  _ _ h12 ?_
      cases o9 with
      | inl z10 =>
        refine wa_iconst (pc := 55) (v := 0) cx dX8_isWord_55 (by decide) ?_
        obtain rfl := Option.some.inj hf
        exact wa_zret (pc := 56) cx rfl dX8_isWord_56
      | inr z11 =>
        refine wa_iconst (pc := 63) (v := 1) cx dX8_isWord_63 (by decide) ?_
        obtain rfl := Option.some.inj hf
        exact wa_zret (pc := 64) cx rfl dX8_isWord_64
    · have hf := (if_neg c2).symm.trans hf
      refine wa_forget [false, false, false] [none, none, none] rfl ?_
      exact j24  _ hf
def fX8_isWord_6_K2_J24  (σ : Sg) : Option (Int32 × Sg) :=
  some (0, σ)
def fX8_isWord_6_K2_B28  (v2 : Int32) (σ : Sg) : Option ((Int32 × Sg) ⊕ ((Sg) ⊕ (Sg))) :=
  if jshr (Int32.ofNat (klen.getD 2 0)) 0 ≤ v2 then (some (.inr (.inr σ))) else (gd (inb (gf σ 6 3 + v2) 400) (
  gd (inb v2 (klen.getD 2 0)) (
  if ga σ 7 (gf σ 6 3 + v2) = kch 2 v2 then (some (.inl ((v2 + 1), σ))) else (some (.inr (.inl σ))))))
def fX8_isWord_6_K2  (σ : Sg) : Option (Int32 × Sg) :=
  if gf σ 6 2 = 1 then (if (gf σ 6 5 - gf σ 6 3) = jshr (Int32.ofNat (klen.getD 2 0)) 0 then ((lpO (fun w => fX8_isWord_6_K2_B28  w.1 w.2) FUEL (0, σ)).bind (fun o9 => match o9 with
  | .inl z10 => some (0, z10)
  | .inr z11 => some (1, z11))) else (fX8_isWord_6_K2_J24  σ)) else (fX8_isWord_6_K2_J24  σ)
set_option maxHeartbeats 4000000 in
set_option maxRecDepth 100000 in
theorem ct_X8_isWord_6_K2 (l : Launch) (E : En) (σ : Sg)  (q : Int32 × Sg) (hf : fX8_isWord_6_K2  σ = some q) : CT l yX8_isWord cX8_isWord 3 (some .boolean) 4 E σ [.ref (eA E 6), .ref (eK E 2)] (some (.int q.1)) q.2 := by
  refine CT.of RX8 [some (.ref (eA E 6)), some (.ref (eK E 2)), none] rfl (by decide +kernel) (Nat.le_of_ble_eq_true rfl) rfl ?_
  intro p e s m args below meth c cx
  unfold fX8_isWord_6_K2 at hf
  have j24 : ∀  (σ : Sg), fX8_isWord_6_K2_J24  σ = some q → WA p l e (rmd 4) s m args below meth c 3 E 0 0 (MQ below (Qcq E s.heap.size (some (.int q.1)) q.2) args s 0 0 (AE E s.heap.size)) 24 [none, none, none] [] σ := by
    intro  σ hf
    unfold fX8_isWord_6_K2_J24 at hf
    refine wa_iconst (pc := 24) (v := 0) cx dX8_isWord_24 (by decide) ?_
    obtain rfl := Option.some.inj hf
    exact wa_zret (pc := 25) cx rfl dX8_isWord_25
  have l28 : ∀  (y : Int32 × Sg) (o : (Sg) ⊕ (Sg)), lpO (fun w => fX8_isWord_6_K2_B28  w.1 w.2) FUEL y = some o → (sel (fun z7 => WA p l e (rmd 4) s m args below meth c 3 E 0 0 (MQ below (Qcq E s.heap.size (some (.int q.1)) q.2) args s 0 0 (AE E s.heap.size)) 55 [none, none, none] [] z7) (fun z7 => WA p l e (rmd 4) s m args below meth c 3 E 0 0 (MQ below (Qcq E s.heap.size (some (.int q.1)) q.2) args s 0 0 (AE E s.heap.size)) 63 [none, none, none] [] z7) o) → WA p l e (rmd 4) s m args below meth c 3 E 0 0 (MQ below (Qcq E s.heap.size (some (.int q.1)) q.2) args s 0 0 (AE E s.heap.size)) 28 [some (.ref (eA E 6)), some (.ref (eK E 2)), some (.int y.1)] [] y.2 := by
    intro  y o hf hk
    refine lp_rule (P := fun y => WA p l e (rmd 4) s m args below meth c 3 E 0 0 (MQ below (Qcq E s.heap.size (some (.int q.1)) q.2) args s 0 0 (AE E s.heap.size)) 28 [some (.ref (eA E 6)), some (.ref (eK E 2)), some (.int y.1)] [] y.2) (K := fun o => sel (fun z8 => WA p l e (rmd 4) s m args below meth c 3 E 0 0 (MQ below (Qcq E s.heap.size (some (.int q.1)) q.2) args s 0 0 (AE E s.heap.size)) 55 [none, none, none] [] z8) (fun z8 => WA p l e (rmd 4) s m args below meth c 3 E 0 0 (MQ below (Qcq E s.heap.size (some (.int q.1)) q.2) args s 0 0 (AE E s.heap.size)) 63 [none, none, none] [] z8) o) ?_ FUEL y o hf hk
    intro y0 r1 hf hk1
    obtain ⟨v2, σ⟩ := y0
    have hf : fX8_isWord_6_K2_B28  v2 σ = some r1 := hf
    unfold fX8_isWord_6_K2_B28 at hf
    refine wa_iload_n (pc := 28) cx 2 dX8_isWord_28 rfl rfl ?_
    refine wa_aload_n (pc := 29) cx 1 dX8_isWord_29 rfl rfl ?_
    refine wa_callK (pc := 30) cx [] (by decide) (ct_length l E _ 2 (by decide)) mi_J0_length_8abf5 tw_469 rfl rfl rfl (Nat.le_of_ble_eq_true rfl) ⟨Nat.le_of_ble_eq_true rfl, Nat.le_of_ble_eq_true rfl⟩ ⟨Nat.zero_le _, Nat.zero_le _⟩ dX8_isWord_30 ?_
    refine wa_icmp_ge (pc := 33) cx 63 dX8_isWord_33 rfl (fun c3 => ?_) (fun c3 => ?_)
    · have hf := (if_pos c3).symm.trans hf
      obtain rfl := Option.some.inj hf
      refine wa_forget [false, false, false] [none, none, none] rfl ?_
      exact hk1
    · have hf := (if_neg c3).symm.trans hf
      refine wa_aload_n (pc := 36) cx 0 dX8_isWord_36 rfl rfl ?_
      refine wa_getR (pc := 37) cx fl_X8_9 lk_6 rfl (cx.bl 6 rfl) dX8_isWord_37 ?_
      refine wa_aload_n (pc := 40) cx 0 dX8_isWord_40 rfl rfl ?_
      refine wa_getI (pc := 41) cx fl_X8_20 lk_6 rfl (cx.bl 6 rfl) dX8_isWord_41 ?_
      refine wa_iload_n (pc := 44) cx 2 dX8_isWord_44 rfl rfl ?_
      refine wa_iadd (pc := 45) cx dX8_isWord_45 ?_
      obtain ⟨g4, hf⟩ := gd_some hf
      refine wa_bald (pc := 46) cx lk_7 (cx.bl 7 rfl) g4 dX8_isWord_46 ?_
      refine wa_aload_n (pc := 47) cx 1 dX8_isWord_47 rfl rfl ?_
      refine wa_iload_n (pc := 48) cx 2 dX8_isWord_48 rfl rfl ?_
      obtain ⟨g5, hf⟩ := gd_some hf
      refine wa_callK (pc := 49) cx [.int v2] (by decide) (ct_charAt l E _ 2 (by decide) _ g5) mi_J0_charAt_5068e tw_479 rfl rfl rfl (Nat.le_of_ble_eq_true rfl) ⟨Nat.le_of_ble_eq_true rfl, Nat.le_of_ble_eq_true rfl⟩ ⟨Nat.zero_le _, Nat.zero_le _⟩ dX8_isWord_49 ?_
      refine wa_icmp_eq (pc := 52) cx 57 dX8_isWord_52 rfl (fun c6 => ?_) (fun c6 => ?_)
      · have hf := (if_pos c6).symm.trans hf
        refine wa_iinc (pc := 57) (v := 1) cx 2 [some (.ref (eA E 6)), some (.ref (eK E 2)), some (.int (v2 + 1))] dX8_isWord_57 (by decide) rfl (by decide) rfl rfl ?_
        refine wa_goto (pc := 60) cx 28 dX8_isWord_60 rfl ?_
        obtain rfl := Option.some.inj hf
        refine wa_forget [true, true, true] [some (.ref (eA E 6)), some (.ref (eK E 2)), some (.int (v2 + 1))] rfl ?_
        exact hk1
      · have hf := (if_neg c6).symm.trans hf
        obtain rfl := Option.some.inj hf
        refine wa_forget [false, false, false] [none, none, none] rfl ?_
        exact hk1
  refine wa_aload_n (pc := 0) cx 0 dX8_isWord_0 rfl rfl ?_
  refine wa_getI (pc := 1) cx fl_X8_17 lk_6 rfl (cx.bl 6 rfl) dX8_isWord_1 ?_
  refine wa_iconst (pc := 4) (v := 1) cx dX8_isWord_4 (by decide) ?_
  refine wa_icmp_ne (pc := 5) cx 24 dX8_isWord_5 rfl (fun c1 => ?_) (fun c1 => ?_)
  · have hf := (if_neg c1).symm.trans hf
    refine wa_forget [false, false, false] [none, none, none] rfl ?_
    exact j24  _ hf
  · have hf := (if_pos c1).symm.trans hf
    refine wa_aload_n (pc := 8) cx 0 dX8_isWord_8 rfl rfl ?_
    refine wa_getI (pc := 9) cx fl_X8_26 lk_6 rfl (cx.bl 6 rfl) dX8_isWord_9 ?_
    refine wa_aload_n (pc := 12) cx 0 dX8_isWord_12 rfl rfl ?_
    refine wa_getI (pc := 13) cx fl_X8_20 lk_6 rfl (cx.bl 6 rfl) dX8_isWord_13 ?_
    refine wa_isub (pc := 16) cx dX8_isWord_16 ?_
    refine wa_aload_n (pc := 17) cx 1 dX8_isWord_17 rfl rfl ?_
    refine wa_callK (pc := 18) cx [] (by decide) (ct_length l E _ 2 (by decide)) mi_J0_length_8abf5 tw_469 rfl rfl rfl (Nat.le_of_ble_eq_true rfl) ⟨Nat.le_of_ble_eq_true rfl, Nat.le_of_ble_eq_true rfl⟩ ⟨Nat.zero_le _, Nat.zero_le _⟩ dX8_isWord_18 ?_
    refine wa_icmp_eq (pc := 21) cx 26 dX8_isWord_21 rfl (fun c2 => ?_) (fun c2 => ?_)
    · have hf := (if_pos c2).symm.trans hf
      refine wa_iconst (pc := 26) (v := 0) cx dX8_isWord_26 (by decide) ?_
      refine wa_istore_n (pc := 27) cx 2 [some (.ref (eA E 6)), some (.ref (eK E 2)), some (.int 0)] dX8_isWord_27 rfl (by decide) rfl rfl ?_
      obtain ⟨o9, h12, hf⟩ := bd_some hf
      refine l28  _ _ h12 ?_
      cases o9 with
      | inl z10 =>
        refine wa_iconst (pc := 55) (v := 0) cx dX8_isWord_55 (by decide) ?_
        obtain rfl := Option.some.inj hf
        exact wa_zret (pc := 56) cx rfl dX8_isWord_56
      | inr z11 =>
        refine wa_iconst (pc := 63) (v := 1) cx dX8_isWord_63 (by decide) ?_
        obtain rfl := Option.some.inj hf
        exact wa_zret (pc := 64) cx rfl dX8_isWord_64
    · have hf := (if_neg c2).symm.trans hf
      refine wa_forget [false, false, false] [none, none, none] rfl ?_
      exact j24  _ hf
def fX8_isWord_6_K3_J24  (σ : Sg) : Option (Int32 × Sg) :=
  some (0, σ)
def fX8_isWord_6_K3_B28  (v2 : Int32) (σ : Sg) : Option ((Int32 × Sg) ⊕ ((Sg) ⊕ (Sg))) :=
  if jshr (Int32.ofNat (klen.getD 3 0)) 0 ≤ v2 then (some (.inr (.inr σ))) else (gd (inb (gf σ 6 3 + v2) 400) (
  gd (inb v2 (klen.getD 3 0)) (
  if ga σ 7 (gf σ 6 3 + v2) = kch 3 v2 then (some (.inl ((v2 + 1), σ))) else (some (.inr (.inl σ))))))
def fX8_isWord_6_K3  (σ : Sg) : Option (Int32 × Sg) :=
  if gf σ 6 2 = 1 then (if (gf σ 6 5 - gf σ 6 3) = jshr (Int32.ofNat (klen.getD 3 0)) 0 then ((lpO (fun w => fX8_isWord_6_K3_B28  w.1 w.2) FUEL (0, σ)).bind (fun o9 => match o9 with
  | .inl z10 => some (0, z10)
  | .inr z11 => some (1, z11))) else (fX8_isWord_6_K3_J24  σ)) else (fX8_isWord_6_K3_J24  σ)
set_option maxHeartbeats 4000000 in
set_option maxRecDepth 100000 in
theorem ct_X8_isWord_6_K3 (l : Launch) (E : En) (σ : Sg)  (q : Int32 × Sg) (hf : fX8_isWord_6_K3  σ = some q) : CT l yX8_isWord cX8_isWord 3 (some .boolean) 4 E σ [.ref (eA E 6), .ref (eK E 3)] (some (.int q.1)) q.2 := by
  refine CT.of RX8 [some (.ref (eA E 6)), some (.ref (eK E 3)), none] rfl (by decide +kernel) (Nat.le_of_ble_eq_true rfl) rfl ?_
  intro p e s m args below meth c cx
  unfold fX8_isWord_6_K3 at hf
  have j24 : ∀  (σ : Sg), fX8_isWord_6_K3_J24  σ = some q → WA p l e (rmd 4) s m args below meth c 3 E 0 0 (MQ below (Qcq E s.heap.size (some (.int q.1)) q.2) args s 0 0 (AE E s.heap.size)) 24 [none, none, none] [] σ := by
    intro  σ hf
    unfold fX8_isWord_6_K3_J24 at hf
    refine wa_iconst (pc := 24) (v := 0) cx dX8_isWord_24 (by decide) ?_
    obtain rfl := Option.some.inj hf
    exact wa_zret (pc := 25) cx rfl dX8_isWord_25
  have l28 : ∀  (y : Int32 × Sg) (o : (Sg) ⊕ (Sg)), lpO (fun w => fX8_isWord_6_K3_B28  w.1 w.2) FUEL y = some o → (sel (fun z7 => WA p l e (rmd 4) s m args below meth c 3 E 0 0 (MQ below (Qcq E s.heap.size (some (.int q.1)) q.2) args s 0 0 (AE E s.heap.size)) 55 [none, none, none] [] z7) (fun z7 => WA p l e (rmd 4) s m args below meth c 3 E 0 0 (MQ below (Qcq E s.heap.size (some (.int q.1)) q.2) args s 0 0 (AE E s.heap.size)) 63 [none, none, none] [] z7) o) → WA p l e (rmd 4) s m args below meth c 3 E 0 0 (MQ below (Qcq E s.heap.size (some (.int q.1)) q.2) args s 0 0 (AE E s.heap.size)) 28 [some (.ref (eA E 6)), some (.ref (eK E 3)), some (.int y.1)] [] y.2 := by
    intro  y o hf hk
    refine lp_rule (P := fun y => WA p l e (rmd 4) s m args below meth c 3 E 0 0 (MQ below (Qcq E s.heap.size (some (.int q.1)) q.2) args s 0 0 (AE E s.heap.size)) 28 [some (.ref (eA E 6)), some (.ref (eK E 3)), some (.int y.1)] [] y.2) (K := fun o => sel (fun z8 => WA p l e (rmd 4) s m args below meth c 3 E 0 0 (MQ below (Qcq E s.heap.size (some (.int q.1)) q.2) args s 0 0 (AE E s.heap.size)) 55 [none, none, none] [] z8) (fun z8 => WA p l e (rmd 4) s m args below meth c 3 E 0 0 (MQ below (Qcq E s.heap.size (some (.int q.1)) q.2) args s 0 0 (AE E s.heap.size)) 63 [none, none, none] [] z8) o) ?_ FUEL y o hf hk
    intro y0 r1 hf hk1
    obtain ⟨v2, σ⟩ := y0
    have hf : fX8_isWord_6_K3_B28  v2 σ = some r1 := hf
    unfold fX8_isWord_6_K3_B28 at hf
    refine wa_iload_n (pc := 28) cx 2 dX8_isWord_28 rfl rfl ?_
    refine wa_aload_n (pc := 29) cx 1 dX8_isWord_29 rfl rfl ?_
    refine wa_callK (pc := 30) cx [] (by decide) (ct_length l E _ 3 (by decide)) mi_J0_length_8abf5 tw_469 rfl rfl rfl (Nat.le_of_ble_eq_true rfl) ⟨Nat.le_of_ble_eq_true rfl, Nat.le_of_ble_eq_true rfl⟩ ⟨Nat.zero_le _, Nat.zero_le _⟩ dX8_isWord_30 ?_
    refine wa_icmp_ge (pc := 33) cx 63 dX8_isWord_33 rfl (fun c3 => ?_) (fun c3 => ?_)
    · have hf := (if_pos c3).symm.trans hf
      obtain rfl := Option.some.inj hf
      refine wa_forget [false, false, false] [none, none, none] rfl ?_
      exact hk1
    · have hf := (if_neg c3).symm.trans hf
      refine wa_aload_n (pc := 36) cx 0 dX8_isWord_36 rfl rfl ?_
      refine wa_getR (pc := 37) cx fl_X8_9 lk_6 rfl (cx.bl 6 rfl) dX8_isWord_37 ?_
      refine wa_aload_n (pc := 40) cx 0 dX8_isWord_40 rfl rfl ?_
      refine wa_getI (pc := 41) cx fl_X8_20 lk_6 rfl (cx.bl 6 rfl) dX8_isWord_41 ?_
      refine wa_iload_n (pc := 44) cx 2 dX8_isWord_44 rfl rfl ?_
      refine wa_iadd (pc := 45) cx dX8_isWord_45 ?_
      obtain ⟨g4, hf⟩ := gd_some hf
      refine wa_bald (pc := 46) cx lk_7 (cx.bl 7 rfl) g4 dX8_isWord_46 ?_
      refine wa_aload_n (pc := 47) cx 1 dX8_isWord_47 rfl rfl ?_
      refine wa_iload_n (pc := 48) cx 2 dX8_isWord_48 rfl rfl ?_
      obtain ⟨g5, hf⟩ := gd_some hf
      refine wa_callK (pc := 49) cx [.int v2] (by decide) (ct_charAt l E _ 3 (by decide) _ g5) mi_J0_charAt_5068e tw_479 rfl rfl rfl (Nat.le_of_ble_eq_true rfl) ⟨Nat.le_of_ble_eq_true rfl, Nat.le_of_ble_eq_true rfl⟩ ⟨Nat.zero_le _, Nat.zero_le _⟩ dX8_isWord_49 ?_
      refine wa_icmp_eq (pc := 52) cx 57 dX8_isWord_52 rfl (fun c6 => ?_) (fun c6 => ?_)
      · have hf := (if_pos c6).symm.trans hf
        refine wa_iinc (pc := 57) (v := 1) cx 2 [some (.ref (eA E 6)), some (.ref (eK E 3)), some (.int (v2 + 1))] dX8_isWord_57 (by decide) rfl (by decide) rfl rfl ?_
        refine wa_goto (pc := 60) cx 28 dX8_isWord_60 rfl ?_
        obtain rfl := Option.some.inj hf
        refine wa_forget [true, true, true] [some (.ref (eA E 6)), some (.ref (eK E 3)), some (.int (v2 + 1))] rfl ?_
        exact hk1
      · have hf := (if_neg c6).symm.trans hf
        obtain rfl := Option.some.inj hf
        refine wa_forget [false, false, false] [none, none, none] rfl ?_
        exact hk1
  refine wa_aload_n (pc := 0) cx 0 dX8_isWord_0 rfl rfl ?_
  refine wa_getI (pc := 1) cx fl_X8_17 lk_6 rfl (cx.bl 6 rfl) dX8_isWord_1 ?_
  refine wa_iconst (pc := 4) (v := 1) cx dX8_isWord_4 (by decide) ?_
  refine wa_icmp_ne (pc := 5) cx 24 dX8_isWord_5 rfl (fun c1 => ?_) (fun c1 => ?_)
  · have hf := (if_neg c1).symm.trans hf
    refine wa_forget [false, false, false] [none, none, none] rfl ?_
    exact j24  _ hf
  · have hf := (if_pos c1).symm.trans hf
    refine wa_aload_n (pc := 8) cx 0 dX8_isWord_8 rfl rfl ?_
    refine wa_getI (pc := 9) cx fl_X8_26 lk_6 rfl (cx.bl 6 rfl) dX8_isWord_9 ?_
    refine wa_aload_n (pc := 12) cx 0 dX8_isWord_12 rfl rfl ?_
    refine wa_getI (pc := 13) cx fl_X8_20 lk_6 rfl (cx.bl 6 rfl) dX8_isWord_13 ?_
    refine wa_isub (pc := 16) cx dX8_isWord_16 ?_
    refine wa_aload_n (pc := 17) cx 1 dX8_isWord_17 rfl rfl ?_
    refine wa_callK (pc := 18) cx [] (by decide) (ct_length l E _ 3 (by decide)) mi_J0_length_8abf5 tw_469 rfl rfl rfl (Nat.le_of_ble_eq_true rfl) ⟨Nat.le_of_ble_eq_true rfl, Nat.le_of_ble_eq_true rfl⟩ ⟨Nat.zero_le _, Nat.zero_le _⟩ dX8_isWord_18 ?_
    refine wa_icmp_eq (pc := 21) cx 26 dX8_isWord_21 rfl (fun c2 => ?_) (fun c2 => ?_)
    · have hf := (if_pos c2).symm.trans hf
      refine wa_iconst (pc := 26) (v := 0) cx dX8_isWord_26 (by decide) ?_
      refine wa_istore_n (pc := 27) cx 2 [some (.ref (eA E 6)), some (.ref (eK E 3)), some (.int 0)] dX8_isWord_27 rfl (by decide) rfl rfl ?_
      obtain ⟨o9, h12, hf⟩ := bd_some hf
      refine l28  _ _ h12 ?_
      cases o9 with
      | inl z10 =>
        refine wa_iconst (pc := 55) (v := 0) cx dX8_isWord_55 (by decide) ?_
        obtain rfl := Option.some.inj hf
        exact wa_zret (pc := 56) cx rfl dX8_isWord_56
      | inr z11 =>
        refine wa_iconst (pc := 63) (v := 1) cx dX8_isWord_63 (by decide) ?_
        obtain rfl := Option.some.inj hf
        exact wa_zret (pc := 64) cx rfl dX8_isWord_64
    · have hf := (if_neg c2).symm.trans hf
      refine wa_forget [false, false, false] [none, none, none] rfl ?_
      exact j24  _ hf
def fX8_isWord_6_K4_J24  (σ : Sg) : Option (Int32 × Sg) :=
  some (0, σ)
def fX8_isWord_6_K4_B28  (v2 : Int32) (σ : Sg) : Option ((Int32 × Sg) ⊕ ((Sg) ⊕ (Sg))) :=
  if jshr (Int32.ofNat (klen.getD 4 0)) 0 ≤ v2 then (some (.inr (.inr σ))) else (gd (inb (gf σ 6 3 + v2) 400) (
  gd (inb v2 (klen.getD 4 0)) (
  if ga σ 7 (gf σ 6 3 + v2) = kch 4 v2 then (some (.inl ((v2 + 1), σ))) else (some (.inr (.inl σ))))))
def fX8_isWord_6_K4  (σ : Sg) : Option (Int32 × Sg) :=
  if gf σ 6 2 = 1 then (if (gf σ 6 5 - gf σ 6 3) = jshr (Int32.ofNat (klen.getD 4 0)) 0 then ((lpO (fun w => fX8_isWord_6_K4_B28  w.1 w.2) FUEL (0, σ)).bind (fun o9 => match o9 with
  | .inl z10 => some (0, z10)
  | .inr z11 => some (1, z11))) else (fX8_isWord_6_K4_J24  σ)) else (fX8_isWord_6_K4_J24  σ)
set_option maxHeartbeats 4000000 in
set_option maxRecDepth 100000 in
theorem ct_X8_isWord_6_K4 (l : Launch) (E : En) (σ : Sg)  (q : Int32 × Sg) (hf : fX8_isWord_6_K4  σ = some q) : CT l yX8_isWord cX8_isWord 3 (some .boolean) 4 E σ [.ref (eA E 6), .ref (eK E 4)] (some (.int q.1)) q.2 := by
  refine CT.of RX8 [some (.ref (eA E 6)), some (.ref (eK E 4)), none] rfl (by decide +kernel) (Nat.le_of_ble_eq_true rfl) rfl ?_
  intro p e s m args below meth c cx
  unfold fX8_isWord_6_K4 at hf
  have j24 : ∀  (σ : Sg), fX8_isWord_6_K4_J24  σ = some q → WA p l e (rmd 4) s m args below meth c 3 E 0 0 (MQ below (Qcq E s.heap.size (some (.int q.1)) q.2) args s 0 0 (AE E s.heap.size)) 24 [none, none, none] [] σ := by
    intro  σ hf
    unfold fX8_isWord_6_K4_J24 at hf
    refine wa_iconst (pc := 24) (v := 0) cx dX8_isWord_24 (by decide) ?_
    obtain rfl := Option.some.inj hf
    exact wa_zret (pc := 25) cx rfl dX8_isWord_25
  have l28 : ∀  (y : Int32 × Sg) (o : (Sg) ⊕ (Sg)), lpO (fun w => fX8_isWord_6_K4_B28  w.1 w.2) FUEL y = some o → (sel (fun z7 => WA p l e (rmd 4) s m args below meth c 3 E 0 0 (MQ below (Qcq E s.heap.size (some (.int q.1)) q.2) args s 0 0 (AE E s.heap.size)) 55 [none, none, none] [] z7) (fun z7 => WA p l e (rmd 4) s m args below meth c 3 E 0 0 (MQ below (Qcq E s.heap.size (some (.int q.1)) q.2) args s 0 0 (AE E s.heap.size)) 63 [none, none, none] [] z7) o) → WA p l e (rmd 4) s m args below meth c 3 E 0 0 (MQ below (Qcq E s.heap.size (some (.int q.1)) q.2) args s 0 0 (AE E s.heap.size)) 28 [some (.ref (eA E 6)), some (.ref (eK E 4)), some (.int y.1)] [] y.2 := by
    intro  y o hf hk
    refine lp_rule (P := fun y => WA p l e (rmd 4) s m args below meth c 3 E 0 0 (MQ below (Qcq E s.heap.size (some (.int q.1)) q.2) args s 0 0 (AE E s.heap.size)) 28 [some (.ref (eA E 6)), some (.ref (eK E 4)), some (.int y.1)] [] y.2) (K := fun o => sel (fun z8 => WA p l e (rmd 4) s m args below meth c 3 E 0 0 (MQ below (Qcq E s.heap.size (some (.int q.1)) q.2) args s 0 0 (AE E s.heap.size)) 55 [none, none, none] [] z8) (fun z8 => WA p l e (rmd 4) s m args below meth c 3 E 0 0 (MQ below (Qcq E s.heap.size (some (.int q.1)) q.2) args s 0 0 (AE E s.heap.size)) 63 [none, none, none] [] z8) o) ?_ FUEL y o hf hk
    intro y0 r1 hf hk1
    obtain ⟨v2, σ⟩ := y0
    have hf : fX8_isWord_6_K4_B28  v2 σ = some r1 := hf
    unfold fX8_isWord_6_K4_B28 at hf
    refine wa_iload_n (pc := 28) cx 2 dX8_isWord_28 rfl rfl ?_
    refine wa_aload_n (pc := 29) cx 1 dX8_isWord_29 rfl rfl ?_
    refine wa_callK (pc := 30) cx [] (by decide) (ct_length l E _ 4 (by decide)) mi_J0_length_8abf5 tw_469 rfl rfl rfl (Nat.le_of_ble_eq_true rfl) ⟨Nat.le_of_ble_eq_true rfl, Nat.le_of_ble_eq_true rfl⟩ ⟨Nat.zero_le _, Nat.zero_le _⟩ dX8_isWord_30 ?_
    refine wa_icmp_ge (pc := 33) cx 63 dX8_isWord_33 rfl (fun c3 => ?_) (fun c3 => ?_)
    · have hf := (if_pos c3).symm.trans hf
      obtain rfl := Option.some.inj hf
      refine wa_forget [false, false, false] [none, none, none] rfl ?_
      exact hk1
    · have hf := (if_neg c3).symm.trans hf
      refine wa_aload_n (pc := 36) cx 0 dX8_isWord_36 rfl rfl ?_
      refine wa_getR (pc := 37) cx fl_X8_9 lk_6 rfl (cx.bl 6 rfl) dX8_isWord_37 ?_
      refine wa_aload_n (pc := 40) cx 0 dX8_isWord_40 rfl rfl ?_
      refine wa_getI (pc := 41) cx fl_X8_20 lk_6 rfl (cx.bl 6 rfl) dX8_isWord_41 ?_
      refine wa_iload_n (pc := 44) cx 2 dX8_isWord_44 rfl rfl ?_
      refine wa_iadd (pc := 45) cx dX8_isWord_45 ?_
      obtain ⟨g4, hf⟩ := gd_some hf
      refine wa_bald (pc := 46) cx lk_7 (cx.bl 7 rfl) g4 dX8_isWord_46 ?_
      refine wa_aload_n (pc := 47) cx 1 dX8_isWord_47 rfl rfl ?_
      refine wa_iload_n (pc := 48) cx 2 dX8_isWord_48 rfl rfl ?_
      obtain ⟨g5, hf⟩ := gd_some hf
      refine wa_callK (pc := 49) cx [.int v2] (by decide) (ct_charAt l E _ 4 (by decide) _ g5) mi_J0_charAt_5068e tw_479 rfl rfl rfl (Nat.le_of_ble_eq_true rfl) ⟨Nat.le_of_ble_eq_true rfl, Nat.le_of_ble_eq_true rfl⟩ ⟨Nat.zero_le _, Nat.zero_le _⟩ dX8_isWord_49 ?_
      refine wa_icmp_eq (pc := 52) cx 57 dX8_isWord_52 rfl (fun c6 => ?_) (fun c6 => ?_)
      · have hf := (if_pos c6).symm.trans hf
        refine wa_iinc (pc := 57) (v := 1) cx 2 [some (.ref (eA E 6)), some (.ref (eK E 4)), some (.int (v2 + 1))] dX8_isWord_57 (by decide) rfl (by decide) rfl rfl ?_
        refine wa_goto (pc := 60) cx 28 dX8_isWord_60 rfl ?_
        obtain rfl := Option.some.inj hf
        refine wa_forget [true, true, true] [some (.ref (eA E 6)), some (.ref (eK E 4)), some (.int (v2 + 1))] rfl ?_
        exact hk1
      · have hf := (if_neg c6).symm.trans hf
        obtain rfl := Option.some.inj hf
        refine wa_forget [false, false, false] [none, none, none] rfl ?_
        exact hk1
  refine wa_aload_n (pc := 0) cx 0 dX8_isWord_0 rfl rfl ?_
  refine wa_getI (pc := 1) cx fl_X8_17 lk_6 rfl (cx.bl 6 rfl) dX8_isWord_1 ?_
  refine wa_iconst (pc := 4) (v := 1) cx dX8_isWord_4 (by decide) ?_
  refine wa_icmp_ne (pc := 5) cx 24 dX8_isWord_5 rfl (fun c1 => ?_) (fun c1 => ?_)
  · have hf := (if_neg c1).symm.trans hf
    refine wa_forget [false, false, false] [none, none, none] rfl ?_
    exact j24  _ hf
  · have hf := (if_pos c1).symm.trans hf
    refine wa_aload_n (pc := 8) cx 0 dX8_isWord_8 rfl rfl ?_
    refine wa_getI (pc := 9) cx fl_X8_26 lk_6 rfl (cx.bl 6 rfl) dX8_isWord_9 ?_
    refine wa_aload_n (pc := 12) cx 0 dX8_isWord_12 rfl rfl ?_
    refine wa_getI (pc := 13) cx fl_X8_20 lk_6 rfl (cx.bl 6 rfl) dX8_isWord_13 ?_
    refine wa_isub (pc := 16) cx dX8_isWord_16 ?_
    refine wa_aload_n (pc := 17) cx 1 dX8_isWord_17 rfl rfl ?_
    refine wa_callK (pc := 18) cx [] (by decide) (ct_length l E _ 4 (by decide)) mi_J0_length_8abf5 tw_469 rfl rfl rfl (Nat.le_of_ble_eq_true rfl) ⟨Nat.le_of_ble_eq_true rfl, Nat.le_of_ble_eq_true rfl⟩ ⟨Nat.zero_le _, Nat.zero_le _⟩ dX8_isWord_18 ?_
    refine wa_icmp_eq (pc := 21) cx 26 dX8_isWord_21 rfl (fun c2 => ?_) (fun c2 => ?_)
    · have hf := (if_pos c2).symm.trans hf
      refine wa_iconst (pc := 26) (v := 0) cx dX8_isWord_26 (by decide) ?_
      refine wa_istore_n (pc := 27) cx 2 [some (.ref (eA E 6)), some (.ref (eK E 4)), some (.int 0)] dX8_isWord_27 rfl (by decide) rfl rfl ?_
      obtain ⟨o9, h12, hf⟩ := bd_some hf
      refine l28  _ _ h12 ?_
      cases o9 with
      | inl z10 =>
        refine wa_iconst (pc := 55) (v := 0) cx dX8_isWord_55 (by decide) ?_
        obtain rfl := Option.some.inj hf
        exact wa_zret (pc := 56) cx rfl dX8_isWord_56
      | inr z11 =>
        refine wa_iconst (pc := 63) (v := 1) cx dX8_isWord_63 (by decide) ?_
        obtain rfl := Option.some.inj hf
        exact wa_zret (pc := 64) cx rfl dX8_isWord_64
    · have hf := (if_neg c2).symm.trans hf
      refine wa_forget [false, false, false] [none, none, none] rfl ?_
      exact j24  _ hf
def fX8_isWord_6_K5_J24  (σ : Sg) : Option (Int32 × Sg) :=
  some (0, σ)
def fX8_isWord_6_K5_B28  (v2 : Int32) (σ : Sg) : Option ((Int32 × Sg) ⊕ ((Sg) ⊕ (Sg))) :=
  if jshr (Int32.ofNat (klen.getD 5 0)) 0 ≤ v2 then (some (.inr (.inr σ))) else (gd (inb (gf σ 6 3 + v2) 400) (
  gd (inb v2 (klen.getD 5 0)) (
  if ga σ 7 (gf σ 6 3 + v2) = kch 5 v2 then (some (.inl ((v2 + 1), σ))) else (some (.inr (.inl σ))))))
def fX8_isWord_6_K5  (σ : Sg) : Option (Int32 × Sg) :=
  if gf σ 6 2 = 1 then (if (gf σ 6 5 - gf σ 6 3) = jshr (Int32.ofNat (klen.getD 5 0)) 0 then ((lpO (fun w => fX8_isWord_6_K5_B28  w.1 w.2) FUEL (0, σ)).bind (fun o9 => match o9 with
  | .inl z10 => some (0, z10)
  | .inr z11 => some (1, z11))) else (fX8_isWord_6_K5_J24  σ)) else (fX8_isWord_6_K5_J24  σ)
set_option maxHeartbeats 4000000 in
set_option maxRecDepth 100000 in
theorem ct_X8_isWord_6_K5 (l : Launch) (E : En) (σ : Sg)  (q : Int32 × Sg) (hf : fX8_isWord_6_K5  σ = some q) : CT l yX8_isWord cX8_isWord 3 (some .boolean) 4 E σ [.ref (eA E 6), .ref (eK E 5)] (some (.int q.1)) q.2 := by
  refine CT.of RX8 [some (.ref (eA E 6)), some (.ref (eK E 5)), none] rfl (by decide +kernel) (Nat.le_of_ble_eq_true rfl) rfl ?_
  intro p e s m args below meth c cx
  unfold fX8_isWord_6_K5 at hf
  have j24 : ∀  (σ : Sg), fX8_isWord_6_K5_J24  σ = some q → WA p l e (rmd 4) s m args below meth c 3 E 0 0 (MQ below (Qcq E s.heap.size (some (.int q.1)) q.2) args s 0 0 (AE E s.heap.size)) 24 [none, none, none] [] σ := by
    intro  σ hf
    unfold fX8_isWord_6_K5_J24 at hf
    refine wa_iconst (pc := 24) (v := 0) cx dX8_isWord_24 (by decide) ?_
    obtain rfl := Option.some.inj hf
    exact wa_zret (pc := 25) cx rfl dX8_isWord_25
  have l28 : ∀  (y : Int32 × Sg) (o : (Sg) ⊕ (Sg)), lpO (fun w => fX8_isWord_6_K5_B28  w.1 w.2) FUEL y = some o → (sel (fun z7 => WA p l e (rmd 4) s m args below meth c 3 E 0 0 (MQ below (Qcq E s.heap.size (some (.int q.1)) q.2) args s 0 0 (AE E s.heap.size)) 55 [none, none, none] [] z7) (fun z7 => WA p l e (rmd 4) s m args below meth c 3 E 0 0 (MQ below (Qcq E s.heap.size (some (.int q.1)) q.2) args s 0 0 (AE E s.heap.size)) 63 [none, none, none] [] z7) o) → WA p l e (rmd 4) s m args below meth c 3 E 0 0 (MQ below (Qcq E s.heap.size (some (.int q.1)) q.2) args s 0 0 (AE E s.heap.size)) 28 [some (.ref (eA E 6)), some (.ref (eK E 5)), some (.int y.1)] [] y.2 := by
    intro  y o hf hk
    refine lp_rule (P := fun y => WA p l e (rmd 4) s m args below meth c 3 E 0 0 (MQ below (Qcq E s.heap.size (some (.int q.1)) q.2) args s 0 0 (AE E s.heap.size)) 28 [some (.ref (eA E 6)), some (.ref (eK E 5)), some (.int y.1)] [] y.2) (K := fun o => sel (fun z8 => WA p l e (rmd 4) s m args below meth c 3 E 0 0 (MQ below (Qcq E s.heap.size (some (.int q.1)) q.2) args s 0 0 (AE E s.heap.size)) 55 [none, none, none] [] z8) (fun z8 => WA p l e (rmd 4) s m args below meth c 3 E 0 0 (MQ below (Qcq E s.heap.size (some (.int q.1)) q.2) args s 0 0 (AE E s.heap.size)) 63 [none, none, none] [] z8) o) ?_ FUEL y o hf hk
    intro y0 r1 hf hk1
    obtain ⟨v2, σ⟩ := y0
    have hf : fX8_isWord_6_K5_B28  v2 σ = some r1 := hf
    unfold fX8_isWord_6_K5_B28 at hf
    refine wa_iload_n (pc := 28) cx 2 dX8_isWord_28 rfl rfl ?_
    refine wa_aload_n (pc := 29) cx 1 dX8_isWord_29 rfl rfl ?_
    refine wa_callK (pc := 30) cx [] (by decide) (ct_length l E _ 5 (by decide)) mi_J0_length_8abf5 tw_469 rfl rfl rfl (Nat.le_of_ble_eq_true rfl) ⟨Nat.le_of_ble_eq_true rfl, Nat.le_of_ble_eq_true rfl⟩ ⟨Nat.zero_le _, Nat.zero_le _⟩ dX8_isWord_30 ?_
    refine wa_icmp_ge (pc := 33) cx 63 dX8_isWord_33 rfl (fun c3 => ?_) (fun c3 => ?_)
    · have hf := (if_pos c3).symm.trans hf
      obtain rfl := Option.some.inj hf
      refine wa_forget [false, false, false] [none, none, none] rfl ?_
      exact hk1
    · have hf := (if_neg c3).symm.trans hf
      refine wa_aload_n (pc := 36) cx 0 dX8_isWord_36 rfl rfl ?_
      refine wa_getR (pc := 37) cx fl_X8_9 lk_6 rfl (cx.bl 6 rfl) dX8_isWord_37 ?_
      refine wa_aload_n (pc := 40) cx 0 dX8_isWord_40 rfl rfl ?_
      refine wa_getI (pc := 41) cx fl_X8_20 lk_6 rfl (cx.bl 6 rfl) dX8_isWord_41 ?_
      refine wa_iload_n (pc := 44) cx 2 dX8_isWord_44 rfl rfl ?_
      refine wa_iadd (pc := 45) cx dX8_isWord_45 ?_
      obtain ⟨g4, hf⟩ := gd_some hf
      refine wa_bald (pc := 46) cx lk_7 (cx.bl 7 rfl) g4 dX8_isWord_46 ?_
      refine wa_aload_n (pc := 47) cx 1 dX8_isWord_47 rfl rfl ?_
      refine wa_iload_n (pc := 48) cx 2 dX8_isWord_48 rfl rfl ?_
      obtain ⟨g5, hf⟩ := gd_some hf
      refine wa_callK (pc := 49) cx [.int v2] (by decide) (ct_charAt l E _ 5 (by decide) _ g5) mi_J0_charAt_5068e tw_479 rfl rfl rfl (Nat.le_of_ble_eq_true rfl) ⟨Nat.le_of_ble_eq_true rfl, Nat.le_of_ble_eq_true rfl⟩ ⟨Nat.zero_le _, Nat.zero_le _⟩ dX8_isWord_49 ?_
      refine wa_icmp_eq (pc := 52) cx 57 dX8_isWord_52 rfl (fun c6 => ?_) (fun c6 => ?_)
      · have hf := (if_pos c6).symm.trans hf
        refine wa_iinc (pc := 57) (v := 1) cx 2 [some (.ref (eA E 6)), some (.ref (eK E 5)), some (.int (v2 + 1))] dX8_isWord_57 (by decide) rfl (by decide) rfl rfl ?_
        refine wa_goto (pc := 60) cx 28 dX8_isWord_60 rfl ?_
        obtain rfl := Option.some.inj hf
        refine wa_forget [true, true, true] [some (.ref (eA E 6)), some (.ref (eK E 5)), some (.int (v2 + 1))] rfl ?_
        exact hk1
      · have hf := (if_neg c6).symm.trans hf
        obtain rfl := Option.some.inj hf
        refine wa_forget [false, false, false] [none, none, none] rfl ?_
        exact hk1
  refine wa_aload_n (pc := 0) cx 0 dX8_isWord_0 rfl rfl ?_
  refine wa_getI (pc := 1) cx fl_X8_17 lk_6 rfl (cx.bl 6 rfl) dX8_isWord_1 ?_
  refine wa_iconst (pc := 4) (v := 1) cx dX8_isWord_4 (by decide) ?_
  refine wa_icmp_ne (pc := 5) cx 24 dX8_isWord_5 rfl (fun c1 => ?_) (fun c1 => ?_)
  · have hf := (if_neg c1).symm.trans hf
    refine wa_forget [false, false, false] [none, none, none] rfl ?_
    exact j24  _ hf
  · have hf := (if_pos c1).symm.trans hf
    refine wa_aload_n (pc := 8) cx 0 dX8_isWord_8 rfl rfl ?_
    refine wa_getI (pc := 9) cx fl_X8_26 lk_6 rfl (cx.bl 6 rfl) dX8_isWord_9 ?_
    refine wa_aload_n (pc := 12) cx 0 dX8_isWord_12 rfl rfl ?_
    refine wa_getI (pc := 13) cx fl_X8_20 lk_6 rfl (cx.bl 6 rfl) dX8_isWord_13 ?_
    refine wa_isub (pc := 16) cx dX8_isWord_16 ?_
    refine wa_aload_n (pc := 17) cx 1 dX8_isWord_17 rfl rfl ?_
    refine wa_callK (pc := 18) cx [] (by decide) (ct_length l E _ 5 (by decide)) mi_J0_length_8abf5 tw_469 rfl rfl rfl (Nat.le_of_ble_eq_true rfl) ⟨Nat.le_of_ble_eq_true rfl, Nat.le_of_ble_eq_true rfl⟩ ⟨Nat.zero_le _, Nat.zero_le _⟩ dX8_isWord_18 ?_
    refine wa_icmp_eq (pc := 21) cx 26 dX8_isWord_21 rfl (fun c2 => ?_) (fun c2 => ?_)
    · have hf := (if_pos c2).symm.trans hf
      refine wa_iconst (pc := 26) (v := 0) cx dX8_isWord_26 (by decide) ?_
      refine wa_istore_n (pc := 27) cx 2 [some (.ref (eA E 6)), some (.ref (eK E 5)), some (.int 0)] dX8_isWord_27 rfl (by decide) rfl rfl ?_
      obtain ⟨o9, h12, hf⟩ := bd_some hf
      refine l28  _ _ h12 ?_
      cases o9 with
      | inl z10 =>
        refine wa_iconst (pc := 55) (v := 0) cx dX8_isWord_55 (by decide) ?_
        obtain rfl := Option.some.inj hf
        exact wa_zret (pc := 56) cx rfl dX8_isWord_56
      | inr z11 =>
        refine wa_iconst (pc := 63) (v := 1) cx dX8_isWord_63 (by decide) ?_
        obtain rfl := Option.some.inj hf
        exact wa_zret (pc := 64) cx rfl dX8_isWord_64
    · have hf := (if_neg c2).symm.trans hf
      refine wa_forget [false, false, false] [none, none, none] rfl ?_
      exact j24  _ hf
def fX8_isWord_6_K6_J24  (σ : Sg) : Option (Int32 × Sg) :=
  some (0, σ)
def fX8_isWord_6_K6_B28  (v2 : Int32) (σ : Sg) : Option ((Int32 × Sg) ⊕ ((Sg) ⊕ (Sg))) :=
  if jshr (Int32.ofNat (klen.getD 6 0)) 0 ≤ v2 then (some (.inr (.inr σ))) else (gd (inb (gf σ 6 3 + v2) 400) (
  gd (inb v2 (klen.getD 6 0)) (
  if ga σ 7 (gf σ 6 3 + v2) = kch 6 v2 then (some (.inl ((v2 + 1), σ))) else (some (.inr (.inl σ))))))
def fX8_isWord_6_K6  (σ : Sg) : Option (Int32 × Sg) :=
  if gf σ 6 2 = 1 then (if (gf σ 6 5 - gf σ 6 3) = jshr (Int32.ofNat (klen.getD 6 0)) 0 then ((lpO (fun w => fX8_isWord_6_K6_B28  w.1 w.2) FUEL (0, σ)).bind (fun o9 => match o9 with
  | .inl z10 => some (0, z10)
  | .inr z11 => some (1, z11))) else (fX8_isWord_6_K6_J24  σ)) else (fX8_isWord_6_K6_J24  σ)
set_option maxHeartbeats 4000000 in
set_option maxRecDepth 100000 in
theorem ct_X8_isWord_6_K6 (l : Launch) (E : En) (σ : Sg)  (q : Int32 × Sg) (hf : fX8_isWord_6_K6  σ = some q) : CT l yX8_isWord cX8_isWord 3 (some .boolean) 4 E σ [.ref (eA E 6), .ref (eK E 6)] (some (.int q.1)) q.2 := by
  refine CT.of RX8 [some (.ref (eA E 6)), some (.ref (eK E 6)), none] rfl (by decide +kernel) (Nat.le_of_ble_eq_true rfl) rfl ?_
  intro p e s m args below meth c cx
  unfold fX8_isWord_6_K6 at hf
  have j24 : ∀  (σ : Sg), fX8_isWord_6_K6_J24  σ = some q → WA p l e (rmd 4) s m args below meth c 3 E 0 0 (MQ below (Qcq E s.heap.size (some (.int q.1)) q.2) args s 0 0 (AE E s.heap.size)) 24 [none, none, none] [] σ := by
    intro  σ hf
    unfold fX8_isWord_6_K6_J24 at hf
    refine wa_iconst (pc := 24) (v := 0) cx dX8_isWord_24 (by decide) ?_
    obtain rfl := Option.some.inj hf
    exact wa_zret (pc := 25) cx rfl dX8_isWord_25
  have l28 : ∀  (y : Int32 × Sg) (o : (Sg) ⊕ (Sg)), lpO (fun w => fX8_isWord_6_K6_B28  w.1 w.2) FUEL y = some o → (sel (fun z7 => WA p l e (rmd 4) s m args below meth c 3 E 0 0 (MQ below (Qcq E s.heap.size (some (.int q.1)) q.2) args s 0 0 (AE E s.heap.size)) 55 [none, none, none] [] z7) (fun z7 => WA p l e (rmd 4) s m args below meth c 3 E 0 0 (MQ below (Qcq E s.heap.size (some (.int q.1)) q.2) args s 0 0 (AE E s.heap.size)) 63 [none, none, none] [] z7) o) → WA p l e (rmd 4) s m args below meth c 3 E 0 0 (MQ below (Qcq E s.heap.size (some (.int q.1)) q.2) args s 0 0 (AE E s.heap.size)) 28 [some (.ref (eA E 6)), some (.ref (eK E 6)), some (.int y.1)] [] y.2 := by
    intro  y o hf hk
    refine lp_rule (P := fun y => WA p l e (rmd 4) s m args below meth c 3 E 0 0 (MQ below (Qcq E s.heap.size (some (.int q.1)) q.2) args s 0 0 (AE E s.heap.size)) 28 [some (.ref (eA E 6)), some (.ref (eK E 6)), some (.int y.1)] [] y.2) (K := fun o => sel (fun z8 => WA p l e (rmd 4) s m args below meth c 3 E 0 0 (MQ below (Qcq E s.heap.size (some (.int q.1)) q.2) args s 0 0 (AE E s.heap.size)) 55 [none, none, none] [] z8) (fun z8 => WA p l e (rmd 4) s m args below meth c 3 E 0 0 (MQ below (Qcq E s.heap.size (some (.int q.1)) q.2) args s 0 0 (AE E s.heap.size)) 63 [none, none, none] [] z8) o) ?_ FUEL y o hf hk
    intro y0 r1 hf hk1
    obtain ⟨v2, σ⟩ := y0
    have hf : fX8_isWord_6_K6_B28  v2 σ = some r1 := hf
    unfold fX8_isWord_6_K6_B28 at hf
    refine wa_iload_n (pc := 28) cx 2 dX8_isWord_28 rfl rfl ?_
    refine wa_aload_n (pc := 29) cx 1 dX8_isWord_29 rfl rfl ?_
    refine wa_callK (pc := 30) cx [] (by decide) (ct_length l E _ 6 (by decide)) mi_J0_length_8abf5 tw_469 rfl rfl rfl (Nat.le_of_ble_eq_true rfl) ⟨Nat.le_of_ble_eq_true rfl, Nat.le_of_ble_eq_true rfl⟩ ⟨Nat.zero_le _, Nat.zero_le _⟩ dX8_isWord_30 ?_
    refine wa_icmp_ge (pc := 33) cx 63 dX8_isWord_33 rfl (fun c3 => ?_) (fun c3 => ?_)
    · have hf := (if_pos c3).symm.trans hf
      obtain rfl := Option.some.inj hf
      refine wa_forget [false, false, false] [none, none, none] rfl ?_
      exact hk1
    · have hf := (if_neg c3).symm.trans hf
      refine wa_aload_n (pc := 36) cx 0 dX8_isWord_36 rfl rfl ?_
      refine wa_getR (pc := 37) cx fl_X8_9 lk_6 rfl (cx.bl 6 rfl) dX8_isWord_37 ?_
      refine wa_aload_n (pc := 40) cx 0 dX8_isWord_40 rfl rfl ?_
      refine wa_getI (pc := 41) cx fl_X8_20 lk_6 rfl (cx.bl 6 rfl) dX8_isWord_41 ?_
      refine wa_iload_n (pc := 44) cx 2 dX8_isWord_44 rfl rfl ?_
      refine wa_iadd (pc := 45) cx dX8_isWord_45 ?_
      obtain ⟨g4, hf⟩ := gd_some hf
      refine wa_bald (pc := 46) cx lk_7 (cx.bl 7 rfl) g4 dX8_isWord_46 ?_
      refine wa_aload_n (pc := 47) cx 1 dX8_isWord_47 rfl rfl ?_
      refine wa_iload_n (pc := 48) cx 2 dX8_isWord_48 rfl rfl ?_
      obtain ⟨g5, hf⟩ := gd_some hf
      refine wa_callK (pc := 49) cx [.int v2] (by decide) (ct_charAt l E _ 6 (by decide) _ g5) mi_J0_charAt_5068e tw_479 rfl rfl rfl (Nat.le_of_ble_eq_true rfl) ⟨Nat.le_of_ble_eq_true rfl, Nat.le_of_ble_eq_true rfl⟩ ⟨Nat.zero_le _, Nat.zero_le _⟩ dX8_isWord_49 ?_
      refine wa_icmp_eq (pc := 52) cx 57 dX8_isWord_52 rfl (fun c6 => ?_) (fun c6 => ?_)
      · have hf := (if_pos c6).symm.trans hf
        refine wa_iinc (pc := 57) (v := 1) cx 2 [some (.ref (eA E 6)), some (.ref (eK E 6)), some (.int (v2 + 1))] dX8_isWord_57 (by decide) rfl (by decide) rfl rfl ?_
        refine wa_goto (pc := 60) cx 28 dX8_isWord_60 rfl ?_
        obtain rfl := Option.some.inj hf
        refine wa_forget [true, true, true] [some (.ref (eA E 6)), some (.ref (eK E 6)), some (.int (v2 + 1))] rfl ?_
        exact hk1
      · have hf := (if_neg c6).symm.trans hf
        obtain rfl := Option.some.inj hf
        refine wa_forget [false, false, false] [none, none, none] rfl ?_
        exact hk1
  refine wa_aload_n (pc := 0) cx 0 dX8_isWord_0 rfl rfl ?_
  refine wa_getI (pc := 1) cx fl_X8_17 lk_6 rfl (cx.bl 6 rfl) dX8_isWord_1 ?_
  refine wa_iconst (pc := 4) (v := 1) cx dX8_isWord_4 (by decide) ?_
  refine wa_icmp_ne (pc := 5) cx 24 dX8_isWord_5 rfl (fun c1 => ?_) (fun c1 => ?_)
  · have hf := (if_neg c1).symm.trans hf
    refine wa_forget [false, false, false] [none, none, none] rfl ?_
    exact j24  _ hf
  · have hf := (if_pos c1).symm.trans hf
    refine wa_aload_n (pc := 8) cx 0 dX8_isWord_8 rfl rfl ?_
    refine wa_getI (pc := 9) cx fl_X8_26 lk_6 rfl (cx.bl 6 rfl) dX8_isWord_9 ?_
    refine wa_aload_n (pc := 12) cx 0 dX8_isWord_12 rfl rfl ?_
    refine wa_getI (pc := 13) cx fl_X8_20 lk_6 rfl (cx.bl 6 rfl) dX8_isWord_13 ?_
    refine wa_isub (pc := 16) cx dX8_isWord_16 ?_
    refine wa_aload_n (pc := 17) cx 1 dX8_isWord_17 rfl rfl ?_
    refine wa_callK (pc := 18) cx [] (by decide) (ct_length l E _ 6 (by decide)) mi_J0_length_8abf5 tw_469 rfl rfl rfl (Nat.le_of_ble_eq_true rfl) ⟨Nat.le_of_ble_eq_true rfl, Nat.le_of_ble_eq_true rfl⟩ ⟨Nat.zero_le _, Nat.zero_le _⟩ dX8_isWord_18 ?_
    refine wa_icmp_eq (pc := 21) cx 26 dX8_isWord_21 rfl (fun c2 => ?_) (fun c2 => ?_)
    · have hf := (if_pos c2).symm.trans hf
      refine wa_iconst (pc := 26) (v := 0) cx dX8_isWord_26 (by decide) ?_
      refine wa_istore_n (pc := 27) cx 2 [some (.ref (eA E 6)), some (.ref (eK E 6)), some (.int 0)] dX8_isWord_27 rfl (by decide) rfl rfl ?_
      obtain ⟨o9, h12, hf⟩ := bd_some hf
      refine l28  _ _ h12 ?_
      cases o9 with
      | inl z10 =>
        refine wa_iconst (pc := 55) (v := 0) cx dX8_isWord_55 (by decide) ?_
        obtain rfl := Option.some.inj hf
        exact wa_zret (pc := 56) cx rfl dX8_isWord_56
      | inr z11 =>
        refine wa_iconst (pc := 63) (v := 1) cx dX8_isWord_63 (by decide) ?_
        obtain rfl := Option.some.inj hf
        exact wa_zret (pc := 64) cx rfl dX8_isWord_64
    · have hf := (if_neg c2).symm.trans hf
      refine wa_forget [false, false, false] [none, none, none] rfl ?_
      exact j24  _ hf
def fX8_isWord_6_K7_J24  (σ : Sg) : Option (Int32 × Sg) :=
  some (0, σ)
def fX8_isWord_6_K7_B28  (v2 : Int32) (σ : Sg) : Option ((Int32 × Sg) ⊕ ((Sg) ⊕ (Sg))) :=
  if jshr (Int32.ofNat (klen.getD 7 0)) 0 ≤ v2 then (some (.inr (.inr σ))) else (gd (inb (gf σ 6 3 + v2) 400) (
  gd (inb v2 (klen.getD 7 0)) (
  if ga σ 7 (gf σ 6 3 + v2) = kch 7 v2 then (some (.inl ((v2 + 1), σ))) else (some (.inr (.inl σ))))))
def fX8_isWord_6_K7  (σ : Sg) : Option (Int32 × Sg) :=
  if gf σ 6 2 = 1 then (if (gf σ 6 5 - gf σ 6 3) = jshr (Int32.ofNat (klen.getD 7 0)) 0 then ((lpO (fun w => fX8_isWord_6_K7_B28  w.1 w.2) FUEL (0, σ)).bind (fun o9 => match o9 with
  | .inl z10 => some (0, z10)
  | .inr z11 => some (1, z11))) else (fX8_isWord_6_K7_J24  σ)) else (fX8_isWord_6_K7_J24  σ)
set_option maxHeartbeats 4000000 in
set_option maxRecDepth 100000 in
theorem ct_X8_isWord_6_K7 (l : Launch) (E : En) (σ : Sg)  (q : Int32 × Sg) (hf : fX8_isWord_6_K7  σ = some q) : CT l yX8_isWord cX8_isWord 3 (some .boolean) 4 E σ [.ref (eA E 6), .ref (eK E 7)] (some (.int q.1)) q.2 := by
  refine CT.of RX8 [some (.ref (eA E 6)), some (.ref (eK E 7)), none] rfl (by decide +kernel) (Nat.le_of_ble_eq_true rfl) rfl ?_
  intro p e s m args below meth c cx
  unfold fX8_isWord_6_K7 at hf
  have j24 : ∀  (σ : Sg), fX8_isWord_6_K7_J24  σ = some q → WA p l e (rmd 4) s m args below meth c 3 E 0 0 (MQ below (Qcq E s.heap.size (some (.int q.1)) q.2) args s 0 0 (AE E s.heap.size)) 24 [none, none, none] [] σ := by
    intro  σ hf
    unfold fX8_isWord_6_K7_J24 at hf
    refine wa_iconst (pc := 24) (v := 0) cx dX8_isWord_24 (by decide) ?_
    obtain rfl := Option.some.inj hf
    exact wa_zret (pc := 25) cx rfl dX8_isWord_25
  have l28 : ∀  (y : Int32 × Sg) (o : (Sg) ⊕ (Sg)), lpO (fun w => fX8_isWord_6_K7_B28  w.1 w.2) FUEL y = some o → (sel (fun z7 => WA p l e (rmd 4) s m args below meth c 3 E 0 0 (MQ below (Qcq E s.heap.size (some (.int q.1)) q.2) args s 0 0 (AE E s.heap.size)) 55 [none, none, none] [] z7) (fun z7 => WA p l e (rmd 4) s m args below meth c 3 E 0 0 (MQ below (Qcq E s.heap.size (some (.int q.1)) q.2) args s 0 0 (AE E s.heap.size)) 63 [none, none, none] [] z7) o) → WA p l e (rmd 4) s m args below meth c 3 E 0 0 (MQ below (Qcq E s.heap.size (some (.int q.1)) q.2) args s 0 0 (AE E s.heap.size)) 28 [some (.ref (eA E 6)), some (.ref (eK E 7)), some (.int y.1)] [] y.2 := by
    intro  y o hf hk
    refine lp_rule (P := fun y => WA p l e (rmd 4) s m args below meth c 3 E 0 0 (MQ below (Qcq E s.heap.size (some (.int q.1)) q.2) args s 0 0 (AE E s.heap.size)) 28 [some (.ref (eA E 6)), some (.ref (eK E 7)), some (.int y.1)] [] y.2) (K := fun o => sel (fun z8 => WA p l e (rmd 4) s m args below meth c 3 E 0 0 (MQ below (Qcq E s.heap.size (some (.int q.1)) q.2) args s 0 0 (AE E s.heap.size)) 55 [none, none, none] [] z8) (fun z8 => WA p l e (rmd 4) s m args below meth c 3 E 0 0 (MQ below (Qcq E s.heap.size (some (.int q.1)) q.2) args s 0 0 (AE E s.heap.size)) 63 [none, none, none] [] z8) o) ?_ FUEL y o hf hk
    intro y0 r1 hf hk1
    obtain ⟨v2, σ⟩ := y0
    have hf : fX8_isWord_6_K7_B28  v2 σ = some r1 := hf
    unfold fX8_isWord_6_K7_B28 at hf
    refine wa_iload_n (pc := 28) cx 2 dX8_isWord_28 rfl rfl ?_
    refine wa_aload_n (pc := 29) cx 1 dX8_isWord_29 rfl rfl ?_
    refine wa_callK (pc := 30) cx [] (by decide) (ct_length l E _ 7 (by decide)) mi_J0_length_8abf5 tw_469 rfl rfl rfl (Nat.le_of_ble_eq_true rfl) ⟨Nat.le_of_ble_eq_true rfl, Nat.le_of_ble_eq_true rfl⟩ ⟨Nat.zero_le _, Nat.zero_le _⟩ dX8_isWord_30 ?_
    refine wa_icmp_ge (pc := 33) cx 63 dX8_isWord_33 rfl (fun c3 => ?_) (fun c3 => ?_)
    · have hf := (if_pos c3).symm.trans hf
      obtain rfl := Option.some.inj hf
      refine wa_forget [false, false, false] [none, none, none] rfl ?_
      exact hk1
    · have hf := (if_neg c3).symm.trans hf
      refine wa_aload_n (pc := 36) cx 0 dX8_isWord_36 rfl rfl ?_
      refine wa_getR (pc := 37) cx fl_X8_9 lk_6 rfl (cx.bl 6 rfl) dX8_isWord_37 ?_
      refine wa_aload_n (pc := 40) cx 0 dX8_isWord_40 rfl rfl ?_
      refine wa_getI (pc := 41) cx fl_X8_20 lk_6 rfl (cx.bl 6 rfl) dX8_isWord_41 ?_
      refine wa_iload_n (pc := 44) cx 2 dX8_isWord_44 rfl rfl ?_
      refine wa_iadd (pc := 45) cx dX8_isWord_45 ?_
      obtain ⟨g4, hf⟩ := gd_some hf
      refine wa_bald (pc := 46) cx lk_7 (cx.bl 7 rfl) g4 dX8_isWord_46 ?_
      refine wa_aload_n (pc := 47) cx 1 dX8_isWord_47 rfl rfl ?_
      refine wa_iload_n (pc := 48) cx 2 dX8_isWord_48 rfl rfl ?_
      obtain ⟨g5, hf⟩ := gd_some hf
      refine wa_callK (pc := 49) cx [.int v2] (by decide) (ct_charAt l E _ 7 (by decide) _ g5) mi_J0_charAt_5068e tw_479 rfl rfl rfl (Nat.le_of_ble_eq_true rfl) ⟨Nat.le_of_ble_eq_true rfl, Nat.le_of_ble_eq_true rfl⟩ ⟨Nat.zero_le _, Nat.zero_le _⟩ dX8_isWord_49 ?_
      refine wa_icmp_eq (pc := 52) cx 57 dX8_isWord_52 rfl (fun c6 => ?_) (fun c6 => ?_)
      · have hf := (if_pos c6).symm.trans hf
        refine wa_iinc (pc := 57) (v := 1) cx 2 [some (.ref (eA E 6)), some (.ref (eK E 7)), some (.int (v2 + 1))] dX8_isWord_57 (by decide) rfl (by decide) rfl rfl ?_
        refine wa_goto (pc := 60) cx 28 dX8_isWord_60 rfl ?_
        obtain rfl := Option.some.inj hf
        refine wa_forget [true, true, true] [some (.ref (eA E 6)), some (.ref (eK E 7)), some (.int (v2 + 1))] rfl ?_
        exact hk1
      · have hf := (if_neg c6).symm.trans hf
        obtain rfl := Option.some.inj hf
        refine wa_forget [false, false, false] [none, none, none] rfl ?_
        exact hk1
  refine wa_aload_n (pc := 0) cx 0 dX8_isWord_0 rfl rfl ?_
  refine wa_getI (pc := 1) cx fl_X8_17 lk_6 rfl (cx.bl 6 rfl) dX8_isWord_1 ?_
  refine wa_iconst (pc := 4) (v := 1) cx dX8_isWord_4 (by decide) ?_
  refine wa_icmp_ne (pc := 5) cx 24 dX8_isWord_5 rfl (fun c1 => ?_) (fun c1 => ?_)
  · have hf := (if_neg c1).symm.trans hf
    refine wa_forget [false, false, false] [none, none, none] rfl ?_
    exact j24  _ hf
  · have hf := (if_pos c1).symm.trans hf
    refine wa_aload_n (pc := 8) cx 0 dX8_isWord_8 rfl rfl ?_
    refine wa_getI (pc := 9) cx fl_X8_26 lk_6 rfl (cx.bl 6 rfl) dX8_isWord_9 ?_
    refine wa_aload_n (pc := 12) cx 0 dX8_isWord_12 rfl rfl ?_
    refine wa_getI (pc := 13) cx fl_X8_20 lk_6 rfl (cx.bl 6 rfl) dX8_isWord_13 ?_
    refine wa_isub (pc := 16) cx dX8_isWord_16 ?_
    refine wa_aload_n (pc := 17) cx 1 dX8_isWord_17 rfl rfl ?_
    refine wa_callK (pc := 18) cx [] (by decide) (ct_length l E _ 7 (by decide)) mi_J0_length_8abf5 tw_469 rfl rfl rfl (Nat.le_of_ble_eq_true rfl) ⟨Nat.le_of_ble_eq_true rfl, Nat.le_of_ble_eq_true rfl⟩ ⟨Nat.zero_le _, Nat.zero_le _⟩ dX8_isWord_18 ?_
    refine wa_icmp_eq (pc := 21) cx 26 dX8_isWord_21 rfl (fun c2 => ?_) (fun c2 => ?_)
    · have hf := (if_pos c2).symm.trans hf
      refine wa_iconst (pc := 26) (v := 0) cx dX8_isWord_26 (by decide) ?_
      refine wa_istore_n (pc := 27) cx 2 [some (.ref (eA E 6)), some (.ref (eK E 7)), some (.int 0)] dX8_isWord_27 rfl (by decide) rfl rfl ?_
      obtain ⟨o9, h12, hf⟩ := bd_some hf
      refine l28  _ _ h12 ?_
      cases o9 with
      | inl z10 =>
        refine wa_iconst (pc := 55) (v := 0) cx dX8_isWord_55 (by decide) ?_
        obtain rfl := Option.some.inj hf
        exact wa_zret (pc := 56) cx rfl dX8_isWord_56
      | inr z11 =>
        refine wa_iconst (pc := 63) (v := 1) cx dX8_isWord_63 (by decide) ?_
        obtain rfl := Option.some.inj hf
        exact wa_zret (pc := 64) cx rfl dX8_isWord_64
    · have hf := (if_neg c2).symm.trans hf
      refine wa_forget [false, false, false] [none, none, none] rfl ?_
      exact j24  _ hf
