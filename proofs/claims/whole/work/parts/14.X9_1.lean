def fX9_brokenVows_J31 (v2 : Int32) (t1 : Int32) (t0 : Int32) (σ : Sg) : Option ((Int32 × Int32) ⊕ (Int32)) :=
  some (.inl ((t0 + t1), (v2 + 1)))
def fX9_brokenVows_B4  (v1 : Int32) (v2 : Int32) (σ : Sg) : Option ((Int32 × Int32) ⊕ (Int32)) :=
  if gf σ 8 4 ≤ v2 then (some (.inr v1)) else (gd (inb (9 + v2) 36) (
  if ga σ 14 (9 + v2) = 2 then (fX9_brokenVows_J31 v2 1 v1 σ) else (fX9_brokenVows_J31 v2 0 v1 σ)))
def fX9_brokenVows  (σ : Sg) : Option (Int32) :=
  (lpO (fun w => fX9_brokenVows_B4  w.1 w.2 σ) FUEL (0, 0)).bind (fun o4 =>
  some o4)
set_option maxHeartbeats 4000000 in
set_option maxRecDepth 100000 in
theorem ct_X9_brokenVows (l : Launch) (E : En) (σ : Sg)  (q : Int32) (hf : fX9_brokenVows  σ = some q) : CT l yX9_brokenVows cX9_brokenVows 3 (some .int) 0 E σ [.ref (eA E 8)] (some (.int q)) σ := by
  refine CT.of RX9 [some (.ref (eA E 8)), none, none] rfl (by decide +kernel) (Nat.le_of_ble_eq_true rfl) rfl ?_
  intro p e s m args below meth c cx
  unfold fX9_brokenVows at hf
  have l4 : ∀  (σ : Sg) (y : Int32 × Int32) (o : Int32), lpO (fun w => fX9_brokenVows_B4  w.1 w.2 σ) FUEL y = some o → (WA p l e (rmd 0) s m args below meth c 3 E 0 0 (MQ below (Qcq E s.heap.size (some (.int q)) σ) args s 0 0 (AE E s.heap.size)) 39 [none, some (.int o), none] [] σ) → WA p l e (rmd 0) s m args below meth c 3 E 0 0 (MQ below (Qcq E s.heap.size (some (.int q)) σ) args s 0 0 (AE E s.heap.size)) 4 [some (.ref (eA E 8)), some (.int y.1), some (.int y.2)] [] σ := by
    intro  σ y o hf hk
    refine lp_rule (P := fun y => WA p l e (rmd 0) s m args below meth c 3 E 0 0 (MQ below (Qcq E s.heap.size (some (.int q)) σ) args s 0 0 (AE E s.heap.size)) 4 [some (.ref (eA E 8)), some (.int y.1), some (.int y.2)] [] σ) (K := fun o => WA p l e (rmd 0) s m args below meth c 3 E 0 0 (MQ below (Qcq E s.heap.size (some (.int q)) σ) args s 0 0 (AE E s.heap.size)) 39 [none, some (.int o), none] [] σ) ?_ FUEL y o hf hk
    have j31 : ∀ (v2 : Int32) (t1 : Int32) (t0 : Int32) (σ : Sg) (r1 : (Int32 × Int32) ⊕ (Int32)), fX9_brokenVows_J31 v2 t1 t0 σ = some r1 → (sel (fun y1 => WA p l e (rmd 0) s m args below meth c 3 E 0 0 (MQ below (Qcq E s.heap.size (some (.int q)) σ) args s 0 0 (AE E s.heap.size)) 4 [some (.ref (eA E 8)), some (.int y1.1), some (.int y1.2)] [] σ) (fun y1 => WA p l e (rmd 0) s m args below meth c 3 E 0 0 (MQ below (Qcq E s.heap.size (some (.int q)) σ) args s 0 0 (AE E s.heap.size)) 39 [none, some (.int y1), none] [] σ) r1) → WA p l e (rmd 0) s m args below meth c 3 E 0 0 (MQ below (Qcq E s.heap.size (some (.int q)) σ) args s 0 0 (AE E s.heap.size)) 31 [some (.ref (eA E 8)), none, some (.int v2)] [.int t1, .int t0] σ := by
      intro v2 t1 t0 σ r1 hf hk1
      unfold fX9_brokenVows_J31 at hf
      refine wa_iadd (pc := 31) cx dX9_brokenVows_31 ?_
      refine wa_istore_n (pc := 32) cx 1 [some (.ref (eA E 8)), some (.int (t0 + t1)), some (.int v2)] dX9_brokenVows_32 rfl (by decide) rfl rfl ?_
      refine wa_iinc (pc := 33) (v := 1) cx 2 [some (.ref (eA E 8)), some (.int (t0 + t1)), some (.int (v2 + 1))] dX9_brokenVows_33 (by decide) rfl (by decide) rfl rfl ?_
      refine wa_goto (pc := 36) cx 4 dX9_brokenVows_36 rfl ?_
      obtain rfl := Option.some.inj hf
      refine wa_forget [true, true, true] [some (.ref (eA E 8)), some (.int (t0 + t1)), some (.int (v2 + 1))] rfl ?_
      exact hk1
    intro y0 r1 hf hk1
    obtain ⟨v1, v2⟩ := y0
    have hf : fX9_brokenVows_B4  v1 v2 σ = some r1 := hf
    unfold fX9_brokenVows_B4 at hf
    refine wa_iload_n (pc := 4) cx 2 dX9_brokenVows_4 rfl rfl ?_
    refine wa_aload_n (pc := 5) cx 0 dX9_brokenVows_5 rfl rfl ?_
    refine wa_getI (pc := 6) cx fl_X9_25 lk_8 rfl (cx.bl 8 rfl) dX9_brokenVows_6 ?_
    refine wa_icmp_ge (pc := 9) cx 39 dX9_brokenVows_9 rfl (fun c1 => ?_) (fun c1 => ?_)
    · have hf := (if_pos c1).symm.trans hf
      obtain rfl := Option.some.inj hf
      refine wa_forget [false, true, false] [none, some (.int v1), none] rfl ?_
      exact hk1
    · have hf := (if_neg c1).symm.trans hf
      refine wa_iload_n (pc := 12) cx 1 dX9_brokenVows_12 rfl rfl ?_
      refine wa_aload_n (pc := 13) cx 0 dX9_brokenVows_13 rfl rfl ?_
      refine wa_getR (pc := 14) cx fl_X9_44 lk_8 rfl (cx.bl 8 rfl) dX9_brokenVows_14 ?_
      refine wa_bipush (pc := 17) (v := 9) cx dX9_brokenVows_17 (by decide) ?_
      refine wa_iload_n (pc := 19) cx 2 dX9_brokenVows_19 rfl rfl ?_
      refine wa_iadd (pc := 20) cx dX9_brokenVows_20 ?_
      obtain ⟨g2, hf⟩ := gd_some hf
      refine wa_iald (pc := 21) cx lk_14 (cx.bl 14 rfl) g2 dX9_brokenVows_21 ?_
      refine wa_iconst (pc := 22) (v := 2) cx dX9_brokenVows_22 (by decide) ?_
      refine wa_icmp_ne (pc := 23) cx 30 dX9_brokenVows_23 rfl (fun c3 => ?_) (fun c3 => ?_)
      · have hf := (if_neg c3).symm.trans hf
        refine wa_iconst (pc := 30) (v := 0) cx dX9_brokenVows_30 (by decide) ?_
        refine wa_forget [true, false, true] [some (.ref (eA E 8)), none, some (.int v2)] rfl ?_
        exact j31 _ _ _ _ _ hf hk1
      · have hf := (if_pos c3).symm.trans hf
        refine wa_iconst (pc := 26) (v := 1) cx dX9_brokenVows_26 (by decide) ?_
        refine wa_goto (pc := 27) cx 31 dX9_brokenVows_27 rfl ?_
        refine wa_forget [true, false, true] [some (.ref (eA E 8)), none, some (.int v2)] rfl ?_
        exact j31 _ _ _ _ _ hf hk1
  refine wa_iconst (pc := 0) (v := 0) cx dX9_brokenVows_0 (by decide) ?_
  refine wa_istore_n (pc := 1) cx 1 [some (.ref (eA E 8)), some (.int 0), none] dX9_brokenVows_1 rfl (by decide) rfl rfl ?_
  refine wa_iconst (pc := 2) (v := 0) cx dX9_brokenVows_2 (by decide) ?_
  refine wa_istore_n (pc := 3) cx 2 [some (.ref (eA E 8)), some (.int 0), some (.int 0)] dX9_brokenVows_3 rfl (by decide) rfl rfl ?_
  obtain ⟨o4, h5, hf⟩ := bd_some hf
  refine l4  _ _ _ h5 ?_
  refine wa_iload_n (pc := 39) cx 1 dX9_brokenVows_39 rfl rfl ?_
  obtain rfl := Option.some.inj hf
  exact wa_iret (pc := 40) cx dX9_brokenVows_40
def fX9_becomeAs_52_8  (σ : Sg) : Option (Sg) :=
  gd (isz (gf σ 8 0)) (
  gd (cpk 0 0 5 5 5) (
  gd (cpk 0 0 5 5 5) (
  gd (cpk 0 0 9 9 9) (
  gd (cpk 0 0 9 9 9) (
  gd (cpk 0 0 9 9 9) (
  gd (cpk 0 0 36 36 36) (
  some (scp (scp (scp (scp (scp (scp (sup (sup (sup (sup (sup σ 52 0 (gf σ 8 0)) 52 1 (gf (sup σ 52 0 (gf σ 8 0)) 8 1)) 52 2 (gf (sup (sup σ 52 0 (gf σ 8 0)) 52 1 (gf (sup σ 52 0 (gf σ 8 0)) 8 1)) 8 2)) 52 3 (gf (sup (sup (sup σ 52 0 (gf σ 8 0)) 52 1 (gf (sup σ 52 0 (gf σ 8 0)) 8 1)) 52 2 (gf (sup (sup σ 52 0 (gf σ 8 0)) 52 1 (gf (sup σ 52 0 (gf σ 8 0)) 8 1)) 8 2)) 8 3)) 52 4 (gf (sup (sup (sup (sup σ 52 0 (gf σ 8 0)) 52 1 (gf (sup σ 52 0 (gf σ 8 0)) 8 1)) 52 2 (gf (sup (sup σ 52 0 (gf σ 8 0)) 52 1 (gf (sup σ 52 0 (gf σ 8 0)) 8 1)) 8 2)) 52 3 (gf (sup (sup (sup σ 52 0 (gf σ 8 0)) 52 1 (gf (sup σ 52 0 (gf σ 8 0)) 8 1)) 52 2 (gf (sup (sup σ 52 0 (gf σ 8 0)) 52 1 (gf (sup σ 52 0 (gf σ 8 0)) 8 1)) 8 2)) 8 3)) 8 4)) 9 53 0 0 5) 10 54 0 0 5) 11 55 0 0 9) 12 56 0 0 9) 13 57 0 0 9) 14 58 0 0 36))))))))
set_option maxHeartbeats 4000000 in
set_option maxRecDepth 100000 in
theorem ct_X9_becomeAs_52_8 (l : Launch) (E : En) (hi : ∀ c, 52 ≤ c → c < 59 → c ∈ eL E) (σ : Sg)  (q : Sg) (hf : fX9_becomeAs_52_8  σ = some q) : CT l yX9_becomeAs cX9_becomeAs 2 none 1 E σ [.ref (eA E 52), .ref (eA E 8)] none q := by
  refine CT.of RX9 [some (.ref (eA E 52)), some (.ref (eA E 8))] rfl (by decide +kernel) (Nat.le_of_ble_eq_true rfl) rfl ?_
  intro p e s m args below meth c cx
  unfold fX9_becomeAs_52_8 at hf
  refine wa_aload_n (pc := 0) cx 0 dX9_becomeAs_0 rfl rfl ?_
  refine wa_aload_n (pc := 1) cx 1 dX9_becomeAs_1 rfl rfl ?_
  refine wa_getI (pc := 2) cx fl_X9_9 lk_8 rfl (cx.bl 8 rfl) dX9_becomeAs_2 ?_
  obtain ⟨g1, hf⟩ := gd_some hf
  refine wa_putZ (pc := 5) cx fp_X9_9 lk_52 rfl (hi 52 (by decide) (by decide)) g1 dX9_becomeAs_5 ?_
  refine wa_aload_n (pc := 8) cx 0 dX9_becomeAs_8 rfl rfl ?_
  refine wa_aload_n (pc := 9) cx 1 dX9_becomeAs_9 rfl rfl ?_
  refine wa_getI (pc := 10) cx fl_X9_15 lk_8 rfl (cx.bl 8 rfl) dX9_becomeAs_10 ?_
  refine wa_putI (pc := 13) cx fp_X9_15 lk_52 rfl (hi 52 (by decide) (by decide)) dX9_becomeAs_13 ?_
  refine wa_aload_n (pc := 16) cx 0 dX9_becomeAs_16 rfl rfl ?_
  refine wa_aload_n (pc := 17) cx 1 dX9_becomeAs_17 rfl rfl ?_
  refine wa_getI (pc := 18) cx fl_X9_19 lk_8 rfl (cx.bl 8 rfl) dX9_becomeAs_18 ?_
  refine wa_putI (pc := 21) cx fp_X9_19 lk_52 rfl (hi 52 (by decide) (by decide)) dX9_becomeAs_21 ?_
  refine wa_aload_n (pc := 24) cx 0 dX9_becomeAs_24 rfl rfl ?_
  refine wa_aload_n (pc := 25) cx 1 dX9_becomeAs_25 rfl rfl ?_
  refine wa_getI (pc := 26) cx fl_X9_22 lk_8 rfl (cx.bl 8 rfl) dX9_becomeAs_26 ?_
  refine wa_putI (pc := 29) cx fp_X9_22 lk_52 rfl (hi 52 (by decide) (by decide)) dX9_becomeAs_29 ?_
  refine wa_aload_n (pc := 32) cx 0 dX9_becomeAs_32 rfl rfl ?_
  refine wa_aload_n (pc := 33) cx 1 dX9_becomeAs_33 rfl rfl ?_
  refine wa_getI (pc := 34) cx fl_X9_25 lk_8 rfl (cx.bl 8 rfl) dX9_becomeAs_34 ?_
  refine wa_putI (pc := 37) cx fp_X9_25 lk_52 rfl (hi 52 (by decide) (by decide)) dX9_becomeAs_37 ?_
  refine wa_aload_n (pc := 40) cx 1 dX9_becomeAs_40 rfl rfl ?_
  refine wa_getR (pc := 41) cx fl_X9_28 lk_8 rfl (cx.bl 8 rfl) dX9_becomeAs_41 ?_
  refine wa_iconst (pc := 44) (v := 0) cx dX9_becomeAs_44 (by decide) ?_
  refine wa_aload_n (pc := 45) cx 0 dX9_becomeAs_45 rfl rfl ?_
  refine wa_getR (pc := 46) cx fl_X9_28 lk_52 rfl (hi 52 (by decide) (by decide)) dX9_becomeAs_46 ?_
  refine wa_iconst (pc := 49) (v := 0) cx dX9_becomeAs_49 (by decide) ?_
  refine wa_iconst (pc := 50) (v := 5) cx dX9_becomeAs_50 (by decide) ?_
  obtain ⟨g2, hf⟩ := gd_some hf
  refine wa_copy (pc := 51) cx lk_9 lk_53 (cx.bl 9 rfl) (hi 53 (by decide) (by decide)) g2 tw_550 (Nat.le_of_ble_eq_true rfl) (Nat.le_of_ble_eq_true rfl) dX9_becomeAs_51 ?_
  refine wa_aload_n (pc := 54) cx 1 dX9_becomeAs_54 rfl rfl ?_
  refine wa_getR (pc := 55) cx fl_X9_32 lk_8 rfl (cx.bl 8 rfl) dX9_becomeAs_55 ?_
  refine wa_iconst (pc := 58) (v := 0) cx dX9_becomeAs_58 (by decide) ?_
  refine wa_aload_n (pc := 59) cx 0 dX9_becomeAs_59 rfl rfl ?_
  refine wa_getR (pc := 60) cx fl_X9_32 lk_52 rfl (hi 52 (by decide) (by decide)) dX9_becomeAs_60 ?_
  refine wa_iconst (pc := 63) (v := 0) cx dX9_becomeAs_63 (by decide) ?_
  refine wa_iconst (pc := 64) (v := 5) cx dX9_becomeAs_64 (by decide) ?_
  obtain ⟨g3, hf⟩ := gd_some hf
  refine wa_copy (pc := 65) cx lk_10 lk_54 (cx.bl 10 rfl) (hi 54 (by decide) (by decide)) g3 tw_550 (Nat.le_of_ble_eq_true rfl) (Nat.le_of_ble_eq_true rfl) dX9_becomeAs_65 ?_
  refine wa_aload_n (pc := 68) cx 1 dX9_becomeAs_68 rfl rfl ?_
  refine wa_getR (pc := 69) cx fl_X9_35 lk_8 rfl (cx.bl 8 rfl) dX9_becomeAs_69 ?_
  refine wa_iconst (pc := 72) (v := 0) cx dX9_becomeAs_72 (by decide) ?_
  refine wa_aload_n (pc := 73) cx 0 dX9_becomeAs_73 rfl rfl ?_
  refine wa_getR (pc := 74) cx fl_X9_35 lk_52 rfl (hi 52 (by decide) (by decide)) dX9_becomeAs_74 ?_
  refine wa_iconst (pc := 77) (v := 0) cx dX9_becomeAs_77 (by decide) ?_
  refine wa_bipush (pc := 78) (v := 9) cx dX9_becomeAs_78 (by decide) ?_
  obtain ⟨g4, hf⟩ := gd_some hf
  refine wa_copy (pc := 80) cx lk_11 lk_55 (cx.bl 11 rfl) (hi 55 (by decide) (by decide)) g4 tw_550 (Nat.le_of_ble_eq_true rfl) (Nat.le_of_ble_eq_true rfl) dX9_becomeAs_80 ?_
  refine wa_aload_n (pc := 83) cx 1 dX9_becomeAs_83 rfl rfl ?_
  refine wa_getR (pc := 84) cx fl_X9_38 lk_8 rfl (cx.bl 8 rfl) dX9_becomeAs_84 ?_
  refine wa_iconst (pc := 87) (v := 0) cx dX9_becomeAs_87 (by decide) ?_
  refine wa_aload_n (pc := 88) cx 0 dX9_becomeAs_88 rfl rfl ?_
  refine wa_getR (pc := 89) cx fl_X9_38 lk_52 rfl (hi 52 (by decide) (by decide)) dX9_becomeAs_89 ?_
  refine wa_iconst (pc := 92) (v := 0) cx dX9_becomeAs_92 (by decide) ?_
  refine wa_bipush (pc := 93) (v := 9) cx dX9_becomeAs_93 (by decide) ?_
  obtain ⟨g5, hf⟩ := gd_some hf
  refine wa_copy (pc := 95) cx lk_12 lk_56 (cx.bl 12 rfl) (hi 56 (by decide) (by decide)) g5 tw_550 (Nat.le_of_ble_eq_true rfl) (Nat.le_of_ble_eq_true rfl) dX9_becomeAs_95 ?_
  refine wa_aload_n (pc := 98) cx 1 dX9_becomeAs_98 rfl rfl ?_
  refine wa_getR (pc := 99) cx fl_X9_41 lk_8 rfl (cx.bl 8 rfl) dX9_becomeAs_99 ?_
  refine wa_iconst (pc := 102) (v := 0) cx dX9_becomeAs_102 (by decide) ?_
  refine wa_aload_n (pc := 103) cx 0 dX9_becomeAs_103 rfl rfl ?_
  refine wa_getR (pc := 104) cx fl_X9_41 lk_52 rfl (hi 52 (by decide) (by decide)) dX9_becomeAs_104 ?_
  refine wa_iconst (pc := 107) (v := 0) cx dX9_becomeAs_107 (by decide) ?_
  refine wa_bipush (pc := 108) (v := 9) cx dX9_becomeAs_108 (by decide) ?_
  obtain ⟨g6, hf⟩ := gd_some hf
  refine wa_copy (pc := 110) cx lk_13 lk_57 (cx.bl 13 rfl) (hi 57 (by decide) (by decide)) g6 tw_550 (Nat.le_of_ble_eq_true rfl) (Nat.le_of_ble_eq_true rfl) dX9_becomeAs_110 ?_
  refine wa_aload_n (pc := 113) cx 1 dX9_becomeAs_113 rfl rfl ?_
  refine wa_getR (pc := 114) cx fl_X9_44 lk_8 rfl (cx.bl 8 rfl) dX9_becomeAs_114 ?_
  refine wa_iconst (pc := 117) (v := 0) cx dX9_becomeAs_117 (by decide) ?_
  refine wa_aload_n (pc := 118) cx 0 dX9_becomeAs_118 rfl rfl ?_
  refine wa_getR (pc := 119) cx fl_X9_44 lk_52 rfl (hi 52 (by decide) (by decide)) dX9_becomeAs_119 ?_
  refine wa_iconst (pc := 122) (v := 0) cx dX9_becomeAs_122 (by decide) ?_
  refine wa_bipush (pc := 123) (v := 36) cx dX9_becomeAs_123 (by decide) ?_
  obtain ⟨g7, hf⟩ := gd_some hf
  refine wa_copy (pc := 125) cx lk_14 lk_58 (cx.bl 14 rfl) (hi 58 (by decide) (by decide)) g7 tw_550 (Nat.le_of_ble_eq_true rfl) (Nat.le_of_ble_eq_true rfl) dX9_becomeAs_125 ?_
  obtain rfl := Option.some.inj hf
  exact wa_vret (pc := 128) cx dX9_becomeAs_128
def fX9_becomeAs_59_8  (σ : Sg) : Option (Sg) :=
  gd (isz (gf σ 8 0)) (
  gd (cpk 0 0 5 5 5) (
  gd (cpk 0 0 5 5 5) (
  gd (cpk 0 0 9 9 9) (
  gd (cpk 0 0 9 9 9) (
  gd (cpk 0 0 9 9 9) (
  gd (cpk 0 0 36 36 36) (
  some (scp (scp (scp (scp (scp (scp (sup (sup (sup (sup (sup σ 59 0 (gf σ 8 0)) 59 1 (gf (sup σ 59 0 (gf σ 8 0)) 8 1)) 59 2 (gf (sup (sup σ 59 0 (gf σ 8 0)) 59 1 (gf (sup σ 59 0 (gf σ 8 0)) 8 1)) 8 2)) 59 3 (gf (sup (sup (sup σ 59 0 (gf σ 8 0)) 59 1 (gf (sup σ 59 0 (gf σ 8 0)) 8 1)) 59 2 (gf (sup (sup σ 59 0 (gf σ 8 0)) 59 1 (gf (sup σ 59 0 (gf σ 8 0)) 8 1)) 8 2)) 8 3)) 59 4 (gf (sup (sup (sup (sup σ 59 0 (gf σ 8 0)) 59 1 (gf (sup σ 59 0 (gf σ 8 0)) 8 1)) 59 2 (gf (sup (sup σ 59 0 (gf σ 8 0)) 59 1 (gf (sup σ 59 0 (gf σ 8 0)) 8 1)) 8 2)) 59 3 (gf (sup (sup (sup σ 59 0 (gf σ 8 0)) 59 1 (gf (sup σ 59 0 (gf σ 8 0)) 8 1)) 59 2 (gf (sup (sup σ 59 0 (gf σ 8 0)) 59 1 (gf (sup σ 59 0 (gf σ 8 0)) 8 1)) 8 2)) 8 3)) 8 4)) 9 60 0 0 5) 10 61 0 0 5) 11 62 0 0 9) 12 63 0 0 9) 13 64 0 0 9) 14 65 0 0 36))))))))
set_option maxHeartbeats 4000000 in
set_option maxRecDepth 100000 in
theorem ct_X9_becomeAs_59_8 (l : Launch) (E : En) (hi : ∀ c, 59 ≤ c → c < 66 → c ∈ eL E) (σ : Sg)  (q : Sg) (hf : fX9_becomeAs_59_8  σ = some q) : CT l yX9_becomeAs cX9_becomeAs 2 none 1 E σ [.ref (eA E 59), .ref (eA E 8)] none q := by
  refine CT.of RX9 [some (.ref (eA E 59)), some (.ref (eA E 8))] rfl (by decide +kernel) (Nat.le_of_ble_eq_true rfl) rfl ?_
  intro p e s m args below meth c cx
  unfold fX9_becomeAs_59_8 at hf
  refine wa_aload_n (pc := 0) cx 0 dX9_becomeAs_0 rfl rfl ?_
  refine wa_aload_n (pc := 1) cx 1 dX9_becomeAs_1 rfl rfl ?_
  refine wa_getI (pc := 2) cx fl_X9_9 lk_8 rfl (cx.bl 8 rfl) dX9_becomeAs_2 ?_
  obtain ⟨g1, hf⟩ := gd_some hf
  refine wa_putZ (pc := 5) cx fp_X9_9 lk_59 rfl (hi 59 (by decide) (by decide)) g1 dX9_becomeAs_5 ?_
  refine wa_aload_n (pc := 8) cx 0 dX9_becomeAs_8 rfl rfl ?_
  refine wa_aload_n (pc := 9) cx 1 dX9_becomeAs_9 rfl rfl ?_
  refine wa_getI (pc := 10) cx fl_X9_15 lk_8 rfl (cx.bl 8 rfl) dX9_becomeAs_10 ?_
  refine wa_putI (pc := 13) cx fp_X9_15 lk_59 rfl (hi 59 (by decide) (by decide)) dX9_becomeAs_13 ?_
  refine wa_aload_n (pc := 16) cx 0 dX9_becomeAs_16 rfl rfl ?_
  refine wa_aload_n (pc := 17) cx 1 dX9_becomeAs_17 rfl rfl ?_
  refine wa_getI (pc := 18) cx fl_X9_19 lk_8 rfl (cx.bl 8 rfl) dX9_becomeAs_18 ?_
  refine wa_putI (pc := 21) cx fp_X9_19 lk_59 rfl (hi 59 (by decide) (by decide)) dX9_becomeAs_21 ?_
  refine wa_aload_n (pc := 24) cx 0 dX9_becomeAs_24 rfl rfl ?_
  refine wa_aload_n (pc := 25) cx 1 dX9_becomeAs_25 rfl rfl ?_
  refine wa_getI (pc := 26) cx fl_X9_22 lk_8 rfl (cx.bl 8 rfl) dX9_becomeAs_26 ?_
  refine wa_putI (pc := 29) cx fp_X9_22 lk_59 rfl (hi 59 (by decide) (by decide)) dX9_becomeAs_29 ?_
  refine wa_aload_n (pc := 32) cx 0 dX9_becomeAs_32 rfl rfl ?_
  refine wa_aload_n (pc := 33) cx 1 dX9_becomeAs_33 rfl rfl ?_
  refine wa_getI (pc := 34) cx fl_X9_25 lk_8 rfl (cx.bl 8 rfl) dX9_becomeAs_34 ?_
  refine wa_putI (pc := 37) cx fp_X9_25 lk_59 rfl (hi 59 (by decide) (by decide)) dX9_becomeAs_37 ?_
  refine wa_aload_n (pc := 40) cx 1 dX9_becomeAs_40 rfl rfl ?_
  refine wa_getR (pc := 41) cx fl_X9_28 lk_8 rfl (cx.bl 8 rfl) dX9_becomeAs_41 ?_
  refine wa_iconst (pc := 44) (v := 0) cx dX9_becomeAs_44 (by decide) ?_
  refine wa_aload_n (pc := 45) cx 0 dX9_becomeAs_45 rfl rfl ?_
  refine wa_getR (pc := 46) cx fl_X9_28 lk_59 rfl (hi 59 (by decide) (by decide)) dX9_becomeAs_46 ?_
  refine wa_iconst (pc := 49) (v := 0) cx dX9_becomeAs_49 (by decide) ?_
  refine wa_iconst (pc := 50) (v := 5) cx dX9_becomeAs_50 (by decide) ?_
  obtain ⟨g2, hf⟩ := gd_some hf
  refine wa_copy (pc := 51) cx lk_9 lk_60 (cx.bl 9 rfl) (hi 60 (by decide) (by decide)) g2 tw_550 (Nat.le_of_ble_eq_true rfl) (Nat.le_of_ble_eq_true rfl) dX9_becomeAs_51 ?_
  refine wa_aload_n (pc := 54) cx 1 dX9_becomeAs_54 rfl rfl ?_
  refine wa_getR (pc := 55) cx fl_X9_32 lk_8 rfl (cx.bl 8 rfl) dX9_becomeAs_55 ?_
  refine wa_iconst (pc := 58) (v := 0) cx dX9_becomeAs_58 (by decide) ?_
  refine wa_aload_n (pc := 59) cx 0 dX9_becomeAs_59 rfl rfl ?_
  refine wa_getR (pc := 60) cx fl_X9_32 lk_59 rfl (hi 59 (by decide) (by decide)) dX9_becomeAs_60 ?_
  refine wa_iconst (pc := 63) (v := 0) cx dX9_becomeAs_63 (by decide) ?_
  refine wa_iconst (pc := 64) (v := 5) cx dX9_becomeAs_64 (by decide) ?_
  obtain ⟨g3, hf⟩ := gd_some hf
  refine wa_copy (pc := 65) cx lk_10 lk_61 (cx.bl 10 rfl) (hi 61 (by decide) (by decide)) g3 tw_550 (Nat.le_of_ble_eq_true rfl) (Nat.le_of_ble_eq_true rfl) dX9_becomeAs_65 ?_
  refine wa_aload_n (pc := 68) cx 1 dX9_becomeAs_68 rfl rfl ?_
  refine wa_getR (pc := 69) cx fl_X9_35 lk_8 rfl (cx.bl 8 rfl) dX9_becomeAs_69 ?_
  refine wa_iconst (pc := 72) (v := 0) cx dX9_becomeAs_72 (by decide) ?_
  refine wa_aload_n (pc := 73) cx 0 dX9_becomeAs_73 rfl rfl ?_
  refine wa_getR (pc := 74) cx fl_X9_35 lk_59 rfl (hi 59 (by decide) (by decide)) dX9_becomeAs_74 ?_
  refine wa_iconst (pc := 77) (v := 0) cx dX9_becomeAs_77 (by decide) ?_
  refine wa_bipush (pc := 78) (v := 9) cx dX9_becomeAs_78 (by decide) ?_
  obtain ⟨g4, hf⟩ := gd_some hf
  refine wa_copy (pc := 80) cx lk_11 lk_62 (cx.bl 11 rfl) (hi 62 (by decide) (by decide)) g4 tw_550 (Nat.le_of_ble_eq_true rfl) (Nat.le_of_ble_eq_true rfl) dX9_becomeAs_80 ?_
  refine wa_aload_n (pc := 83) cx 1 dX9_becomeAs_83 rfl rfl ?_
  refine wa_getR (pc := 84) cx fl_X9_38 lk_8 rfl (cx.bl 8 rfl) dX9_becomeAs_84 ?_
  refine wa_iconst (pc := 87) (v := 0) cx dX9_becomeAs_87 (by decide) ?_
  refine wa_aload_n (pc := 88) cx 0 dX9_becomeAs_88 rfl rfl ?_
  refine wa_getR (pc := 89) cx fl_X9_38 lk_59 rfl (hi 59 (by decide) (by decide)) dX9_becomeAs_89 ?_
  refine wa_iconst (pc := 92) (v := 0) cx dX9_becomeAs_92 (by decide) ?_
  refine wa_bipush (pc := 93) (v := 9) cx dX9_becomeAs_93 (by decide) ?_
  obtain ⟨g5, hf⟩ := gd_some hf
  refine wa_copy (pc := 95) cx lk_12 lk_63 (cx.bl 12 rfl) (hi 63 (by decide) (by decide)) g5 tw_550 (Nat.le_of_ble_eq_true rfl) (Nat.le_of_ble_eq_true rfl) dX9_becomeAs_95 ?_
  refine wa_aload_n (pc := 98) cx 1 dX9_becomeAs_98 rfl rfl ?_
  refine wa_getR (pc := 99) cx fl_X9_41 lk_8 rfl (cx.bl 8 rfl) dX9_becomeAs_99 ?_
  refine wa_iconst (pc := 102) (v := 0) cx dX9_becomeAs_102 (by decide) ?_
  refine wa_aload_n (pc := 103) cx 0 dX9_becomeAs_103 rfl rfl ?_
  refine wa_getR (pc := 104) cx fl_X9_41 lk_59 rfl (hi 59 (by decide) (by decide)) dX9_becomeAs_104 ?_
  refine wa_iconst (pc := 107) (v := 0) cx dX9_becomeAs_107 (by decide) ?_
  refine wa_bipush (pc := 108) (v := 9) cx dX9_becomeAs_108 (by decide) ?_
  obtain ⟨g6, hf⟩ := gd_some hf
  refine wa_copy (pc := 110) cx lk_13 lk_64 (cx.bl 13 rfl) (hi 64 (by decide) (by decide)) g6 tw_550 (Nat.le_of_ble_eq_true rfl) (Nat.le_of_ble_eq_true rfl) dX9_becomeAs_110 ?_
  refine wa_aload_n (pc := 113) cx 1 dX9_becomeAs_113 rfl rfl ?_
  refine wa_getR (pc := 114) cx fl_X9_44 lk_8 rfl (cx.bl 8 rfl) dX9_becomeAs_114 ?_
  refine wa_iconst (pc := 117) (v := 0) cx dX9_becomeAs_117 (by decide) ?_
  refine wa_aload_n (pc := 118) cx 0 dX9_becomeAs_118 rfl rfl ?_
  refine wa_getR (pc := 119) cx fl_X9_44 lk_59 rfl (hi 59 (by decide) (by decide)) dX9_becomeAs_119 ?_
  refine wa_iconst (pc := 122) (v := 0) cx dX9_becomeAs_122 (by decide) ?_
  refine wa_bipush (pc := 123) (v := 36) cx dX9_becomeAs_123 (by decide) ?_
  obtain ⟨g7, hf⟩ := gd_some hf
  refine wa_copy (pc := 125) cx lk_14 lk_65 (cx.bl 14 rfl) (hi 65 (by decide) (by decide)) g7 tw_550 (Nat.le_of_ble_eq_true rfl) (Nat.le_of_ble_eq_true rfl) dX9_becomeAs_125 ?_
  obtain rfl := Option.some.inj hf
  exact wa_vret (pc := 128) cx dX9_becomeAs_128
def fX9_becomeAs_8_52  (σ : Sg) : Option (Sg) :=
  gd (isz (gf σ 52 0)) (
  gd (cpk 0 0 5 5 5) (
  gd (cpk 0 0 5 5 5) (
  gd (cpk 0 0 9 9 9) (
  gd (cpk 0 0 9 9 9) (
  gd (cpk 0 0 9 9 9) (
  gd (cpk 0 0 36 36 36) (
  some (scp (scp (scp (scp (scp (scp (sup (sup (sup (sup (sup σ 8 0 (gf σ 52 0)) 8 1 (gf (sup σ 8 0 (gf σ 52 0)) 52 1)) 8 2 (gf (sup (sup σ 8 0 (gf σ 52 0)) 8 1 (gf (sup σ 8 0 (gf σ 52 0)) 52 1)) 52 2)) 8 3 (gf (sup (sup (sup σ 8 0 (gf σ 52 0)) 8 1 (gf (sup σ 8 0 (gf σ 52 0)) 52 1)) 8 2 (gf (sup (sup σ 8 0 (gf σ 52 0)) 8 1 (gf (sup σ 8 0 (gf σ 52 0)) 52 1)) 52 2)) 52 3)) 8 4 (gf (sup (sup (sup (sup σ 8 0 (gf σ 52 0)) 8 1 (gf (sup σ 8 0 (gf σ 52 0)) 52 1)) 8 2 (gf (sup (sup σ 8 0 (gf σ 52 0)) 8 1 (gf (sup σ 8 0 (gf σ 52 0)) 52 1)) 52 2)) 8 3 (gf (sup (sup (sup σ 8 0 (gf σ 52 0)) 8 1 (gf (sup σ 8 0 (gf σ 52 0)) 52 1)) 8 2 (gf (sup (sup σ 8 0 (gf σ 52 0)) 8 1 (gf (sup σ 8 0 (gf σ 52 0)) 52 1)) 52 2)) 52 3)) 52 4)) 53 9 0 0 5) 54 10 0 0 5) 55 11 0 0 9) 56 12 0 0 9) 57 13 0 0 9) 58 14 0 0 36))))))))
set_option maxHeartbeats 4000000 in
set_option maxRecDepth 100000 in
theorem ct_X9_becomeAs_8_52 (l : Launch) (E : En) (hi : ∀ c, 52 ≤ c → c < 59 → c ∈ eL E) (σ : Sg)  (q : Sg) (hf : fX9_becomeAs_8_52  σ = some q) : CT l yX9_becomeAs cX9_becomeAs 2 none 1 E σ [.ref (eA E 8), .ref (eA E 52)] none q := by
  refine CT.of RX9 [some (.ref (eA E 8)), some (.ref (eA E 52))] rfl (by decide +kernel) (Nat.le_of_ble_eq_true rfl) rfl ?_
  intro p e s m args below meth c cx
  unfold fX9_becomeAs_8_52 at hf
  refine wa_aload_n (pc := 0) cx 0 dX9_becomeAs_0 rfl rfl ?_
  refine wa_aload_n (pc := 1) cx 1 dX9_becomeAs_1 rfl rfl ?_
  refine wa_getI (pc := 2) cx fl_X9_9 lk_52 rfl (hi 52 (by decide) (by decide)) dX9_becomeAs_2 ?_
  obtain ⟨g1, hf⟩ := gd_some hf
  refine wa_putZ (pc := 5) cx fp_X9_9 lk_8 rfl (cx.bl 8 rfl) g1 dX9_becomeAs_5 ?_
  refine wa_aload_n (pc := 8) cx 0 dX9_becomeAs_8 rfl rfl ?_
  refine wa_aload_n (pc := 9) cx 1 dX9_becomeAs_9 rfl rfl ?_
  refine wa_getI (pc := 10) cx fl_X9_15 lk_52 rfl (hi 52 (by decide) (by decide)) dX9_becomeAs_10 ?_
  refine wa_putI (pc := 13) cx fp_X9_15 lk_8 rfl (cx.bl 8 rfl) dX9_becomeAs_13 ?_
  refine wa_aload_n (pc := 16) cx 0 dX9_becomeAs_16 rfl rfl ?_
  refine wa_aload_n (pc := 17) cx 1 dX9_becomeAs_17 rfl rfl ?_
  refine wa_getI (pc := 18) cx fl_X9_19 lk_52 rfl (hi 52 (by decide) (by decide)) dX9_becomeAs_18 ?_
  refine wa_putI (pc := 21) cx fp_X9_19 lk_8 rfl (cx.bl 8 rfl) dX9_becomeAs_21 ?_
  refine wa_aload_n (pc := 24) cx 0 dX9_becomeAs_24 rfl rfl ?_
  refine wa_aload_n (pc := 25) cx 1 dX9_becomeAs_25 rfl rfl ?_
  refine wa_getI (pc := 26) cx fl_X9_22 lk_52 rfl (hi 52 (by decide) (by decide)) dX9_becomeAs_26 ?_
  refine wa_putI (pc := 29) cx fp_X9_22 lk_8 rfl (cx.bl 8 rfl) dX9_becomeAs_29 ?_
  refine wa_aload_n (pc := 32) cx 0 dX9_becomeAs_32 rfl rfl ?_
  refine wa_aload_n (pc := 33) cx 1 dX9_becomeAs_33 rfl rfl ?_
  refine wa_getI (pc := 34) cx fl_X9_25 lk_52 rfl (hi 52 (by decide) (by decide)) dX9_becomeAs_34 ?_
  refine wa_putI (pc := 37) cx fp_X9_25 lk_8 rfl (cx.bl 8 rfl) dX9_becomeAs_37 ?_
  refine wa_aload_n (pc := 40) cx 1 dX9_becomeAs_40 rfl rfl ?_
  refine wa_getR (pc := 41) cx fl_X9_28 lk_52 rfl (hi 52 (by decide) (by decide)) dX9_becomeAs_41 ?_
  refine wa_iconst (pc := 44) (v := 0) cx dX9_becomeAs_44 (by decide) ?_
  refine wa_aload_n (pc := 45) cx 0 dX9_becomeAs_45 rfl rfl ?_
  refine wa_getR (pc := 46) cx fl_X9_28 lk_8 rfl (cx.bl 8 rfl) dX9_becomeAs_46 ?_
  refine wa_iconst (pc := 49) (v := 0) cx dX9_becomeAs_49 (by decide) ?_
  refine wa_iconst (pc := 50) (v := 5) cx dX9_becomeAs_50 (by decide) ?_
  obtain ⟨g2, hf⟩ := gd_some hf
  refine wa_copy (pc := 51) cx lk_53 lk_9 (hi 53 (by decide) (by decide)) (cx.bl 9 rfl) g2 tw_550 (Nat.le_of_ble_eq_true rfl) (Nat.le_of_ble_eq_true rfl) dX9_becomeAs_51 ?_
  refine wa_aload_n (pc := 54) cx 1 dX9_becomeAs_54 rfl rfl ?_
  refine wa_getR (pc := 55) cx fl_X9_32 lk_52 rfl (hi 52 (by decide) (by decide)) dX9_becomeAs_55 ?_
  refine wa_iconst (pc := 58) (v := 0) cx dX9_becomeAs_58 (by decide) ?_
  refine wa_aload_n (pc := 59) cx 0 dX9_becomeAs_59 rfl rfl ?_
  refine wa_getR (pc := 60) cx fl_X9_32 lk_8 rfl (cx.bl 8 rfl) dX9_becomeAs_60 ?_
  refine wa_iconst (pc := 63) (v := 0) cx dX9_becomeAs_63 (by decide) ?_
  refine wa_iconst (pc := 64) (v := 5) cx dX9_becomeAs_64 (by decide) ?_
  obtain ⟨g3, hf⟩ := gd_some hf
  refine wa_copy (pc := 65) cx lk_54 lk_10 (hi 54 (by decide) (by decide)) (cx.bl 10 rfl) g3 tw_550 (Nat.le_of_ble_eq_true rfl) (Nat.le_of_ble_eq_true rfl) dX9_becomeAs_65 ?_
  refine wa_aload_n (pc := 68) cx 1 dX9_becomeAs_68 rfl rfl ?_
  refine wa_getR (pc := 69) cx fl_X9_35 lk_52 rfl (hi 52 (by decide) (by decide)) dX9_becomeAs_69 ?_
  refine wa_iconst (pc := 72) (v := 0) cx dX9_becomeAs_72 (by decide) ?_
  refine wa_aload_n (pc := 73) cx 0 dX9_becomeAs_73 rfl rfl ?_
  refine wa_getR (pc := 74) cx fl_X9_35 lk_8 rfl (cx.bl 8 rfl) dX9_becomeAs_74 ?_
  refine wa_iconst (pc := 77) (v := 0) cx dX9_becomeAs_77 (by decide) ?_
  refine wa_bipush (pc := 78) (v := 9) cx dX9_becomeAs_78 (by decide) ?_
  obtain ⟨g4, hf⟩ := gd_some hf
  refine wa_copy (pc := 80) cx lk_55 lk_11 (hi 55 (by decide) (by decide)) (cx.bl 11 rfl) g4 tw_550 (Nat.le_of_ble_eq_true rfl) (Nat.le_of_ble_eq_true rfl) dX9_becomeAs_80 ?_
  refine wa_aload_n (pc := 83) cx 1 dX9_becomeAs_83 rfl rfl ?_
  refine wa_getR (pc := 84) cx fl_X9_38 lk_52 rfl (hi 52 (by decide) (by decide)) dX9_becomeAs_84 ?_
  refine wa_iconst (pc := 87) (v := 0) cx dX9_becomeAs_87 (by decide) ?_
  refine wa_aload_n (pc := 88) cx 0 dX9_becomeAs_88 rfl rfl ?_
  refine wa_getR (pc := 89) cx fl_X9_38 lk_8 rfl (cx.bl 8 rfl) dX9_becomeAs_89 ?_
  refine wa_iconst (pc := 92) (v := 0) cx dX9_becomeAs_92 (by decide) ?_
  refine wa_bipush (pc := 93) (v := 9) cx dX9_becomeAs_93 (by decide) ?_
  obtain ⟨g5, hf⟩ := gd_some hf
  refine wa_copy (pc := 95) cx lk_56 lk_12 (hi 56 (by decide) (by decide)) (cx.bl 12 rfl) g5 tw_550 (Nat.le_of_ble_eq_true rfl) (Nat.le_of_ble_eq_true rfl) dX9_becomeAs_95 ?_
  refine wa_aload_n (pc := 98) cx 1 dX9_becomeAs_98 rfl rfl ?_
  refine wa_getR (pc := 99) cx fl_X9_41 lk_52 rfl (hi 52 (by decide) (by decide)) dX9_becomeAs_99 ?_
  refine wa_iconst (pc := 102) (v := 0) cx dX9_becomeAs_102 (by decide) ?_
  refine wa_aload_n (pc := 103) cx 0 dX9_becomeAs_103 rfl rfl ?_
  refine wa_getR (pc := 104) cx fl_X9_41 lk_8 rfl (cx.bl 8 rfl) dX9_becomeAs_104 ?_
  refine wa_iconst (pc := 107) (v := 0) cx dX9_becomeAs_107 (by decide) ?_
  refine wa_bipush (pc := 108) (v := 9) cx dX9_becomeAs_108 (by decide) ?_
  obtain ⟨g6, hf⟩ := gd_some hf
  refine wa_copy (pc := 110) cx lk_57 lk_13 (hi 57 (by decide) (by decide)) (cx.bl 13 rfl) g6 tw_550 (Nat.le_of_ble_eq_true rfl) (Nat.le_of_ble_eq_true rfl) dX9_becomeAs_110 ?_
  refine wa_aload_n (pc := 113) cx 1 dX9_becomeAs_113 rfl rfl ?_
  refine wa_getR (pc := 114) cx fl_X9_44 lk_52 rfl (hi 52 (by decide) (by decide)) dX9_becomeAs_114 ?_
  refine wa_iconst (pc := 117) (v := 0) cx dX9_becomeAs_117 (by decide) ?_
  refine wa_aload_n (pc := 118) cx 0 dX9_becomeAs_118 rfl rfl ?_
  refine wa_getR (pc := 119) cx fl_X9_44 lk_8 rfl (cx.bl 8 rfl) dX9_becomeAs_119 ?_
  refine wa_iconst (pc := 122) (v := 0) cx dX9_becomeAs_122 (by decide) ?_
  refine wa_bipush (pc := 123) (v := 36) cx dX9_becomeAs_123 (by decide) ?_
  obtain ⟨g7, hf⟩ := gd_some hf
  refine wa_copy (pc := 125) cx lk_58 lk_14 (hi 58 (by decide) (by decide)) (cx.bl 14 rfl) g7 tw_550 (Nat.le_of_ble_eq_true rfl) (Nat.le_of_ble_eq_true rfl) dX9_becomeAs_125 ?_
  obtain rfl := Option.some.inj hf
  exact wa_vret (pc := 128) cx dX9_becomeAs_128
def fX9_becomeAs_8_59  (σ : Sg) : Option (Sg) :=
  gd (isz (gf σ 59 0)) (
  gd (cpk 0 0 5 5 5) (
  gd (cpk 0 0 5 5 5) (
  gd (cpk 0 0 9 9 9) (
  gd (cpk 0 0 9 9 9) (
  gd (cpk 0 0 9 9 9) (
  gd (cpk 0 0 36 36 36) (
  some (scp (scp (scp (scp (scp (scp (sup (sup (sup (sup (sup σ 8 0 (gf σ 59 0)) 8 1 (gf (sup σ 8 0 (gf σ 59 0)) 59 1)) 8 2 (gf (sup (sup σ 8 0 (gf σ 59 0)) 8 1 (gf (sup σ 8 0 (gf σ 59 0)) 59 1)) 59 2)) 8 3 (gf (sup (sup (sup σ 8 0 (gf σ 59 0)) 8 1 (gf (sup σ 8 0 (gf σ 59 0)) 59 1)) 8 2 (gf (sup (sup σ 8 0 (gf σ 59 0)) 8 1 (gf (sup σ 8 0 (gf σ 59 0)) 59 1)) 59 2)) 59 3)) 8 4 (gf (sup (sup (sup (sup σ 8 0 (gf σ 59 0)) 8 1 (gf (sup σ 8 0 (gf σ 59 0)) 59 1)) 8 2 (gf (sup (sup σ 8 0 (gf σ 59 0)) 8 1 (gf (sup σ 8 0 (gf σ 59 0)) 59 1)) 59 2)) 8 3 (gf (sup (sup (sup σ 8 0 (gf σ 59 0)) 8 1 (gf (sup σ 8 0 (gf σ 59 0)) 59 1)) 8 2 (gf (sup (sup σ 8 0 (gf σ 59 0)) 8 1 (gf (sup σ 8 0 (gf σ 59 0)) 59 1)) 59 2)) 59 3)) 59 4)) 60 9 0 0 5) 61 10 0 0 5) 62 11 0 0 9) 63 12 0 0 9) 64 13 0 0 9) 65 14 0 0 36))))))))
set_option maxHeartbeats 4000000 in
set_option maxRecDepth 100000 in
theorem ct_X9_becomeAs_8_59 (l : Launch) (E : En) (hi : ∀ c, 59 ≤ c → c < 66 → c ∈ eL E) (σ : Sg)  (q : Sg) (hf : fX9_becomeAs_8_59  σ = some q) : CT l yX9_becomeAs cX9_becomeAs 2 none 1 E σ [.ref (eA E 8), .ref (eA E 59)] none q := by
  refine CT.of RX9 [some (.ref (eA E 8)), some (.ref (eA E 59))] rfl (by decide +kernel) (Nat.le_of_ble_eq_true rfl) rfl ?_
  intro p e s m args below meth c cx
  unfold fX9_becomeAs_8_59 at hf
  refine wa_aload_n (pc := 0) cx 0 dX9_becomeAs_0 rfl rfl ?_
  refine wa_aload_n (pc := 1) cx 1 dX9_becomeAs_1 rfl rfl ?_
  refine wa_getI (pc := 2) cx fl_X9_9 lk_59 rfl (hi 59 (by decide) (by decide)) dX9_becomeAs_2 ?_
  obtain ⟨g1, hf⟩ := gd_some hf
  refine wa_putZ (pc := 5) cx fp_X9_9 lk_8 rfl (cx.bl 8 rfl) g1 dX9_becomeAs_5 ?_
  refine wa_aload_n (pc := 8) cx 0 dX9_becomeAs_8 rfl rfl ?_
  refine wa_aload_n (pc := 9) cx 1 dX9_becomeAs_9 rfl rfl ?_
  refine wa_getI (pc := 10) cx fl_X9_15 lk_59 rfl (hi 59 (by decide) (by decide)) dX9_becomeAs_10 ?_
  refine wa_putI (pc := 13) cx fp_X9_15 lk_8 rfl (cx.bl 8 rfl) dX9_becomeAs_13 ?_
  refine wa_aload_n (pc := 16) cx 0 dX9_becomeAs_16 rfl rfl ?_
  refine wa_aload_n (pc := 17) cx 1 dX9_becomeAs_17 rfl rfl ?_
  refine wa_getI (pc := 18) cx fl_X9_19 lk_59 rfl (hi 59 (by decide) (by decide)) dX9_becomeAs_18 ?_
  refine wa_putI (pc := 21) cx fp_X9_19 lk_8 rfl (cx.bl 8 rfl) dX9_becomeAs_21 ?_
  refine wa_aload_n (pc := 24) cx 0 dX9_becomeAs_24 rfl rfl ?_
  refine wa_aload_n (pc := 25) cx 1 dX9_becomeAs_25 rfl rfl ?_
  refine wa_getI (pc := 26) cx fl_X9_22 lk_59 rfl (hi 59 (by decide) (by decide)) dX9_becomeAs_26 ?_
  refine wa_putI (pc := 29) cx fp_X9_22 lk_8 rfl (cx.bl 8 rfl) dX9_becomeAs_29 ?_
  refine wa_aload_n (pc := 32) cx 0 dX9_becomeAs_32 rfl rfl ?_
  refine wa_aload_n (pc := 33) cx 1 dX9_becomeAs_33 rfl rfl ?_
  refine wa_getI (pc := 34) cx fl_X9_25 lk_59 rfl (hi 59 (by decide) (by decide)) dX9_becomeAs_34 ?_
  refine wa_putI (pc := 37) cx fp_X9_25 lk_8 rfl (cx.bl 8 rfl) dX9_becomeAs_37 ?_
  refine wa_aload_n (pc := 40) cx 1 dX9_becomeAs_40 rfl rfl ?_
  refine wa_getR (pc := 41) cx fl_X9_28 lk_59 rfl (hi 59 (by decide) (by decide)) dX9_becomeAs_41 ?_
  refine wa_iconst (pc := 44) (v := 0) cx dX9_becomeAs_44 (by decide) ?_
  refine wa_aload_n (pc := 45) cx 0 dX9_becomeAs_45 rfl rfl ?_
  refine wa_getR (pc := 46) cx fl_X9_28 lk_8 rfl (cx.bl 8 rfl) dX9_becomeAs_46 ?_
  refine wa_iconst (pc := 49) (v := 0) cx dX9_becomeAs_49 (by decide) ?_
  refine wa_iconst (pc := 50) (v := 5) cx dX9_becomeAs_50 (by decide) ?_
  obtain ⟨g2, hf⟩ := gd_some hf
  refine wa_copy (pc := 51) cx lk_60 lk_9 (hi 60 (by decide) (by decide)) (cx.bl 9 rfl) g2 tw_550 (Nat.le_of_ble_eq_true rfl) (Nat.le_of_ble_eq_true rfl) dX9_becomeAs_51 ?_
  refine wa_aload_n (pc := 54) cx 1 dX9_becomeAs_54 rfl rfl ?_
  refine wa_getR (pc := 55) cx fl_X9_32 lk_59 rfl (hi 59 (by decide) (by decide)) dX9_becomeAs_55 ?_
  refine wa_iconst (pc := 58) (v := 0) cx dX9_becomeAs_58 (by decide) ?_
  refine wa_aload_n (pc := 59) cx 0 dX9_becomeAs_59 rfl rfl ?_
  refine wa_getR (pc := 60) cx fl_X9_32 lk_8 rfl (cx.bl 8 rfl) dX9_becomeAs_60 ?_
  refine wa_iconst (pc := 63) (v := 0) cx dX9_becomeAs_63 (by decide) ?_
  refine wa_iconst (pc := 64) (v := 5) cx dX9_becomeAs_64 (by decide) ?_
  obtain ⟨g3, hf⟩ := gd_some hf
  refine wa_copy (pc := 65) cx lk_61 lk_10 (hi 61 (by decide) (by decide)) (cx.bl 10 rfl) g3 tw_550 (Nat.le_of_ble_eq_true rfl) (Nat.le_of_ble_eq_true rfl) dX9_becomeAs_65 ?_
  refine wa_aload_n (pc := 68) cx 1 dX9_becomeAs_68 rfl rfl ?_
  refine wa_getR (pc := 69) cx fl_X9_35 lk_59 rfl (hi 59 (by decide) (by decide)) dX9_becomeAs_69 ?_
  refine wa_iconst (pc := 72) (v := 0) cx dX9_becomeAs_72 (by decide) ?_
  refine wa_aload_n (pc := 73) cx 0 dX9_becomeAs_73 rfl rfl ?_
  refine wa_getR (pc := 74) cx fl_X9_35 lk_8 rfl (cx.bl 8 rfl) dX9_becomeAs_74 ?_
  refine wa_iconst (pc := 77) (v := 0) cx dX9_becomeAs_77 (by decide) ?_
  refine wa_bipush (pc := 78) (v := 9) cx dX9_becomeAs_78 (by decide) ?_
  obtain ⟨g4, hf⟩ := gd_some hf
  refine wa_copy (pc := 80) cx lk_62 lk_11 (hi 62 (by decide) (by decide)) (cx.bl 11 rfl) g4 tw_550 (Nat.le_of_ble_eq_true rfl) (Nat.le_of_ble_eq_true rfl) dX9_becomeAs_80 ?_
  refine wa_aload_n (pc := 83) cx 1 dX9_becomeAs_83 rfl rfl ?_
  refine wa_getR (pc := 84) cx fl_X9_38 lk_59 rfl (hi 59 (by decide) (by decide)) dX9_becomeAs_84 ?_
  refine wa_iconst (pc := 87) (v := 0) cx dX9_becomeAs_87 (by decide) ?_
  refine wa_aload_n (pc := 88) cx 0 dX9_becomeAs_88 rfl rfl ?_
  refine wa_getR (pc := 89) cx fl_X9_38 lk_8 rfl (cx.bl 8 rfl) dX9_becomeAs_89 ?_
  refine wa_iconst (pc := 92) (v := 0) cx dX9_becomeAs_92 (by decide) ?_
  refine wa_bipush (pc := 93) (v := 9) cx dX9_becomeAs_93 (by decide) ?_
  obtain ⟨g5, hf⟩ := gd_some hf
  refine wa_copy (pc := 95) cx lk_63 lk_12 (hi 63 (by decide) (by decide)) (cx.bl 12 rfl) g5 tw_550 (Nat.le_of_ble_eq_true rfl) (Nat.le_of_ble_eq_true rfl) dX9_becomeAs_95 ?_
  refine wa_aload_n (pc := 98) cx 1 dX9_becomeAs_98 rfl rfl ?_
  refine wa_getR (pc := 99) cx fl_X9_41 lk_59 rfl (hi 59 (by decide) (by decide)) dX9_becomeAs_99 ?_
  refine wa_iconst (pc := 102) (v := 0) cx dX9_becomeAs_102 (by decide) ?_
  refine wa_aload_n (pc := 103) cx 0 dX9_becomeAs_103 rfl rfl ?_
  refine wa_getR (pc := 104) cx fl_X9_41 lk_8 rfl (cx.bl 8 rfl) dX9_becomeAs_104 ?_
  refine wa_iconst (pc := 107) (v := 0) cx dX9_becomeAs_107 (by decide) ?_
  refine wa_bipush (pc := 108) (v := 9) cx dX9_becomeAs_108 (by decide) ?_
  obtain ⟨g6, hf⟩ := gd_some hf
  refine wa_copy (pc := 110) cx lk_64 lk_13 (hi 64 (by decide) (by decide)) (cx.bl 13 rfl) g6 tw_550 (Nat.le_of_ble_eq_true rfl) (Nat.le_of_ble_eq_true rfl) dX9_becomeAs_110 ?_
  refine wa_aload_n (pc := 113) cx 1 dX9_becomeAs_113 rfl rfl ?_
  refine wa_getR (pc := 114) cx fl_X9_44 lk_59 rfl (hi 59 (by decide) (by decide)) dX9_becomeAs_114 ?_
  refine wa_iconst (pc := 117) (v := 0) cx dX9_becomeAs_117 (by decide) ?_
  refine wa_aload_n (pc := 118) cx 0 dX9_becomeAs_118 rfl rfl ?_
  refine wa_getR (pc := 119) cx fl_X9_44 lk_8 rfl (cx.bl 8 rfl) dX9_becomeAs_119 ?_
  refine wa_iconst (pc := 122) (v := 0) cx dX9_becomeAs_122 (by decide) ?_
  refine wa_bipush (pc := 123) (v := 36) cx dX9_becomeAs_123 (by decide) ?_
  obtain ⟨g7, hf⟩ := gd_some hf
  refine wa_copy (pc := 125) cx lk_65 lk_14 (hi 65 (by decide) (by decide)) (cx.bl 14 rfl) g7 tw_550 (Nat.le_of_ble_eq_true rfl) (Nat.le_of_ble_eq_true rfl) dX9_becomeAs_125 ?_
  obtain rfl := Option.some.inj hf
  exact wa_vret (pc := 128) cx dX9_becomeAs_128
