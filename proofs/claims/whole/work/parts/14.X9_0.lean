def fX9_begin_15_B17  (v1 : Int32) (σ : Sg) : Option ((Int32 × Sg) ⊕ (Sg)) :=
  if (9 : Int32) ≤ v1 then (some (.inr σ)) else (gd (inb (0 + v1) 36) (
  gd (inb (9 + v1) 36) (
  gd (inb (18 + v1) 36) (
  gd (inb (27 + v1) 36) (
  some (.inl ((v1 + 1), sa (sa (sa (sa σ 21 (0 + v1) (-1)) 21 (9 + v1) 0) 21 (18 + v1) 0) 21 (27 + v1) 0)))))))
def fX9_begin_15  (σ : Sg) : Option (Sg) :=
  (lpO (fun w => fX9_begin_15_B17  w.1 w.2) FUEL (0, sup (sup (sup σ 15 0 1) 15 3 0) 15 4 0)).bind (fun o6 =>
  some o6)
set_option maxHeartbeats 4000000 in
set_option maxRecDepth 100000 in
theorem ct_X9_begin_15 (l : Launch) (E : En) (σ : Sg)  (q : Sg) (hf : fX9_begin_15  σ = some q) : CT l yX9_begin cX9_begin 2 none 0 E σ [.ref (eA E 15)] none q := by
  refine CT.of RX9 [some (.ref (eA E 15)), none] rfl (by decide +kernel) (Nat.le_of_ble_eq_true rfl) rfl ?_
  intro p e s m args below meth c cx
  unfold fX9_begin_15 at hf
  have l17 : ∀  (y : Int32 × Sg) (o : Sg), lpO (fun w => fX9_begin_15_B17  w.1 w.2) FUEL y = some o → (WA p l e (rmd 0) s m args below meth c 2 E 0 0 (MQ below (Qcq E s.heap.size (none) q) args s 0 0 (AE E s.heap.size)) 68 [none, none] [] o) → WA p l e (rmd 0) s m args below meth c 2 E 0 0 (MQ below (Qcq E s.heap.size (none) q) args s 0 0 (AE E s.heap.size)) 17 [some (.ref (eA E 15)), some (.int y.1)] [] y.2 := by
    intro  y o hf hk
    refine lp_rule (P := fun y => WA p l e (rmd 0) s m args below meth c 2 E 0 0 (MQ below (Qcq E s.heap.size (none) q) args s 0 0 (AE E s.heap.size)) 17 [some (.ref (eA E 15)), some (.int y.1)] [] y.2) (K := fun o => WA p l e (rmd 0) s m args below meth c 2 E 0 0 (MQ below (Qcq E s.heap.size (none) q) args s 0 0 (AE E s.heap.size)) 68 [none, none] [] o) ?_ FUEL y o hf hk
    intro y0 r1 hf hk1
    obtain ⟨v1, σ⟩ := y0
    have hf : fX9_begin_15_B17  v1 σ = some r1 := hf
    unfold fX9_begin_15_B17 at hf
    refine wa_iload_n (pc := 17) cx 1 dX9_begin_17 rfl rfl ?_
    refine wa_bipush (pc := 18) (v := 9) cx dX9_begin_18 (by decide) ?_
    refine wa_icmp_ge (pc := 20) cx 68 dX9_begin_20 rfl (fun c1 => ?_) (fun c1 => ?_)
    · have hf := (if_pos c1).symm.trans hf
      obtain rfl := Option.some.inj hf
      refine wa_forget [false, false] [none, none] rfl ?_
      exact hk1
    · have hf := (if_neg c1).symm.trans hf
      refine wa_aload_n (pc := 23) cx 0 dX9_begin_23 rfl rfl ?_
      refine wa_getR (pc := 24) cx fl_X9_44 lk_15 rfl (cx.bl 15 rfl) dX9_begin_24 ?_
      refine wa_iconst (pc := 27) (v := 0) cx dX9_begin_27 (by decide) ?_
      refine wa_iload_n (pc := 28) cx 1 dX9_begin_28 rfl rfl ?_
      refine wa_iadd (pc := 29) cx dX9_begin_29 ?_
      refine wa_iconst (pc := 30) (v := (-1)) cx dX9_begin_30 (by decide) ?_
      obtain ⟨g2, hf⟩ := gd_some hf
      refine wa_iast (pc := 31) cx lk_21 (cx.bl 21 rfl) g2 dX9_begin_31 ?_
      refine wa_aload_n (pc := 32) cx 0 dX9_begin_32 rfl rfl ?_
      refine wa_getR (pc := 33) cx fl_X9_44 lk_15 rfl (cx.bl 15 rfl) dX9_begin_33 ?_
      refine wa_bipush (pc := 36) (v := 9) cx dX9_begin_36 (by decide) ?_
      refine wa_iload_n (pc := 38) cx 1 dX9_begin_38 rfl rfl ?_
      refine wa_iadd (pc := 39) cx dX9_begin_39 ?_
      refine wa_iconst (pc := 40) (v := 0) cx dX9_begin_40 (by decide) ?_
      obtain ⟨g3, hf⟩ := gd_some hf
      refine wa_iast (pc := 41) cx lk_21 (cx.bl 21 rfl) g3 dX9_begin_41 ?_
      refine wa_aload_n (pc := 42) cx 0 dX9_begin_42 rfl rfl ?_
      refine wa_getR (pc := 43) cx fl_X9_44 lk_15 rfl (cx.bl 15 rfl) dX9_begin_43 ?_
      refine wa_bipush (pc := 46) (v := 18) cx dX9_begin_46 (by decide) ?_
      refine wa_iload_n (pc := 48) cx 1 dX9_begin_48 rfl rfl ?_
      refine wa_iadd (pc := 49) cx dX9_begin_49 ?_
      refine wa_iconst (pc := 50) (v := 0) cx dX9_begin_50 (by decide) ?_
      obtain ⟨g4, hf⟩ := gd_some hf
      refine wa_iast (pc := 51) cx lk_21 (cx.bl 21 rfl) g4 dX9_begin_51 ?_
      refine wa_aload_n (pc := 52) cx 0 dX9_begin_52 rfl rfl ?_
      refine wa_getR (pc := 53) cx fl_X9_44 lk_15 rfl (cx.bl 15 rfl) dX9_begin_53 ?_
      refine wa_bipush (pc := 56) (v := 27) cx dX9_begin_56 (by decide) ?_
      refine wa_iload_n (pc := 58) cx 1 dX9_begin_58 rfl rfl ?_
      refine wa_iadd (pc := 59) cx dX9_begin_59 ?_
      refine wa_iconst (pc := 60) (v := 0) cx dX9_begin_60 (by decide) ?_
      obtain ⟨g5, hf⟩ := gd_some hf
      refine wa_iast (pc := 61) cx lk_21 (cx.bl 21 rfl) g5 dX9_begin_61 ?_
      refine wa_iinc (pc := 62) (v := 1) cx 1 [some (.ref (eA E 15)), some (.int (v1 + 1))] dX9_begin_62 (by decide) rfl (by decide) rfl rfl ?_
      refine wa_goto (pc := 65) cx 17 dX9_begin_65 rfl ?_
      obtain rfl := Option.some.inj hf
      refine wa_forget [true, true] [some (.ref (eA E 15)), some (.int (v1 + 1))] rfl ?_
      exact hk1
  refine wa_aload_n (pc := 0) cx 0 dX9_begin_0 rfl rfl ?_
  refine wa_iconst (pc := 1) (v := 1) cx dX9_begin_1 (by decide) ?_
  refine wa_putZ (pc := 2) cx fp_X9_9 lk_15 rfl (cx.bl 15 rfl) rfl dX9_begin_2 ?_
  refine wa_aload_n (pc := 5) cx 0 dX9_begin_5 rfl rfl ?_
  refine wa_iconst (pc := 6) (v := 0) cx dX9_begin_6 (by decide) ?_
  refine wa_putI (pc := 7) cx fp_X9_22 lk_15 rfl (cx.bl 15 rfl) dX9_begin_7 ?_
  refine wa_aload_n (pc := 10) cx 0 dX9_begin_10 rfl rfl ?_
  refine wa_iconst (pc := 11) (v := 0) cx dX9_begin_11 (by decide) ?_
  refine wa_putI (pc := 12) cx fp_X9_25 lk_15 rfl (cx.bl 15 rfl) dX9_begin_12 ?_
  refine wa_iconst (pc := 15) (v := 0) cx dX9_begin_15 (by decide) ?_
  refine wa_istore_n (pc := 16) cx 1 [some (.ref (eA E 15)), some (.int 0)] dX9_begin_16 rfl (by decide) rfl rfl ?_
  obtain ⟨o6, h7, hf⟩ := bd_some hf
  refine l17  _ _ h7 ?_
  obtain rfl := Option.some.inj hf
  exact wa_vret (pc := 68) cx dX9_begin_68
def fX9_becomeAs_8_15  (σ : Sg) : Option (Sg) :=
  gd (isz (gf σ 15 0)) (
  gd (cpk 0 0 5 5 5) (
  gd (cpk 0 0 5 5 5) (
  gd (cpk 0 0 9 9 9) (
  gd (cpk 0 0 9 9 9) (
  gd (cpk 0 0 9 9 9) (
  gd (cpk 0 0 36 36 36) (
  some (scp (scp (scp (scp (scp (scp (sup (sup (sup (sup (sup σ 8 0 (gf σ 15 0)) 8 1 (gf (sup σ 8 0 (gf σ 15 0)) 15 1)) 8 2 (gf (sup (sup σ 8 0 (gf σ 15 0)) 8 1 (gf (sup σ 8 0 (gf σ 15 0)) 15 1)) 15 2)) 8 3 (gf (sup (sup (sup σ 8 0 (gf σ 15 0)) 8 1 (gf (sup σ 8 0 (gf σ 15 0)) 15 1)) 8 2 (gf (sup (sup σ 8 0 (gf σ 15 0)) 8 1 (gf (sup σ 8 0 (gf σ 15 0)) 15 1)) 15 2)) 15 3)) 8 4 (gf (sup (sup (sup (sup σ 8 0 (gf σ 15 0)) 8 1 (gf (sup σ 8 0 (gf σ 15 0)) 15 1)) 8 2 (gf (sup (sup σ 8 0 (gf σ 15 0)) 8 1 (gf (sup σ 8 0 (gf σ 15 0)) 15 1)) 15 2)) 8 3 (gf (sup (sup (sup σ 8 0 (gf σ 15 0)) 8 1 (gf (sup σ 8 0 (gf σ 15 0)) 15 1)) 8 2 (gf (sup (sup σ 8 0 (gf σ 15 0)) 8 1 (gf (sup σ 8 0 (gf σ 15 0)) 15 1)) 15 2)) 15 3)) 15 4)) 16 9 0 0 5) 17 10 0 0 5) 18 11 0 0 9) 19 12 0 0 9) 20 13 0 0 9) 21 14 0 0 36))))))))
set_option maxHeartbeats 4000000 in
set_option maxRecDepth 100000 in
theorem ct_X9_becomeAs_8_15 (l : Launch) (E : En) (σ : Sg)  (q : Sg) (hf : fX9_becomeAs_8_15  σ = some q) : CT l yX9_becomeAs cX9_becomeAs 2 none 1 E σ [.ref (eA E 8), .ref (eA E 15)] none q := by
  refine CT.of RX9 [some (.ref (eA E 8)), some (.ref (eA E 15))] rfl (by decide +kernel) (Nat.le_of_ble_eq_true rfl) rfl ?_
  intro p e s m args below meth c cx
  unfold fX9_becomeAs_8_15 at hf
  refine wa_aload_n (pc := 0) cx 0 dX9_becomeAs_0 rfl rfl ?_
  refine wa_aload_n (pc := 1) cx 1 dX9_becomeAs_1 rfl rfl ?_
  refine wa_getI (pc := 2) cx fl_X9_9 lk_15 rfl (cx.bl 15 rfl) dX9_becomeAs_2 ?_
  obtain ⟨g1, hf⟩ := gd_some hf
  refine wa_putZ (pc := 5) cx fp_X9_9 lk_8 rfl (cx.bl 8 rfl) g1 dX9_becomeAs_5 ?_
  refine wa_aload_n (pc := 8) cx 0 dX9_becomeAs_8 rfl rfl ?_
  refine wa_aload_n (pc := 9) cx 1 dX9_becomeAs_9 rfl rfl ?_
  refine wa_getI (pc := 10) cx fl_X9_15 lk_15 rfl (cx.bl 15 rfl) dX9_becomeAs_10 ?_
  refine wa_putI (pc := 13) cx fp_X9_15 lk_8 rfl (cx.bl 8 rfl) dX9_becomeAs_13 ?_
  refine wa_aload_n (pc := 16) cx 0 dX9_becomeAs_16 rfl rfl ?_
  refine wa_aload_n (pc := 17) cx 1 dX9_becomeAs_17 rfl rfl ?_
  refine wa_getI (pc := 18) cx fl_X9_19 lk_15 rfl (cx.bl 15 rfl) dX9_becomeAs_18 ?_
  refine wa_putI (pc := 21) cx fp_X9_19 lk_8 rfl (cx.bl 8 rfl) dX9_becomeAs_21 ?_
  refine wa_aload_n (pc := 24) cx 0 dX9_becomeAs_24 rfl rfl ?_
  refine wa_aload_n (pc := 25) cx 1 dX9_becomeAs_25 rfl rfl ?_
  refine wa_getI (pc := 26) cx fl_X9_22 lk_15 rfl (cx.bl 15 rfl) dX9_becomeAs_26 ?_
  refine wa_putI (pc := 29) cx fp_X9_22 lk_8 rfl (cx.bl 8 rfl) dX9_becomeAs_29 ?_
  refine wa_aload_n (pc := 32) cx 0 dX9_becomeAs_32 rfl rfl ?_
  refine wa_aload_n (pc := 33) cx 1 dX9_becomeAs_33 rfl rfl ?_
  refine wa_getI (pc := 34) cx fl_X9_25 lk_15 rfl (cx.bl 15 rfl) dX9_becomeAs_34 ?_
  refine wa_putI (pc := 37) cx fp_X9_25 lk_8 rfl (cx.bl 8 rfl) dX9_becomeAs_37 ?_
  refine wa_aload_n (pc := 40) cx 1 dX9_becomeAs_40 rfl rfl ?_
  refine wa_getR (pc := 41) cx fl_X9_28 lk_15 rfl (cx.bl 15 rfl) dX9_becomeAs_41 ?_
  refine wa_iconst (pc := 44) (v := 0) cx dX9_becomeAs_44 (by decide) ?_
  refine wa_aload_n (pc := 45) cx 0 dX9_becomeAs_45 rfl rfl ?_
  refine wa_getR (pc := 46) cx fl_X9_28 lk_8 rfl (cx.bl 8 rfl) dX9_becomeAs_46 ?_
  refine wa_iconst (pc := 49) (v := 0) cx dX9_becomeAs_49 (by decide) ?_
  refine wa_iconst (pc := 50) (v := 5) cx dX9_becomeAs_50 (by decide) ?_
  obtain ⟨g2, hf⟩ := gd_some hf
  refine wa_copy (pc := 51) cx lk_16 lk_9 (cx.bl 16 rfl) (cx.bl 9 rfl) g2 tw_550 (Nat.le_of_ble_eq_true rfl) (Nat.le_of_ble_eq_true rfl) dX9_becomeAs_51 ?_
  refine wa_aload_n (pc := 54) cx 1 dX9_becomeAs_54 rfl rfl ?_
  refine wa_getR (pc := 55) cx fl_X9_32 lk_15 rfl (cx.bl 15 rfl) dX9_becomeAs_55 ?_
  refine wa_iconst (pc := 58) (v := 0) cx dX9_becomeAs_58 (by decide) ?_
  refine wa_aload_n (pc := 59) cx 0 dX9_becomeAs_59 rfl rfl ?_
  refine wa_getR (pc := 60) cx fl_X9_32 lk_8 rfl (cx.bl 8 rfl) dX9_becomeAs_60 ?_
  refine wa_iconst (pc := 63) (v := 0) cx dX9_becomeAs_63 (by decide) ?_
  refine wa_iconst (pc := 64) (v := 5) cx dX9_becomeAs_64 (by decide) ?_
  obtain ⟨g3, hf⟩ := gd_some hf
  refine wa_copy (pc := 65) cx lk_17 lk_10 (cx.bl 17 rfl) (cx.bl 10 rfl) g3 tw_550 (Nat.le_of_ble_eq_true rfl) (Nat.le_of_ble_eq_true rfl) dX9_becomeAs_65 ?_
  refine wa_aload_n (pc := 68) cx 1 dX9_becomeAs_68 rfl rfl ?_
  refine wa_getR (pc := 69) cx fl_X9_35 lk_15 rfl (cx.bl 15 rfl) dX9_becomeAs_69 ?_
  refine wa_iconst (pc := 72) (v := 0) cx dX9_becomeAs_72 (by decide) ?_
  refine wa_aload_n (pc := 73) cx 0 dX9_becomeAs_73 rfl rfl ?_
  refine wa_getR (pc := 74) cx fl_X9_35 lk_8 rfl (cx.bl 8 rfl) dX9_becomeAs_74 ?_
  refine wa_iconst (pc := 77) (v := 0) cx dX9_becomeAs_77 (by decide) ?_
  refine wa_bipush (pc := 78) (v := 9) cx dX9_becomeAs_78 (by decide) ?_
  obtain ⟨g4, hf⟩ := gd_some hf
  refine wa_copy (pc := 80) cx lk_18 lk_11 (cx.bl 18 rfl) (cx.bl 11 rfl) g4 tw_550 (Nat.le_of_ble_eq_true rfl) (Nat.le_of_ble_eq_true rfl) dX9_becomeAs_80 ?_
  refine wa_aload_n (pc := 83) cx 1 dX9_becomeAs_83 rfl rfl ?_
  refine wa_getR (pc := 84) cx fl_X9_38 lk_15 rfl (cx.bl 15 rfl) dX9_becomeAs_84 ?_
  refine wa_iconst (pc := 87) (v := 0) cx dX9_becomeAs_87 (by decide) ?_
  refine wa_aload_n (pc := 88) cx 0 dX9_becomeAs_88 rfl rfl ?_
  refine wa_getR (pc := 89) cx fl_X9_38 lk_8 rfl (cx.bl 8 rfl) dX9_becomeAs_89 ?_
  refine wa_iconst (pc := 92) (v := 0) cx dX9_becomeAs_92 (by decide) ?_
  refine wa_bipush (pc := 93) (v := 9) cx dX9_becomeAs_93 (by decide) ?_
  obtain ⟨g5, hf⟩ := gd_some hf
  refine wa_copy (pc := 95) cx lk_19 lk_12 (cx.bl 19 rfl) (cx.bl 12 rfl) g5 tw_550 (Nat.le_of_ble_eq_true rfl) (Nat.le_of_ble_eq_true rfl) dX9_becomeAs_95 ?_
  refine wa_aload_n (pc := 98) cx 1 dX9_becomeAs_98 rfl rfl ?_
  refine wa_getR (pc := 99) cx fl_X9_41 lk_15 rfl (cx.bl 15 rfl) dX9_becomeAs_99 ?_
  refine wa_iconst (pc := 102) (v := 0) cx dX9_becomeAs_102 (by decide) ?_
  refine wa_aload_n (pc := 103) cx 0 dX9_becomeAs_103 rfl rfl ?_
  refine wa_getR (pc := 104) cx fl_X9_41 lk_8 rfl (cx.bl 8 rfl) dX9_becomeAs_104 ?_
  refine wa_iconst (pc := 107) (v := 0) cx dX9_becomeAs_107 (by decide) ?_
  refine wa_bipush (pc := 108) (v := 9) cx dX9_becomeAs_108 (by decide) ?_
  obtain ⟨g6, hf⟩ := gd_some hf
  refine wa_copy (pc := 110) cx lk_20 lk_13 (cx.bl 20 rfl) (cx.bl 13 rfl) g6 tw_550 (Nat.le_of_ble_eq_true rfl) (Nat.le_of_ble_eq_true rfl) dX9_becomeAs_110 ?_
  refine wa_aload_n (pc := 113) cx 1 dX9_becomeAs_113 rfl rfl ?_
  refine wa_getR (pc := 114) cx fl_X9_44 lk_15 rfl (cx.bl 15 rfl) dX9_becomeAs_114 ?_
  refine wa_iconst (pc := 117) (v := 0) cx dX9_becomeAs_117 (by decide) ?_
  refine wa_aload_n (pc := 118) cx 0 dX9_becomeAs_118 rfl rfl ?_
  refine wa_getR (pc := 119) cx fl_X9_44 lk_8 rfl (cx.bl 8 rfl) dX9_becomeAs_119 ?_
  refine wa_iconst (pc := 122) (v := 0) cx dX9_becomeAs_122 (by decide) ?_
  refine wa_bipush (pc := 123) (v := 36) cx dX9_becomeAs_123 (by decide) ?_
  obtain ⟨g7, hf⟩ := gd_some hf
  refine wa_copy (pc := 125) cx lk_21 lk_14 (cx.bl 21 rfl) (cx.bl 14 rfl) g7 tw_550 (Nat.le_of_ble_eq_true rfl) (Nat.le_of_ble_eq_true rfl) dX9_becomeAs_125 ?_
  obtain rfl := Option.some.inj hf
  exact wa_vret (pc := 128) cx dX9_becomeAs_128
def fX9_begin_B17  (v1 : Int32) (σ : Sg) : Option ((Int32 × Sg) ⊕ (Sg)) :=
  if (9 : Int32) ≤ v1 then (some (.inr σ)) else (gd (inb (0 + v1) 36) (
  gd (inb (9 + v1) 36) (
  gd (inb (18 + v1) 36) (
  gd (inb (27 + v1) 36) (
  some (.inl ((v1 + 1), sa (sa (sa (sa σ 14 (0 + v1) (-1)) 14 (9 + v1) 0) 14 (18 + v1) 0) 14 (27 + v1) 0)))))))
def fX9_begin  (σ : Sg) : Option (Sg) :=
  (lpO (fun w => fX9_begin_B17  w.1 w.2) FUEL (0, sup (sup (sup σ 8 0 1) 8 3 0) 8 4 0)).bind (fun o6 =>
  some o6)
set_option maxHeartbeats 4000000 in
set_option maxRecDepth 100000 in
theorem ct_X9_begin (l : Launch) (E : En) (σ : Sg)  (q : Sg) (hf : fX9_begin  σ = some q) : CT l yX9_begin cX9_begin 2 none 0 E σ [.ref (eA E 8)] none q := by
  refine CT.of RX9 [some (.ref (eA E 8)), none] rfl (by decide +kernel) (Nat.le_of_ble_eq_true rfl) rfl ?_
  intro p e s m args below meth c cx
  unfold fX9_begin at hf
  have l17 : ∀  (y : Int32 × Sg) (o : Sg), lpO (fun w => fX9_begin_B17  w.1 w.2) FUEL y = some o → (WA p l e (rmd 0) s m args below meth c 2 E 0 0 (MQ below (Qcq E s.heap.size (none) q) args s 0 0 (AE E s.heap.size)) 68 [none, none] [] o) → WA p l e (rmd 0) s m args below meth c 2 E 0 0 (MQ below (Qcq E s.heap.size (none) q) args s 0 0 (AE E s.heap.size)) 17 [some (.ref (eA E 8)), some (.int y.1)] [] y.2 := by
    intro  y o hf hk
    refine lp_rule (P := fun y => WA p l e (rmd 0) s m args below meth c 2 E 0 0 (MQ below (Qcq E s.heap.size (none) q) args s 0 0 (AE E s.heap.size)) 17 [some (.ref (eA E 8)), some (.int y.1)] [] y.2) (K := fun o => WA p l e (rmd 0) s m args below meth c 2 E 0 0 (MQ below (Qcq E s.heap.size (none) q) args s 0 0 (AE E s.heap.size)) 68 [none, none] [] o) ?_ FUEL y o hf hk
    intro y0 r1 hf hk1
    obtain ⟨v1, σ⟩ := y0
    have hf : fX9_begin_B17  v1 σ = some r1 := hf
    unfold fX9_begin_B17 at hf
    refine wa_iload_n (pc := 17) cx 1 dX9_begin_17 rfl rfl ?_
    refine wa_bipush (pc := 18) (v := 9) cx dX9_begin_18 (by decide) ?_
    refine wa_icmp_ge (pc := 20) cx 68 dX9_begin_20 rfl (fun c1 => ?_) (fun c1 => ?_)
    · have hf := (if_pos c1).symm.trans hf
      obtain rfl := Option.some.inj hf
      refine wa_forget [false, false] [none, none] rfl ?_
      exact hk1
    · have hf := (if_neg c1).symm.trans hf
      refine wa_aload_n (pc := 23) cx 0 dX9_begin_23 rfl rfl ?_
      refine wa_getR (pc := 24) cx fl_X9_44 lk_8 rfl (cx.bl 8 rfl) dX9_begin_24 ?_
      refine wa_iconst (pc := 27) (v := 0) cx dX9_begin_27 (by decide) ?_
      refine wa_iload_n (pc := 28) cx 1 dX9_begin_28 rfl rfl ?_
      refine wa_iadd (pc := 29) cx dX9_begin_29 ?_
      refine wa_iconst (pc := 30) (v := (-1)) cx dX9_begin_30 (by decide) ?_
      obtain ⟨g2, hf⟩ := gd_some hf
      refine wa_iast (pc := 31) cx lk_14 (cx.bl 14 rfl) g2 dX9_begin_31 ?_
      refine wa_aload_n (pc := 32) cx 0 dX9_begin_32 rfl rfl ?_
      refine wa_getR (pc := 33) cx fl_X9_44 lk_8 rfl (cx.bl 8 rfl) dX9_begin_33 ?_
      refine wa_bipush (pc := 36) (v := 9) cx dX9_begin_36 (by decide) ?_
      refine wa_iload_n (pc := 38) cx 1 dX9_begin_38 rfl rfl ?_
      refine wa_iadd (pc := 39) cx dX9_begin_39 ?_
      refine wa_iconst (pc := 40) (v := 0) cx dX9_begin_40 (by decide) ?_
      obtain ⟨g3, hf⟩ := gd_some hf
      refine wa_iast (pc := 41) cx lk_14 (cx.bl 14 rfl) g3 dX9_begin_41 ?_
      refine wa_aload_n (pc := 42) cx 0 dX9_begin_42 rfl rfl ?_
      refine wa_getR (pc := 43) cx fl_X9_44 lk_8 rfl (cx.bl 8 rfl) dX9_begin_43 ?_
      refine wa_bipush (pc := 46) (v := 18) cx dX9_begin_46 (by decide) ?_
      refine wa_iload_n (pc := 48) cx 1 dX9_begin_48 rfl rfl ?_
      refine wa_iadd (pc := 49) cx dX9_begin_49 ?_
      refine wa_iconst (pc := 50) (v := 0) cx dX9_begin_50 (by decide) ?_
      obtain ⟨g4, hf⟩ := gd_some hf
      refine wa_iast (pc := 51) cx lk_14 (cx.bl 14 rfl) g4 dX9_begin_51 ?_
      refine wa_aload_n (pc := 52) cx 0 dX9_begin_52 rfl rfl ?_
      refine wa_getR (pc := 53) cx fl_X9_44 lk_8 rfl (cx.bl 8 rfl) dX9_begin_53 ?_
      refine wa_bipush (pc := 56) (v := 27) cx dX9_begin_56 (by decide) ?_
      refine wa_iload_n (pc := 58) cx 1 dX9_begin_58 rfl rfl ?_
      refine wa_iadd (pc := 59) cx dX9_begin_59 ?_
      refine wa_iconst (pc := 60) (v := 0) cx dX9_begin_60 (by decide) ?_
      obtain ⟨g5, hf⟩ := gd_some hf
      refine wa_iast (pc := 61) cx lk_14 (cx.bl 14 rfl) g5 dX9_begin_61 ?_
      refine wa_iinc (pc := 62) (v := 1) cx 1 [some (.ref (eA E 8)), some (.int (v1 + 1))] dX9_begin_62 (by decide) rfl (by decide) rfl rfl ?_
      refine wa_goto (pc := 65) cx 17 dX9_begin_65 rfl ?_
      obtain rfl := Option.some.inj hf
      refine wa_forget [true, true] [some (.ref (eA E 8)), some (.int (v1 + 1))] rfl ?_
      exact hk1
  refine wa_aload_n (pc := 0) cx 0 dX9_begin_0 rfl rfl ?_
  refine wa_iconst (pc := 1) (v := 1) cx dX9_begin_1 (by decide) ?_
  refine wa_putZ (pc := 2) cx fp_X9_9 lk_8 rfl (cx.bl 8 rfl) rfl dX9_begin_2 ?_
  refine wa_aload_n (pc := 5) cx 0 dX9_begin_5 rfl rfl ?_
  refine wa_iconst (pc := 6) (v := 0) cx dX9_begin_6 (by decide) ?_
  refine wa_putI (pc := 7) cx fp_X9_22 lk_8 rfl (cx.bl 8 rfl) dX9_begin_7 ?_
  refine wa_aload_n (pc := 10) cx 0 dX9_begin_10 rfl rfl ?_
  refine wa_iconst (pc := 11) (v := 0) cx dX9_begin_11 (by decide) ?_
  refine wa_putI (pc := 12) cx fp_X9_25 lk_8 rfl (cx.bl 8 rfl) dX9_begin_12 ?_
  refine wa_iconst (pc := 15) (v := 0) cx dX9_begin_15 (by decide) ?_
  refine wa_istore_n (pc := 16) cx 1 [some (.ref (eA E 8)), some (.int 0)] dX9_begin_16 rfl (by decide) rfl rfl ?_
  obtain ⟨o6, h7, hf⟩ := bd_some hf
  refine l17  _ _ h7 ?_
  obtain rfl := Option.some.inj hf
  exact wa_vret (pc := 68) cx dX9_begin_68
def fX9_becomeAs  (σ : Sg) : Option (Sg) :=
  gd (isz (gf σ 8 0)) (
  gd (cpk 0 0 5 5 5) (
  gd (cpk 0 0 5 5 5) (
  gd (cpk 0 0 9 9 9) (
  gd (cpk 0 0 9 9 9) (
  gd (cpk 0 0 9 9 9) (
  gd (cpk 0 0 36 36 36) (
  some (scp (scp (scp (scp (scp (scp (sup (sup (sup (sup (sup σ 8 0 (gf σ 8 0)) 8 1 (gf (sup σ 8 0 (gf σ 8 0)) 8 1)) 8 2 (gf (sup (sup σ 8 0 (gf σ 8 0)) 8 1 (gf (sup σ 8 0 (gf σ 8 0)) 8 1)) 8 2)) 8 3 (gf (sup (sup (sup σ 8 0 (gf σ 8 0)) 8 1 (gf (sup σ 8 0 (gf σ 8 0)) 8 1)) 8 2 (gf (sup (sup σ 8 0 (gf σ 8 0)) 8 1 (gf (sup σ 8 0 (gf σ 8 0)) 8 1)) 8 2)) 8 3)) 8 4 (gf (sup (sup (sup (sup σ 8 0 (gf σ 8 0)) 8 1 (gf (sup σ 8 0 (gf σ 8 0)) 8 1)) 8 2 (gf (sup (sup σ 8 0 (gf σ 8 0)) 8 1 (gf (sup σ 8 0 (gf σ 8 0)) 8 1)) 8 2)) 8 3 (gf (sup (sup (sup σ 8 0 (gf σ 8 0)) 8 1 (gf (sup σ 8 0 (gf σ 8 0)) 8 1)) 8 2 (gf (sup (sup σ 8 0 (gf σ 8 0)) 8 1 (gf (sup σ 8 0 (gf σ 8 0)) 8 1)) 8 2)) 8 3)) 8 4)) 9 9 0 0 5) 10 10 0 0 5) 11 11 0 0 9) 12 12 0 0 9) 13 13 0 0 9) 14 14 0 0 36))))))))
set_option maxHeartbeats 4000000 in
set_option maxRecDepth 100000 in
theorem ct_X9_becomeAs (l : Launch) (E : En) (σ : Sg)  (q : Sg) (hf : fX9_becomeAs  σ = some q) : CT l yX9_becomeAs cX9_becomeAs 2 none 1 E σ [.ref (eA E 8), .ref (eA E 8)] none q := by
  refine CT.of RX9 [some (.ref (eA E 8)), some (.ref (eA E 8))] rfl (by decide +kernel) (Nat.le_of_ble_eq_true rfl) rfl ?_
  intro p e s m args below meth c cx
  unfold fX9_becomeAs at hf
  refine wa_aload_n (pc := 0) cx 0 dX9_becomeAs_0 rfl rfl ?_
  refine wa_aload_n (pc := 1) cx 1 dX9_becomeAs_1 rfl rfl ?_
  refine wa_getI (pc := 2) cx fl_X9_9 lk_8 rfl (cx.bl 8 rfl) dX9_becomeAs_2 ?_
  obtain ⟨g1, hf⟩ := gd_some hf
  refine wa_putZ (pc := 5) cx fp_X9_9 lk_8 rfl (cx.bl 8 rfl) g1 dX9_becomeAs_5 ?_
  refine wa_aload_n (pc := 8) cx 0 dX9_becomeAs_8 rfl rfl ?_
  refine wa_aload_n (pc := 9) cx 1 dX9_becomeAs_9 rfl rfl ?_
  refine wa_getI (pc := 10) cx fl_X9_15 lk_8 rfl (cx.bl 8 rfl) dX9_becomeAs_10 ?_
  refine wa_putI (pc := 13) cx fp_X9_15 lk_8 rfl (cx.bl 8 rfl) dX9_becomeAs_13 ?_
  refine wa_aload_n (pc := 16) cx 0 dX9_becomeAs_16 rfl rfl ?_
  refine wa_aload_n (pc := 17) cx 1 dX9_becomeAs_17 rfl rfl ?_
  refine wa_getI (pc := 18) cx fl_X9_19 lk_8 rfl (cx.bl 8 rfl) dX9_becomeAs_18 ?_
  refine wa_putI (pc := 21) cx fp_X9_19 lk_8 rfl (cx.bl 8 rfl) dX9_becomeAs_21 ?_
  refine wa_aload_n (pc := 24) cx 0 dX9_becomeAs_24 rfl rfl ?_
  refine wa_aload_n (pc := 25) cx 1 dX9_becomeAs_25 rfl rfl ?_
  refine wa_getI (pc := 26) cx fl_X9_22 lk_8 rfl (cx.bl 8 rfl) dX9_becomeAs_26 ?_
  refine wa_putI (pc := 29) cx fp_X9_22 lk_8 rfl (cx.bl 8 rfl) dX9_becomeAs_29 ?_
  refine wa_aload_n (pc := 32) cx 0 dX9_becomeAs_32 rfl rfl ?_
  refine wa_aload_n (pc := 33) cx 1 dX9_becomeAs_33 rfl rfl ?_
  refine wa_getI (pc := 34) cx fl_X9_25 lk_8 rfl (cx.bl 8 rfl) dX9_becomeAs_34 ?_
  refine wa_putI (pc := 37) cx fp_X9_25 lk_8 rfl (cx.bl 8 rfl) dX9_becomeAs_37 ?_
  refine wa_aload_n (pc := 40) cx 1 dX9_becomeAs_40 rfl rfl ?_
  refine wa_getR (pc := 41) cx fl_X9_28 lk_8 rfl (cx.bl 8 rfl) dX9_becomeAs_41 ?_
  refine wa_iconst (pc := 44) (v := 0) cx dX9_becomeAs_44 (by decide) ?_
  refine wa_aload_n (pc := 45) cx 0 dX9_becomeAs_45 rfl rfl ?_
  refine wa_getR (pc := 46) cx fl_X9_28 lk_8 rfl (cx.bl 8 rfl) dX9_becomeAs_46 ?_
  refine wa_iconst (pc := 49) (v := 0) cx dX9_becomeAs_49 (by decide) ?_
  refine wa_iconst (pc := 50) (v := 5) cx dX9_becomeAs_50 (by decide) ?_
  obtain ⟨g2, hf⟩ := gd_some hf
  refine wa_copy (pc := 51) cx lk_9 lk_9 (cx.bl 9 rfl) (cx.bl 9 rfl) g2 tw_550 (Nat.le_of_ble_eq_true rfl) (Nat.le_of_ble_eq_true rfl) dX9_becomeAs_51 ?_
  refine wa_aload_n (pc := 54) cx 1 dX9_becomeAs_54 rfl rfl ?_
  refine wa_getR (pc := 55) cx fl_X9_32 lk_8 rfl (cx.bl 8 rfl) dX9_becomeAs_55 ?_
  refine wa_iconst (pc := 58) (v := 0) cx dX9_becomeAs_58 (by decide) ?_
  refine wa_aload_n (pc := 59) cx 0 dX9_becomeAs_59 rfl rfl ?_
  refine wa_getR (pc := 60) cx fl_X9_32 lk_8 rfl (cx.bl 8 rfl) dX9_becomeAs_60 ?_
  refine wa_iconst (pc := 63) (v := 0) cx dX9_becomeAs_63 (by decide) ?_
  refine wa_iconst (pc := 64) (v := 5) cx dX9_becomeAs_64 (by decide) ?_
  obtain ⟨g3, hf⟩ := gd_some hf
  refine wa_copy (pc := 65) cx lk_10 lk_10 (cx.bl 10 rfl) (cx.bl 10 rfl) g3 tw_550 (Nat.le_of_ble_eq_true rfl) (Nat.le_of_ble_eq_true rfl) dX9_becomeAs_65 ?_
  refine wa_aload_n (pc := 68) cx 1 dX9_becomeAs_68 rfl rfl ?_
  refine wa_getR (pc := 69) cx fl_X9_35 lk_8 rfl (cx.bl 8 rfl) dX9_becomeAs_69 ?_
  refine wa_iconst (pc := 72) (v := 0) cx dX9_becomeAs_72 (by decide) ?_
  refine wa_aload_n (pc := 73) cx 0 dX9_becomeAs_73 rfl rfl ?_
  refine wa_getR (pc := 74) cx fl_X9_35 lk_8 rfl (cx.bl 8 rfl) dX9_becomeAs_74 ?_
  refine wa_iconst (pc := 77) (v := 0) cx dX9_becomeAs_77 (by decide) ?_
  refine wa_bipush (pc := 78) (v := 9) cx dX9_becomeAs_78 (by decide) ?_
  obtain ⟨g4, hf⟩ := gd_some hf
  refine wa_copy (pc := 80) cx lk_11 lk_11 (cx.bl 11 rfl) (cx.bl 11 rfl) g4 tw_550 (Nat.le_of_ble_eq_true rfl) (Nat.le_of_ble_eq_true rfl) dX9_becomeAs_80 ?_
  refine wa_aload_n (pc := 83) cx 1 dX9_becomeAs_83 rfl rfl ?_
  refine wa_getR (pc := 84) cx fl_X9_38 lk_8 rfl (cx.bl 8 rfl) dX9_becomeAs_84 ?_
  refine wa_iconst (pc := 87) (v := 0) cx dX9_becomeAs_87 (by decide) ?_
  refine wa_aload_n (pc := 88) cx 0 dX9_becomeAs_88 rfl rfl ?_
  refine wa_getR (pc := 89) cx fl_X9_38 lk_8 rfl (cx.bl 8 rfl) dX9_becomeAs_89 ?_
  refine wa_iconst (pc := 92) (v := 0) cx dX9_becomeAs_92 (by decide) ?_
  refine wa_bipush (pc := 93) (v := 9) cx dX9_becomeAs_93 (by decide) ?_
  obtain ⟨g5, hf⟩ := gd_some hf
  refine wa_copy (pc := 95) cx lk_12 lk_12 (cx.bl 12 rfl) (cx.bl 12 rfl) g5 tw_550 (Nat.le_of_ble_eq_true rfl) (Nat.le_of_ble_eq_true rfl) dX9_becomeAs_95 ?_
  refine wa_aload_n (pc := 98) cx 1 dX9_becomeAs_98 rfl rfl ?_
  refine wa_getR (pc := 99) cx fl_X9_41 lk_8 rfl (cx.bl 8 rfl) dX9_becomeAs_99 ?_
  refine wa_iconst (pc := 102) (v := 0) cx dX9_becomeAs_102 (by decide) ?_
  refine wa_aload_n (pc := 103) cx 0 dX9_becomeAs_103 rfl rfl ?_
  refine wa_getR (pc := 104) cx fl_X9_41 lk_8 rfl (cx.bl 8 rfl) dX9_becomeAs_104 ?_
  refine wa_iconst (pc := 107) (v := 0) cx dX9_becomeAs_107 (by decide) ?_
  refine wa_bipush (pc := 108) (v := 9) cx dX9_becomeAs_108 (by decide) ?_
  obtain ⟨g6, hf⟩ := gd_some hf
  refine wa_copy (pc := 110) cx lk_13 lk_13 (cx.bl 13 rfl) (cx.bl 13 rfl) g6 tw_550 (Nat.le_of_ble_eq_true rfl) (Nat.le_of_ble_eq_true rfl) dX9_becomeAs_110 ?_
  refine wa_aload_n (pc := 113) cx 1 dX9_becomeAs_113 rfl rfl ?_
  refine wa_getR (pc := 114) cx fl_X9_44 lk_8 rfl (cx.bl 8 rfl) dX9_becomeAs_114 ?_
  refine wa_iconst (pc := 117) (v := 0) cx dX9_becomeAs_117 (by decide) ?_
  refine wa_aload_n (pc := 118) cx 0 dX9_becomeAs_118 rfl rfl ?_
  refine wa_getR (pc := 119) cx fl_X9_44 lk_8 rfl (cx.bl 8 rfl) dX9_becomeAs_119 ?_
  refine wa_iconst (pc := 122) (v := 0) cx dX9_becomeAs_122 (by decide) ?_
  refine wa_bipush (pc := 123) (v := 36) cx dX9_becomeAs_123 (by decide) ?_
  obtain ⟨g7, hf⟩ := gd_some hf
  refine wa_copy (pc := 125) cx lk_14 lk_14 (cx.bl 14 rfl) (cx.bl 14 rfl) g7 tw_550 (Nat.le_of_ble_eq_true rfl) (Nat.le_of_ble_eq_true rfl) dX9_becomeAs_125 ?_
  obtain rfl := Option.some.inj hf
  exact wa_vret (pc := 128) cx dX9_becomeAs_128
def fX9_hasYarn_J16  (σ : Sg) : Option (Int32) :=
  some 0
def fX9_hasYarn (a1 : Int32) (σ : Sg) : Option (Int32) :=
  if a1 < 0 then (fX9_hasYarn_J16  σ) else (if gf σ 8 4 ≤ a1 then (fX9_hasYarn_J16  σ) else (some 1))
set_option maxHeartbeats 4000000 in
set_option maxRecDepth 100000 in
theorem ct_X9_hasYarn (l : Launch) (E : En) (σ : Sg) (a1 : Int32) (q : Int32) (hf : fX9_hasYarn a1 σ = some q) : CT l yX9_hasYarn cX9_hasYarn 2 (some .boolean) 0 E σ [.ref (eA E 8), .int a1] (some (.int q)) σ := by
  refine CT.of RX9 [some (.ref (eA E 8)), some (.int a1)] rfl (by decide +kernel) (Nat.le_of_ble_eq_true rfl) rfl ?_
  intro p e s m args below meth c cx
  unfold fX9_hasYarn at hf
  have j16 : ∀  (σ : Sg), fX9_hasYarn_J16  σ = some q → WA p l e (rmd 0) s m args below meth c 2 E 0 0 (MQ below (Qcq E s.heap.size (some (.int q)) σ) args s 0 0 (AE E s.heap.size)) 16 [none, none] [] σ := by
    intro  σ hf
    unfold fX9_hasYarn_J16 at hf
    refine wa_iconst (pc := 16) (v := 0) cx dX9_hasYarn_16 (by decide) ?_
    obtain rfl := Option.some.inj hf
    exact wa_zret (pc := 17) cx rfl dX9_hasYarn_17
  refine wa_iload_n (pc := 0) cx 1 dX9_hasYarn_0 rfl rfl ?_
  refine wa_if_lt (pc := 1) cx 16 dX9_hasYarn_1 rfl (fun c1 => ?_) (fun c1 => ?_)
  · have hf := (if_pos c1).symm.trans hf
    refine wa_forget [false, false] [none, none] rfl ?_
    exact j16  _ hf
  · have hf := (if_neg c1).symm.trans hf
    refine wa_iload_n (pc := 4) cx 1 dX9_hasYarn_4 rfl rfl ?_
    refine wa_aload_n (pc := 5) cx 0 dX9_hasYarn_5 rfl rfl ?_
    refine wa_getI (pc := 6) cx fl_X9_25 lk_8 rfl (cx.bl 8 rfl) dX9_hasYarn_6 ?_
    refine wa_icmp_ge (pc := 9) cx 16 dX9_hasYarn_9 rfl (fun c2 => ?_) (fun c2 => ?_)
    · have hf := (if_pos c2).symm.trans hf
      refine wa_forget [false, false] [none, none] rfl ?_
      exact j16  _ hf
    · have hf := (if_neg c2).symm.trans hf
      refine wa_iconst (pc := 12) (v := 1) cx dX9_hasYarn_12 (by decide) ?_
      refine wa_goto (pc := 13) cx 17 dX9_hasYarn_13 rfl ?_
      obtain rfl := Option.some.inj hf
      exact wa_zret (pc := 17) cx rfl dX9_hasYarn_17
def fX9_strengthIf_J123 (v1 : Int32) (v3 : Int32) (σ : Sg) : Option (Int32) :=
  gd (inb (18 + v1) 36) (
  some (jmax 0 (v3 - ga σ 14 (18 + v1))))
def fX9_strengthIf_J112 (v1 : Int32) (v2 : Int32) (v3 : Int32) (σ : Sg) : Option (Int32) :=
  if v2 = 1 then (fX9_strengthIf_J123 v1 (v3 + (v3 / 2)) σ) else (fX9_strengthIf_J123 v1 v3 σ)
def fX9_strengthIf_J93 (v1 : Int32) (v2 : Int32) (v3 : Int32) (σ : Sg) : Option (Int32) :=
  gd (inb (27 + v1) 36) (
  if ga σ 14 (27 + v1) = 0 then (fX9_strengthIf_J112 v1 v2 v3 σ) else (fX9_strengthIf_J112 v1 v2 (v3 + gf σ 8 2) σ))
def fX9_strengthIf_J69 (v1 : Int32) (v2 : Int32) (v3 : Int32) (σ : Sg) : Option (Int32) :=
  gd (inb v1 9) (
  if ga σ 11 v1 = 3 then (gd (inb v1 9) (
  gd (inb (ga σ 12 v1) 5) (
  fX9_strengthIf_J93 v1 v2 (v3 + ga σ 10 (ga σ 12 v1)) σ))) else (fX9_strengthIf_J93 v1 v2 v3 σ))
def fX9_strengthIf_J65 (v1 : Int32) (v2 : Int32) (v3 : Int32) (σ : Sg) : Option (Int32) :=
  fX9_strengthIf_J69 v1 v2 (v3 / 2) σ
def fX9_strengthIf_J45 (v1 : Int32) (v2 : Int32) (v3 : Int32) (σ : Sg) : Option (Int32) :=
  gd (inb v1 9) (
  if ga σ 11 v1 = 4 then (fX9_strengthIf_J65 v1 v2 v3 σ) else (gd (inb v1 9) (
  if ga σ 11 v1 = 5 then (fX9_strengthIf_J65 v1 v2 v3 σ) else (fX9_strengthIf_J69 v1 v2 v3 σ))))
def fX9_strengthIf_J39 (v1 : Int32) (v2 : Int32) (v3 : Int32) (σ : Sg) : Option (Int32) :=
  fX9_strengthIf_J45 v1 v2 (v3 + (v3 / 2)) σ
def fX9_strengthIf (a1 : Int32) (a2 : Int32) (σ : Sg) : Option (Int32) :=
  if a2 = 2 then (some 0) else (gd (inb a1 9) (
  gd (inb a1 9) (
  if ga σ 11 a1 = 2 then (fX9_strengthIf_J39 a1 a2 (gf σ 8 1 * ga σ 13 a1) σ) else (gd (inb a1 9) (
  if ga σ 11 a1 = 3 then (fX9_strengthIf_J39 a1 a2 (gf σ 8 1 * ga σ 13 a1) σ) else (fX9_strengthIf_J45 a1 a2 (gf σ 8 1 * ga σ 13 a1) σ))))))
set_option maxHeartbeats 4000000 in
set_option maxRecDepth 100000 in
theorem ct_X9_strengthIf (l : Launch) (E : En) (σ : Sg) (a1 : Int32) (a2 : Int32) (q : Int32) (hf : fX9_strengthIf a1 a2 σ = some q) : CT l yX9_strengthIf cX9_strengthIf 4 (some .int) 1 E σ [.ref (eA E 8), .int a1, .int a2] (some (.int q)) σ := by
  refine CT.of RX9 [some (.ref (eA E 8)), some (.int a1), some (.int a2), none] rfl (by decide +kernel) (Nat.le_of_ble_eq_true rfl) rfl ?_
  intro p e s m args below meth c cx
  unfold fX9_strengthIf at hf
  have j123 : ∀ (v1 : Int32) (v3 : Int32) (σ : Sg), fX9_strengthIf_J123 v1 v3 σ = some q → WA p l e (rmd 1) s m args below meth c 4 E 0 0 (MQ below (Qcq E s.heap.size (some (.int q)) σ) args s 0 0 (AE E s.heap.size)) 123 [some (.ref (eA E 8)), some (.int v1), none, some (.int v3)] [] σ := by
    intro v1 v3 σ hf
    unfold fX9_strengthIf_J123 at hf
    refine wa_iconst (pc := 123) (v := 0) cx dX9_strengthIf_123 (by decide) ?_
    refine wa_iload_n (pc := 124) cx 3 dX9_strengthIf_124 rfl rfl ?_
    refine wa_aload_n (pc := 125) cx 0 dX9_strengthIf_125 rfl rfl ?_
    refine wa_getR (pc := 126) cx fl_X9_44 lk_8 rfl (cx.bl 8 rfl) dX9_strengthIf_126 ?_
    refine wa_bipush (pc := 129) (v := 18) cx dX9_strengthIf_129 (by decide) ?_
    refine wa_iload_n (pc := 131) cx 1 dX9_strengthIf_131 rfl rfl ?_
    refine wa_iadd (pc := 132) cx dX9_strengthIf_132 ?_
    obtain ⟨g12, hf⟩ := gd_some hf
    refine wa_iald (pc := 133) cx lk_14 (cx.bl 14 rfl) g12 dX9_strengthIf_133 ?_
    refine wa_isub (pc := 134) cx dX9_strengthIf_134 ?_
    refine wa_mmax (pc := 135) cx tw_588 (Nat.le_of_ble_eq_true rfl) (Nat.le_of_ble_eq_true rfl) ⟨Nat.zero_le _, Nat.zero_le _⟩ dX9_strengthIf_135 ?_
    obtain rfl := Option.some.inj hf
    exact wa_iret (pc := 138) cx dX9_strengthIf_138
  have j112 : ∀ (v1 : Int32) (v2 : Int32) (v3 : Int32) (σ : Sg), fX9_strengthIf_J112 v1 v2 v3 σ = some q → WA p l e (rmd 1) s m args below meth c 4 E 0 0 (MQ below (Qcq E s.heap.size (some (.int q)) σ) args s 0 0 (AE E s.heap.size)) 112 [some (.ref (eA E 8)), some (.int v1), some (.int v2), some (.int v3)] [] σ := by
    intro v1 v2 v3 σ hf
    unfold fX9_strengthIf_J112 at hf
    refine wa_iload_n (pc := 112) cx 2 dX9_strengthIf_112 rfl rfl ?_
    refine wa_iconst (pc := 113) (v := 1) cx dX9_strengthIf_113 (by decide) ?_
    refine wa_icmp_ne (pc := 114) cx 123 dX9_strengthIf_114 rfl (fun c11 => ?_) (fun c11 => ?_)
    · have hf := (if_neg c11).symm.trans hf
      refine wa_forget [true, true, false, true] [some (.ref (eA E 8)), some (.int v1), none, some (.int v3)] rfl ?_
      exact j123 _ _ _ hf
    · have hf := (if_pos c11).symm.trans hf
      refine wa_iload_n (pc := 117) cx 3 dX9_strengthIf_117 rfl rfl ?_
      refine wa_iload_n (pc := 118) cx 3 dX9_strengthIf_118 rfl rfl ?_
      refine wa_iconst (pc := 119) (v := 2) cx dX9_strengthIf_119 (by decide) ?_
      refine wa_idiv (pc := 120) cx dX9_strengthIf_120 (by decide) ?_
      refine wa_iadd (pc := 121) cx dX9_strengthIf_121 ?_
      refine wa_istore_n (pc := 122) cx 3 [some (.ref (eA E 8)), some (.int v1), some (.int v2), some (.int (v3 + (v3 / 2)))] dX9_strengthIf_122 rfl (by decide) rfl rfl ?_
      refine wa_forget [true, true, false, true] [some (.ref (eA E 8)), some (.int v1), none, some (.int (v3 + (v3 / 2)))] rfl ?_
      exact j123 _ _ _ hf
  have j93 : ∀ (v1 : Int32) (v2 : Int32) (v3 : Int32) (σ : Sg), fX9_strengthIf_J93 v1 v2 v3 σ = some q → WA p l e (rmd 1) s m args below meth c 4 E 0 0 (MQ below (Qcq E s.heap.size (some (.int q)) σ) args s 0 0 (AE E s.heap.size)) 93 [some (.ref (eA E 8)), some (.int v1), some (.int v2), some (.int v3)] [] σ := by
    intro v1 v2 v3 σ hf
    unfold fX9_strengthIf_J93 at hf
    refine wa_aload_n (pc := 93) cx 0 dX9_strengthIf_93 rfl rfl ?_
    refine wa_getR (pc := 94) cx fl_X9_44 lk_8 rfl (cx.bl 8 rfl) dX9_strengthIf_94 ?_
    refine wa_bipush (pc := 97) (v := 27) cx dX9_strengthIf_97 (by decide) ?_
    refine wa_iload_n (pc := 99) cx 1 dX9_strengthIf_99 rfl rfl ?_
    refine wa_iadd (pc := 100) cx dX9_strengthIf_100 ?_
    obtain ⟨g9, hf⟩ := gd_some hf
    refine wa_iald (pc := 101) cx lk_14 (cx.bl 14 rfl) g9 dX9_strengthIf_101 ?_
    refine wa_if_eq (pc := 102) cx 112 dX9_strengthIf_102 rfl (fun c10 => ?_) (fun c10 => ?_)
    · have hf := (if_pos c10).symm.trans hf
      exact j112 _ _ _ _ hf
    · have hf := (if_neg c10).symm.trans hf
      refine wa_iload_n (pc := 105) cx 3 dX9_strengthIf_105 rfl rfl ?_
      refine wa_aload_n (pc := 106) cx 0 dX9_strengthIf_106 rfl rfl ?_
      refine wa_getI (pc := 107) cx fl_X9_19 lk_8 rfl (cx.bl 8 rfl) dX9_strengthIf_107 ?_
      refine wa_iadd (pc := 110) cx dX9_strengthIf_110 ?_
      refine wa_istore_n (pc := 111) cx 3 [some (.ref (eA E 8)), some (.int v1), some (.int v2), some (.int (v3 + gf σ 8 2))] dX9_strengthIf_111 rfl (by decide) rfl rfl ?_
      exact j112 _ _ _ _ hf
  have j69 : ∀ (v1 : Int32) (v2 : Int32) (v3 : Int32) (σ : Sg), fX9_strengthIf_J69 v1 v2 v3 σ = some q → WA p l e (rmd 1) s m args below meth c 4 E 0 0 (MQ below (Qcq E s.heap.size (some (.int q)) σ) args s 0 0 (AE E s.heap.size)) 69 [some (.ref (eA E 8)), some (.int v1), some (.int v2), some (.int v3)] [] σ := by
    intro v1 v2 v3 σ hf
    unfold fX9_strengthIf_J69 at hf
    refine wa_aload_n (pc := 69) cx 0 dX9_strengthIf_69 rfl rfl ?_
    refine wa_getR (pc := 70) cx fl_X9_35 lk_8 rfl (cx.bl 8 rfl) dX9_strengthIf_70 ?_
    refine wa_iload_n (pc := 73) cx 1 dX9_strengthIf_73 rfl rfl ?_
    obtain ⟨g7, hf⟩ := gd_some hf
    refine wa_iald (pc := 74) cx lk_11 (cx.bl 11 rfl) g7 dX9_strengthIf_74 ?_
    refine wa_iconst (pc := 75) (v := 3) cx dX9_strengthIf_75 (by decide) ?_
    refine wa_icmp_ne (pc := 76) cx 93 dX9_strengthIf_76 rfl (fun c8 => ?_) (fun c8 => ?_)
    · have hf := (if_neg c8).symm.trans hf
      exact j93 _ _ _ _ hf
    · have hf := (if_pos c8).symm.trans hf
      refine wa_iload_n (pc := 79) cx 3 dX9_strengthIf_79 rfl rfl ?_
      refine wa_aload_n (pc := 80) cx 0 dX9_strengthIf_80 rfl rfl ?_
      refine wa_getR (pc := 81) cx fl_X9_32 lk_8 rfl (cx.bl 8 rfl) dX9_strengthIf_81 ?_
      refine wa_aload_n (pc := 84) cx 0 dX9_strengthIf_84 rfl rfl ?_
      refine wa_getR (pc := 85) cx fl_X9_38 lk_8 rfl (cx.bl 8 rfl) dX9_strengthIf_85 ?_
      refine wa_iload_n (pc := 88) cx 1 dX9_strengthIf_88 rfl rfl ?_
      obtain ⟨g13, hf⟩ := gd_some hf
      refine wa_iald (pc := 89) cx lk_12 (cx.bl 12 rfl) g13 dX9_strengthIf_89 ?_
      obtain ⟨g14, hf⟩ := gd_some hf
      refine wa_iald (pc := 90) cx lk_10 (cx.bl 10 rfl) g14 dX9_strengthIf_90 ?_
      refine wa_iadd (pc := 91) cx dX9_strengthIf_91 ?_
      refine wa_istore_n (pc := 92) cx 3 [some (.ref (eA E 8)), some (.int v1), some (.int v2), some (.int (v3 + ga σ 10 (ga σ 12 v1)))] dX9_strengthIf_92 rfl (by decide) rfl rfl ?_
      exact j93 _ _ _ _ hf
  have j65 : ∀ (v1 : Int32) (v2 : Int32) (v3 : Int32) (σ : Sg), fX9_strengthIf_J65 v1 v2 v3 σ = some q → WA p l e (rmd 1) s m args below meth c 4 E 0 0 (MQ below (Qcq E s.heap.size (some (.int q)) σ) args s 0 0 (AE E s.heap.size)) 65 [some (.ref (eA E 8)), some (.int v1), some (.int v2), some (.int v3)] [] σ := by
    intro v1 v2 v3 σ hf
    unfold fX9_strengthIf_J65 at hf
    refine wa_iload_n (pc := 65) cx 3 dX9_strengthIf_65 rfl rfl ?_
    refine wa_iconst (pc := 66) (v := 2) cx dX9_strengthIf_66 (by decide) ?_
    refine wa_idiv (pc := 67) cx dX9_strengthIf_67 (by decide) ?_
    refine wa_istore_n (pc := 68) cx 3 [some (.ref (eA E 8)), some (.int v1), some (.int v2), some (.int (v3 / 2))] dX9_strengthIf_68 rfl (by decide) rfl rfl ?_
    exact j69 _ _ _ _ hf
  have j45 : ∀ (v1 : Int32) (v2 : Int32) (v3 : Int32) (σ : Sg), fX9_strengthIf_J45 v1 v2 v3 σ = some q → WA p l e (rmd 1) s m args below meth c 4 E 0 0 (MQ below (Qcq E s.heap.size (some (.int q)) σ) args s 0 0 (AE E s.heap.size)) 45 [some (.ref (eA E 8)), some (.int v1), some (.int v2), some (.int v3)] [] σ := by
    intro v1 v2 v3 σ hf
    unfold fX9_strengthIf_J45 at hf
    refine wa_aload_n (pc := 45) cx 0 dX9_strengthIf_45 rfl rfl ?_
    refine wa_getR (pc := 46) cx fl_X9_35 lk_8 rfl (cx.bl 8 rfl) dX9_strengthIf_46 ?_
    refine wa_iload_n (pc := 49) cx 1 dX9_strengthIf_49 rfl rfl ?_
    obtain ⟨g5, hf⟩ := gd_some hf
    refine wa_iald (pc := 50) cx lk_11 (cx.bl 11 rfl) g5 dX9_strengthIf_50 ?_
    refine wa_iconst (pc := 51) (v := 4) cx dX9_strengthIf_51 (by decide) ?_
    refine wa_icmp_eq (pc := 52) cx 65 dX9_strengthIf_52 rfl (fun c6 => ?_) (fun c6 => ?_)
    · have hf := (if_pos c6).symm.trans hf
      exact j65 _ _ _ _ hf
    · have hf := (if_neg c6).symm.trans hf
      refine wa_aload_n (pc := 55) cx 0 dX9_strengthIf_55 rfl rfl ?_
      refine wa_getR (pc := 56) cx fl_X9_35 lk_8 rfl (cx.bl 8 rfl) dX9_strengthIf_56 ?_
      refine wa_iload_n (pc := 59) cx 1 dX9_strengthIf_59 rfl rfl ?_
      obtain ⟨g15, hf⟩ := gd_some hf
      refine wa_iald (pc := 60) cx lk_11 (cx.bl 11 rfl) g15 dX9_strengthIf_60 ?_
      refine wa_iconst (pc := 61) (v := 5) cx dX9_strengthIf_61 (by decide) ?_
      refine wa_icmp_ne (pc := 62) cx 69 dX9_strengthIf_62 rfl (fun c16 => ?_) (fun c16 => ?_)
      · have hf := (if_neg c16).symm.trans hf
        exact j69 _ _ _ _ hf
      · have hf := (if_pos c16).symm.trans hf
        exact j65 _ _ _ _ hf
  have j39 : ∀ (v1 : Int32) (v2 : Int32) (v3 : Int32) (σ : Sg), fX9_strengthIf_J39 v1 v2 v3 σ = some q → WA p l e (rmd 1) s m args below meth c 4 E 0 0 (MQ below (Qcq E s.heap.size (some (.int q)) σ) args s 0 0 (AE E s.heap.size)) 39 [some (.ref (eA E 8)), some (.int v1), some (.int v2), some (.int v3)] [] σ := by
    intro v1 v2 v3 σ hf
    unfold fX9_strengthIf_J39 at hf
    refine wa_iload_n (pc := 39) cx 3 dX9_strengthIf_39 rfl rfl ?_
    refine wa_iload_n (pc := 40) cx 3 dX9_strengthIf_40 rfl rfl ?_
    refine wa_iconst (pc := 41) (v := 2) cx dX9_strengthIf_41 (by decide) ?_
    refine wa_idiv (pc := 42) cx dX9_strengthIf_42 (by decide) ?_
    refine wa_iadd (pc := 43) cx dX9_strengthIf_43 ?_
    refine wa_istore_n (pc := 44) cx 3 [some (.ref (eA E 8)), some (.int v1), some (.int v2), some (.int (v3 + (v3 / 2)))] dX9_strengthIf_44 rfl (by decide) rfl rfl ?_
    exact j45 _ _ _ _ hf
  refine wa_iload_n (pc := 0) cx 2 dX9_strengthIf_0 rfl rfl ?_
  refine wa_iconst (pc := 1) (v := 2) cx dX9_strengthIf_1 (by decide) ?_
  refine wa_icmp_ne (pc := 2) cx 7 dX9_strengthIf_2 rfl (fun c1 => ?_) (fun c1 => ?_)
  · have hf := (if_neg c1).symm.trans hf
    refine wa_aload_n (pc := 7) cx 0 dX9_strengthIf_7 rfl rfl ?_
    refine wa_getI (pc := 8) cx fl_X9_15 lk_8 rfl (cx.bl 8 rfl) dX9_strengthIf_8 ?_
    refine wa_aload_n (pc := 11) cx 0 dX9_strengthIf_11 rfl rfl ?_
    refine wa_getR (pc := 12) cx fl_X9_41 lk_8 rfl (cx.bl 8 rfl) dX9_strengthIf_12 ?_
    refine wa_iload_n (pc := 15) cx 1 dX9_strengthIf_15 rfl rfl ?_
    obtain ⟨g2, hf⟩ := gd_some hf
    refine wa_iald (pc := 16) cx lk_13 (cx.bl 13 rfl) g2 dX9_strengthIf_16 ?_
    refine wa_imul (pc := 17) cx dX9_strengthIf_17 ?_
    refine wa_istore_n (pc := 18) cx 3 [some (.ref (eA E 8)), some (.int a1), some (.int a2), some (.int (gf σ 8 1 * ga σ 13 a1))] dX9_strengthIf_18 rfl (by decide) rfl rfl ?_
    refine wa_aload_n (pc := 19) cx 0 dX9_strengthIf_19 rfl rfl ?_
    refine wa_getR (pc := 20) cx fl_X9_35 lk_8 rfl (cx.bl 8 rfl) dX9_strengthIf_20 ?_
    refine wa_iload_n (pc := 23) cx 1 dX9_strengthIf_23 rfl rfl ?_
    obtain ⟨g3, hf⟩ := gd_some hf
    refine wa_iald (pc := 24) cx lk_11 (cx.bl 11 rfl) g3 dX9_strengthIf_24 ?_
    refine wa_iconst (pc := 25) (v := 2) cx dX9_strengthIf_25 (by decide) ?_
    refine wa_icmp_eq (pc := 26) cx 39 dX9_strengthIf_26 rfl (fun c4 => ?_) (fun c4 => ?_)
    · have hf := (if_pos c4).symm.trans hf
      exact j39 _ _ _ _ hf
    · have hf := (if_neg c4).symm.trans hf
      refine wa_aload_n (pc := 29) cx 0 dX9_strengthIf_29 rfl rfl ?_
      refine wa_getR (pc := 30) cx fl_X9_35 lk_8 rfl (cx.bl 8 rfl) dX9_strengthIf_30 ?_
      refine wa_iload_n (pc := 33) cx 1 dX9_strengthIf_33 rfl rfl ?_
      obtain ⟨g17, hf⟩ := gd_some hf
      refine wa_iald (pc := 34) cx lk_11 (cx.bl 11 rfl) g17 dX9_strengthIf_34 ?_
      refine wa_iconst (pc := 35) (v := 3) cx dX9_strengthIf_35 (by decide) ?_
      refine wa_icmp_ne (pc := 36) cx 45 dX9_strengthIf_36 rfl (fun c18 => ?_) (fun c18 => ?_)
      · have hf := (if_neg c18).symm.trans hf
        exact j45 _ _ _ _ hf
      · have hf := (if_pos c18).symm.trans hf
        exact j39 _ _ _ _ hf
  · have hf := (if_pos c1).symm.trans hf
    refine wa_iconst (pc := 5) (v := 0) cx dX9_strengthIf_5 (by decide) ?_
    obtain rfl := Option.some.inj hf
    exact wa_iret (pc := 6) cx dX9_strengthIf_6
def fX9_strength (a1 : Int32) (σ : Sg) : Option (Int32) :=
  gd (inb (9 + a1) 36) (
  (fX9_strengthIf a1 (ga σ 14 (9 + a1)) σ).bind (fun q2 =>
  some q2))
set_option maxHeartbeats 4000000 in
set_option maxRecDepth 100000 in
theorem ct_X9_strength (l : Launch) (E : En) (σ : Sg) (a1 : Int32) (q : Int32) (hf : fX9_strength a1 σ = some q) : CT l yX9_strength cX9_strength 2 (some .int) 2 E σ [.ref (eA E 8), .int a1] (some (.int q)) σ := by
  refine CT.of RX9 [some (.ref (eA E 8)), some (.int a1)] rfl (by decide +kernel) (Nat.le_of_ble_eq_true rfl) rfl ?_
  intro p e s m args below meth c cx
  unfold fX9_strength at hf
  refine wa_aload_n (pc := 0) cx 0 dX9_strength_0 rfl rfl ?_
  refine wa_iload_n (pc := 1) cx 1 dX9_strength_1 rfl rfl ?_
  refine wa_aload_n (pc := 2) cx 0 dX9_strength_2 rfl rfl ?_
  refine wa_getR (pc := 3) cx fl_X9_44 lk_8 rfl (cx.bl 8 rfl) dX9_strength_3 ?_
  refine wa_bipush (pc := 6) (v := 9) cx dX9_strength_6 (by decide) ?_
  refine wa_iload_n (pc := 8) cx 1 dX9_strength_8 rfl rfl ?_
  refine wa_iadd (pc := 9) cx dX9_strength_9 ?_
  obtain ⟨g1, hf⟩ := gd_some hf
  refine wa_iald (pc := 10) cx lk_14 (cx.bl 14 rfl) g1 dX9_strength_10 ?_
  obtain ⟨q2, h3, hf⟩ := bd_some hf
  refine wa_callVi (pc := 11) cx [.int a1, .int (ga σ 14 (9 + a1))] (ct_X9_strengthIf l E _ _ _ _ h3) mi_X9_strengthIf tw_584 lk_8 rfl (cx.bl 8 rfl) rfl rfl (Nat.le_of_ble_eq_true rfl) ⟨Nat.le_of_ble_eq_true rfl, Nat.le_of_ble_eq_true rfl⟩ ⟨Nat.zero_le _, Nat.zero_le _⟩ dX9_strength_11 ?_
  obtain rfl := Option.some.inj hf
  exact wa_iret (pc := 14) cx dX9_strength_14
def fX9_strandBearsWithout_J42 (v1 : Int32) (v2 : Int32) (v3 : Int32) (v4 : Int32) (σ : Sg) : Option ((Int32 × Int32) ⊕ (Int32)) :=
  some (.inl (v3, (v4 + 1)))
def fX9_strandBearsWithout_B5 (v1 : Int32) (v2 : Int32) (v3 : Int32) (v4 : Int32) (σ : Sg) : Option ((Int32 × Int32) ⊕ (Int32)) :=
  if gf σ 8 4 ≤ v4 then (some (.inr v3)) else (gd (inb (0 + v4) 36) (
  if ga σ 14 (0 + v4) = v1 then (if v4 = v2 then (fX9_strandBearsWithout_J42 v1 v2 v3 v4 σ) else ((fX9_strength v4 σ).bind (fun q5 =>
  fX9_strandBearsWithout_J42 v1 v2 (v3 + q5) v4 σ))) else (fX9_strandBearsWithout_J42 v1 v2 v3 v4 σ)))
def fX9_strandBearsWithout (a1 : Int32) (a2 : Int32) (σ : Sg) : Option (Int32) :=
  (lpO (fun w => fX9_strandBearsWithout_B5 a1 a2 w.1 w.2 σ) FUEL (0, 0)).bind (fun o7 =>
  some o7)
set_option maxHeartbeats 4000000 in
set_option maxRecDepth 100000 in
theorem ct_X9_strandBearsWithout (l : Launch) (E : En) (σ : Sg) (a1 : Int32) (a2 : Int32) (q : Int32) (hf : fX9_strandBearsWithout a1 a2 σ = some q) : CT l yX9_strandBearsWithout cX9_strandBearsWithout 5 (some .int) 3 E σ [.ref (eA E 8), .int a1, .int a2] (some (.int q)) σ := by
  refine CT.of RX9 [some (.ref (eA E 8)), some (.int a1), some (.int a2), none, none] rfl (by decide +kernel) (Nat.le_of_ble_eq_true rfl) rfl ?_
  intro p e s m args below meth c cx
  unfold fX9_strandBearsWithout at hf
  have l5 : ∀ (v1 : Int32) (v2 : Int32) (σ : Sg) (y : Int32 × Int32) (o : Int32), lpO (fun w => fX9_strandBearsWithout_B5 v1 v2 w.1 w.2 σ) FUEL y = some o → (WA p l e (rmd 3) s m args below meth c 5 E 0 0 (MQ below (Qcq E s.heap.size (some (.int q)) σ) args s 0 0 (AE E s.heap.size)) 48 [none, none, none, some (.int o), none] [] σ) → WA p l e (rmd 3) s m args below meth c 5 E 0 0 (MQ below (Qcq E s.heap.size (some (.int q)) σ) args s 0 0 (AE E s.heap.size)) 5 [some (.ref (eA E 8)), some (.int v1), some (.int v2), some (.int y.1), some (.int y.2)] [] σ := by
    intro v1 v2 σ y o hf hk
    refine lp_rule (P := fun y => WA p l e (rmd 3) s m args below meth c 5 E 0 0 (MQ below (Qcq E s.heap.size (some (.int q)) σ) args s 0 0 (AE E s.heap.size)) 5 [some (.ref (eA E 8)), some (.int v1), some (.int v2), some (.int y.1), some (.int y.2)] [] σ) (K := fun o => WA p l e (rmd 3) s m args below meth c 5 E 0 0 (MQ below (Qcq E s.heap.size (some (.int q)) σ) args s 0 0 (AE E s.heap.size)) 48 [none, none, none, some (.int o), none] [] σ) ?_ FUEL y o hf hk
    have j42 : ∀ (v1 : Int32) (v2 : Int32) (v3 : Int32) (v4 : Int32) (σ : Sg) (r1 : (Int32 × Int32) ⊕ (Int32)), fX9_strandBearsWithout_J42 v1 v2 v3 v4 σ = some r1 → (sel (fun y1 => WA p l e (rmd 3) s m args below meth c 5 E 0 0 (MQ below (Qcq E s.heap.size (some (.int q)) σ) args s 0 0 (AE E s.heap.size)) 5 [some (.ref (eA E 8)), some (.int v1), some (.int v2), some (.int y1.1), some (.int y1.2)] [] σ) (fun y1 => WA p l e (rmd 3) s m args below meth c 5 E 0 0 (MQ below (Qcq E s.heap.size (some (.int q)) σ) args s 0 0 (AE E s.heap.size)) 48 [none, none, none, some (.int y1), none] [] σ) r1) → WA p l e (rmd 3) s m args below meth c 5 E 0 0 (MQ below (Qcq E s.heap.size (some (.int q)) σ) args s 0 0 (AE E s.heap.size)) 42 [some (.ref (eA E 8)), some (.int v1), some (.int v2), some (.int v3), some (.int v4)] [] σ := by
      intro v1 v2 v3 v4 σ r1 hf hk1
      unfold fX9_strandBearsWithout_J42 at hf
      refine wa_iinc (pc := 42) (v := 1) cx 4 [some (.ref (eA E 8)), some (.int v1), some (.int v2), some (.int v3), some (.int (v4 + 1))] dX9_strandBearsWithout_42 (by decide) rfl (by decide) rfl rfl ?_
      refine wa_goto (pc := 45) cx 5 dX9_strandBearsWithout_45 rfl ?_
      obtain rfl := Option.some.inj hf
      refine wa_forget [true, true, true, true, true] [some (.ref (eA E 8)), some (.int v1), some (.int v2), some (.int v3), some (.int (v4 + 1))] rfl ?_
      exact hk1
    intro y0 r1 hf hk1
    obtain ⟨v3, v4⟩ := y0
    have hf : fX9_strandBearsWithout_B5 v1 v2 v3 v4 σ = some r1 := hf
    unfold fX9_strandBearsWithout_B5 at hf
    refine wa_iload (pc := 5) cx 4 dX9_strandBearsWithout_5 rfl ?_
    refine wa_aload_n (pc := 7) cx 0 dX9_strandBearsWithout_7 rfl rfl ?_
    refine wa_getI (pc := 8) cx fl_X9_25 lk_8 rfl (cx.bl 8 rfl) dX9_strandBearsWithout_8 ?_
    refine wa_icmp_ge (pc := 11) cx 48 dX9_strandBearsWithout_11 rfl (fun c1 => ?_) (fun c1 => ?_)
    · have hf := (if_pos c1).symm.trans hf
      obtain rfl := Option.some.inj hf
      refine wa_forget [false, false, false, true, false] [none, none, none, some (.int v3), none] rfl ?_
      exact hk1
    · have hf := (if_neg c1).symm.trans hf
      refine wa_aload_n (pc := 14) cx 0 dX9_strandBearsWithout_14 rfl rfl ?_
      refine wa_getR (pc := 15) cx fl_X9_44 lk_8 rfl (cx.bl 8 rfl) dX9_strandBearsWithout_15 ?_
      refine wa_iconst (pc := 18) (v := 0) cx dX9_strandBearsWithout_18 (by decide) ?_
      refine wa_iload (pc := 19) cx 4 dX9_strandBearsWithout_19 rfl ?_
      refine wa_iadd (pc := 21) cx dX9_strandBearsWithout_21 ?_
      obtain ⟨g2, hf⟩ := gd_some hf
      refine wa_iald (pc := 22) cx lk_14 (cx.bl 14 rfl) g2 dX9_strandBearsWithout_22 ?_
      refine wa_iload_n (pc := 23) cx 1 dX9_strandBearsWithout_23 rfl rfl ?_
      refine wa_icmp_ne (pc := 24) cx 42 dX9_strandBearsWithout_24 rfl (fun c3 => ?_) (fun c3 => ?_)
      · have hf := (if_neg c3).symm.trans hf
        exact j42 _ _ _ _ _ _ hf hk1
      · have hf := (if_pos c3).symm.trans hf
        refine wa_iload (pc := 27) cx 4 dX9_strandBearsWithout_27 rfl ?_
        refine wa_iload_n (pc := 29) cx 2 dX9_strandBearsWithout_29 rfl rfl ?_
        refine wa_icmp_eq (pc := 30) cx 42 dX9_strandBearsWithout_30 rfl (fun c4 => ?_) (fun c4 => ?_)
        · have hf := (if_pos c4).symm.trans hf
          exact j42 _ _ _ _ _ _ hf hk1
        · have hf := (if_neg c4).symm.trans hf
          refine wa_iload_n (pc := 33) cx 3 dX9_strandBearsWithout_33 rfl rfl ?_
          refine wa_aload_n (pc := 34) cx 0 dX9_strandBearsWithout_34 rfl rfl ?_
          refine wa_iload (pc := 35) cx 4 dX9_strandBearsWithout_35 rfl ?_
          obtain ⟨q5, h6, hf⟩ := bd_some hf
          refine wa_callVi (pc := 37) cx [.int v4] (ct_X9_strength l E _ _ _ h6) mi_X9_strength tw_627 lk_8 rfl (cx.bl 8 rfl) rfl rfl (Nat.le_of_ble_eq_true rfl) ⟨Nat.le_of_ble_eq_true rfl, Nat.le_of_ble_eq_true rfl⟩ ⟨Nat.zero_le _, Nat.zero_le _⟩ dX9_strandBearsWithout_37 ?_
          refine wa_iadd (pc := 40) cx dX9_strandBearsWithout_40 ?_
          refine wa_istore_n (pc := 41) cx 3 [some (.ref (eA E 8)), some (.int v1), some (.int v2), some (.int (v3 + q5)), some (.int v4)] dX9_strandBearsWithout_41 rfl (by decide) rfl rfl ?_
          exact j42 _ _ _ _ _ _ hf hk1
  refine wa_iconst (pc := 0) (v := 0) cx dX9_strandBearsWithout_0 (by decide) ?_
  refine wa_istore_n (pc := 1) cx 3 [some (.ref (eA E 8)), some (.int a1), some (.int a2), some (.int 0), none] dX9_strandBearsWithout_1 rfl (by decide) rfl rfl ?_
  refine wa_iconst (pc := 2) (v := 0) cx dX9_strandBearsWithout_2 (by decide) ?_
  refine wa_istore (pc := 3) cx 4 [some (.ref (eA E 8)), some (.int a1), some (.int a2), some (.int 0), some (.int 0)] dX9_strandBearsWithout_3 (by decide) rfl rfl ?_
  obtain ⟨o7, h8, hf⟩ := bd_some hf
  refine l5 _ _ _ _ _ h8 ?_
  refine wa_iload_n (pc := 48) cx 3 dX9_strandBearsWithout_48 rfl rfl ?_
  obtain rfl := Option.some.inj hf
  exact wa_iret (pc := 49) cx dX9_strandBearsWithout_49
def fX9_ropeBearsWithout_B9 (v1 : Int32) (v2 : Int32) (v3 : Int32) (σ : Sg) : Option ((Int32 × Int32) ⊕ (Int32)) :=
  if (3 : Int32) ≤ v3 then (some (.inr v2)) else ((fX9_strandBearsWithout v3 v1 σ).bind (fun q4 =>
  some (.inl (jmin v2 q4, (v3 + 1)))))
def fX9_ropeBearsWithout (a1 : Int32) (σ : Sg) : Option (Int32) :=
  (fX9_strandBearsWithout 0 a1 σ).bind (fun q1 =>
  (lpO (fun w => fX9_ropeBearsWithout_B9 a1 w.1 w.2 σ) FUEL (q1, 1)).bind (fun o6 =>
  some (3 * o6)))
set_option maxHeartbeats 4000000 in
set_option maxRecDepth 100000 in
theorem ct_X9_ropeBearsWithout (l : Launch) (E : En) (σ : Sg) (a1 : Int32) (q : Int32) (hf : fX9_ropeBearsWithout a1 σ = some q) : CT l yX9_ropeBearsWithout cX9_ropeBearsWithout 4 (some .int) 4 E σ [.ref (eA E 8), .int a1] (some (.int q)) σ := by
  refine CT.of RX9 [some (.ref (eA E 8)), some (.int a1), none, none] rfl (by decide +kernel) (Nat.le_of_ble_eq_true rfl) rfl ?_
  intro p e s m args below meth c cx
  unfold fX9_ropeBearsWithout at hf
  have l9 : ∀ (v1 : Int32) (σ : Sg) (y : Int32 × Int32) (o : Int32), lpO (fun w => fX9_ropeBearsWithout_B9 v1 w.1 w.2 σ) FUEL y = some o → (WA p l e (rmd 4) s m args below meth c 4 E 0 0 (MQ below (Qcq E s.heap.size (some (.int q)) σ) args s 0 0 (AE E s.heap.size)) 31 [none, none, some (.int o), none] [] σ) → WA p l e (rmd 4) s m args below meth c 4 E 0 0 (MQ below (Qcq E s.heap.size (some (.int q)) σ) args s 0 0 (AE E s.heap.size)) 9 [some (.ref (eA E 8)), some (.int v1), some (.int y.1), some (.int y.2)] [] σ := by
    intro v1 σ y o hf hk
    refine lp_rule (P := fun y => WA p l e (rmd 4) s m args below meth c 4 E 0 0 (MQ below (Qcq E s.heap.size (some (.int q)) σ) args s 0 0 (AE E s.heap.size)) 9 [some (.ref (eA E 8)), some (.int v1), some (.int y.1), some (.int y.2)] [] σ) (K := fun o => WA p l e (rmd 4) s m args below meth c 4 E 0 0 (MQ below (Qcq E s.heap.size (some (.int q)) σ) args s 0 0 (AE E s.heap.size)) 31 [none, none, some (.int o), none] [] σ) ?_ FUEL y o hf hk
    intro y0 r1 hf hk1
    obtain ⟨v2, v3⟩ := y0
    have hf : fX9_ropeBearsWithout_B9 v1 v2 v3 σ = some r1 := hf
    unfold fX9_ropeBearsWithout_B9 at hf
    refine wa_iload_n (pc := 9) cx 3 dX9_ropeBearsWithout_9 rfl rfl ?_
    refine wa_iconst (pc := 10) (v := 3) cx dX9_ropeBearsWithout_10 (by decide) ?_
    refine wa_icmp_ge (pc := 11) cx 31 dX9_ropeBearsWithout_11 rfl (fun c3 => ?_) (fun c3 => ?_)
    · have hf := (if_pos c3).symm.trans hf
      obtain rfl := Option.some.inj hf
      refine wa_forget [false, false, true, false] [none, none, some (.int v2), none] rfl ?_
      exact hk1
    · have hf := (if_neg c3).symm.trans hf
      refine wa_iload_n (pc := 14) cx 2 dX9_ropeBearsWithout_14 rfl rfl ?_
      refine wa_aload_n (pc := 15) cx 0 dX9_ropeBearsWithout_15 rfl rfl ?_
      refine wa_iload_n (pc := 16) cx 3 dX9_ropeBearsWithout_16 rfl rfl ?_
      refine wa_iload_n (pc := 17) cx 1 dX9_ropeBearsWithout_17 rfl rfl ?_
      obtain ⟨q4, h5, hf⟩ := bd_some hf
      refine wa_callVi (pc := 18) cx [.int v3, .int v1] (ct_X9_strandBearsWithout l E _ _ _ _ h5) mi_X9_strandBearsWithout tw_623 lk_8 rfl (cx.bl 8 rfl) rfl rfl (Nat.le_of_ble_eq_true rfl) ⟨Nat.le_of_ble_eq_true rfl, Nat.le_of_ble_eq_true rfl⟩ ⟨Nat.zero_le _, Nat.zero_le _⟩ dX9_ropeBearsWithout_18 ?_
      refine wa_mmin (pc := 21) cx tw_628 (Nat.le_of_ble_eq_true rfl) (Nat.le_of_ble_eq_true rfl) ⟨Nat.zero_le _, Nat.zero_le _⟩ dX9_ropeBearsWithout_21 ?_
      refine wa_istore_n (pc := 24) cx 2 [some (.ref (eA E 8)), some (.int v1), some (.int (jmin v2 q4)), some (.int v3)] dX9_ropeBearsWithout_24 rfl (by decide) rfl rfl ?_
      refine wa_iinc (pc := 25) (v := 1) cx 3 [some (.ref (eA E 8)), some (.int v1), some (.int (jmin v2 q4)), some (.int (v3 + 1))] dX9_ropeBearsWithout_25 (by decide) rfl (by decide) rfl rfl ?_
      refine wa_goto (pc := 28) cx 9 dX9_ropeBearsWithout_28 rfl ?_
      obtain rfl := Option.some.inj hf
      refine wa_forget [true, true, true, true] [some (.ref (eA E 8)), some (.int v1), some (.int (jmin v2 q4)), some (.int (v3 + 1))] rfl ?_
      exact hk1
  refine wa_aload_n (pc := 0) cx 0 dX9_ropeBearsWithout_0 rfl rfl ?_
  refine wa_iconst (pc := 1) (v := 0) cx dX9_ropeBearsWithout_1 (by decide) ?_
  refine wa_iload_n (pc := 2) cx 1 dX9_ropeBearsWithout_2 rfl rfl ?_
  obtain ⟨q1, h2, hf⟩ := bd_some hf
  refine wa_callVi (pc := 3) cx [.int 0, .int a1] (ct_X9_strandBearsWithout l E _ _ _ _ h2) mi_X9_strandBearsWithout tw_623 lk_8 rfl (cx.bl 8 rfl) rfl rfl (Nat.le_of_ble_eq_true rfl) ⟨Nat.le_of_ble_eq_true rfl, Nat.le_of_ble_eq_true rfl⟩ ⟨Nat.zero_le _, Nat.zero_le _⟩ dX9_ropeBearsWithout_3 ?_
  refine wa_istore_n (pc := 6) cx 2 [some (.ref (eA E 8)), some (.int a1), some (.int q1), none] dX9_ropeBearsWithout_6 rfl (by decide) rfl rfl ?_
  refine wa_iconst (pc := 7) (v := 1) cx dX9_ropeBearsWithout_7 (by decide) ?_
  refine wa_istore_n (pc := 8) cx 3 [some (.ref (eA E 8)), some (.int a1), some (.int q1), some (.int 1)] dX9_ropeBearsWithout_8 rfl (by decide) rfl rfl ?_
  obtain ⟨o6, h7, hf⟩ := bd_some hf
  refine l9 _ _ _ _ h7 ?_
  refine wa_iconst (pc := 31) (v := 3) cx dX9_ropeBearsWithout_31 (by decide) ?_
  refine wa_iload_n (pc := 32) cx 2 dX9_ropeBearsWithout_32 rfl rfl ?_
  refine wa_imul (pc := 33) cx dX9_ropeBearsWithout_33 ?_
  obtain rfl := Option.some.inj hf
  exact wa_iret (pc := 34) cx dX9_ropeBearsWithout_34
def fX9_ropeBears  (σ : Sg) : Option (Int32) :=
  (fX9_ropeBearsWithout (-1) σ).bind (fun q1 =>
  some q1)
set_option maxHeartbeats 4000000 in
set_option maxRecDepth 100000 in
theorem ct_X9_ropeBears (l : Launch) (E : En) (σ : Sg)  (q : Int32) (hf : fX9_ropeBears  σ = some q) : CT l yX9_ropeBears cX9_ropeBears 1 (some .int) 5 E σ [.ref (eA E 8)] (some (.int q)) σ := by
  refine CT.of RX9 [some (.ref (eA E 8))] rfl (by decide +kernel) (Nat.le_of_ble_eq_true rfl) rfl ?_
  intro p e s m args below meth c cx
  unfold fX9_ropeBears at hf
  refine wa_aload_n (pc := 0) cx 0 dX9_ropeBears_0 rfl rfl ?_
  refine wa_iconst (pc := 1) (v := (-1)) cx dX9_ropeBears_1 (by decide) ?_
  obtain ⟨q1, h2, hf⟩ := bd_some hf
  refine wa_callVi (pc := 2) cx [.int (-1)] (ct_X9_ropeBearsWithout l E _ _ _ h2) mi_X9_ropeBearsWithout tw_619 lk_8 rfl (cx.bl 8 rfl) rfl rfl (Nat.le_of_ble_eq_true rfl) ⟨Nat.le_of_ble_eq_true rfl, Nat.le_of_ble_eq_true rfl⟩ ⟨Nat.zero_le _, Nat.zero_le _⟩ dX9_ropeBears_2 ?_
  obtain rfl := Option.some.inj hf
  exact wa_iret (pc := 5) cx dX9_ropeBears_5
def fX9_isLaid (a1 : Int32) (σ : Sg) : Option (Int32) :=
  gd (inb (0 + a1) 36) (
  if ga σ 14 (0 + a1) = (-1) then (some 0) else (some 1))
set_option maxHeartbeats 4000000 in
set_option maxRecDepth 100000 in
theorem ct_X9_isLaid (l : Launch) (E : En) (σ : Sg) (a1 : Int32) (q : Int32) (hf : fX9_isLaid a1 σ = some q) : CT l yX9_isLaid cX9_isLaid 2 (some .boolean) 0 E σ [.ref (eA E 8), .int a1] (some (.int q)) σ := by
  refine CT.of RX9 [some (.ref (eA E 8)), some (.int a1)] rfl (by decide +kernel) (Nat.le_of_ble_eq_true rfl) rfl ?_
  intro p e s m args below meth c cx
  unfold fX9_isLaid at hf
  refine wa_aload_n (pc := 0) cx 0 dX9_isLaid_0 rfl rfl ?_
  refine wa_getR (pc := 1) cx fl_X9_44 lk_8 rfl (cx.bl 8 rfl) dX9_isLaid_1 ?_
  refine wa_iconst (pc := 4) (v := 0) cx dX9_isLaid_4 (by decide) ?_
  refine wa_iload_n (pc := 5) cx 1 dX9_isLaid_5 rfl rfl ?_
  refine wa_iadd (pc := 6) cx dX9_isLaid_6 ?_
  obtain ⟨g1, hf⟩ := gd_some hf
  refine wa_iald (pc := 7) cx lk_14 (cx.bl 14 rfl) g1 dX9_isLaid_7 ?_
  refine wa_iconst (pc := 8) (v := (-1)) cx dX9_isLaid_8 (by decide) ?_
  refine wa_icmp_eq (pc := 9) cx 16 dX9_isLaid_9 rfl (fun c2 => ?_) (fun c2 => ?_)
  · have hf := (if_pos c2).symm.trans hf
    refine wa_iconst (pc := 16) (v := 0) cx dX9_isLaid_16 (by decide) ?_
    obtain rfl := Option.some.inj hf
    exact wa_zret (pc := 17) cx rfl dX9_isLaid_17
  · have hf := (if_neg c2).symm.trans hf
    refine wa_iconst (pc := 12) (v := 1) cx dX9_isLaid_12 (by decide) ?_
    refine wa_goto (pc := 13) cx 17 dX9_isLaid_13 rfl ?_
    obtain rfl := Option.some.inj hf
    exact wa_zret (pc := 17) cx rfl dX9_isLaid_17
def fX9_wearLaid_J33 (v1 : Int32) (t3 : Int32) (t2 : Int32) (t1 : Int32) (σ : Sg) : Option ((Int32 × Sg) ⊕ (Sg)) :=
  gd (inb t1 36) (
  some (.inl ((v1 + 1), sa σ 14 t1 (t2 + t3))))
def fX9_wearLaid_B2  (v1 : Int32) (σ : Sg) : Option ((Int32 × Sg) ⊕ (Sg)) :=
  if gf σ 8 4 ≤ v1 then (some (.inr σ)) else (gd (inb (18 + v1) 36) (
  (fX9_isLaid v1 σ).bind (fun q3 =>
  if q3 = 0 then (fX9_wearLaid_J33 v1 0 (ga σ 14 (18 + v1)) (18 + v1) σ) else (fX9_wearLaid_J33 v1 1 (ga σ 14 (18 + v1)) (18 + v1) σ))))
def fX9_wearLaid  (σ : Sg) : Option (Sg) :=
  (lpO (fun w => fX9_wearLaid_B2  w.1 w.2) FUEL (0, σ)).bind (fun o7 =>
  some o7)
set_option maxHeartbeats 4000000 in
set_option maxRecDepth 100000 in
theorem ct_X9_wearLaid (l : Launch) (E : En) (σ : Sg)  (q : Sg) (hf : fX9_wearLaid  σ = some q) : CT l yX9_wearLaid cX9_wearLaid 2 none 1 E σ [.ref (eA E 8)] none q := by
  refine CT.of RX9 [some (.ref (eA E 8)), none] rfl (by decide +kernel) (Nat.le_of_ble_eq_true rfl) rfl ?_
  intro p e s m args below meth c cx
  unfold fX9_wearLaid at hf
  have l2 : ∀  (y : Int32 × Sg) (o : Sg), lpO (fun w => fX9_wearLaid_B2  w.1 w.2) FUEL y = some o → (WA p l e (rmd 1) s m args below meth c 2 E 0 0 (MQ below (Qcq E s.heap.size (none) q) args s 0 0 (AE E s.heap.size)) 41 [none, none] [] o) → WA p l e (rmd 1) s m args below meth c 2 E 0 0 (MQ below (Qcq E s.heap.size (none) q) args s 0 0 (AE E s.heap.size)) 2 [some (.ref (eA E 8)), some (.int y.1)] [] y.2 := by
    intro  y o hf hk
    refine lp_rule (P := fun y => WA p l e (rmd 1) s m args below meth c 2 E 0 0 (MQ below (Qcq E s.heap.size (none) q) args s 0 0 (AE E s.heap.size)) 2 [some (.ref (eA E 8)), some (.int y.1)] [] y.2) (K := fun o => WA p l e (rmd 1) s m args below meth c 2 E 0 0 (MQ below (Qcq E s.heap.size (none) q) args s 0 0 (AE E s.heap.size)) 41 [none, none] [] o) ?_ FUEL y o hf hk
    have j33 : ∀ (v1 : Int32) (t3 : Int32) (t2 : Int32) (t1 : Int32) (σ : Sg) (r1 : (Int32 × Sg) ⊕ (Sg)), fX9_wearLaid_J33 v1 t3 t2 t1 σ = some r1 → (sel (fun y1 => WA p l e (rmd 1) s m args below meth c 2 E 0 0 (MQ below (Qcq E s.heap.size (none) q) args s 0 0 (AE E s.heap.size)) 2 [some (.ref (eA E 8)), some (.int y1.1)] [] y1.2) (fun y1 => WA p l e (rmd 1) s m args below meth c 2 E 0 0 (MQ below (Qcq E s.heap.size (none) q) args s 0 0 (AE E s.heap.size)) 41 [none, none] [] y1) r1) → WA p l e (rmd 1) s m args below meth c 2 E 0 0 (MQ below (Qcq E s.heap.size (none) q) args s 0 0 (AE E s.heap.size)) 33 [some (.ref (eA E 8)), some (.int v1)] [.int t3, .int t2, .int t1, .ref (eA E 14)] σ := by
      intro v1 t3 t2 t1 σ r1 hf hk1
      unfold fX9_wearLaid_J33 at hf
      refine wa_iadd (pc := 33) cx dX9_wearLaid_33 ?_
      obtain ⟨g6, hf⟩ := gd_some hf
      refine wa_iast (pc := 34) cx lk_14 (cx.bl 14 rfl) g6 dX9_wearLaid_34 ?_
      refine wa_iinc (pc := 35) (v := 1) cx 1 [some (.ref (eA E 8)), some (.int (v1 + 1))] dX9_wearLaid_35 (by decide) rfl (by decide) rfl rfl ?_
      refine wa_goto (pc := 38) cx 2 dX9_wearLaid_38 rfl ?_
      obtain rfl := Option.some.inj hf
      refine wa_forget [true, true] [some (.ref (eA E 8)), some (.int (v1 + 1))] rfl ?_
      exact hk1
    intro y0 r1 hf hk1
    obtain ⟨v1, σ⟩ := y0
    have hf : fX9_wearLaid_B2  v1 σ = some r1 := hf
    unfold fX9_wearLaid_B2 at hf
    refine wa_iload_n (pc := 2) cx 1 dX9_wearLaid_2 rfl rfl ?_
    refine wa_aload_n (pc := 3) cx 0 dX9_wearLaid_3 rfl rfl ?_
    refine wa_getI (pc := 4) cx fl_X9_25 lk_8 rfl (cx.bl 8 rfl) dX9_wearLaid_4 ?_
    refine wa_icmp_ge (pc := 7) cx 41 dX9_wearLaid_7 rfl (fun c1 => ?_) (fun c1 => ?_)
    · have hf := (if_pos c1).symm.trans hf
      obtain rfl := Option.some.inj hf
      refine wa_forget [false, false] [none, none] rfl ?_
      exact hk1
    · have hf := (if_neg c1).symm.trans hf
      refine wa_aload_n (pc := 10) cx 0 dX9_wearLaid_10 rfl rfl ?_
      refine wa_getR (pc := 11) cx fl_X9_44 lk_8 rfl (cx.bl 8 rfl) dX9_wearLaid_11 ?_
      refine wa_bipush (pc := 14) (v := 18) cx dX9_wearLaid_14 (by decide) ?_
      refine wa_iload_n (pc := 16) cx 1 dX9_wearLaid_16 rfl rfl ?_
      refine wa_iadd (pc := 17) cx dX9_wearLaid_17 ?_
      refine wa_dup2 (pc := 18) cx dX9_wearLaid_18 rfl rfl ?_
      obtain ⟨g2, hf⟩ := gd_some hf
      refine wa_iald (pc := 19) cx lk_14 (cx.bl 14 rfl) g2 dX9_wearLaid_19 ?_
      refine wa_aload_n (pc := 20) cx 0 dX9_wearLaid_20 rfl rfl ?_
      refine wa_iload_n (pc := 21) cx 1 dX9_wearLaid_21 rfl rfl ?_
      obtain ⟨q3, h4, hf⟩ := bd_some hf
      refine wa_callVi (pc := 22) cx [.int v1] (ct_X9_isLaid l E _ _ _ h4) mi_X9_isLaid tw_645 lk_8 rfl (cx.bl 8 rfl) rfl rfl (Nat.le_of_ble_eq_true rfl) ⟨Nat.le_of_ble_eq_true rfl, Nat.le_of_ble_eq_true rfl⟩ ⟨Nat.zero_le _, Nat.zero_le _⟩ dX9_wearLaid_22 ?_
      refine wa_if_eq (pc := 25) cx 32 dX9_wearLaid_25 rfl (fun c5 => ?_) (fun c5 => ?_)
      · have hf := (if_pos c5).symm.trans hf
        refine wa_iconst (pc := 32) (v := 0) cx dX9_wearLaid_32 (by decide) ?_
        exact j33 _ _ _ _ _ _ hf hk1
      · have hf := (if_neg c5).symm.trans hf
        refine wa_iconst (pc := 28) (v := 1) cx dX9_wearLaid_28 (by decide) ?_
        refine wa_goto (pc := 29) cx 33 dX9_wearLaid_29 rfl ?_
        exact j33 _ _ _ _ _ _ hf hk1
  refine wa_iconst (pc := 0) (v := 0) cx dX9_wearLaid_0 (by decide) ?_
  refine wa_istore_n (pc := 1) cx 1 [some (.ref (eA E 8)), some (.int 0)] dX9_wearLaid_1 rfl (by decide) rfl rfl ?_
  obtain ⟨o7, h8, hf⟩ := bd_some hf
  refine l2  _ _ h8 ?_
  obtain rfl := Option.some.inj hf
  exact wa_vret (pc := 41) cx dX9_wearLaid_41
def fX9_strandBears (a1 : Int32) (σ : Sg) : Option (Int32) :=
  (fX9_strandBearsWithout a1 (-1) σ).bind (fun q1 =>
  some q1)
set_option maxHeartbeats 4000000 in
set_option maxRecDepth 100000 in
theorem ct_X9_strandBears (l : Launch) (E : En) (σ : Sg) (a1 : Int32) (q : Int32) (hf : fX9_strandBears a1 σ = some q) : CT l yX9_strandBears cX9_strandBears 2 (some .int) 4 E σ [.ref (eA E 8), .int a1] (some (.int q)) σ := by
  refine CT.of RX9 [some (.ref (eA E 8)), some (.int a1)] rfl (by decide +kernel) (Nat.le_of_ble_eq_true rfl) rfl ?_
  intro p e s m args below meth c cx
  unfold fX9_strandBears at hf
  refine wa_aload_n (pc := 0) cx 0 dX9_strandBears_0 rfl rfl ?_
  refine wa_iload_n (pc := 1) cx 1 dX9_strandBears_1 rfl rfl ?_
  refine wa_iconst (pc := 2) (v := (-1)) cx dX9_strandBears_2 (by decide) ?_
  obtain ⟨q1, h2, hf⟩ := bd_some hf
  refine wa_callVi (pc := 3) cx [.int a1, .int (-1)] (ct_X9_strandBearsWithout l E _ _ _ _ h2) mi_X9_strandBearsWithout tw_623 lk_8 rfl (cx.bl 8 rfl) rfl rfl (Nat.le_of_ble_eq_true rfl) ⟨Nat.le_of_ble_eq_true rfl, Nat.le_of_ble_eq_true rfl⟩ ⟨Nat.zero_le _, Nat.zero_le _⟩ dX9_strandBears_3 ?_
  obtain rfl := Option.some.inj hf
  exact wa_iret (pc := 6) cx dX9_strandBears_6
def fX9_weakestStrand_J24 (v1 : Int32) (v2 : Int32) (σ : Sg) : Option ((Int32 × Int32) ⊕ (Int32)) :=
  some (.inl (v1, (v2 + 1)))
def fX9_weakestStrand_B4  (v1 : Int32) (v2 : Int32) (σ : Sg) : Option ((Int32 × Int32) ⊕ (Int32)) :=
  if (3 : Int32) ≤ v2 then (some (.inr v1)) else ((fX9_strandBears v2 σ).bind (fun q2 =>
  (fX9_strandBears v1 σ).bind (fun q4 =>
  if q4 ≤ q2 then (fX9_weakestStrand_J24 v1 v2 σ) else (fX9_weakestStrand_J24 v2 v2 σ))))
def fX9_weakestStrand  (σ : Sg) : Option (Int32) :=
  (lpO (fun w => fX9_weakestStrand_B4  w.1 w.2 σ) FUEL (0, 1)).bind (fun o7 =>
  some o7)
set_option maxHeartbeats 4000000 in
set_option maxRecDepth 100000 in
theorem ct_X9_weakestStrand (l : Launch) (E : En) (σ : Sg)  (q : Int32) (hf : fX9_weakestStrand  σ = some q) : CT l yX9_weakestStrand cX9_weakestStrand 3 (some .int) 5 E σ [.ref (eA E 8)] (some (.int q)) σ := by
  refine CT.of RX9 [some (.ref (eA E 8)), none, none] rfl (by decide +kernel) (Nat.le_of_ble_eq_true rfl) rfl ?_
  intro p e s m args below meth c cx
  unfold fX9_weakestStrand at hf
  have l4 : ∀  (σ : Sg) (y : Int32 × Int32) (o : Int32), lpO (fun w => fX9_weakestStrand_B4  w.1 w.2 σ) FUEL y = some o → (WA p l e (rmd 5) s m args below meth c 3 E 0 0 (MQ below (Qcq E s.heap.size (some (.int q)) σ) args s 0 0 (AE E s.heap.size)) 30 [none, some (.int o), none] [] σ) → WA p l e (rmd 5) s m args below meth c 3 E 0 0 (MQ below (Qcq E s.heap.size (some (.int q)) σ) args s 0 0 (AE E s.heap.size)) 4 [some (.ref (eA E 8)), some (.int y.1), some (.int y.2)] [] σ := by
    intro  σ y o hf hk
    refine lp_rule (P := fun y => WA p l e (rmd 5) s m args below meth c 3 E 0 0 (MQ below (Qcq E s.heap.size (some (.int q)) σ) args s 0 0 (AE E s.heap.size)) 4 [some (.ref (eA E 8)), some (.int y.1), some (.int y.2)] [] σ) (K := fun o => WA p l e (rmd 5) s m args below meth c 3 E 0 0 (MQ below (Qcq E s.heap.size (some (.int q)) σ) args s 0 0 (AE E s.heap.size)) 30 [none, some (.int o), none] [] σ) ?_ FUEL y o hf hk
    have j24 : ∀ (v1 : Int32) (v2 : Int32) (σ : Sg) (r1 : (Int32 × Int32) ⊕ (Int32)), fX9_weakestStrand_J24 v1 v2 σ = some r1 → (sel (fun y1 => WA p l e (rmd 5) s m args below meth c 3 E 0 0 (MQ below (Qcq E s.heap.size (some (.int q)) σ) args s 0 0 (AE E s.heap.size)) 4 [some (.ref (eA E 8)), some (.int y1.1), some (.int y1.2)] [] σ) (fun y1 => WA p l e (rmd 5) s m args below meth c 3 E 0 0 (MQ below (Qcq E s.heap.size (some (.int q)) σ) args s 0 0 (AE E s.heap.size)) 30 [none, some (.int y1), none] [] σ) r1) → WA p l e (rmd 5) s m args below meth c 3 E 0 0 (MQ below (Qcq E s.heap.size (some (.int q)) σ) args s 0 0 (AE E s.heap.size)) 24 [some (.ref (eA E 8)), some (.int v1), some (.int v2)] [] σ := by
      intro v1 v2 σ r1 hf hk1
      unfold fX9_weakestStrand_J24 at hf
      refine wa_iinc (pc := 24) (v := 1) cx 2 [some (.ref (eA E 8)), some (.int v1), some (.int (v2 + 1))] dX9_weakestStrand_24 (by decide) rfl (by decide) rfl rfl ?_
      refine wa_goto (pc := 27) cx 4 dX9_weakestStrand_27 rfl ?_
      obtain rfl := Option.some.inj hf
      refine wa_forget [true, true, true] [some (.ref (eA E 8)), some (.int v1), some (.int (v2 + 1))] rfl ?_
      exact hk1
    intro y0 r1 hf hk1
    obtain ⟨v1, v2⟩ := y0
    have hf : fX9_weakestStrand_B4  v1 v2 σ = some r1 := hf
    unfold fX9_weakestStrand_B4 at hf
    refine wa_iload_n (pc := 4) cx 2 dX9_weakestStrand_4 rfl rfl ?_
    refine wa_iconst (pc := 5) (v := 3) cx dX9_weakestStrand_5 (by decide) ?_
    refine wa_icmp_ge (pc := 6) cx 30 dX9_weakestStrand_6 rfl (fun c1 => ?_) (fun c1 => ?_)
    · have hf := (if_pos c1).symm.trans hf
      obtain rfl := Option.some.inj hf
      refine wa_forget [false, true, false] [none, some (.int v1), none] rfl ?_
      exact hk1
    · have hf := (if_neg c1).symm.trans hf
      refine wa_aload_n (pc := 9) cx 0 dX9_weakestStrand_9 rfl rfl ?_
      refine wa_iload_n (pc := 10) cx 2 dX9_weakestStrand_10 rfl rfl ?_
      obtain ⟨q2, h3, hf⟩ := bd_some hf
      refine wa_callVi (pc := 11) cx [.int v2] (ct_X9_strandBears l E _ _ _ h3) mi_X9_strandBears tw_633 lk_8 rfl (cx.bl 8 rfl) rfl rfl (Nat.le_of_ble_eq_true rfl) ⟨Nat.le_of_ble_eq_true rfl, Nat.le_of_ble_eq_true rfl⟩ ⟨Nat.zero_le _, Nat.zero_le _⟩ dX9_weakestStrand_11 ?_
      refine wa_aload_n (pc := 14) cx 0 dX9_weakestStrand_14 rfl rfl ?_
      refine wa_iload_n (pc := 15) cx 1 dX9_weakestStrand_15 rfl rfl ?_
      obtain ⟨q4, h5, hf⟩ := bd_some hf
      refine wa_callVi (pc := 16) cx [.int v1] (ct_X9_strandBears l E _ _ _ h5) mi_X9_strandBears tw_633 lk_8 rfl (cx.bl 8 rfl) rfl rfl (Nat.le_of_ble_eq_true rfl) ⟨Nat.le_of_ble_eq_true rfl, Nat.le_of_ble_eq_true rfl⟩ ⟨Nat.zero_le _, Nat.zero_le _⟩ dX9_weakestStrand_16 ?_
      refine wa_icmp_ge (pc := 19) cx 24 dX9_weakestStrand_19 rfl (fun c6 => ?_) (fun c6 => ?_)
      · have hf := (if_pos c6).symm.trans hf
        exact j24 _ _ _ _ hf hk1
      · have hf := (if_neg c6).symm.trans hf
        refine wa_iload_n (pc := 22) cx 2 dX9_weakestStrand_22 rfl rfl ?_
        refine wa_istore_n (pc := 23) cx 1 [some (.ref (eA E 8)), some (.int v2), some (.int v2)] dX9_weakestStrand_23 rfl (by decide) rfl rfl ?_
        exact j24 _ _ _ _ hf hk1
  refine wa_iconst (pc := 0) (v := 0) cx dX9_weakestStrand_0 (by decide) ?_
  refine wa_istore_n (pc := 1) cx 1 [some (.ref (eA E 8)), some (.int 0), none] dX9_weakestStrand_1 rfl (by decide) rfl rfl ?_
  refine wa_iconst (pc := 2) (v := 1) cx dX9_weakestStrand_2 (by decide) ?_
  refine wa_istore_n (pc := 3) cx 2 [some (.ref (eA E 8)), some (.int 0), some (.int 1)] dX9_weakestStrand_3 rfl (by decide) rfl rfl ?_
  obtain ⟨o7, h8, hf⟩ := bd_some hf
  refine l4  _ _ _ h8 ?_
  refine wa_iload_n (pc := 30) cx 1 dX9_weakestStrand_30 rfl rfl ?_
  obtain rfl := Option.some.inj hf
  exact wa_iret (pc := 31) cx dX9_weakestStrand_31
def fX9_part_J44 (v1 : Int32) (v2 : Int32) (σ : Sg) : Option ((Int32 × Sg) ⊕ (Sg)) :=
  some (.inl ((v2 + 1), σ))
def fX9_part_B2 (v1 : Int32) (v2 : Int32) (σ : Sg) : Option ((Int32 × Sg) ⊕ (Sg)) :=
  if gf σ 8 4 ≤ v2 then (some (.inr σ)) else (gd (inb (0 + v2) 36) (
  if ga σ 14 (0 + v2) = v1 then (gd (inb (0 + v2) 36) (
  gd (inb (18 + v2) 36) (
  gd (inb (18 + v2) 36) (
  fX9_part_J44 v1 v2 (sa (sa σ 14 (0 + v2) (-1)) 14 (18 + v2) (ga (sa σ 14 (0 + v2) (-1)) 14 (18 + v2) + 5)))))) else (fX9_part_J44 v1 v2 σ)))
def fX9_part (a1 : Int32) (σ : Sg) : Option (Sg) :=
  (lpO (fun w => fX9_part_B2 a1 w.1 w.2) FUEL (0, σ)).bind (fun o7 =>
  some o7)
set_option maxHeartbeats 4000000 in
set_option maxRecDepth 100000 in
theorem ct_X9_part (l : Launch) (E : En) (σ : Sg) (a1 : Int32) (q : Sg) (hf : fX9_part a1 σ = some q) : CT l yX9_part cX9_part 3 none 0 E σ [.ref (eA E 8), .int a1] none q := by
  refine CT.of RX9 [some (.ref (eA E 8)), some (.int a1), none] rfl (by decide +kernel) (Nat.le_of_ble_eq_true rfl) rfl ?_
  intro p e s m args below meth c cx
  unfold fX9_part at hf
  have l2 : ∀ (v1 : Int32) (y : Int32 × Sg) (o : Sg), lpO (fun w => fX9_part_B2 v1 w.1 w.2) FUEL y = some o → (WA p l e (rmd 0) s m args below meth c 3 E 0 0 (MQ below (Qcq E s.heap.size (none) q) args s 0 0 (AE E s.heap.size)) 50 [none, none, none] [] o) → WA p l e (rmd 0) s m args below meth c 3 E 0 0 (MQ below (Qcq E s.heap.size (none) q) args s 0 0 (AE E s.heap.size)) 2 [some (.ref (eA E 8)), some (.int v1), some (.int y.1)] [] y.2 := by
    intro v1 y o hf hk
    refine lp_rule (P := fun y => WA p l e (rmd 0) s m args below meth c 3 E 0 0 (MQ below (Qcq E s.heap.size (none) q) args s 0 0 (AE E s.heap.size)) 2 [some (.ref (eA E 8)), some (.int v1), some (.int y.1)] [] y.2) (K := fun o => WA p l e (rmd 0) s m args below meth c 3 E 0 0 (MQ below (Qcq E s.heap.size (none) q) args s 0 0 (AE E s.heap.size)) 50 [none, none, none] [] o) ?_ FUEL y o hf hk
    have j44 : ∀ (v1 : Int32) (v2 : Int32) (σ : Sg) (r1 : (Int32 × Sg) ⊕ (Sg)), fX9_part_J44 v1 v2 σ = some r1 → (sel (fun y1 => WA p l e (rmd 0) s m args below meth c 3 E 0 0 (MQ below (Qcq E s.heap.size (none) q) args s 0 0 (AE E s.heap.size)) 2 [some (.ref (eA E 8)), some (.int v1), some (.int y1.1)] [] y1.2) (fun y1 => WA p l e (rmd 0) s m args below meth c 3 E 0 0 (MQ below (Qcq E s.heap.size (none) q) args s 0 0 (AE E s.heap.size)) 50 [none, none, none] [] y1) r1) → WA p l e (rmd 0) s m args below meth c 3 E 0 0 (MQ below (Qcq E s.heap.size (none) q) args s 0 0 (AE E s.heap.size)) 44 [some (.ref (eA E 8)), some (.int v1), some (.int v2)] [] σ := by
      intro v1 v2 σ r1 hf hk1
      unfold fX9_part_J44 at hf
      refine wa_iinc (pc := 44) (v := 1) cx 2 [some (.ref (eA E 8)), some (.int v1), some (.int (v2 + 1))] dX9_part_44 (by decide) rfl (by decide) rfl rfl ?_
      refine wa_goto (pc := 47) cx 2 dX9_part_47 rfl ?_
      obtain rfl := Option.some.inj hf
      refine wa_forget [true, true, true] [some (.ref (eA E 8)), some (.int v1), some (.int (v2 + 1))] rfl ?_
      exact hk1
    intro y0 r1 hf hk1
    obtain ⟨v2, σ⟩ := y0
    have hf : fX9_part_B2 v1 v2 σ = some r1 := hf
    unfold fX9_part_B2 at hf
    refine wa_iload_n (pc := 2) cx 2 dX9_part_2 rfl rfl ?_
    refine wa_aload_n (pc := 3) cx 0 dX9_part_3 rfl rfl ?_
    refine wa_getI (pc := 4) cx fl_X9_25 lk_8 rfl (cx.bl 8 rfl) dX9_part_4 ?_
    refine wa_icmp_ge (pc := 7) cx 50 dX9_part_7 rfl (fun c1 => ?_) (fun c1 => ?_)
    · have hf := (if_pos c1).symm.trans hf
      obtain rfl := Option.some.inj hf
      refine wa_forget [false, false, false] [none, none, none] rfl ?_
      exact hk1
    · have hf := (if_neg c1).symm.trans hf
      refine wa_aload_n (pc := 10) cx 0 dX9_part_10 rfl rfl ?_
      refine wa_getR (pc := 11) cx fl_X9_44 lk_8 rfl (cx.bl 8 rfl) dX9_part_11 ?_
      refine wa_iconst (pc := 14) (v := 0) cx dX9_part_14 (by decide) ?_
      refine wa_iload_n (pc := 15) cx 2 dX9_part_15 rfl rfl ?_
      refine wa_iadd (pc := 16) cx dX9_part_16 ?_
      obtain ⟨g2, hf⟩ := gd_some hf
      refine wa_iald (pc := 17) cx lk_14 (cx.bl 14 rfl) g2 dX9_part_17 ?_
      refine wa_iload_n (pc := 18) cx 1 dX9_part_18 rfl rfl ?_
      refine wa_icmp_ne (pc := 19) cx 44 dX9_part_19 rfl (fun c3 => ?_) (fun c3 => ?_)
      · have hf := (if_neg c3).symm.trans hf
        exact j44 _ _ _ _ hf hk1
      · have hf := (if_pos c3).symm.trans hf
        refine wa_aload_n (pc := 22) cx 0 dX9_part_22 rfl rfl ?_
        refine wa_getR (pc := 23) cx fl_X9_44 lk_8 rfl (cx.bl 8 rfl) dX9_part_23 ?_
        refine wa_iconst (pc := 26) (v := 0) cx dX9_part_26 (by decide) ?_
        refine wa_iload_n (pc := 27) cx 2 dX9_part_27 rfl rfl ?_
        refine wa_iadd (pc := 28) cx dX9_part_28 ?_
        refine wa_iconst (pc := 29) (v := (-1)) cx dX9_part_29 (by decide) ?_
        obtain ⟨g4, hf⟩ := gd_some hf
        refine wa_iast (pc := 30) cx lk_14 (cx.bl 14 rfl) g4 dX9_part_30 ?_
        refine wa_aload_n (pc := 31) cx 0 dX9_part_31 rfl rfl ?_
        refine wa_getR (pc := 32) cx fl_X9_44 lk_8 rfl (cx.bl 8 rfl) dX9_part_32 ?_
        refine wa_bipush (pc := 35) (v := 18) cx dX9_part_35 (by decide) ?_
        refine wa_iload_n (pc := 37) cx 2 dX9_part_37 rfl rfl ?_
        refine wa_iadd (pc := 38) cx dX9_part_38 ?_
        refine wa_dup2 (pc := 39) cx dX9_part_39 rfl rfl ?_
        obtain ⟨g5, hf⟩ := gd_some hf
        refine wa_iald (pc := 40) cx lk_14 (cx.bl 14 rfl) g5 dX9_part_40 ?_
        refine wa_iconst (pc := 41) (v := 5) cx dX9_part_41 (by decide) ?_
        refine wa_iadd (pc := 42) cx dX9_part_42 ?_
        obtain ⟨g6, hf⟩ := gd_some hf
        refine wa_iast (pc := 43) cx lk_14 (cx.bl 14 rfl) g6 dX9_part_43 ?_
        exact j44 _ _ _ _ hf hk1
  refine wa_iconst (pc := 0) (v := 0) cx dX9_part_0 (by decide) ?_
  refine wa_istore_n (pc := 1) cx 2 [some (.ref (eA E 8)), some (.int a1), some (.int 0)] dX9_part_1 rfl (by decide) rfl rfl ?_
  obtain ⟨o7, h8, hf⟩ := bd_some hf
  refine l2 _ _ _ h8 ?_
  obtain rfl := Option.some.inj hf
  exact wa_vret (pc := 50) cx dX9_part_50
def fX9_isDrawn_J24  (σ : Sg) : Option (Int32) :=
  some 0
def fX9_isDrawn (a1 : Int32) (σ : Sg) : Option (Int32) :=
  gd (inb a1 9) (
  if ga σ 11 a1 = 2 then (fX9_isDrawn_J24  σ) else (gd (inb a1 9) (
  if ga σ 11 a1 = 4 then (fX9_isDrawn_J24  σ) else (some 1))))
set_option maxHeartbeats 4000000 in
set_option maxRecDepth 100000 in
theorem ct_X9_isDrawn (l : Launch) (E : En) (σ : Sg) (a1 : Int32) (q : Int32) (hf : fX9_isDrawn a1 σ = some q) : CT l yX9_isDrawn cX9_isDrawn 2 (some .boolean) 0 E σ [.ref (eA E 8), .int a1] (some (.int q)) σ := by
  refine CT.of RX9 [some (.ref (eA E 8)), some (.int a1)] rfl (by decide +kernel) (Nat.le_of_ble_eq_true rfl) rfl ?_
  intro p e s m args below meth c cx
  unfold fX9_isDrawn at hf
  have j24 : ∀  (σ : Sg), fX9_isDrawn_J24  σ = some q → WA p l e (rmd 0) s m args below meth c 2 E 0 0 (MQ below (Qcq E s.heap.size (some (.int q)) σ) args s 0 0 (AE E s.heap.size)) 24 [none, none] [] σ := by
    intro  σ hf
    unfold fX9_isDrawn_J24 at hf
    refine wa_iconst (pc := 24) (v := 0) cx dX9_isDrawn_24 (by decide) ?_
    obtain rfl := Option.some.inj hf
    exact wa_zret (pc := 25) cx rfl dX9_isDrawn_25
  refine wa_aload_n (pc := 0) cx 0 dX9_isDrawn_0 rfl rfl ?_
  refine wa_getR (pc := 1) cx fl_X9_35 lk_8 rfl (cx.bl 8 rfl) dX9_isDrawn_1 ?_
  refine wa_iload_n (pc := 4) cx 1 dX9_isDrawn_4 rfl rfl ?_
  obtain ⟨g1, hf⟩ := gd_some hf
  refine wa_iald (pc := 5) cx lk_11 (cx.bl 11 rfl) g1 dX9_isDrawn_5 ?_
  refine wa_iconst (pc := 6) (v := 2) cx dX9_isDrawn_6 (by decide) ?_
  refine wa_icmp_eq (pc := 7) cx 24 dX9_isDrawn_7 rfl (fun c2 => ?_) (fun c2 => ?_)
  · have hf := (if_pos c2).symm.trans hf
    refine wa_forget [false, false] [none, none] rfl ?_
    exact j24  _ hf
  · have hf := (if_neg c2).symm.trans hf
    refine wa_aload_n (pc := 10) cx 0 dX9_isDrawn_10 rfl rfl ?_
    refine wa_getR (pc := 11) cx fl_X9_35 lk_8 rfl (cx.bl 8 rfl) dX9_isDrawn_11 ?_
    refine wa_iload_n (pc := 14) cx 1 dX9_isDrawn_14 rfl rfl ?_
    obtain ⟨g3, hf⟩ := gd_some hf
    refine wa_iald (pc := 15) cx lk_11 (cx.bl 11 rfl) g3 dX9_isDrawn_15 ?_
    refine wa_iconst (pc := 16) (v := 4) cx dX9_isDrawn_16 (by decide) ?_
    refine wa_icmp_eq (pc := 17) cx 24 dX9_isDrawn_17 rfl (fun c4 => ?_) (fun c4 => ?_)
    · have hf := (if_pos c4).symm.trans hf
      refine wa_forget [false, false] [none, none] rfl ?_
      exact j24  _ hf
    · have hf := (if_neg c4).symm.trans hf
      refine wa_iconst (pc := 20) (v := 1) cx dX9_isDrawn_20 (by decide) ?_
      refine wa_goto (pc := 21) cx 25 dX9_isDrawn_21 rfl ?_
      obtain rfl := Option.some.inj hf
      exact wa_zret (pc := 25) cx rfl dX9_isDrawn_25
def fX9_keptInTen (a1 : Int32) (σ : Sg) : Option (Int32) :=
  gd (inb (9 + a1) 36) (
  if ga σ 14 (9 + a1) = 0 then (gd (inb a1 9) (
  if ga σ 11 a1 = 2 then (some 10) else (gd (inb a1 9) (
  if ga σ 11 a1 = 4 then (some 0) else (gd (inb a1 9) (
  gd (inb (ga σ 12 a1) 5) (
  some (ga σ 9 (ga σ 12 a1))))))))) else (gd (inb (9 + a1) 36) (
  if ga σ 14 (9 + a1) = 1 then (some 10) else (some 0))))
set_option maxHeartbeats 4000000 in
set_option maxRecDepth 100000 in
theorem ct_X9_keptInTen (l : Launch) (E : En) (σ : Sg) (a1 : Int32) (q : Int32) (hf : fX9_keptInTen a1 σ = some q) : CT l yX9_keptInTen cX9_keptInTen 2 (some .int) 0 E σ [.ref (eA E 8), .int a1] (some (.int q)) σ := by
  refine CT.of RX9 [some (.ref (eA E 8)), some (.int a1)] rfl (by decide +kernel) (Nat.le_of_ble_eq_true rfl) rfl ?_
  intro p e s m args below meth c cx
  unfold fX9_keptInTen at hf
  refine wa_aload_n (pc := 0) cx 0 dX9_keptInTen_0 rfl rfl ?_
  refine wa_getR (pc := 1) cx fl_X9_44 lk_8 rfl (cx.bl 8 rfl) dX9_keptInTen_1 ?_
  refine wa_bipush (pc := 4) (v := 9) cx dX9_keptInTen_4 (by decide) ?_
  refine wa_iload_n (pc := 6) cx 1 dX9_keptInTen_6 rfl rfl ?_
  refine wa_iadd (pc := 7) cx dX9_keptInTen_7 ?_
  obtain ⟨g1, hf⟩ := gd_some hf
  refine wa_iald (pc := 8) cx lk_14 (cx.bl 14 rfl) g1 dX9_keptInTen_8 ?_
  refine wa_if_eq (pc := 9) cx 32 dX9_keptInTen_9 rfl (fun c2 => ?_) (fun c2 => ?_)
  · have hf := (if_pos c2).symm.trans hf
    refine wa_aload_n (pc := 32) cx 0 dX9_keptInTen_32 rfl rfl ?_
    refine wa_getR (pc := 33) cx fl_X9_35 lk_8 rfl (cx.bl 8 rfl) dX9_keptInTen_33 ?_
    refine wa_iload_n (pc := 36) cx 1 dX9_keptInTen_36 rfl rfl ?_
    obtain ⟨g3, hf⟩ := gd_some hf
    refine wa_iald (pc := 37) cx lk_11 (cx.bl 11 rfl) g3 dX9_keptInTen_37 ?_
    refine wa_iconst (pc := 38) (v := 2) cx dX9_keptInTen_38 (by decide) ?_
    refine wa_icmp_ne (pc := 39) cx 47 dX9_keptInTen_39 rfl (fun c4 => ?_) (fun c4 => ?_)
    · have hf := (if_neg c4).symm.trans hf
      refine wa_aload_n (pc := 47) cx 0 dX9_keptInTen_47 rfl rfl ?_
      refine wa_getR (pc := 48) cx fl_X9_35 lk_8 rfl (cx.bl 8 rfl) dX9_keptInTen_48 ?_
      refine wa_iload_n (pc := 51) cx 1 dX9_keptInTen_51 rfl rfl ?_
      obtain ⟨g5, hf⟩ := gd_some hf
      refine wa_iald (pc := 52) cx lk_11 (cx.bl 11 rfl) g5 dX9_keptInTen_52 ?_
      refine wa_iconst (pc := 53) (v := 4) cx dX9_keptInTen_53 (by decide) ?_
      refine wa_icmp_ne (pc := 54) cx 61 dX9_keptInTen_54 rfl (fun c6 => ?_) (fun c6 => ?_)
      · have hf := (if_neg c6).symm.trans hf
        refine wa_aload_n (pc := 61) cx 0 dX9_keptInTen_61 rfl rfl ?_
        refine wa_getR (pc := 62) cx fl_X9_28 lk_8 rfl (cx.bl 8 rfl) dX9_keptInTen_62 ?_
        refine wa_aload_n (pc := 65) cx 0 dX9_keptInTen_65 rfl rfl ?_
        refine wa_getR (pc := 66) cx fl_X9_38 lk_8 rfl (cx.bl 8 rfl) dX9_keptInTen_66 ?_
        refine wa_iload_n (pc := 69) cx 1 dX9_keptInTen_69 rfl rfl ?_
        obtain ⟨g7, hf⟩ := gd_some hf
        refine wa_iald (pc := 70) cx lk_12 (cx.bl 12 rfl) g7 dX9_keptInTen_70 ?_
        obtain ⟨g8, hf⟩ := gd_some hf
        refine wa_iald (pc := 71) cx lk_9 (cx.bl 9 rfl) g8 dX9_keptInTen_71 ?_
        obtain rfl := Option.some.inj hf
        exact wa_iret (pc := 72) cx dX9_keptInTen_72
      · have hf := (if_pos c6).symm.trans hf
        refine wa_iconst (pc := 57) (v := 0) cx dX9_keptInTen_57 (by decide) ?_
        refine wa_goto (pc := 58) cx 72 dX9_keptInTen_58 rfl ?_
        obtain rfl := Option.some.inj hf
        exact wa_iret (pc := 72) cx dX9_keptInTen_72
    · have hf := (if_pos c4).symm.trans hf
      refine wa_bipush (pc := 42) (v := 10) cx dX9_keptInTen_42 (by decide) ?_
      refine wa_goto (pc := 44) cx 72 dX9_keptInTen_44 rfl ?_
      obtain rfl := Option.some.inj hf
      exact wa_iret (pc := 72) cx dX9_keptInTen_72
  · have hf := (if_neg c2).symm.trans hf
    refine wa_aload_n (pc := 12) cx 0 dX9_keptInTen_12 rfl rfl ?_
    refine wa_getR (pc := 13) cx fl_X9_44 lk_8 rfl (cx.bl 8 rfl) dX9_keptInTen_13 ?_
    refine wa_bipush (pc := 16) (v := 9) cx dX9_keptInTen_16 (by decide) ?_
    refine wa_iload_n (pc := 18) cx 1 dX9_keptInTen_18 rfl rfl ?_
    refine wa_iadd (pc := 19) cx dX9_keptInTen_19 ?_
    obtain ⟨g9, hf⟩ := gd_some hf
    refine wa_iald (pc := 20) cx lk_14 (cx.bl 14 rfl) g9 dX9_keptInTen_20 ?_
    refine wa_iconst (pc := 21) (v := 1) cx dX9_keptInTen_21 (by decide) ?_
    refine wa_icmp_ne (pc := 22) cx 30 dX9_keptInTen_22 rfl (fun c10 => ?_) (fun c10 => ?_)
    · have hf := (if_neg c10).symm.trans hf
      refine wa_iconst (pc := 30) (v := 0) cx dX9_keptInTen_30 (by decide) ?_
      obtain rfl := Option.some.inj hf
      exact wa_iret (pc := 31) cx dX9_keptInTen_31
    · have hf := (if_pos c10).symm.trans hf
      refine wa_bipush (pc := 25) (v := 10) cx dX9_keptInTen_25 (by decide) ?_
      refine wa_goto (pc := 27) cx 31 dX9_keptInTen_27 rfl ?_
      obtain rfl := Option.some.inj hf
      exact wa_iret (pc := 31) cx dX9_keptInTen_31
def fX9_priceOf_B4 (v1 : Int32) (v2 : Int32) (v3 : Int32) (σ : Sg) : Option ((Int32 × Int32) ⊕ (Int32)) :=
  if gf σ 8 4 ≤ v3 then (some (.inr v2)) else (gd (inb v3 9) (
  gd (inb (ga σ 12 v3) 5) (
  gd (inb v3 9) (
  some (.inl ((v2 + (((jshr v1 v3 &&& 1) * ga σ 10 (ga σ 12 v3)) * ga σ 13 v3)), (v3 + 1)))))))
def fX9_priceOf (a1 : Int32) (σ : Sg) : Option (Int32) :=
  (lpO (fun w => fX9_priceOf_B4 a1 w.1 w.2 σ) FUEL (0, 0)).bind (fun o5 =>
  some o5)
set_option maxHeartbeats 4000000 in
set_option maxRecDepth 100000 in
theorem ct_X9_priceOf (l : Launch) (E : En) (σ : Sg) (a1 : Int32) (q : Int32) (hf : fX9_priceOf a1 σ = some q) : CT l yX9_priceOf cX9_priceOf 4 (some .int) 0 E σ [.ref (eA E 8), .int a1] (some (.int q)) σ := by
  refine CT.of RX9 [some (.ref (eA E 8)), some (.int a1), none, none] rfl (by decide +kernel) (Nat.le_of_ble_eq_true rfl) rfl ?_
  intro p e s m args below meth c cx
  unfold fX9_priceOf at hf
  have l4 : ∀ (v1 : Int32) (σ : Sg) (y : Int32 × Int32) (o : Int32), lpO (fun w => fX9_priceOf_B4 v1 w.1 w.2 σ) FUEL y = some o → (WA p l e (rmd 0) s m args below meth c 4 E 0 0 (MQ below (Qcq E s.heap.size (some (.int q)) σ) args s 0 0 (AE E s.heap.size)) 45 [none, none, some (.int o), none] [] σ) → WA p l e (rmd 0) s m args below meth c 4 E 0 0 (MQ below (Qcq E s.heap.size (some (.int q)) σ) args s 0 0 (AE E s.heap.size)) 4 [some (.ref (eA E 8)), some (.int v1), some (.int y.1), some (.int y.2)] [] σ := by
    intro v1 σ y o hf hk
    refine lp_rule (P := fun y => WA p l e (rmd 0) s m args below meth c 4 E 0 0 (MQ below (Qcq E s.heap.size (some (.int q)) σ) args s 0 0 (AE E s.heap.size)) 4 [some (.ref (eA E 8)), some (.int v1), some (.int y.1), some (.int y.2)] [] σ) (K := fun o => WA p l e (rmd 0) s m args below meth c 4 E 0 0 (MQ below (Qcq E s.heap.size (some (.int q)) σ) args s 0 0 (AE E s.heap.size)) 45 [none, none, some (.int o), none] [] σ) ?_ FUEL y o hf hk
    intro y0 r1 hf hk1
    obtain ⟨v2, v3⟩ := y0
    have hf : fX9_priceOf_B4 v1 v2 v3 σ = some r1 := hf
    unfold fX9_priceOf_B4 at hf
    refine wa_iload_n (pc := 4) cx 3 dX9_priceOf_4 rfl rfl ?_
    refine wa_aload_n (pc := 5) cx 0 dX9_priceOf_5 rfl rfl ?_
    refine wa_getI (pc := 6) cx fl_X9_25 lk_8 rfl (cx.bl 8 rfl) dX9_priceOf_6 ?_
    refine wa_icmp_ge (pc := 9) cx 45 dX9_priceOf_9 rfl (fun c1 => ?_) (fun c1 => ?_)
    · have hf := (if_pos c1).symm.trans hf
      obtain rfl := Option.some.inj hf
      refine wa_forget [false, false, true, false] [none, none, some (.int v2), none] rfl ?_
      exact hk1
    · have hf := (if_neg c1).symm.trans hf
      refine wa_iload_n (pc := 12) cx 2 dX9_priceOf_12 rfl rfl ?_
      refine wa_iload_n (pc := 13) cx 1 dX9_priceOf_13 rfl rfl ?_
      refine wa_iload_n (pc := 14) cx 3 dX9_priceOf_14 rfl rfl ?_
      refine wa_ishr (pc := 15) cx dX9_priceOf_15 ?_
      refine wa_iconst (pc := 16) (v := 1) cx dX9_priceOf_16 (by decide) ?_
      refine wa_iand (pc := 17) cx dX9_priceOf_17 ?_
      refine wa_aload_n (pc := 18) cx 0 dX9_priceOf_18 rfl rfl ?_
      refine wa_getR (pc := 19) cx fl_X9_32 lk_8 rfl (cx.bl 8 rfl) dX9_priceOf_19 ?_
      refine wa_aload_n (pc := 22) cx 0 dX9_priceOf_22 rfl rfl ?_
      refine wa_getR (pc := 23) cx fl_X9_38 lk_8 rfl (cx.bl 8 rfl) dX9_priceOf_23 ?_
      refine wa_iload_n (pc := 26) cx 3 dX9_priceOf_26 rfl rfl ?_
      obtain ⟨g2, hf⟩ := gd_some hf
      refine wa_iald (pc := 27) cx lk_12 (cx.bl 12 rfl) g2 dX9_priceOf_27 ?_
      obtain ⟨g3, hf⟩ := gd_some hf
      refine wa_iald (pc := 28) cx lk_10 (cx.bl 10 rfl) g3 dX9_priceOf_28 ?_
      refine wa_imul (pc := 29) cx dX9_priceOf_29 ?_
      refine wa_aload_n (pc := 30) cx 0 dX9_priceOf_30 rfl rfl ?_
      refine wa_getR (pc := 31) cx fl_X9_41 lk_8 rfl (cx.bl 8 rfl) dX9_priceOf_31 ?_
      refine wa_iload_n (pc := 34) cx 3 dX9_priceOf_34 rfl rfl ?_
      obtain ⟨g4, hf⟩ := gd_some hf
      refine wa_iald (pc := 35) cx lk_13 (cx.bl 13 rfl) g4 dX9_priceOf_35 ?_
      refine wa_imul (pc := 36) cx dX9_priceOf_36 ?_
      refine wa_iadd (pc := 37) cx dX9_priceOf_37 ?_
      refine wa_istore_n (pc := 38) cx 2 [some (.ref (eA E 8)), some (.int v1), some (.int (v2 + (((jshr v1 v3 &&& 1) * ga σ 10 (ga σ 12 v3)) * ga σ 13 v3))), some (.int v3)] dX9_priceOf_38 rfl (by decide) rfl rfl ?_
      refine wa_iinc (pc := 39) (v := 1) cx 3 [some (.ref (eA E 8)), some (.int v1), some (.int (v2 + (((jshr v1 v3 &&& 1) * ga σ 10 (ga σ 12 v3)) * ga σ 13 v3))), some (.int (v3 + 1))] dX9_priceOf_39 (by decide) rfl (by decide) rfl rfl ?_
      refine wa_goto (pc := 42) cx 4 dX9_priceOf_42 rfl ?_
      obtain rfl := Option.some.inj hf
      refine wa_forget [true, true, true, true] [some (.ref (eA E 8)), some (.int v1), some (.int (v2 + (((jshr v1 v3 &&& 1) * ga σ 10 (ga σ 12 v3)) * ga σ 13 v3))), some (.int (v3 + 1))] rfl ?_
      exact hk1
  refine wa_iconst (pc := 0) (v := 0) cx dX9_priceOf_0 (by decide) ?_
  refine wa_istore_n (pc := 1) cx 2 [some (.ref (eA E 8)), some (.int a1), some (.int 0), none] dX9_priceOf_1 rfl (by decide) rfl rfl ?_
  refine wa_iconst (pc := 2) (v := 0) cx dX9_priceOf_2 (by decide) ?_
  refine wa_istore_n (pc := 3) cx 3 [some (.ref (eA E 8)), some (.int a1), some (.int 0), some (.int 0)] dX9_priceOf_3 rfl (by decide) rfl rfl ?_
  obtain ⟨o5, h6, hf⟩ := bd_some hf
  refine l4 _ _ _ _ h6 ?_
  refine wa_iload_n (pc := 45) cx 2 dX9_priceOf_45 rfl rfl ?_
  obtain rfl := Option.some.inj hf
  exact wa_iret (pc := 46) cx dX9_priceOf_46
def fX9_laidYarns_J26 (v2 : Int32) (t1 : Int32) (t0 : Int32) (σ : Sg) : Option ((Int32 × Int32) ⊕ (Int32)) :=
  some (.inl ((t0 + t1), (v2 + 1)))
def fX9_laidYarns_B4  (v1 : Int32) (v2 : Int32) (σ : Sg) : Option ((Int32 × Int32) ⊕ (Int32)) :=
  if gf σ 8 4 ≤ v2 then (some (.inr v1)) else ((fX9_isLaid v2 σ).bind (fun q2 =>
  if q2 = 0 then (fX9_laidYarns_J26 v2 0 v1 σ) else (fX9_laidYarns_J26 v2 1 v1 σ)))
def fX9_laidYarns  (σ : Sg) : Option (Int32) :=
  (lpO (fun w => fX9_laidYarns_B4  w.1 w.2 σ) FUEL (0, 0)).bind (fun o5 =>
  some o5)
set_option maxHeartbeats 4000000 in
set_option maxRecDepth 100000 in
theorem ct_X9_laidYarns (l : Launch) (E : En) (σ : Sg)  (q : Int32) (hf : fX9_laidYarns  σ = some q) : CT l yX9_laidYarns cX9_laidYarns 3 (some .int) 1 E σ [.ref (eA E 8)] (some (.int q)) σ := by
  refine CT.of RX9 [some (.ref (eA E 8)), none, none] rfl (by decide +kernel) (Nat.le_of_ble_eq_true rfl) rfl ?_
  intro p e s m args below meth c cx
  unfold fX9_laidYarns at hf
  have l4 : ∀  (σ : Sg) (y : Int32 × Int32) (o : Int32), lpO (fun w => fX9_laidYarns_B4  w.1 w.2 σ) FUEL y = some o → (WA p l e (rmd 1) s m args below meth c 3 E 0 0 (MQ below (Qcq E s.heap.size (some (.int q)) σ) args s 0 0 (AE E s.heap.size)) 34 [none, some (.int o), none] [] σ) → WA p l e (rmd 1) s m args below meth c 3 E 0 0 (MQ below (Qcq E s.heap.size (some (.int q)) σ) args s 0 0 (AE E s.heap.size)) 4 [some (.ref (eA E 8)), some (.int y.1), some (.int y.2)] [] σ := by
    intro  σ y o hf hk
    refine lp_rule (P := fun y => WA p l e (rmd 1) s m args below meth c 3 E 0 0 (MQ below (Qcq E s.heap.size (some (.int q)) σ) args s 0 0 (AE E s.heap.size)) 4 [some (.ref (eA E 8)), some (.int y.1), some (.int y.2)] [] σ) (K := fun o => WA p l e (rmd 1) s m args below meth c 3 E 0 0 (MQ below (Qcq E s.heap.size (some (.int q)) σ) args s 0 0 (AE E s.heap.size)) 34 [none, some (.int o), none] [] σ) ?_ FUEL y o hf hk
    have j26 : ∀ (v2 : Int32) (t1 : Int32) (t0 : Int32) (σ : Sg) (r1 : (Int32 × Int32) ⊕ (Int32)), fX9_laidYarns_J26 v2 t1 t0 σ = some r1 → (sel (fun y1 => WA p l e (rmd 1) s m args below meth c 3 E 0 0 (MQ below (Qcq E s.heap.size (some (.int q)) σ) args s 0 0 (AE E s.heap.size)) 4 [some (.ref (eA E 8)), some (.int y1.1), some (.int y1.2)] [] σ) (fun y1 => WA p l e (rmd 1) s m args below meth c 3 E 0 0 (MQ below (Qcq E s.heap.size (some (.int q)) σ) args s 0 0 (AE E s.heap.size)) 34 [none, some (.int y1), none] [] σ) r1) → WA p l e (rmd 1) s m args below meth c 3 E 0 0 (MQ below (Qcq E s.heap.size (some (.int q)) σ) args s 0 0 (AE E s.heap.size)) 26 [some (.ref (eA E 8)), none, some (.int v2)] [.int t1, .int t0] σ := by
      intro v2 t1 t0 σ r1 hf hk1
      unfold fX9_laidYarns_J26 at hf
      refine wa_iadd (pc := 26) cx dX9_laidYarns_26 ?_
      refine wa_istore_n (pc := 27) cx 1 [some (.ref (eA E 8)), some (.int (t0 + t1)), some (.int v2)] dX9_laidYarns_27 rfl (by decide) rfl rfl ?_
      refine wa_iinc (pc := 28) (v := 1) cx 2 [some (.ref (eA E 8)), some (.int (t0 + t1)), some (.int (v2 + 1))] dX9_laidYarns_28 (by decide) rfl (by decide) rfl rfl ?_
      refine wa_goto (pc := 31) cx 4 dX9_laidYarns_31 rfl ?_
      obtain rfl := Option.some.inj hf
      refine wa_forget [true, true, true] [some (.ref (eA E 8)), some (.int (t0 + t1)), some (.int (v2 + 1))] rfl ?_
      exact hk1
    intro y0 r1 hf hk1
    obtain ⟨v1, v2⟩ := y0
    have hf : fX9_laidYarns_B4  v1 v2 σ = some r1 := hf
    unfold fX9_laidYarns_B4 at hf
    refine wa_iload_n (pc := 4) cx 2 dX9_laidYarns_4 rfl rfl ?_
    refine wa_aload_n (pc := 5) cx 0 dX9_laidYarns_5 rfl rfl ?_
    refine wa_getI (pc := 6) cx fl_X9_25 lk_8 rfl (cx.bl 8 rfl) dX9_laidYarns_6 ?_
    refine wa_icmp_ge (pc := 9) cx 34 dX9_laidYarns_9 rfl (fun c1 => ?_) (fun c1 => ?_)
    · have hf := (if_pos c1).symm.trans hf
      obtain rfl := Option.some.inj hf
      refine wa_forget [false, true, false] [none, some (.int v1), none] rfl ?_
      exact hk1
    · have hf := (if_neg c1).symm.trans hf
      refine wa_iload_n (pc := 12) cx 1 dX9_laidYarns_12 rfl rfl ?_
      refine wa_aload_n (pc := 13) cx 0 dX9_laidYarns_13 rfl rfl ?_
      refine wa_iload_n (pc := 14) cx 2 dX9_laidYarns_14 rfl rfl ?_
      obtain ⟨q2, h3, hf⟩ := bd_some hf
      refine wa_callVi (pc := 15) cx [.int v2] (ct_X9_isLaid l E _ _ _ h3) mi_X9_isLaid tw_645 lk_8 rfl (cx.bl 8 rfl) rfl rfl (Nat.le_of_ble_eq_true rfl) ⟨Nat.le_of_ble_eq_true rfl, Nat.le_of_ble_eq_true rfl⟩ ⟨Nat.zero_le _, Nat.zero_le _⟩ dX9_laidYarns_15 ?_
      refine wa_if_eq (pc := 18) cx 25 dX9_laidYarns_18 rfl (fun c4 => ?_) (fun c4 => ?_)
      · have hf := (if_pos c4).symm.trans hf
        refine wa_iconst (pc := 25) (v := 0) cx dX9_laidYarns_25 (by decide) ?_
        refine wa_forget [true, false, true] [some (.ref (eA E 8)), none, some (.int v2)] rfl ?_
        exact j26 _ _ _ _ _ hf hk1
      · have hf := (if_neg c4).symm.trans hf
        refine wa_iconst (pc := 21) (v := 1) cx dX9_laidYarns_21 (by decide) ?_
        refine wa_goto (pc := 22) cx 26 dX9_laidYarns_22 rfl ?_
        refine wa_forget [true, false, true] [some (.ref (eA E 8)), none, some (.int v2)] rfl ?_
        exact j26 _ _ _ _ _ hf hk1
  refine wa_iconst (pc := 0) (v := 0) cx dX9_laidYarns_0 (by decide) ?_
  refine wa_istore_n (pc := 1) cx 1 [some (.ref (eA E 8)), some (.int 0), none] dX9_laidYarns_1 rfl (by decide) rfl rfl ?_
  refine wa_iconst (pc := 2) (v := 0) cx dX9_laidYarns_2 (by decide) ?_
  refine wa_istore_n (pc := 3) cx 2 [some (.ref (eA E 8)), some (.int 0), some (.int 0)] dX9_laidYarns_3 rfl (by decide) rfl rfl ?_
  obtain ⟨o5, h6, hf⟩ := bd_some hf
  refine l4  _ _ _ h6 ?_
  refine wa_iload_n (pc := 34) cx 1 dX9_laidYarns_34 rfl rfl ?_
  obtain rfl := Option.some.inj hf
  exact wa_iret (pc := 35) cx dX9_laidYarns_35
