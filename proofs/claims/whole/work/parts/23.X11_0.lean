def fX11_in_J17  (σ : Sg) : Option (Int32) :=
  some 0
def fX11_in (a1 : Int64) (a2 : Int64) (a3 : Int64) (σ : Sg) : Option (Int32) :=
  if lg_cmp a1 a2 < 0 then (fX11_in_J17  σ) else (if (0 : Int32) < lg_cmp a1 a3 then (fX11_in_J17  σ) else (some 1))
set_option maxHeartbeats 4000000 in
set_option maxRecDepth 100000 in
theorem ct_X11_in (l : Launch) (E : En) (σ : Sg) (a1 : Int64) (a2 : Int64) (a3 : Int64) (q : Int32) (hf : fX11_in a1 a2 a3 σ = some q) : CT l yX11_in cX11_in 6 (some .boolean) 0 E σ [.long a1, .long a2, .long a3] (some (.int q)) σ := by
  refine CT.of RX11 [some (.long a1), none, some (.long a2), none, some (.long a3), none] rfl (by decide +kernel) (Nat.le_of_ble_eq_true rfl) rfl ?_
  intro p e s m args below meth c cx
  unfold fX11_in at hf
  have j17 : ∀  (σ : Sg), fX11_in_J17  σ = some q → WA p l e (rmd 0) s m args below meth c 6 E 0 0 (MQ below (Qcq E s.heap.size (some (.int q)) σ) args s 0 0 (AE E s.heap.size)) 17 [none, none, none, none, none, none] [] σ := by
    intro  σ hf
    unfold fX11_in_J17 at hf
    refine wa_iconst (pc := 17) (v := 0) cx dX11_in_17 (by decide) ?_
    obtain rfl := Option.some.inj hf
    exact wa_zret (pc := 18) cx rfl dX11_in_18
  refine wa_lload_n (pc := 0) cx 0 dX11_in_0 rfl rfl ?_
  refine wa_lload_n (pc := 1) cx 2 dX11_in_1 rfl rfl ?_
  refine wa_lcmp (pc := 2) cx dX11_in_2 ?_
  refine wa_if_lt (pc := 3) cx 17 dX11_in_3 rfl (fun c1 => ?_) (fun c1 => ?_)
  · have hf := (if_pos c1).symm.trans hf
    refine wa_forget [false, false, false, false, false, false] [none, none, none, none, none, none] rfl ?_
    exact j17  _ hf
  · have hf := (if_neg c1).symm.trans hf
    refine wa_lload_n (pc := 6) cx 0 dX11_in_6 rfl rfl ?_
    refine wa_lload (pc := 7) cx 4 dX11_in_7 rfl ?_
    refine wa_lcmp (pc := 9) cx dX11_in_9 ?_
    refine wa_if_gt (pc := 10) cx 17 dX11_in_10 rfl (fun c2 => ?_) (fun c2 => ?_)
    · have hf := (if_pos c2).symm.trans hf
      refine wa_forget [false, false, false, false, false, false] [none, none, none, none, none, none] rfl ?_
      exact j17  _ hf
    · have hf := (if_neg c2).symm.trans hf
      refine wa_iconst (pc := 13) (v := 1) cx dX11_in_13 (by decide) ?_
      refine wa_goto (pc := 14) cx 18 dX11_in_14 rfl ?_
      obtain rfl := Option.some.inj hf
      exact wa_zret (pc := 18) cx rfl dX11_in_18
def fX11_isRow (a1 : Int32) (σ : Sg) : Option (Int32) :=
  (fX11_in ((a1).toInt64) 0 7 σ).bind (fun q1 =>
  gd (isz q1) (
  some q1))
set_option maxHeartbeats 4000000 in
set_option maxRecDepth 100000 in
theorem ct_X11_isRow (l : Launch) (E : En) (σ : Sg) (a1 : Int32) (q : Int32) (hf : fX11_isRow a1 σ = some q) : CT l yX11_isRow cX11_isRow 1 (some .boolean) 1 E σ [.int a1] (some (.int q)) σ := by
  refine CT.of RX11 [some (.int a1)] rfl (by decide +kernel) (Nat.le_of_ble_eq_true rfl) rfl ?_
  intro p e s m args below meth c cx
  unfold fX11_isRow at hf
  refine wa_iload_n (pc := 0) cx 0 dX11_isRow_0 rfl rfl ?_
  refine wa_i2l (pc := 1) cx dX11_isRow_1 ?_
  refine wa_lconst (pc := 2) (v := 0) cx dX11_isRow_2 (by decide) ?_
  refine wa_ldc2 (pc := 3) (v := 7) cx dX11_isRow_3 tw_951 ?_
  obtain ⟨q1, h2, hf⟩ := bd_some hf
  refine wa_callSi (pc := 6) cx [.long ((a1).toInt64), .long 0, .long 7] (ct_X11_in l E _ _ _ _ _ h2) ms_X11_in tw_952 rfl rfl (Nat.le_of_ble_eq_true rfl) ⟨Nat.le_of_ble_eq_true rfl, Nat.le_of_ble_eq_true rfl⟩ ⟨Nat.zero_le _, Nat.zero_le _⟩ dX11_isRow_6 ?_
  obtain ⟨g3, hf⟩ := gd_some hf
  obtain rfl := Option.some.inj hf
  exact wa_zret (pc := 9) cx g3 dX11_isRow_9
def fX11_finding (a1 : Int32) (σ : Sg) : Option (Int32 × Sg) :=
  some (((-1000010) - a1), sup σ 38 1 a1)
set_option maxHeartbeats 4000000 in
set_option maxRecDepth 100000 in
theorem ct_X11_finding (l : Launch) (E : En) (σ : Sg) (a1 : Int32) (q : Int32 × Sg) (hf : fX11_finding a1 σ = some q) : CT l yX11_finding cX11_finding 2 (some .int) 0 E σ [.ref (eA E 38), .int a1] (some (.int q.1)) q.2 := by
  refine CT.of RX11 [some (.ref (eA E 38)), some (.int a1)] rfl (by decide +kernel) (Nat.le_of_ble_eq_true rfl) rfl ?_
  intro p e s m args below meth c cx
  unfold fX11_finding at hf
  refine wa_aload_n (pc := 0) cx 0 dX11_finding_0 rfl rfl ?_
  refine wa_iload_n (pc := 1) cx 1 dX11_finding_1 rfl rfl ?_
  refine wa_putI (pc := 2) cx fp_X11_54 lk_38 rfl (cx.bl 38 rfl) dX11_finding_2 ?_
  refine wa_ldc (pc := 5) (v := (-1000010)) cx dX11_finding_5 tw_961 ?_
  refine wa_iload_n (pc := 7) cx 1 dX11_finding_7 rfl rfl ?_
  refine wa_isub (pc := 8) cx dX11_finding_8 ?_
  obtain rfl := Option.some.inj hf
  exact wa_iret (pc := 9) cx dX11_finding_9
def fX11_row_J30  (σ : Sg) : Option (Int32 × Sg) :=
  some ((-1000001), σ)
def fX11_row_B65 (v1 : Int32) (v3 : Int32) (v4 : Int32) (σ : Sg) : Option ((Int32 × Sg) ⊕ (Sg)) :=
  if (40 : Int32) ≤ v4 then (some (.inr σ)) else (gd (inb ((40 * v1) + v4) 320) (
  some (.inl ((v4 + 1), sa σ 41 ((40 * v1) + v4) 0))))
def fX11_row (a1 : Int32) (a2 : Int32) (a3 : Int32) (σ : Sg) : Option (Int32 × Sg) :=
  (fX11_isRow a1 (sup σ 38 0 0)).bind (fun q1 =>
  if q1 = 0 then (fX11_row_J30  (sup σ 38 0 0)) else ((fX11_in ((a2).toInt64) 0 2 (sup σ 38 0 0)).bind (fun q4 =>
  if q4 = 0 then (fX11_row_J30  (sup σ 38 0 0)) else (if a3 ≤ 40 then (if (0 : Int32) ≤ a3 then (gd (inb a1 8) (
  gd (inb a1 8) (
  (lpO (fun w => fX11_row_B65 a1 a3 w.1 w.2) FUEL (0, sa (sa (sup (sup σ 38 0 0) 38 1 0) 39 a1 a2) 40 a1 a3)).bind (fun o13 =>
  some (a3, o13))))) else ((fX11_finding 4 (sup (sup σ 38 0 0) 38 1 0)).bind (fun q15 =>
  some (q15.1, q15.2)))) else (fX11_row_J30  (sup σ 38 0 0))))))
set_option maxHeartbeats 4000000 in
set_option maxRecDepth 100000 in
theorem ct_X11_row (l : Launch) (E : En) (σ : Sg) (a1 : Int32) (a2 : Int32) (a3 : Int32) (q : Int32 × Sg) (hf : fX11_row a1 a2 a3 σ = some q) : CT l yX11_row cX11_row 5 (some .int) 2 E σ [.ref (eA E 38), .int a1, .int a2, .int a3] (some (.int q.1)) q.2 := by
  refine CT.of RX11 [some (.ref (eA E 38)), some (.int a1), some (.int a2), some (.int a3), none] rfl (by decide +kernel) (Nat.le_of_ble_eq_true rfl) rfl ?_
  intro p e s m args below meth c cx
  unfold fX11_row at hf
  have j30 : ∀  (σ : Sg), fX11_row_J30  σ = some q → WA p l e (rmd 2) s m args below meth c 5 E 0 0 (MQ below (Qcq E s.heap.size (some (.int q.1)) q.2) args s 0 0 (AE E s.heap.size)) 30 [none, none, none, none, none] [] σ := by
    intro  σ hf
    unfold fX11_row_J30 at hf
    refine wa_ldc (pc := 30) (v := (-1000001)) cx dX11_row_30 tw_956 ?_
    obtain rfl := Option.some.inj hf
    exact wa_iret (pc := 32) cx dX11_row_32
  have l65 : ∀ (v1 : Int32) (v3 : Int32) (y : Int32 × Sg) (o : Sg), lpO (fun w => fX11_row_B65 v1 v3 w.1 w.2) FUEL y = some o → (WA p l e (rmd 2) s m args below meth c 5 E 0 0 (MQ below (Qcq E s.heap.size (some (.int q.1)) q.2) args s 0 0 (AE E s.heap.size)) 91 [none, none, none, some (.int v3), none] [] o) → WA p l e (rmd 2) s m args below meth c 5 E 0 0 (MQ below (Qcq E s.heap.size (some (.int q.1)) q.2) args s 0 0 (AE E s.heap.size)) 65 [some (.ref (eA E 38)), some (.int v1), none, some (.int v3), some (.int y.1)] [] y.2 := by
    intro v1 v3 y o hf hk
    refine lp_rule (P := fun y => WA p l e (rmd 2) s m args below meth c 5 E 0 0 (MQ below (Qcq E s.heap.size (some (.int q.1)) q.2) args s 0 0 (AE E s.heap.size)) 65 [some (.ref (eA E 38)), some (.int v1), none, some (.int v3), some (.int y.1)] [] y.2) (K := fun o => WA p l e (rmd 2) s m args below meth c 5 E 0 0 (MQ below (Qcq E s.heap.size (some (.int q.1)) q.2) args s 0 0 (AE E s.heap.size)) 91 [none, none, none, some (.int v3), none] [] o) ?_ FUEL y o hf hk
    intro y0 r1 hf hk1
    obtain ⟨v4, σ⟩ := y0
    have hf : fX11_row_B65 v1 v3 v4 σ = some r1 := hf
    unfold fX11_row_B65 at hf
    refine wa_iload (pc := 65) cx 4 dX11_row_65 rfl ?_
    refine wa_bipush (pc := 67) (v := 40) cx dX11_row_67 (by decide) ?_
    refine wa_icmp_ge (pc := 69) cx 91 dX11_row_69 rfl (fun c11 => ?_) (fun c11 => ?_)
    · have hf := (if_pos c11).symm.trans hf
      obtain rfl := Option.some.inj hf
      refine wa_forget [false, false, false, true, false] [none, none, none, some (.int v3), none] rfl ?_
      exact hk1
    · have hf := (if_neg c11).symm.trans hf
      refine wa_aload_n (pc := 72) cx 0 dX11_row_72 rfl rfl ?_
      refine wa_getR (pc := 73) cx fl_X11_16 lk_38 rfl (cx.bl 38 rfl) dX11_row_73 ?_
      refine wa_bipush (pc := 76) (v := 40) cx dX11_row_76 (by decide) ?_
      refine wa_iload_n (pc := 78) cx 1 dX11_row_78 rfl rfl ?_
      refine wa_imul (pc := 79) cx dX11_row_79 ?_
      refine wa_iload (pc := 80) cx 4 dX11_row_80 rfl ?_
      refine wa_iadd (pc := 82) cx dX11_row_82 ?_
      refine wa_iconst (pc := 83) (v := 0) cx dX11_row_83 (by decide) ?_
      obtain ⟨g12, hf⟩ := gd_some hf
      refine wa_iast (pc := 84) cx lk_41 (cx.bl 41 rfl) g12 dX11_row_84 ?_
      refine wa_iinc (pc := 85) (v := 1) cx 4 [some (.ref (eA E 38)), some (.int v1), none, some (.int v3), some (.int (v4 + 1))] dX11_row_85 (by decide) rfl (by decide) rfl rfl ?_
      refine wa_goto (pc := 88) cx 65 dX11_row_88 rfl ?_
      obtain rfl := Option.some.inj hf
      refine wa_forget [true, true, false, true, true] [some (.ref (eA E 38)), some (.int v1), none, some (.int v3), some (.int (v4 + 1))] rfl ?_
      exact hk1
  refine wa_aload_n (pc := 0) cx 0 dX11_row_0 rfl rfl ?_
  refine wa_iconst (pc := 1) (v := 0) cx dX11_row_1 (by decide) ?_
  refine wa_putI (pc := 2) cx fp_X11_50 lk_38 rfl (cx.bl 38 rfl) dX11_row_2 ?_
  refine wa_iload_n (pc := 5) cx 1 dX11_row_5 rfl rfl ?_
  obtain ⟨q1, h2, hf⟩ := bd_some hf
  refine wa_callSi (pc := 6) cx [.int a1] (ct_X11_isRow l E _ _ _ h2) ms_X11_isRow tw_948 rfl rfl (Nat.le_of_ble_eq_true rfl) ⟨Nat.le_of_ble_eq_true rfl, Nat.le_of_ble_eq_true rfl⟩ ⟨Nat.zero_le _, Nat.zero_le _⟩ dX11_row_6 ?_
  refine wa_if_eq (pc := 9) cx 30 dX11_row_9 rfl (fun c3 => ?_) (fun c3 => ?_)
  · have hf := (if_pos c3).symm.trans hf
    refine wa_forget [false, false, false, false, false] [none, none, none, none, none] rfl ?_
    exact j30  _ hf
  · have hf := (if_neg c3).symm.trans hf
    refine wa_iload_n (pc := 12) cx 2 dX11_row_12 rfl rfl ?_
    refine wa_i2l (pc := 13) cx dX11_row_13 ?_
    refine wa_lconst (pc := 14) (v := 0) cx dX11_row_14 (by decide) ?_
    refine wa_ldc2 (pc := 15) (v := 2) cx dX11_row_15 tw_955 ?_
    obtain ⟨q4, h5, hf⟩ := bd_some hf
    refine wa_callSi (pc := 18) cx [.long ((a2).toInt64), .long 0, .long 2] (ct_X11_in l E _ _ _ _ _ h5) ms_X11_in tw_952 rfl rfl (Nat.le_of_ble_eq_true rfl) ⟨Nat.le_of_ble_eq_true rfl, Nat.le_of_ble_eq_true rfl⟩ ⟨Nat.zero_le _, Nat.zero_le _⟩ dX11_row_18 ?_
    refine wa_if_eq (pc := 21) cx 30 dX11_row_21 rfl (fun c6 => ?_) (fun c6 => ?_)
    · have hf := (if_pos c6).symm.trans hf
      refine wa_forget [false, false, false, false, false] [none, none, none, none, none] rfl ?_
      exact j30  _ hf
    · have hf := (if_neg c6).symm.trans hf
      refine wa_iload_n (pc := 24) cx 3 dX11_row_24 rfl rfl ?_
      refine wa_bipush (pc := 25) (v := 40) cx dX11_row_25 (by decide) ?_
      refine wa_icmp_le (pc := 27) cx 33 dX11_row_27 rfl (fun c7 => ?_) (fun c7 => ?_)
      · have hf := (if_pos c7).symm.trans hf
        refine wa_aload_n (pc := 33) cx 0 dX11_row_33 rfl rfl ?_
        refine wa_iconst (pc := 34) (v := 0) cx dX11_row_34 (by decide) ?_
        refine wa_putI (pc := 35) cx fp_X11_54 lk_38 rfl (cx.bl 38 rfl) dX11_row_35 ?_
        refine wa_iload_n (pc := 38) cx 3 dX11_row_38 rfl rfl ?_
        refine wa_if_ge (pc := 39) cx 48 dX11_row_39 rfl (fun c8 => ?_) (fun c8 => ?_)
        · have hf := (if_pos c8).symm.trans hf
          refine wa_aload_n (pc := 48) cx 0 dX11_row_48 rfl rfl ?_
          refine wa_getR (pc := 49) cx fl_X11_7 lk_38 rfl (cx.bl 38 rfl) dX11_row_49 ?_
          refine wa_iload_n (pc := 52) cx 1 dX11_row_52 rfl rfl ?_
          refine wa_iload_n (pc := 53) cx 2 dX11_row_53 rfl rfl ?_
          obtain ⟨g9, hf⟩ := gd_some hf
          refine wa_iast (pc := 54) cx lk_39 (cx.bl 39 rfl) g9 dX11_row_54 ?_
          refine wa_aload_n (pc := 55) cx 0 dX11_row_55 rfl rfl ?_
          refine wa_getR (pc := 56) cx fl_X11_13 lk_38 rfl (cx.bl 38 rfl) dX11_row_56 ?_
          refine wa_iload_n (pc := 59) cx 1 dX11_row_59 rfl rfl ?_
          refine wa_iload_n (pc := 60) cx 3 dX11_row_60 rfl rfl ?_
          obtain ⟨g10, hf⟩ := gd_some hf
          refine wa_iast (pc := 61) cx lk_40 (cx.bl 40 rfl) g10 dX11_row_61 ?_
          refine wa_iconst (pc := 62) (v := 0) cx dX11_row_62 (by decide) ?_
          refine wa_istore (pc := 63) cx 4 [some (.ref (eA E 38)), some (.int a1), some (.int a2), some (.int a3), some (.int 0)] dX11_row_63 (by decide) rfl rfl ?_
          refine wa_forget [true, true, false, true, true] [some (.ref (eA E 38)), some (.int a1), none, some (.int a3), some (.int 0)] rfl ?_
          obtain ⟨o13, h14, hf⟩ := bd_some hf
          refine l65 _ _ _ _ h14 ?_
          refine wa_iload_n (pc := 91) cx 3 dX11_row_91 rfl rfl ?_
          obtain rfl := Option.some.inj hf
          exact wa_iret (pc := 92) cx dX11_row_92
        · have hf := (if_neg c8).symm.trans hf
          refine wa_aload_n (pc := 42) cx 0 dX11_row_42 rfl rfl ?_
          refine wa_iconst (pc := 43) (v := 4) cx dX11_row_43 (by decide) ?_
          obtain ⟨q15, h16, hf⟩ := bd_some hf
          refine wa_callVi (pc := 44) cx [.int 4] (ct_X11_finding l E _ _ _ h16) mi_X11_finding tw_957 lk_38 rfl (cx.bl 38 rfl) rfl rfl (Nat.le_of_ble_eq_true rfl) ⟨Nat.le_of_ble_eq_true rfl, Nat.le_of_ble_eq_true rfl⟩ ⟨Nat.zero_le _, Nat.zero_le _⟩ dX11_row_44 ?_
          obtain rfl := Option.some.inj hf
          exact wa_iret (pc := 47) cx dX11_row_47
      · have hf := (if_neg c7).symm.trans hf
        refine wa_forget [false, false, false, false, false] [none, none, none, none, none] rfl ?_
        exact j30  _ hf
def fX11_set_J99 (v1 : Int32) (v2 : Int32) (t2 : Int32) (t1 : Int32) (σ : Sg) : Option (Int32 × Sg) :=
  gd (inb t1 320) (
  gd (inb ((40 * v1) + v2) 320) (
  some (ga (sa σ 41 t1 t2) 41 ((40 * v1) + v2), sa σ 41 t1 t2)))
def fX11_set (a1 : Int32) (a2 : Int32) (a3 : Int32) (σ : Sg) : Option (Int32 × Sg) :=
  (fX11_isRow a1 (sup σ 38 0 0)).bind (fun q1 =>
  if q1 = 0 then (some ((-1000001), sup σ 38 0 0)) else (gd (inb a1 8) (
  if (0 : Int32) ≤ ga (sup (sup σ 38 0 0) 38 1 0) 39 a1 then (gd (inb a1 8) (
  (fX11_in ((a2).toInt64) 0 (((ga (sup (sup σ 38 0 0) 38 1 0) 40 a1 - 1)).toInt64) (sup (sup σ 38 0 0) 38 1 0)).bind (fun q7 =>
  if q7 = 0 then ((fX11_finding 2 (sup (sup σ 38 0 0) 38 1 0)).bind (fun q16 =>
  some (q16.1, q16.2))) else (gd (inb a1 8) (
  if ga (sup (sup σ 38 0 0) 38 1 0) 39 a1 = 0 then (fX11_set_J99 a1 a2 (i2b a3) ((40 * a1) + a2) (sup (sup σ 38 0 0) 38 1 0)) else (gd (inb a1 8) (
  if ga (sup (sup σ 38 0 0) 38 1 0) 39 a1 = 1 then (fX11_set_J99 a1 a2 (i2s a3) ((40 * a1) + a2) (sup (sup σ 38 0 0) 38 1 0)) else (fX11_set_J99 a1 a2 a3 ((40 * a1) + a2) (sup (sup σ 38 0 0) 38 1 0))))))))) else ((fX11_finding 1 (sup (sup σ 38 0 0) 38 1 0)).bind (fun q18 =>
  some (q18.1, q18.2))))))
set_option maxHeartbeats 4000000 in
set_option maxRecDepth 100000 in
theorem ct_X11_set (l : Launch) (E : En) (σ : Sg) (a1 : Int32) (a2 : Int32) (a3 : Int32) (q : Int32 × Sg) (hf : fX11_set a1 a2 a3 σ = some q) : CT l yX11_set cX11_set 4 (some .int) 2 E σ [.ref (eA E 38), .int a1, .int a2, .int a3] (some (.int q.1)) q.2 := by
  refine CT.of RX11 [some (.ref (eA E 38)), some (.int a1), some (.int a2), some (.int a3)] rfl (by decide +kernel) (Nat.le_of_ble_eq_true rfl) rfl ?_
  intro p e s m args below meth c cx
  unfold fX11_set at hf
  have j99 : ∀ (v1 : Int32) (v2 : Int32) (t2 : Int32) (t1 : Int32) (σ : Sg), fX11_set_J99 v1 v2 t2 t1 σ = some q → WA p l e (rmd 2) s m args below meth c 4 E 0 0 (MQ below (Qcq E s.heap.size (some (.int q.1)) q.2) args s 0 0 (AE E s.heap.size)) 99 [some (.ref (eA E 38)), some (.int v1), some (.int v2), none] [.int t2, .int t1, .ref (eA E 41)] σ := by
    intro v1 v2 t2 t1 σ hf
    unfold fX11_set_J99 at hf
    obtain ⟨g14, hf⟩ := gd_some hf
    refine wa_iast (pc := 99) cx lk_41 (cx.bl 41 rfl) g14 dX11_set_99 ?_
    refine wa_aload_n (pc := 100) cx 0 dX11_set_100 rfl rfl ?_
    refine wa_getR (pc := 101) cx fl_X11_16 lk_38 rfl (cx.bl 38 rfl) dX11_set_101 ?_
    refine wa_bipush (pc := 104) (v := 40) cx dX11_set_104 (by decide) ?_
    refine wa_iload_n (pc := 106) cx 1 dX11_set_106 rfl rfl ?_
    refine wa_imul (pc := 107) cx dX11_set_107 ?_
    refine wa_iload_n (pc := 108) cx 2 dX11_set_108 rfl rfl ?_
    refine wa_iadd (pc := 109) cx dX11_set_109 ?_
    obtain ⟨g15, hf⟩ := gd_some hf
    refine wa_iald (pc := 110) cx lk_41 (cx.bl 41 rfl) g15 dX11_set_110 ?_
    obtain rfl := Option.some.inj hf
    exact wa_iret (pc := 111) cx dX11_set_111
  refine wa_aload_n (pc := 0) cx 0 dX11_set_0 rfl rfl ?_
  refine wa_iconst (pc := 1) (v := 0) cx dX11_set_1 (by decide) ?_
  refine wa_putI (pc := 2) cx fp_X11_50 lk_38 rfl (cx.bl 38 rfl) dX11_set_2 ?_
  refine wa_iload_n (pc := 5) cx 1 dX11_set_5 rfl rfl ?_
  obtain ⟨q1, h2, hf⟩ := bd_some hf
  refine wa_callSi (pc := 6) cx [.int a1] (ct_X11_isRow l E _ _ _ h2) ms_X11_isRow tw_948 rfl rfl (Nat.le_of_ble_eq_true rfl) ⟨Nat.le_of_ble_eq_true rfl, Nat.le_of_ble_eq_true rfl⟩ ⟨Nat.zero_le _, Nat.zero_le _⟩ dX11_set_6 ?_
  refine wa_if_ne (pc := 9) cx 15 dX11_set_9 rfl (fun c3 => ?_) (fun c3 => ?_)
  · have hf := (if_neg c3).symm.trans hf
    refine wa_aload_n (pc := 15) cx 0 dX11_set_15 rfl rfl ?_
    refine wa_iconst (pc := 16) (v := 0) cx dX11_set_16 (by decide) ?_
    refine wa_putI (pc := 17) cx fp_X11_54 lk_38 rfl (cx.bl 38 rfl) dX11_set_17 ?_
    refine wa_aload_n (pc := 20) cx 0 dX11_set_20 rfl rfl ?_
    refine wa_getR (pc := 21) cx fl_X11_7 lk_38 rfl (cx.bl 38 rfl) dX11_set_21 ?_
    refine wa_iload_n (pc := 24) cx 1 dX11_set_24 rfl rfl ?_
    obtain ⟨g4, hf⟩ := gd_some hf
    refine wa_iald (pc := 25) cx lk_39 (cx.bl 39 rfl) g4 dX11_set_25 ?_
    refine wa_if_ge (pc := 26) cx 35 dX11_set_26 rfl (fun c5 => ?_) (fun c5 => ?_)
    · have hf := (if_pos c5).symm.trans hf
      refine wa_iload_n (pc := 35) cx 2 dX11_set_35 rfl rfl ?_
      refine wa_i2l (pc := 36) cx dX11_set_36 ?_
      refine wa_lconst (pc := 37) (v := 0) cx dX11_set_37 (by decide) ?_
      refine wa_aload_n (pc := 38) cx 0 dX11_set_38 rfl rfl ?_
      refine wa_getR (pc := 39) cx fl_X11_13 lk_38 rfl (cx.bl 38 rfl) dX11_set_39 ?_
      refine wa_iload_n (pc := 42) cx 1 dX11_set_42 rfl rfl ?_
      obtain ⟨g6, hf⟩ := gd_some hf
      refine wa_iald (pc := 43) cx lk_40 (cx.bl 40 rfl) g6 dX11_set_43 ?_
      refine wa_iconst (pc := 44) (v := 1) cx dX11_set_44 (by decide) ?_
      refine wa_isub (pc := 45) cx dX11_set_45 ?_
      refine wa_i2l (pc := 46) cx dX11_set_46 ?_
      obtain ⟨q7, h8, hf⟩ := bd_some hf
      refine wa_callSi (pc := 47) cx [.long ((a2).toInt64), .long 0, .long (((ga (sup (sup σ 38 0 0) 38 1 0) 40 a1 - 1)).toInt64)] (ct_X11_in l E _ _ _ _ _ h8) ms_X11_in tw_952 rfl rfl (Nat.le_of_ble_eq_true rfl) ⟨Nat.le_of_ble_eq_true rfl, Nat.le_of_ble_eq_true rfl⟩ ⟨Nat.zero_le _, Nat.zero_le _⟩ dX11_set_47 ?_
      refine wa_if_ne (pc := 50) cx 59 dX11_set_50 rfl (fun c9 => ?_) (fun c9 => ?_)
      · have hf := (if_neg c9).symm.trans hf
        refine wa_aload_n (pc := 59) cx 0 dX11_set_59 rfl rfl ?_
        refine wa_getR (pc := 60) cx fl_X11_16 lk_38 rfl (cx.bl 38 rfl) dX11_set_60 ?_
        refine wa_bipush (pc := 63) (v := 40) cx dX11_set_63 (by decide) ?_
        refine wa_iload_n (pc := 65) cx 1 dX11_set_65 rfl rfl ?_
        refine wa_imul (pc := 66) cx dX11_set_66 ?_
        refine wa_iload_n (pc := 67) cx 2 dX11_set_67 rfl rfl ?_
        refine wa_iadd (pc := 68) cx dX11_set_68 ?_
        refine wa_aload_n (pc := 69) cx 0 dX11_set_69 rfl rfl ?_
        refine wa_getR (pc := 70) cx fl_X11_7 lk_38 rfl (cx.bl 38 rfl) dX11_set_70 ?_
        refine wa_iload_n (pc := 73) cx 1 dX11_set_73 rfl rfl ?_
        obtain ⟨g10, hf⟩ := gd_some hf
        refine wa_iald (pc := 74) cx lk_39 (cx.bl 39 rfl) g10 dX11_set_74 ?_
        refine wa_if_ne (pc := 75) cx 83 dX11_set_75 rfl (fun c11 => ?_) (fun c11 => ?_)
        · have hf := (if_neg c11).symm.trans hf
          refine wa_aload_n (pc := 83) cx 0 dX11_set_83 rfl rfl ?_
          refine wa_getR (pc := 84) cx fl_X11_7 lk_38 rfl (cx.bl 38 rfl) dX11_set_84 ?_
          refine wa_iload_n (pc := 87) cx 1 dX11_set_87 rfl rfl ?_
          obtain ⟨g12, hf⟩ := gd_some hf
          refine wa_iald (pc := 88) cx lk_39 (cx.bl 39 rfl) g12 dX11_set_88 ?_
          refine wa_iconst (pc := 89) (v := 1) cx dX11_set_89 (by decide) ?_
          refine wa_icmp_ne (pc := 90) cx 98 dX11_set_90 rfl (fun c13 => ?_) (fun c13 => ?_)
          · have hf := (if_neg c13).symm.trans hf
            refine wa_iload_n (pc := 98) cx 3 dX11_set_98 rfl rfl ?_
            refine wa_forget [true, true, true, false] [some (.ref (eA E 38)), some (.int a1), some (.int a2), none] rfl ?_
            exact j99 _ _ _ _ _ hf
          · have hf := (if_pos c13).symm.trans hf
            refine wa_iload_n (pc := 93) cx 3 dX11_set_93 rfl rfl ?_
            refine wa_i2s (pc := 94) cx dX11_set_94 ?_
            refine wa_goto (pc := 95) cx 99 dX11_set_95 rfl ?_
            refine wa_forget [true, true, true, false] [some (.ref (eA E 38)), some (.int a1), some (.int a2), none] rfl ?_
            exact j99 _ _ _ _ _ hf
        · have hf := (if_pos c11).symm.trans hf
          refine wa_iload_n (pc := 78) cx 3 dX11_set_78 rfl rfl ?_
          refine wa_i2b (pc := 79) cx dX11_set_79 ?_
          refine wa_goto (pc := 80) cx 99 dX11_set_80 rfl ?_
          refine wa_forget [true, true, true, false] [some (.ref (eA E 38)), some (.int a1), some (.int a2), none] rfl ?_
          exact j99 _ _ _ _ _ hf
      · have hf := (if_pos c9).symm.trans hf
        refine wa_aload_n (pc := 53) cx 0 dX11_set_53 rfl rfl ?_
        refine wa_iconst (pc := 54) (v := 2) cx dX11_set_54 (by decide) ?_
        obtain ⟨q16, h17, hf⟩ := bd_some hf
        refine wa_callVi (pc := 55) cx [.int 2] (ct_X11_finding l E _ _ _ h17) mi_X11_finding tw_957 lk_38 rfl (cx.bl 38 rfl) rfl rfl (Nat.le_of_ble_eq_true rfl) ⟨Nat.le_of_ble_eq_true rfl, Nat.le_of_ble_eq_true rfl⟩ ⟨Nat.zero_le _, Nat.zero_le _⟩ dX11_set_55 ?_
        obtain rfl := Option.some.inj hf
        exact wa_iret (pc := 58) cx dX11_set_58
    · have hf := (if_neg c5).symm.trans hf
      refine wa_aload_n (pc := 29) cx 0 dX11_set_29 rfl rfl ?_
      refine wa_iconst (pc := 30) (v := 1) cx dX11_set_30 (by decide) ?_
      obtain ⟨q18, h19, hf⟩ := bd_some hf
      refine wa_callVi (pc := 31) cx [.int 1] (ct_X11_finding l E _ _ _ h19) mi_X11_finding tw_957 lk_38 rfl (cx.bl 38 rfl) rfl rfl (Nat.le_of_ble_eq_true rfl) ⟨Nat.le_of_ble_eq_true rfl, Nat.le_of_ble_eq_true rfl⟩ ⟨Nat.zero_le _, Nat.zero_le _⟩ dX11_set_31 ?_
      obtain rfl := Option.some.inj hf
      exact wa_iret (pc := 34) cx dX11_set_34
  · have hf := (if_pos c3).symm.trans hf
    refine wa_ldc (pc := 12) (v := (-1000001)) cx dX11_set_12 tw_956 ?_
    obtain rfl := Option.some.inj hf
    exact wa_iret (pc := 14) cx dX11_set_14
def fX11_copy_J19  (σ : Sg) : Option (Int32 × Sg) :=
  some ((-1000001), σ)
def fX11_copy_J45  (σ : Sg) : Option (Int32 × Sg) :=
  (fX11_finding 1 σ).bind (fun q9 =>
  some (q9.1, q9.2))
def fX11_copy_J121  (σ : Sg) : Option (Int32 × Sg) :=
  (fX11_finding 2 σ).bind (fun q17 =>
  some (q17.1, q17.2))
def fX11_copy_J167 (v1 : Int32) (v2 : Int32) (v3 : Int32) (v4 : Int32) (v5 : Int32) (v6 : Int32) (v7 : Int32) (t0 : Int32) (σ : Sg) : Option ((Int32 × Sg) ⊕ (Sg)) :=
  gd (inb (((40 * v1) + v2) + t0) 320) (
  gd (inb (((40 * v3) + v4) + t0) 320) (
  some (.inl ((v7 + 1), sa σ 41 (((40 * v3) + v4) + t0) (ga σ 41 (((40 * v1) + v2) + t0))))))
def fX11_copy_B143 (v1 : Int32) (v2 : Int32) (v3 : Int32) (v4 : Int32) (v5 : Int32) (v6 : Int32) (v7 : Int32) (σ : Sg) : Option ((Int32 × Sg) ⊕ (Sg)) :=
  if v5 ≤ v7 then (some (.inr σ)) else (if v6 = 0 then (fX11_copy_J167 v1 v2 v3 v4 v5 v6 v7 ((v5 - 1) - v7) σ) else (fX11_copy_J167 v1 v2 v3 v4 v5 v6 v7 v7 σ))
def fX11_copy_J138 (v1 : Int32) (v2 : Int32) (v3 : Int32) (v4 : Int32) (v5 : Int32) (t0 : Int32) (σ : Sg) : Option (Int32 × Sg) :=
  (lpO (fun w => fX11_copy_B143 v1 v2 v3 v4 v5 t0 w.1 w.2) FUEL (0, σ)).bind (fun o30 =>
  some (v5, o30))
def fX11_copy (a1 : Int32) (a2 : Int32) (a3 : Int32) (a4 : Int32) (a5 : Int32) (σ : Sg) : Option (Int32 × Sg) :=
  (fX11_isRow a1 (sup σ 38 0 0)).bind (fun q1 =>
  if q1 = 0 then (fX11_copy_J19  (sup σ 38 0 0)) else ((fX11_isRow a3 (sup σ 38 0 0)).bind (fun q4 =>
  if q4 = 0 then (fX11_copy_J19  (sup σ 38 0 0)) else (gd (inb a1 8) (
  if ga (sup (sup σ 38 0 0) 38 1 0) 39 a1 < 0 then (fX11_copy_J45  (sup (sup σ 38 0 0) 38 1 0)) else (gd (inb a3 8) (
  if (0 : Int32) ≤ ga (sup (sup σ 38 0 0) 38 1 0) 39 a3 then (gd (inb a1 8) (
  gd (inb a3 8) (
  if ga (sup (sup σ 38 0 0) 38 1 0) 39 a1 = ga (sup (sup σ 38 0 0) 38 1 0) 39 a3 then (if a2 < 0 then (fX11_copy_J121  (sup (sup σ 38 0 0) 38 1 0)) else (if a4 < 0 then (fX11_copy_J121  (sup (sup σ 38 0 0) 38 1 0)) else (if a5 < 0 then (fX11_copy_J121  (sup (sup σ 38 0 0) 38 1 0)) else (gd (inb a1 8) (
  if (0 : Int32) < lg_cmp ((a2).toInt64 + (a5).toInt64) ((ga (sup (sup σ 38 0 0) 38 1 0) 40 a1).toInt64) then (fX11_copy_J121  (sup (sup σ 38 0 0) 38 1 0)) else (gd (inb a3 8) (
  if lg_cmp ((a4).toInt64 + (a5).toInt64) ((ga (sup (sup σ 38 0 0) 38 1 0) 40 a3).toInt64) ≤ 0 then (if a2 < a4 then (fX11_copy_J138 a1 a2 a3 a4 a5 0 (sup (sup σ 38 0 0) 38 1 0)) else (fX11_copy_J138 a1 a2 a3 a4 a5 1 (sup (sup σ 38 0 0) 38 1 0))) else (fX11_copy_J121  (sup (sup σ 38 0 0) 38 1 0))))))))) else ((fX11_finding 5 (sup (sup σ 38 0 0) 38 1 0)).bind (fun q32 =>
  some (q32.1, q32.2)))))) else (fX11_copy_J45  (sup (sup σ 38 0 0) 38 1 0)))))))))
set_option maxHeartbeats 4000000 in
set_option maxRecDepth 100000 in
theorem ct_X11_copy (l : Launch) (E : En) (σ : Sg) (a1 : Int32) (a2 : Int32) (a3 : Int32) (a4 : Int32) (a5 : Int32) (q : Int32 × Sg) (hf : fX11_copy a1 a2 a3 a4 a5 σ = some q) : CT l yX11_copy cX11_copy 9 (some .int) 2 E σ [.ref (eA E 38), .int a1, .int a2, .int a3, .int a4, .int a5] (some (.int q.1)) q.2 := by
  refine CT.of RX11 [some (.ref (eA E 38)), some (.int a1), some (.int a2), some (.int a3), some (.int a4), some (.int a5), none, none, none] rfl (by decide +kernel) (Nat.le_of_ble_eq_true rfl) rfl ?_
  intro p e s m args below meth c cx
  unfold fX11_copy at hf
  have j19 : ∀  (σ : Sg), fX11_copy_J19  σ = some q → WA p l e (rmd 2) s m args below meth c 9 E 0 0 (MQ below (Qcq E s.heap.size (some (.int q.1)) q.2) args s 0 0 (AE E s.heap.size)) 19 [none, none, none, none, none, none, none, none, none] [] σ := by
    intro  σ hf
    unfold fX11_copy_J19 at hf
    refine wa_ldc (pc := 19) (v := (-1000001)) cx dX11_copy_19 tw_956 ?_
    obtain rfl := Option.some.inj hf
    exact wa_iret (pc := 21) cx dX11_copy_21
  have j45 : ∀  (σ : Sg), fX11_copy_J45  σ = some q → WA p l e (rmd 2) s m args below meth c 9 E 0 0 (MQ below (Qcq E s.heap.size (some (.int q.1)) q.2) args s 0 0 (AE E s.heap.size)) 45 [some (.ref (eA E 38)), none, none, none, none, none, none, none, none] [] σ := by
    intro  σ hf
    unfold fX11_copy_J45 at hf
    refine wa_aload_n (pc := 45) cx 0 dX11_copy_45 rfl rfl ?_
    refine wa_iconst (pc := 46) (v := 1) cx dX11_copy_46 (by decide) ?_
    obtain ⟨q9, h10, hf⟩ := bd_some hf
    refine wa_callVi (pc := 47) cx [.int 1] (ct_X11_finding l E _ _ _ h10) mi_X11_finding tw_957 lk_38 rfl (cx.bl 38 rfl) rfl rfl (Nat.le_of_ble_eq_true rfl) ⟨Nat.le_of_ble_eq_true rfl, Nat.le_of_ble_eq_true rfl⟩ ⟨Nat.zero_le _, Nat.zero_le _⟩ dX11_copy_47 ?_
    obtain rfl := Option.some.inj hf
    exact wa_iret (pc := 50) cx dX11_copy_50
  have j121 : ∀  (σ : Sg), fX11_copy_J121  σ = some q → WA p l e (rmd 2) s m args below meth c 9 E 0 0 (MQ below (Qcq E s.heap.size (some (.int q.1)) q.2) args s 0 0 (AE E s.heap.size)) 121 [some (.ref (eA E 38)), none, none, none, none, none, none, none, none] [] σ := by
    intro  σ hf
    unfold fX11_copy_J121 at hf
    refine wa_aload_n (pc := 121) cx 0 dX11_copy_121 rfl rfl ?_
    refine wa_iconst (pc := 122) (v := 2) cx dX11_copy_122 (by decide) ?_
    obtain ⟨q17, h18, hf⟩ := bd_some hf
    refine wa_callVi (pc := 123) cx [.int 2] (ct_X11_finding l E _ _ _ h18) mi_X11_finding tw_957 lk_38 rfl (cx.bl 38 rfl) rfl rfl (Nat.le_of_ble_eq_true rfl) ⟨Nat.le_of_ble_eq_true rfl, Nat.le_of_ble_eq_true rfl⟩ ⟨Nat.zero_le _, Nat.zero_le _⟩ dX11_copy_123 ?_
    obtain rfl := Option.some.inj hf
    exact wa_iret (pc := 126) cx dX11_copy_126
  have l143 : ∀ (v1 : Int32) (v2 : Int32) (v3 : Int32) (v4 : Int32) (v5 : Int32) (v6 : Int32) (y : Int32 × Sg) (o : Sg), lpO (fun w => fX11_copy_B143 v1 v2 v3 v4 v5 v6 w.1 w.2) FUEL y = some o → (WA p l e (rmd 2) s m args below meth c 9 E 0 0 (MQ below (Qcq E s.heap.size (some (.int q.1)) q.2) args s 0 0 (AE E s.heap.size)) 204 [none, none, none, none, none, some (.int v5), none, none, none] [] o) → WA p l e (rmd 2) s m args below meth c 9 E 0 0 (MQ below (Qcq E s.heap.size (some (.int q.1)) q.2) args s 0 0 (AE E s.heap.size)) 143 [some (.ref (eA E 38)), some (.int v1), some (.int v2), some (.int v3), some (.int v4), some (.int v5), some (.int v6), some (.int y.1), none] [] y.2 := by
    intro v1 v2 v3 v4 v5 v6 y o hf hk
    refine lp_rule (P := fun y => WA p l e (rmd 2) s m args below meth c 9 E 0 0 (MQ below (Qcq E s.heap.size (some (.int q.1)) q.2) args s 0 0 (AE E s.heap.size)) 143 [some (.ref (eA E 38)), some (.int v1), some (.int v2), some (.int v3), some (.int v4), some (.int v5), some (.int v6), some (.int y.1), none] [] y.2) (K := fun o => WA p l e (rmd 2) s m args below meth c 9 E 0 0 (MQ below (Qcq E s.heap.size (some (.int q.1)) q.2) args s 0 0 (AE E s.heap.size)) 204 [none, none, none, none, none, some (.int v5), none, none, none] [] o) ?_ FUEL y o hf hk
    have j167 : ∀ (v1 : Int32) (v2 : Int32) (v3 : Int32) (v4 : Int32) (v5 : Int32) (v6 : Int32) (v7 : Int32) (t0 : Int32) (σ : Sg) (r1 : (Int32 × Sg) ⊕ (Sg)), fX11_copy_J167 v1 v2 v3 v4 v5 v6 v7 t0 σ = some r1 → (sel (fun y1 => WA p l e (rmd 2) s m args below meth c 9 E 0 0 (MQ below (Qcq E s.heap.size (some (.int q.1)) q.2) args s 0 0 (AE E s.heap.size)) 143 [some (.ref (eA E 38)), some (.int v1), some (.int v2), some (.int v3), some (.int v4), some (.int v5), some (.int v6), some (.int y1.1), none] [] y1.2) (fun y1 => WA p l e (rmd 2) s m args below meth c 9 E 0 0 (MQ below (Qcq E s.heap.size (some (.int q.1)) q.2) args s 0 0 (AE E s.heap.size)) 204 [none, none, none, none, none, some (.int v5), none, none, none] [] y1) r1) → WA p l e (rmd 2) s m args below meth c 9 E 0 0 (MQ below (Qcq E s.heap.size (some (.int q.1)) q.2) args s 0 0 (AE E s.heap.size)) 167 [some (.ref (eA E 38)), some (.int v1), some (.int v2), some (.int v3), some (.int v4), some (.int v5), some (.int v6), some (.int v7), none] [.int t0] σ := by
      intro v1 v2 v3 v4 v5 v6 v7 t0 σ r1 hf hk1
      unfold fX11_copy_J167 at hf
      refine wa_istore (pc := 167) cx 8 [some (.ref (eA E 38)), some (.int v1), some (.int v2), some (.int v3), some (.int v4), some (.int v5), some (.int v6), some (.int v7), some (.int t0)] dX11_copy_167 (by decide) rfl rfl ?_
      refine wa_aload_n (pc := 169) cx 0 dX11_copy_169 rfl rfl ?_
      refine wa_getR (pc := 170) cx fl_X11_16 lk_38 rfl (cx.bl 38 rfl) dX11_copy_170 ?_
      refine wa_bipush (pc := 173) (v := 40) cx dX11_copy_173 (by decide) ?_
      refine wa_iload_n (pc := 175) cx 3 dX11_copy_175 rfl rfl ?_
      refine wa_imul (pc := 176) cx dX11_copy_176 ?_
      refine wa_iload (pc := 177) cx 4 dX11_copy_177 rfl ?_
      refine wa_iadd (pc := 179) cx dX11_copy_179 ?_
      refine wa_iload (pc := 180) cx 8 dX11_copy_180 rfl ?_
      refine wa_iadd (pc := 182) cx dX11_copy_182 ?_
      refine wa_aload_n (pc := 183) cx 0 dX11_copy_183 rfl rfl ?_
      refine wa_getR (pc := 184) cx fl_X11_16 lk_38 rfl (cx.bl 38 rfl) dX11_copy_184 ?_
      refine wa_bipush (pc := 187) (v := 40) cx dX11_copy_187 (by decide) ?_
      refine wa_iload_n (pc := 189) cx 1 dX11_copy_189 rfl rfl ?_
      refine wa_imul (pc := 190) cx dX11_copy_190 ?_
      refine wa_iload_n (pc := 191) cx 2 dX11_copy_191 rfl rfl ?_
      refine wa_iadd (pc := 192) cx dX11_copy_192 ?_
      refine wa_iload (pc := 193) cx 8 dX11_copy_193 rfl ?_
      refine wa_iadd (pc := 195) cx dX11_copy_195 ?_
      obtain ⟨g28, hf⟩ := gd_some hf
      refine wa_iald (pc := 196) cx lk_41 (cx.bl 41 rfl) g28 dX11_copy_196 ?_
      obtain ⟨g29, hf⟩ := gd_some hf
      refine wa_iast (pc := 197) cx lk_41 (cx.bl 41 rfl) g29 dX11_copy_197 ?_
      refine wa_iinc (pc := 198) (v := 1) cx 7 [some (.ref (eA E 38)), some (.int v1), some (.int v2), some (.int v3), some (.int v4), some (.int v5), some (.int v6), some (.int (v7 + 1)), some (.int t0)] dX11_copy_198 (by decide) rfl (by decide) rfl rfl ?_
      refine wa_goto (pc := 201) cx 143 dX11_copy_201 rfl ?_
      obtain rfl := Option.some.inj hf
      refine wa_forget [true, true, true, true, true, true, true, true, false] [some (.ref (eA E 38)), some (.int v1), some (.int v2), some (.int v3), some (.int v4), some (.int v5), some (.int v6), some (.int (v7 + 1)), none] rfl ?_
      exact hk1
    intro y0 r1 hf hk1
    obtain ⟨v7, σ⟩ := y0
    have hf : fX11_copy_B143 v1 v2 v3 v4 v5 v6 v7 σ = some r1 := hf
    unfold fX11_copy_B143 at hf
    refine wa_iload (pc := 143) cx 7 dX11_copy_143 rfl ?_
    refine wa_iload (pc := 145) cx 5 dX11_copy_145 rfl ?_
    refine wa_icmp_ge (pc := 147) cx 204 dX11_copy_147 rfl (fun c26 => ?_) (fun c26 => ?_)
    · have hf := (if_pos c26).symm.trans hf
      obtain rfl := Option.some.inj hf
      refine wa_forget [false, false, false, false, false, true, false, false, false] [none, none, none, none, none, some (.int v5), none, none, none] rfl ?_
      exact hk1
    · have hf := (if_neg c26).symm.trans hf
      refine wa_iload (pc := 150) cx 6 dX11_copy_150 rfl ?_
      refine wa_if_eq (pc := 152) cx 160 dX11_copy_152 rfl (fun c27 => ?_) (fun c27 => ?_)
      · have hf := (if_pos c27).symm.trans hf
        refine wa_iload (pc := 160) cx 5 dX11_copy_160 rfl ?_
        refine wa_iconst (pc := 162) (v := 1) cx dX11_copy_162 (by decide) ?_
        refine wa_isub (pc := 163) cx dX11_copy_163 ?_
        refine wa_iload (pc := 164) cx 7 dX11_copy_164 rfl ?_
        refine wa_isub (pc := 166) cx dX11_copy_166 ?_
        exact j167 _ _ _ _ _ _ _ _ _ _ hf hk1
      · have hf := (if_neg c27).symm.trans hf
        refine wa_iload (pc := 155) cx 7 dX11_copy_155 rfl ?_
        refine wa_goto (pc := 157) cx 167 dX11_copy_157 rfl ?_
        exact j167 _ _ _ _ _ _ _ _ _ _ hf hk1
  have j138 : ∀ (v1 : Int32) (v2 : Int32) (v3 : Int32) (v4 : Int32) (v5 : Int32) (t0 : Int32) (σ : Sg), fX11_copy_J138 v1 v2 v3 v4 v5 t0 σ = some q → WA p l e (rmd 2) s m args below meth c 9 E 0 0 (MQ below (Qcq E s.heap.size (some (.int q.1)) q.2) args s 0 0 (AE E s.heap.size)) 138 [some (.ref (eA E 38)), some (.int v1), some (.int v2), some (.int v3), some (.int v4), some (.int v5), none, none, none] [.int t0] σ := by
    intro v1 v2 v3 v4 v5 t0 σ hf
    unfold fX11_copy_J138 at hf
    refine wa_istore (pc := 138) cx 6 [some (.ref (eA E 38)), some (.int v1), some (.int v2), some (.int v3), some (.int v4), some (.int v5), some (.int t0), none, none] dX11_copy_138 (by decide) rfl rfl ?_
    refine wa_iconst (pc := 140) (v := 0) cx dX11_copy_140 (by decide) ?_
    refine wa_istore (pc := 141) cx 7 [some (.ref (eA E 38)), some (.int v1), some (.int v2), some (.int v3), some (.int v4), some (.int v5), some (.int t0), some (.int 0), none] dX11_copy_141 (by decide) rfl rfl ?_
    obtain ⟨o30, h31, hf⟩ := bd_some hf
    refine l143 _ _ _ _ _ _ _ _ h31 ?_
    refine wa_iload (pc := 204) cx 5 dX11_copy_204 rfl ?_
    obtain rfl := Option.some.inj hf
    exact wa_iret (pc := 206) cx dX11_copy_206
  refine wa_aload_n (pc := 0) cx 0 dX11_copy_0 rfl rfl ?_
  refine wa_iconst (pc := 1) (v := 0) cx dX11_copy_1 (by decide) ?_
  refine wa_putI (pc := 2) cx fp_X11_50 lk_38 rfl (cx.bl 38 rfl) dX11_copy_2 ?_
  refine wa_iload_n (pc := 5) cx 1 dX11_copy_5 rfl rfl ?_
  obtain ⟨q1, h2, hf⟩ := bd_some hf
  refine wa_callSi (pc := 6) cx [.int a1] (ct_X11_isRow l E _ _ _ h2) ms_X11_isRow tw_948 rfl rfl (Nat.le_of_ble_eq_true rfl) ⟨Nat.le_of_ble_eq_true rfl, Nat.le_of_ble_eq_true rfl⟩ ⟨Nat.zero_le _, Nat.zero_le _⟩ dX11_copy_6 ?_
  refine wa_if_eq (pc := 9) cx 19 dX11_copy_9 rfl (fun c3 => ?_) (fun c3 => ?_)
  · have hf := (if_pos c3).symm.trans hf
    refine wa_forget [false, false, false, false, false, false, false, false, false] [none, none, none, none, none, none, none, none, none] rfl ?_
    exact j19  _ hf
  · have hf := (if_neg c3).symm.trans hf
    refine wa_iload_n (pc := 12) cx 3 dX11_copy_12 rfl rfl ?_
    obtain ⟨q4, h5, hf⟩ := bd_some hf
    refine wa_callSi (pc := 13) cx [.int a3] (ct_X11_isRow l E _ _ _ h5) ms_X11_isRow tw_948 rfl rfl (Nat.le_of_ble_eq_true rfl) ⟨Nat.le_of_ble_eq_true rfl, Nat.le_of_ble_eq_true rfl⟩ ⟨Nat.zero_le _, Nat.zero_le _⟩ dX11_copy_13 ?_
    refine wa_if_ne (pc := 16) cx 22 dX11_copy_16 rfl (fun c6 => ?_) (fun c6 => ?_)
    · have hf := (if_neg c6).symm.trans hf
      refine wa_aload_n (pc := 22) cx 0 dX11_copy_22 rfl rfl ?_
      refine wa_iconst (pc := 23) (v := 0) cx dX11_copy_23 (by decide) ?_
      refine wa_putI (pc := 24) cx fp_X11_54 lk_38 rfl (cx.bl 38 rfl) dX11_copy_24 ?_
      refine wa_aload_n (pc := 27) cx 0 dX11_copy_27 rfl rfl ?_
      refine wa_getR (pc := 28) cx fl_X11_7 lk_38 rfl (cx.bl 38 rfl) dX11_copy_28 ?_
      refine wa_iload_n (pc := 31) cx 1 dX11_copy_31 rfl rfl ?_
      obtain ⟨g7, hf⟩ := gd_some hf
      refine wa_iald (pc := 32) cx lk_39 (cx.bl 39 rfl) g7 dX11_copy_32 ?_
      refine wa_if_lt (pc := 33) cx 45 dX11_copy_33 rfl (fun c8 => ?_) (fun c8 => ?_)
      · have hf := (if_pos c8).symm.trans hf
        refine wa_forget [true, false, false, false, false, false, false, false, false] [some (.ref (eA E 38)), none, none, none, none, none, none, none, none] rfl ?_
        exact j45  _ hf
      · have hf := (if_neg c8).symm.trans hf
        refine wa_aload_n (pc := 36) cx 0 dX11_copy_36 rfl rfl ?_
        refine wa_getR (pc := 37) cx fl_X11_7 lk_38 rfl (cx.bl 38 rfl) dX11_copy_37 ?_
        refine wa_iload_n (pc := 40) cx 3 dX11_copy_40 rfl rfl ?_
        obtain ⟨g11, hf⟩ := gd_some hf
        refine wa_iald (pc := 41) cx lk_39 (cx.bl 39 rfl) g11 dX11_copy_41 ?_
        refine wa_if_ge (pc := 42) cx 51 dX11_copy_42 rfl (fun c12 => ?_) (fun c12 => ?_)
        · have hf := (if_pos c12).symm.trans hf
          refine wa_aload_n (pc := 51) cx 0 dX11_copy_51 rfl rfl ?_
          refine wa_getR (pc := 52) cx fl_X11_7 lk_38 rfl (cx.bl 38 rfl) dX11_copy_52 ?_
          refine wa_iload_n (pc := 55) cx 1 dX11_copy_55 rfl rfl ?_
          obtain ⟨g13, hf⟩ := gd_some hf
          refine wa_iald (pc := 56) cx lk_39 (cx.bl 39 rfl) g13 dX11_copy_56 ?_
          refine wa_aload_n (pc := 57) cx 0 dX11_copy_57 rfl rfl ?_
          refine wa_getR (pc := 58) cx fl_X11_7 lk_38 rfl (cx.bl 38 rfl) dX11_copy_58 ?_
          refine wa_iload_n (pc := 61) cx 3 dX11_copy_61 rfl rfl ?_
          obtain ⟨g14, hf⟩ := gd_some hf
          refine wa_iald (pc := 62) cx lk_39 (cx.bl 39 rfl) g14 dX11_copy_62 ?_
          refine wa_icmp_eq (pc := 63) cx 72 dX11_copy_63 rfl (fun c15 => ?_) (fun c15 => ?_)
          · have hf := (if_pos c15).symm.trans hf
            refine wa_iload_n (pc := 72) cx 2 dX11_copy_72 rfl rfl ?_
            refine wa_if_lt (pc := 73) cx 121 dX11_copy_73 rfl (fun c16 => ?_) (fun c16 => ?_)
            · have hf := (if_pos c16).symm.trans hf
              refine wa_forget [true, false, false, false, false, false, false, false, false] [some (.ref (eA E 38)), none, none, none, none, none, none, none, none] rfl ?_
              exact j121  _ hf
            · have hf := (if_neg c16).symm.trans hf
              refine wa_iload (pc := 76) cx 4 dX11_copy_76 rfl ?_
              refine wa_if_lt (pc := 78) cx 121 dX11_copy_78 rfl (fun c19 => ?_) (fun c19 => ?_)
              · have hf := (if_pos c19).symm.trans hf
                refine wa_forget [true, false, false, false, false, false, false, false, false] [some (.ref (eA E 38)), none, none, none, none, none, none, none, none] rfl ?_
                exact j121  _ hf
              · have hf := (if_neg c19).symm.trans hf
                refine wa_iload (pc := 81) cx 5 dX11_copy_81 rfl ?_
                refine wa_if_lt (pc := 83) cx 121 dX11_copy_83 rfl (fun c20 => ?_) (fun c20 => ?_)
                · have hf := (if_pos c20).symm.trans hf
                  refine wa_forget [true, false, false, false, false, false, false, false, false] [some (.ref (eA E 38)), none, none, none, none, none, none, none, none] rfl ?_
                  exact j121  _ hf
                · have hf := (if_neg c20).symm.trans hf
                  refine wa_iload_n (pc := 86) cx 2 dX11_copy_86 rfl rfl ?_
                  refine wa_i2l (pc := 87) cx dX11_copy_87 ?_
                  refine wa_iload (pc := 88) cx 5 dX11_copy_88 rfl ?_
                  refine wa_i2l (pc := 90) cx dX11_copy_90 ?_
                  refine wa_ladd (pc := 91) cx dX11_copy_91 ?_
                  refine wa_aload_n (pc := 92) cx 0 dX11_copy_92 rfl rfl ?_
                  refine wa_getR (pc := 93) cx fl_X11_13 lk_38 rfl (cx.bl 38 rfl) dX11_copy_93 ?_
                  refine wa_iload_n (pc := 96) cx 1 dX11_copy_96 rfl rfl ?_
                  obtain ⟨g21, hf⟩ := gd_some hf
                  refine wa_iald (pc := 97) cx lk_40 (cx.bl 40 rfl) g21 dX11_copy_97 ?_
                  refine wa_i2l (pc := 98) cx dX11_copy_98 ?_
                  refine wa_lcmp (pc := 99) cx dX11_copy_99 ?_
                  refine wa_if_gt (pc := 100) cx 121 dX11_copy_100 rfl (fun c22 => ?_) (fun c22 => ?_)
                  · have hf := (if_pos c22).symm.trans hf
                    refine wa_forget [true, false, false, false, false, false, false, false, false] [some (.ref (eA E 38)), none, none, none, none, none, none, none, none] rfl ?_
                    exact j121  _ hf
                  · have hf := (if_neg c22).symm.trans hf
                    refine wa_iload (pc := 103) cx 4 dX11_copy_103 rfl ?_
                    refine wa_i2l (pc := 105) cx dX11_copy_105 ?_
                    refine wa_iload (pc := 106) cx 5 dX11_copy_106 rfl ?_
                    refine wa_i2l (pc := 108) cx dX11_copy_108 ?_
                    refine wa_ladd (pc := 109) cx dX11_copy_109 ?_
                    refine wa_aload_n (pc := 110) cx 0 dX11_copy_110 rfl rfl ?_
                    refine wa_getR (pc := 111) cx fl_X11_13 lk_38 rfl (cx.bl 38 rfl) dX11_copy_111 ?_
                    refine wa_iload_n (pc := 114) cx 3 dX11_copy_114 rfl rfl ?_
                    obtain ⟨g23, hf⟩ := gd_some hf
                    refine wa_iald (pc := 115) cx lk_40 (cx.bl 40 rfl) g23 dX11_copy_115 ?_
                    refine wa_i2l (pc := 116) cx dX11_copy_116 ?_
                    refine wa_lcmp (pc := 117) cx dX11_copy_117 ?_
                    refine wa_if_le (pc := 118) cx 127 dX11_copy_118 rfl (fun c24 => ?_) (fun c24 => ?_)
                    · have hf := (if_pos c24).symm.trans hf
                      refine wa_iload_n (pc := 127) cx 2 dX11_copy_127 rfl rfl ?_
                      refine wa_iload (pc := 128) cx 4 dX11_copy_128 rfl ?_
                      refine wa_icmp_lt (pc := 130) cx 137 dX11_copy_130 rfl (fun c25 => ?_) (fun c25 => ?_)
                      · have hf := (if_pos c25).symm.trans hf
                        refine wa_iconst (pc := 137) (v := 0) cx dX11_copy_137 (by decide) ?_
                        exact j138 _ _ _ _ _ _ _ hf
                      · have hf := (if_neg c25).symm.trans hf
                        refine wa_iconst (pc := 133) (v := 1) cx dX11_copy_133 (by decide) ?_
                        refine wa_goto (pc := 134) cx 138 dX11_copy_134 rfl ?_
                        exact j138 _ _ _ _ _ _ _ hf
                    · have hf := (if_neg c24).symm.trans hf
                      refine wa_forget [true, false, false, false, false, false, false, false, false] [some (.ref (eA E 38)), none, none, none, none, none, none, none, none] rfl ?_
                      exact j121  _ hf
          · have hf := (if_neg c15).symm.trans hf
            refine wa_aload_n (pc := 66) cx 0 dX11_copy_66 rfl rfl ?_
            refine wa_iconst (pc := 67) (v := 5) cx dX11_copy_67 (by decide) ?_
            obtain ⟨q32, h33, hf⟩ := bd_some hf
            refine wa_callVi (pc := 68) cx [.int 5] (ct_X11_finding l E _ _ _ h33) mi_X11_finding tw_957 lk_38 rfl (cx.bl 38 rfl) rfl rfl (Nat.le_of_ble_eq_true rfl) ⟨Nat.le_of_ble_eq_true rfl, Nat.le_of_ble_eq_true rfl⟩ ⟨Nat.zero_le _, Nat.zero_le _⟩ dX11_copy_68 ?_
            obtain rfl := Option.some.inj hf
            exact wa_iret (pc := 71) cx dX11_copy_71
        · have hf := (if_neg c12).symm.trans hf
          refine wa_forget [true, false, false, false, false, false, false, false, false] [some (.ref (eA E 38)), none, none, none, none, none, none, none, none] rfl ?_
          exact j45  _ hf
    · have hf := (if_pos c6).symm.trans hf
      refine wa_forget [false, false, false, false, false, false, false, false, false] [none, none, none, none, none, none, none, none, none] rfl ?_
      exact j19  _ hf
def fX11_drop (a1 : Int32) (σ : Sg) : Option (Int32 × Sg) :=
  (fX11_isRow a1 (sup σ 38 0 0)).bind (fun q1 =>
  if q1 = 0 then (some ((-1000001), sup σ 38 0 0)) else (gd (inb a1 8) (
  if (0 : Int32) ≤ ga (sup (sup σ 38 0 0) 38 1 0) 39 a1 then (gd (inb a1 8) (
  gd (inb a1 8) (
  some (ga (sa (sup (sup σ 38 0 0) 38 1 0) 39 a1 (-1)) 40 a1, sa (sup (sup σ 38 0 0) 38 1 0) 39 a1 (-1))))) else ((fX11_finding 1 (sup (sup σ 38 0 0) 38 1 0)).bind (fun q8 =>
  some (q8.1, q8.2))))))
set_option maxHeartbeats 4000000 in
set_option maxRecDepth 100000 in
theorem ct_X11_drop (l : Launch) (E : En) (σ : Sg) (a1 : Int32) (q : Int32 × Sg) (hf : fX11_drop a1 σ = some q) : CT l yX11_drop cX11_drop 2 (some .int) 2 E σ [.ref (eA E 38), .int a1] (some (.int q.1)) q.2 := by
  refine CT.of RX11 [some (.ref (eA E 38)), some (.int a1)] rfl (by decide +kernel) (Nat.le_of_ble_eq_true rfl) rfl ?_
  intro p e s m args below meth c cx
  unfold fX11_drop at hf
  refine wa_aload_n (pc := 0) cx 0 dX11_drop_0 rfl rfl ?_
  refine wa_iconst (pc := 1) (v := 0) cx dX11_drop_1 (by decide) ?_
  refine wa_putI (pc := 2) cx fp_X11_50 lk_38 rfl (cx.bl 38 rfl) dX11_drop_2 ?_
  refine wa_iload_n (pc := 5) cx 1 dX11_drop_5 rfl rfl ?_
  obtain ⟨q1, h2, hf⟩ := bd_some hf
  refine wa_callSi (pc := 6) cx [.int a1] (ct_X11_isRow l E _ _ _ h2) ms_X11_isRow tw_948 rfl rfl (Nat.le_of_ble_eq_true rfl) ⟨Nat.le_of_ble_eq_true rfl, Nat.le_of_ble_eq_true rfl⟩ ⟨Nat.zero_le _, Nat.zero_le _⟩ dX11_drop_6 ?_
  refine wa_if_ne (pc := 9) cx 15 dX11_drop_9 rfl (fun c3 => ?_) (fun c3 => ?_)
  · have hf := (if_neg c3).symm.trans hf
    refine wa_aload_n (pc := 15) cx 0 dX11_drop_15 rfl rfl ?_
    refine wa_iconst (pc := 16) (v := 0) cx dX11_drop_16 (by decide) ?_
    refine wa_putI (pc := 17) cx fp_X11_54 lk_38 rfl (cx.bl 38 rfl) dX11_drop_17 ?_
    refine wa_aload_n (pc := 20) cx 0 dX11_drop_20 rfl rfl ?_
    refine wa_getR (pc := 21) cx fl_X11_7 lk_38 rfl (cx.bl 38 rfl) dX11_drop_21 ?_
    refine wa_iload_n (pc := 24) cx 1 dX11_drop_24 rfl rfl ?_
    obtain ⟨g4, hf⟩ := gd_some hf
    refine wa_iald (pc := 25) cx lk_39 (cx.bl 39 rfl) g4 dX11_drop_25 ?_
    refine wa_if_ge (pc := 26) cx 35 dX11_drop_26 rfl (fun c5 => ?_) (fun c5 => ?_)
    · have hf := (if_pos c5).symm.trans hf
      refine wa_aload_n (pc := 35) cx 0 dX11_drop_35 rfl rfl ?_
      refine wa_getR (pc := 36) cx fl_X11_7 lk_38 rfl (cx.bl 38 rfl) dX11_drop_36 ?_
      refine wa_iload_n (pc := 39) cx 1 dX11_drop_39 rfl rfl ?_
      refine wa_iconst (pc := 40) (v := (-1)) cx dX11_drop_40 (by decide) ?_
      obtain ⟨g6, hf⟩ := gd_some hf
      refine wa_iast (pc := 41) cx lk_39 (cx.bl 39 rfl) g6 dX11_drop_41 ?_
      refine wa_aload_n (pc := 42) cx 0 dX11_drop_42 rfl rfl ?_
      refine wa_getR (pc := 43) cx fl_X11_13 lk_38 rfl (cx.bl 38 rfl) dX11_drop_43 ?_
      refine wa_iload_n (pc := 46) cx 1 dX11_drop_46 rfl rfl ?_
      obtain ⟨g7, hf⟩ := gd_some hf
      refine wa_iald (pc := 47) cx lk_40 (cx.bl 40 rfl) g7 dX11_drop_47 ?_
      obtain rfl := Option.some.inj hf
      exact wa_iret (pc := 48) cx dX11_drop_48
    · have hf := (if_neg c5).symm.trans hf
      refine wa_aload_n (pc := 29) cx 0 dX11_drop_29 rfl rfl ?_
      refine wa_iconst (pc := 30) (v := 1) cx dX11_drop_30 (by decide) ?_
      obtain ⟨q8, h9, hf⟩ := bd_some hf
      refine wa_callVi (pc := 31) cx [.int 1] (ct_X11_finding l E _ _ _ h9) mi_X11_finding tw_957 lk_38 rfl (cx.bl 38 rfl) rfl rfl (Nat.le_of_ble_eq_true rfl) ⟨Nat.le_of_ble_eq_true rfl, Nat.le_of_ble_eq_true rfl⟩ ⟨Nat.zero_le _, Nat.zero_le _⟩ dX11_drop_31 ?_
      obtain rfl := Option.some.inj hf
      exact wa_iret (pc := 34) cx dX11_drop_34
  · have hf := (if_pos c3).symm.trans hf
    refine wa_ldc (pc := 12) (v := (-1000001)) cx dX11_drop_12 tw_956 ?_
    obtain rfl := Option.some.inj hf
    exact wa_iret (pc := 14) cx dX11_drop_14
def fX11_feed_B40 (v1 : Int64) (v4 : Int32) (σ : Sg) : Option ((Int32 × Sg) ⊕ (Sg)) :=
  if v4 < 0 then (some (.inr σ)) else (gd (inb (gf σ 38 11) 400) (
  some (.inl ((v4 + (-1)), sup (sa σ 45 (gf σ 38 11) (((jlshr v1 (8 * v4) &&& 255)).toInt32)) 38 11 (gf (sa σ 45 (gf σ 38 11) (((jlshr v1 (8 * v4) &&& 255)).toInt32)) 38 11 + 1)))))
def fX11_feed (a1 : Int64) (a2 : Int32) (σ : Sg) : Option (Int32 × Sg) :=
  (fX11_in ((a2).toInt64) 1 8 (sup σ 38 0 0)).bind (fun q1 =>
  if q1 = 0 then (some ((-1000001), sup σ 38 0 0)) else (if (gf (sup σ 38 0 0) 38 11 + a2) ≤ 400 then ((lpO (fun w => fX11_feed_B40 a1 w.1 w.2) FUEL ((a2 - 1), sup σ 38 0 0)).bind (fun o7 =>
  some (gf o7 38 11, o7))) else (some ((-1000003), sup σ 38 0 0))))
set_option maxHeartbeats 4000000 in
set_option maxRecDepth 100000 in
theorem ct_X11_feed (l : Launch) (E : En) (σ : Sg) (a1 : Int64) (a2 : Int32) (q : Int32 × Sg) (hf : fX11_feed a1 a2 σ = some q) : CT l yX11_feed cX11_feed 5 (some .int) 1 E σ [.ref (eA E 38), .long a1, .int a2] (some (.int q.1)) q.2 := by
  refine CT.of RX11 [some (.ref (eA E 38)), some (.long a1), none, some (.int a2), none] rfl (by decide +kernel) (Nat.le_of_ble_eq_true rfl) rfl ?_
  intro p e s m args below meth c cx
  unfold fX11_feed at hf
  have l40 : ∀ (v1 : Int64) (y : Int32 × Sg) (o : Sg), lpO (fun w => fX11_feed_B40 v1 w.1 w.2) FUEL y = some o → (WA p l e (rmd 1) s m args below meth c 5 E 0 0 (MQ below (Qcq E s.heap.size (some (.int q.1)) q.2) args s 0 0 (AE E s.heap.size)) 82 [some (.ref (eA E 38)), none, none, none, none] [] o) → WA p l e (rmd 1) s m args below meth c 5 E 0 0 (MQ below (Qcq E s.heap.size (some (.int q.1)) q.2) args s 0 0 (AE E s.heap.size)) 40 [some (.ref (eA E 38)), some (.long v1), none, none, some (.int y.1)] [] y.2 := by
    intro v1 y o hf hk
    refine lp_rule (P := fun y => WA p l e (rmd 1) s m args below meth c 5 E 0 0 (MQ below (Qcq E s.heap.size (some (.int q.1)) q.2) args s 0 0 (AE E s.heap.size)) 40 [some (.ref (eA E 38)), some (.long v1), none, none, some (.int y.1)] [] y.2) (K := fun o => WA p l e (rmd 1) s m args below meth c 5 E 0 0 (MQ below (Qcq E s.heap.size (some (.int q.1)) q.2) args s 0 0 (AE E s.heap.size)) 82 [some (.ref (eA E 38)), none, none, none, none] [] o) ?_ FUEL y o hf hk
    intro y0 r1 hf hk1
    obtain ⟨v4, σ⟩ := y0
    have hf : fX11_feed_B40 v1 v4 σ = some r1 := hf
    unfold fX11_feed_B40 at hf
    refine wa_iload (pc := 40) cx 4 dX11_feed_40 rfl ?_
    refine wa_if_lt (pc := 42) cx 82 dX11_feed_42 rfl (fun c5 => ?_) (fun c5 => ?_)
    · have hf := (if_pos c5).symm.trans hf
      obtain rfl := Option.some.inj hf
      refine wa_forget [true, false, false, false, false] [some (.ref (eA E 38)), none, none, none, none] rfl ?_
      exact hk1
    · have hf := (if_neg c5).symm.trans hf
      refine wa_aload_n (pc := 45) cx 0 dX11_feed_45 rfl rfl ?_
      refine wa_getR (pc := 46) cx fl_X11_28 lk_38 rfl (cx.bl 38 rfl) dX11_feed_46 ?_
      refine wa_aload_n (pc := 49) cx 0 dX11_feed_49 rfl rfl ?_
      refine wa_getI (pc := 50) cx fl_X11_77 lk_38 rfl (cx.bl 38 rfl) dX11_feed_50 ?_
      refine wa_lload_n (pc := 53) cx 1 dX11_feed_53 rfl rfl ?_
      refine wa_bipush (pc := 54) (v := 8) cx dX11_feed_54 (by decide) ?_
      refine wa_iload (pc := 56) cx 4 dX11_feed_56 rfl ?_
      refine wa_imul (pc := 58) cx dX11_feed_58 ?_
      refine wa_lshr (pc := 59) cx dX11_feed_59 ?_
      refine wa_ldc2 (pc := 60) (v := 255) cx dX11_feed_60 tw_980 ?_
      refine wa_land (pc := 63) cx dX11_feed_63 ?_
      refine wa_l2i (pc := 64) cx dX11_feed_64 ?_
      obtain ⟨g6, hf⟩ := gd_some hf
      refine wa_iast (pc := 65) cx lk_45 (cx.bl 45 rfl) g6 dX11_feed_65 ?_
      refine wa_aload_n (pc := 66) cx 0 dX11_feed_66 rfl rfl ?_
      refine wa_dup (pc := 67) cx dX11_feed_67 rfl ?_
      refine wa_getI (pc := 68) cx fl_X11_77 lk_38 rfl (cx.bl 38 rfl) dX11_feed_68 ?_
      refine wa_iconst (pc := 71) (v := 1) cx dX11_feed_71 (by decide) ?_
      refine wa_iadd (pc := 72) cx dX11_feed_72 ?_
      refine wa_putI (pc := 73) cx fp_X11_77 lk_38 rfl (cx.bl 38 rfl) dX11_feed_73 ?_
      refine wa_iinc (pc := 76) (v := (-1)) cx 4 [some (.ref (eA E 38)), some (.long v1), none, none, some (.int (v4 + (-1)))] dX11_feed_76 (by decide) rfl (by decide) rfl rfl ?_
      refine wa_goto (pc := 79) cx 40 dX11_feed_79 rfl ?_
      obtain rfl := Option.some.inj hf
      refine wa_forget [true, true, false, false, true] [some (.ref (eA E 38)), some (.long v1), none, none, some (.int (v4 + (-1)))] rfl ?_
      exact hk1
  refine wa_aload_n (pc := 0) cx 0 dX11_feed_0 rfl rfl ?_
  refine wa_iconst (pc := 1) (v := 0) cx dX11_feed_1 (by decide) ?_
  refine wa_putI (pc := 2) cx fp_X11_50 lk_38 rfl (cx.bl 38 rfl) dX11_feed_2 ?_
  refine wa_iload_n (pc := 5) cx 3 dX11_feed_5 rfl rfl ?_
  refine wa_i2l (pc := 6) cx dX11_feed_6 ?_
  refine wa_lconst (pc := 7) (v := 1) cx dX11_feed_7 (by decide) ?_
  refine wa_ldc2 (pc := 8) (v := 8) cx dX11_feed_8 tw_978 ?_
  obtain ⟨q1, h2, hf⟩ := bd_some hf
  refine wa_callSi (pc := 11) cx [.long ((a2).toInt64), .long 1, .long 8] (ct_X11_in l E _ _ _ _ _ h2) ms_X11_in tw_952 rfl rfl (Nat.le_of_ble_eq_true rfl) ⟨Nat.le_of_ble_eq_true rfl, Nat.le_of_ble_eq_true rfl⟩ ⟨Nat.zero_le _, Nat.zero_le _⟩ dX11_feed_11 ?_
  refine wa_if_ne (pc := 14) cx 20 dX11_feed_14 rfl (fun c3 => ?_) (fun c3 => ?_)
  · have hf := (if_neg c3).symm.trans hf
    refine wa_aload_n (pc := 20) cx 0 dX11_feed_20 rfl rfl ?_
    refine wa_getI (pc := 21) cx fl_X11_77 lk_38 rfl (cx.bl 38 rfl) dX11_feed_21 ?_
    refine wa_iload_n (pc := 24) cx 3 dX11_feed_24 rfl rfl ?_
    refine wa_iadd (pc := 25) cx dX11_feed_25 ?_
    refine wa_sipush (pc := 26) (v := 400) cx dX11_feed_26 (by decide) ?_
    refine wa_icmp_le (pc := 29) cx 35 dX11_feed_29 rfl (fun c4 => ?_) (fun c4 => ?_)
    · have hf := (if_pos c4).symm.trans hf
      refine wa_iload_n (pc := 35) cx 3 dX11_feed_35 rfl rfl ?_
      refine wa_iconst (pc := 36) (v := 1) cx dX11_feed_36 (by decide) ?_
      refine wa_isub (pc := 37) cx dX11_feed_37 ?_
      refine wa_istore (pc := 38) cx 4 [some (.ref (eA E 38)), some (.long a1), none, some (.int a2), some (.int (a2 - 1))] dX11_feed_38 (by decide) rfl rfl ?_
      refine wa_forget [true, true, false, false, true] [some (.ref (eA E 38)), some (.long a1), none, none, some (.int (a2 - 1))] rfl ?_
      obtain ⟨o7, h8, hf⟩ := bd_some hf
      refine l40 _ _ _ h8 ?_
      refine wa_aload_n (pc := 82) cx 0 dX11_feed_82 rfl rfl ?_
      refine wa_getI (pc := 83) cx fl_X11_77 lk_38 rfl (cx.bl 38 rfl) dX11_feed_83 ?_
      obtain rfl := Option.some.inj hf
      exact wa_iret (pc := 86) cx dX11_feed_86
    · have hf := (if_neg c4).symm.trans hf
      refine wa_ldc (pc := 32) (v := (-1000003)) cx dX11_feed_32 tw_979 ?_
      obtain rfl := Option.some.inj hf
      exact wa_iret (pc := 34) cx dX11_feed_34
  · have hf := (if_pos c3).symm.trans hf
    refine wa_ldc (pc := 17) (v := (-1000001)) cx dX11_feed_17 tw_956 ?_
    obtain rfl := Option.some.inj hf
    exact wa_iret (pc := 19) cx dX11_feed_19
def fX11_byteAt (a1 : Int32) (σ : Sg) : Option (Int32) :=
  if gf σ 38 13 ≤ a1 then (some (-1000000)) else (gd (inb a1 400) (
  some (ga σ 45 a1)))
set_option maxHeartbeats 4000000 in
set_option maxRecDepth 100000 in
theorem ct_X11_byteAt (l : Launch) (E : En) (σ : Sg) (a1 : Int32) (q : Int32) (hf : fX11_byteAt a1 σ = some q) : CT l yX11_byteAt cX11_byteAt 2 (some .int) 0 E σ [.ref (eA E 38), .int a1] (some (.int q)) σ := by
  refine CT.of RX11 [some (.ref (eA E 38)), some (.int a1)] rfl (by decide +kernel) (Nat.le_of_ble_eq_true rfl) rfl ?_
  intro p e s m args below meth c cx
  unfold fX11_byteAt at hf
  refine wa_iload_n (pc := 0) cx 1 dX11_byteAt_0 rfl rfl ?_
  refine wa_aload_n (pc := 1) cx 0 dX11_byteAt_1 rfl rfl ?_
  refine wa_getI (pc := 2) cx fl_X11_83 lk_38 rfl (cx.bl 38 rfl) dX11_byteAt_2 ?_
  refine wa_icmp_ge (pc := 5) cx 17 dX11_byteAt_5 rfl (fun c1 => ?_) (fun c1 => ?_)
  · have hf := (if_pos c1).symm.trans hf
    refine wa_ldc (pc := 17) (v := (-1000000)) cx dX11_byteAt_17 tw_997 ?_
    obtain rfl := Option.some.inj hf
    exact wa_iret (pc := 19) cx dX11_byteAt_19
  · have hf := (if_neg c1).symm.trans hf
    refine wa_aload_n (pc := 8) cx 0 dX11_byteAt_8 rfl rfl ?_
    refine wa_getR (pc := 9) cx fl_X11_28 lk_38 rfl (cx.bl 38 rfl) dX11_byteAt_9 ?_
    refine wa_iload_n (pc := 12) cx 1 dX11_byteAt_12 rfl rfl ?_
    obtain ⟨g2, hf⟩ := gd_some hf
    refine wa_iald (pc := 13) cx lk_45 (cx.bl 45 rfl) g2 dX11_byteAt_13 ?_
    refine wa_goto (pc := 14) cx 19 dX11_byteAt_14 rfl ?_
    obtain rfl := Option.some.inj hf
    exact wa_iret (pc := 19) cx dX11_byteAt_19
def fX11_isLetter_J16  (σ : Sg) : Option (Int32) :=
  some 0
def fX11_isLetter (a1 : Int32) (σ : Sg) : Option (Int32) :=
  if a1 < 97 then (fX11_isLetter_J16  σ) else (if (122 : Int32) < a1 then (fX11_isLetter_J16  σ) else (some 1))
set_option maxHeartbeats 4000000 in
set_option maxRecDepth 100000 in
theorem ct_X11_isLetter (l : Launch) (E : En) (σ : Sg) (a1 : Int32) (q : Int32) (hf : fX11_isLetter a1 σ = some q) : CT l yX11_isLetter cX11_isLetter 1 (some .boolean) 0 E σ [.int a1] (some (.int q)) σ := by
  refine CT.of RX11 [some (.int a1)] rfl (by decide +kernel) (Nat.le_of_ble_eq_true rfl) rfl ?_
  intro p e s m args below meth c cx
  unfold fX11_isLetter at hf
  have j16 : ∀  (σ : Sg), fX11_isLetter_J16  σ = some q → WA p l e (rmd 0) s m args below meth c 1 E 0 0 (MQ below (Qcq E s.heap.size (some (.int q)) σ) args s 0 0 (AE E s.heap.size)) 16 [none] [] σ := by
    intro  σ hf
    unfold fX11_isLetter_J16 at hf
    refine wa_iconst (pc := 16) (v := 0) cx dX11_isLetter_16 (by decide) ?_
    obtain rfl := Option.some.inj hf
    exact wa_zret (pc := 17) cx rfl dX11_isLetter_17
  refine wa_iload_n (pc := 0) cx 0 dX11_isLetter_0 rfl rfl ?_
  refine wa_bipush (pc := 1) (v := 97) cx dX11_isLetter_1 (by decide) ?_
  refine wa_icmp_lt (pc := 3) cx 16 dX11_isLetter_3 rfl (fun c1 => ?_) (fun c1 => ?_)
  · have hf := (if_pos c1).symm.trans hf
    refine wa_forget [false] [none] rfl ?_
    exact j16  _ hf
  · have hf := (if_neg c1).symm.trans hf
    refine wa_iload_n (pc := 6) cx 0 dX11_isLetter_6 rfl rfl ?_
    refine wa_bipush (pc := 7) (v := 122) cx dX11_isLetter_7 (by decide) ?_
    refine wa_icmp_gt (pc := 9) cx 16 dX11_isLetter_9 rfl (fun c2 => ?_) (fun c2 => ?_)
    · have hf := (if_pos c2).symm.trans hf
      refine wa_forget [false] [none] rfl ?_
      exact j16  _ hf
    · have hf := (if_neg c2).symm.trans hf
      refine wa_iconst (pc := 12) (v := 1) cx dX11_isLetter_12 (by decide) ?_
      refine wa_goto (pc := 13) cx 17 dX11_isLetter_13 rfl ?_
      obtain rfl := Option.some.inj hf
      exact wa_zret (pc := 17) cx rfl dX11_isLetter_17
def fX11_isFigure_J16  (σ : Sg) : Option (Int32) :=
  some 0
def fX11_isFigure (a1 : Int32) (σ : Sg) : Option (Int32) :=
  if a1 < 48 then (fX11_isFigure_J16  σ) else (if (57 : Int32) < a1 then (fX11_isFigure_J16  σ) else (some 1))
set_option maxHeartbeats 4000000 in
set_option maxRecDepth 100000 in
theorem ct_X11_isFigure (l : Launch) (E : En) (σ : Sg) (a1 : Int32) (q : Int32) (hf : fX11_isFigure a1 σ = some q) : CT l yX11_isFigure cX11_isFigure 1 (some .boolean) 0 E σ [.int a1] (some (.int q)) σ := by
  refine CT.of RX11 [some (.int a1)] rfl (by decide +kernel) (Nat.le_of_ble_eq_true rfl) rfl ?_
  intro p e s m args below meth c cx
  unfold fX11_isFigure at hf
  have j16 : ∀  (σ : Sg), fX11_isFigure_J16  σ = some q → WA p l e (rmd 0) s m args below meth c 1 E 0 0 (MQ below (Qcq E s.heap.size (some (.int q)) σ) args s 0 0 (AE E s.heap.size)) 16 [none] [] σ := by
    intro  σ hf
    unfold fX11_isFigure_J16 at hf
    refine wa_iconst (pc := 16) (v := 0) cx dX11_isFigure_16 (by decide) ?_
    obtain rfl := Option.some.inj hf
    exact wa_zret (pc := 17) cx rfl dX11_isFigure_17
  refine wa_iload_n (pc := 0) cx 0 dX11_isFigure_0 rfl rfl ?_
  refine wa_bipush (pc := 1) (v := 48) cx dX11_isFigure_1 (by decide) ?_
  refine wa_icmp_lt (pc := 3) cx 16 dX11_isFigure_3 rfl (fun c1 => ?_) (fun c1 => ?_)
  · have hf := (if_pos c1).symm.trans hf
    refine wa_forget [false] [none] rfl ?_
    exact j16  _ hf
  · have hf := (if_neg c1).symm.trans hf
    refine wa_iload_n (pc := 6) cx 0 dX11_isFigure_6 rfl rfl ?_
    refine wa_bipush (pc := 7) (v := 57) cx dX11_isFigure_7 (by decide) ?_
    refine wa_icmp_gt (pc := 9) cx 16 dX11_isFigure_9 rfl (fun c2 => ?_) (fun c2 => ?_)
    · have hf := (if_pos c2).symm.trans hf
      refine wa_forget [false] [none] rfl ?_
      exact j16  _ hf
    · have hf := (if_neg c2).symm.trans hf
      refine wa_iconst (pc := 12) (v := 1) cx dX11_isFigure_12 (by decide) ?_
      refine wa_goto (pc := 13) cx 17 dX11_isFigure_13 rfl ?_
      obtain rfl := Option.some.inj hf
      exact wa_zret (pc := 17) cx rfl dX11_isFigure_17
def fX11_next_J26  (σ : Sg) : Option ((Sg) ⊕ (Sg)) :=
  some (.inl (sup σ 38 14 (gf σ 38 14 + 1)))
def fX11_next_B0   (σ : Sg) : Option ((Sg) ⊕ (Sg)) :=
  (fX11_byteAt (gf σ 38 14) σ).bind (fun q1 =>
  if q1 = 32 then (fX11_next_J26  σ) else ((fX11_byteAt (gf σ 38 14) σ).bind (fun q4 =>
  if q4 = 10 then (fX11_next_J26  σ) else (some (.inr σ)))))
def fX11_next_J196  (σ : Sg) : Option (Sg) :=
  some (sup σ 38 17 (gf σ 38 14))
def fX11_next_J193 (t1 : Int32) (σ : Sg) : Option (Sg) :=
  fX11_next_J196  (sup σ 38 15 t1)
def fX11_next_B119   (σ : Sg) : Option ((Sg) ⊕ (Sg)) :=
  (fX11_byteAt (gf σ 38 14) σ).bind (fun q18 =>
  (fX11_isFigure q18 σ).bind (fun q20 =>
  if q20 = 0 then (some (.inr σ)) else (some (.inl (sup σ 38 14 (gf σ 38 14 + 1))))))
def fX11_next_J165 (t1 : Int32) (σ : Sg) : Option (Sg) :=
  fX11_next_J196  (sup σ 38 15 t1)
def fX11_next_B77   (σ : Sg) : Option ((Sg) ⊕ (Sg)) :=
  (fX11_byteAt (gf σ 38 14) σ).bind (fun q26 =>
  (fX11_isLetter q26 σ).bind (fun q28 =>
  if q28 = 0 then (some (.inr σ)) else (some (.inl (sup σ 38 14 (gf σ 38 14 + 1))))))
def fX11_next  (σ : Sg) : Option (Sg) :=
  (lpO (fun w => fX11_next_B0   w) FUEL σ).bind (fun o7 =>
  (fX11_byteAt (gf (sup o7 38 16 (gf o7 38 14)) 38 14) (sup o7 38 16 (gf o7 38 14))).bind (fun q8 =>
  if q8 = (-1000000) then (fX11_next_J196  (sup (sup o7 38 16 (gf o7 38 14)) 38 15 1)) else ((fX11_isLetter q8 (sup o7 38 16 (gf o7 38 14))).bind (fun q11 =>
  if q11 = 0 then ((fX11_isFigure q8 (sup o7 38 16 (gf o7 38 14))).bind (fun q14 =>
  if q14 = 0 then (if q8 = 59 then (fX11_next_J193 4 (sup (sup o7 38 16 (gf o7 38 14)) 38 14 (gf (sup o7 38 16 (gf o7 38 14)) 38 14 + 1))) else (fX11_next_J193 0 (sup (sup o7 38 16 (gf o7 38 14)) 38 14 (gf (sup o7 38 16 (gf o7 38 14)) 38 14 + 1)))) else ((lpO (fun w => fX11_next_B119   w) FUEL (sup o7 38 16 (gf o7 38 14))).bind (fun o23 =>
  if (gf o23 38 14 - gf o23 38 16) ≤ 3 then (fX11_next_J165 3 o23) else (fX11_next_J165 0 o23))))) else ((lpO (fun w => fX11_next_B77   w) FUEL (sup o7 38 16 (gf o7 38 14))).bind (fun o31 =>
  fX11_next_J196  (sup o31 38 15 2)))))))
set_option maxHeartbeats 4000000 in
set_option maxRecDepth 100000 in
theorem ct_X11_next (l : Launch) (E : En) (σ : Sg)  (q : Sg) (hf : fX11_next  σ = some q) : CT l yX11_next cX11_next 2 none 1 E σ [.ref (eA E 38)] none q := by
  refine CT.of RX11 [some (.ref (eA E 38)), none] rfl (by decide +kernel) (Nat.le_of_ble_eq_true rfl) rfl ?_
  intro p e s m args below meth c cx
  unfold fX11_next at hf
  have l0 : ∀  (y : Sg) (o : Sg), lpO (fun w => fX11_next_B0   w) FUEL y = some o → (WA p l e (rmd 1) s m args below meth c 2 E 0 0 (MQ below (Qcq E s.heap.size (none) q) args s 0 0 (AE E s.heap.size)) 39 [some (.ref (eA E 38)), none] [] o) → WA p l e (rmd 1) s m args below meth c 2 E 0 0 (MQ below (Qcq E s.heap.size (none) q) args s 0 0 (AE E s.heap.size)) 0 [some (.ref (eA E 38)), none] [] y := by
    intro  y o hf hk
    refine lp_rule (P := fun y => WA p l e (rmd 1) s m args below meth c 2 E 0 0 (MQ below (Qcq E s.heap.size (none) q) args s 0 0 (AE E s.heap.size)) 0 [some (.ref (eA E 38)), none] [] y) (K := fun o => WA p l e (rmd 1) s m args below meth c 2 E 0 0 (MQ below (Qcq E s.heap.size (none) q) args s 0 0 (AE E s.heap.size)) 39 [some (.ref (eA E 38)), none] [] o) ?_ FUEL y o hf hk
    have j26 : ∀  (σ : Sg) (r1 : (Sg) ⊕ (Sg)), fX11_next_J26  σ = some r1 → (sel (fun y1 => WA p l e (rmd 1) s m args below meth c 2 E 0 0 (MQ below (Qcq E s.heap.size (none) q) args s 0 0 (AE E s.heap.size)) 0 [some (.ref (eA E 38)), none] [] y1) (fun y1 => WA p l e (rmd 1) s m args below meth c 2 E 0 0 (MQ below (Qcq E s.heap.size (none) q) args s 0 0 (AE E s.heap.size)) 39 [some (.ref (eA E 38)), none] [] y1) r1) → WA p l e (rmd 1) s m args below meth c 2 E 0 0 (MQ below (Qcq E s.heap.size (none) q) args s 0 0 (AE E s.heap.size)) 26 [some (.ref (eA E 38)), none] [] σ := by
      intro  σ r1 hf hk1
      unfold fX11_next_J26 at hf
      refine wa_aload_n (pc := 26) cx 0 dX11_next_26 rfl rfl ?_
      refine wa_dup (pc := 27) cx dX11_next_27 rfl ?_
      refine wa_getI (pc := 28) cx fl_X11_87 lk_38 rfl (cx.bl 38 rfl) dX11_next_28 ?_
      refine wa_iconst (pc := 31) (v := 1) cx dX11_next_31 (by decide) ?_
      refine wa_iadd (pc := 32) cx dX11_next_32 ?_
      refine wa_putI (pc := 33) cx fp_X11_87 lk_38 rfl (cx.bl 38 rfl) dX11_next_33 ?_
      refine wa_goto (pc := 36) cx 0 dX11_next_36 rfl ?_
      obtain rfl := Option.some.inj hf
      refine wa_forget [true, false] [some (.ref (eA E 38)), none] rfl ?_
      exact hk1
    intro σ r1 hf hk1
    have hf : fX11_next_B0   σ = some r1 := hf
    unfold fX11_next_B0 at hf
    refine wa_aload_n (pc := 0) cx 0 dX11_next_0 rfl rfl ?_
    refine wa_aload_n (pc := 1) cx 0 dX11_next_1 rfl rfl ?_
    refine wa_getI (pc := 2) cx fl_X11_87 lk_38 rfl (cx.bl 38 rfl) dX11_next_2 ?_
    obtain ⟨q1, h2, hf⟩ := bd_some hf
    refine wa_callVi (pc := 5) cx [.int (gf σ 38 14)] (ct_X11_byteAt l E _ _ _ h2) mi_X11_byteAt tw_993 lk_38 rfl (cx.bl 38 rfl) rfl rfl (Nat.le_of_ble_eq_true rfl) ⟨Nat.le_of_ble_eq_true rfl, Nat.le_of_ble_eq_true rfl⟩ ⟨Nat.zero_le _, Nat.zero_le _⟩ dX11_next_5 ?_
    refine wa_bipush (pc := 8) (v := 32) cx dX11_next_8 (by decide) ?_
    refine wa_icmp_eq (pc := 10) cx 26 dX11_next_10 rfl (fun c3 => ?_) (fun c3 => ?_)
    · have hf := (if_pos c3).symm.trans hf
      exact j26  _ _ hf hk1
    · have hf := (if_neg c3).symm.trans hf
      refine wa_aload_n (pc := 13) cx 0 dX11_next_13 rfl rfl ?_
      refine wa_aload_n (pc := 14) cx 0 dX11_next_14 rfl rfl ?_
      refine wa_getI (pc := 15) cx fl_X11_87 lk_38 rfl (cx.bl 38 rfl) dX11_next_15 ?_
      obtain ⟨q4, h5, hf⟩ := bd_some hf
      refine wa_callVi (pc := 18) cx [.int (gf σ 38 14)] (ct_X11_byteAt l E _ _ _ h5) mi_X11_byteAt tw_993 lk_38 rfl (cx.bl 38 rfl) rfl rfl (Nat.le_of_ble_eq_true rfl) ⟨Nat.le_of_ble_eq_true rfl, Nat.le_of_ble_eq_true rfl⟩ ⟨Nat.zero_le _, Nat.zero_le _⟩ dX11_next_18 ?_
      refine wa_bipush (pc := 21) (v := 10) cx dX11_next_21 (by decide) ?_
      refine wa_icmp_ne (pc := 23) cx 39 dX11_next_23 rfl (fun c6 => ?_) (fun c6 => ?_)
      · have hf := (if_neg c6).symm.trans hf
        obtain rfl := Option.some.inj hf
        refine wa_forget [true, false] [some (.ref (eA E 38)), none] rfl ?_
        exact hk1
      · have hf := (if_pos c6).symm.trans hf
        exact j26  _ _ hf hk1
  have j196 : ∀  (σ : Sg), fX11_next_J196  σ = some q → WA p l e (rmd 1) s m args below meth c 2 E 0 0 (MQ below (Qcq E s.heap.size (none) q) args s 0 0 (AE E s.heap.size)) 196 [some (.ref (eA E 38)), none] [] σ := by
    intro  σ hf
    unfold fX11_next_J196 at hf
    refine wa_aload_n (pc := 196) cx 0 dX11_next_196 rfl rfl ?_
    refine wa_aload_n (pc := 197) cx 0 dX11_next_197 rfl rfl ?_
    refine wa_getI (pc := 198) cx fl_X11_87 lk_38 rfl (cx.bl 38 rfl) dX11_next_198 ?_
    refine wa_putI (pc := 201) cx fp_X11_105 lk_38 rfl (cx.bl 38 rfl) dX11_next_201 ?_
    obtain rfl := Option.some.inj hf
    exact wa_vret (pc := 204) cx dX11_next_204
  have j193 : ∀ (t1 : Int32) (σ : Sg), fX11_next_J193 t1 σ = some q → WA p l e (rmd 1) s m args below meth c 2 E 0 0 (MQ below (Qcq E s.heap.size (none) q) args s 0 0 (AE E s.heap.size)) 193 [some (.ref (eA E 38)), none] [.int t1, .ref (eA E 38)] σ := by
    intro t1 σ hf
    unfold fX11_next_J193 at hf
    refine wa_putI (pc := 193) cx fp_X11_96 lk_38 rfl (cx.bl 38 rfl) dX11_next_193 ?_
    exact j196  _ hf
  have l119 : ∀  (y : Sg) (o : Sg), lpO (fun w => fX11_next_B119   w) FUEL y = some o → (WA p l e (rmd 1) s m args below meth c 2 E 0 0 (MQ below (Qcq E s.heap.size (none) q) args s 0 0 (AE E s.heap.size)) 146 [some (.ref (eA E 38)), none] [] o) → WA p l e (rmd 1) s m args below meth c 2 E 0 0 (MQ below (Qcq E s.heap.size (none) q) args s 0 0 (AE E s.heap.size)) 119 [some (.ref (eA E 38)), none] [] y := by
    intro  y o hf hk
    refine lp_rule (P := fun y => WA p l e (rmd 1) s m args below meth c 2 E 0 0 (MQ below (Qcq E s.heap.size (none) q) args s 0 0 (AE E s.heap.size)) 119 [some (.ref (eA E 38)), none] [] y) (K := fun o => WA p l e (rmd 1) s m args below meth c 2 E 0 0 (MQ below (Qcq E s.heap.size (none) q) args s 0 0 (AE E s.heap.size)) 146 [some (.ref (eA E 38)), none] [] o) ?_ FUEL y o hf hk
    intro σ r1 hf hk1
    have hf : fX11_next_B119   σ = some r1 := hf
    unfold fX11_next_B119 at hf
    refine wa_aload_n (pc := 119) cx 0 dX11_next_119 rfl rfl ?_
    refine wa_aload_n (pc := 120) cx 0 dX11_next_120 rfl rfl ?_
    refine wa_getI (pc := 121) cx fl_X11_87 lk_38 rfl (cx.bl 38 rfl) dX11_next_121 ?_
    obtain ⟨q18, h19, hf⟩ := bd_some hf
    refine wa_callVi (pc := 124) cx [.int (gf σ 38 14)] (ct_X11_byteAt l E _ _ _ h19) mi_X11_byteAt tw_993 lk_38 rfl (cx.bl 38 rfl) rfl rfl (Nat.le_of_ble_eq_true rfl) ⟨Nat.le_of_ble_eq_true rfl, Nat.le_of_ble_eq_true rfl⟩ ⟨Nat.zero_le _, Nat.zero_le _⟩ dX11_next_124 ?_
    obtain ⟨q20, h21, hf⟩ := bd_some hf
    refine wa_callSi (pc := 127) cx [.int q18] (ct_X11_isFigure l E _ _ _ h21) ms_X11_isFigure tw_1001 rfl rfl (Nat.le_of_ble_eq_true rfl) ⟨Nat.le_of_ble_eq_true rfl, Nat.le_of_ble_eq_true rfl⟩ ⟨Nat.zero_le _, Nat.zero_le _⟩ dX11_next_127 ?_
    refine wa_if_eq (pc := 130) cx 146 dX11_next_130 rfl (fun c22 => ?_) (fun c22 => ?_)
    · have hf := (if_pos c22).symm.trans hf
      obtain rfl := Option.some.inj hf
      refine wa_forget [true, false] [some (.ref (eA E 38)), none] rfl ?_
      exact hk1
    · have hf := (if_neg c22).symm.trans hf
      refine wa_aload_n (pc := 133) cx 0 dX11_next_133 rfl rfl ?_
      refine wa_dup (pc := 134) cx dX11_next_134 rfl ?_
      refine wa_getI (pc := 135) cx fl_X11_87 lk_38 rfl (cx.bl 38 rfl) dX11_next_135 ?_
      refine wa_iconst (pc := 138) (v := 1) cx dX11_next_138 (by decide) ?_
      refine wa_iadd (pc := 139) cx dX11_next_139 ?_
      refine wa_putI (pc := 140) cx fp_X11_87 lk_38 rfl (cx.bl 38 rfl) dX11_next_140 ?_
      refine wa_goto (pc := 143) cx 119 dX11_next_143 rfl ?_
      obtain rfl := Option.some.inj hf
      refine wa_forget [true, false] [some (.ref (eA E 38)), none] rfl ?_
      exact hk1
  have j165 : ∀ (t1 : Int32) (σ : Sg), fX11_next_J165 t1 σ = some q → WA p l e (rmd 1) s m args below meth c 2 E 0 0 (MQ below (Qcq E s.heap.size (none) q) args s 0 0 (AE E s.heap.size)) 165 [some (.ref (eA E 38)), none] [.int t1, .ref (eA E 38)] σ := by
    intro t1 σ hf
    unfold fX11_next_J165 at hf
    refine wa_putI (pc := 165) cx fp_X11_96 lk_38 rfl (cx.bl 38 rfl) dX11_next_165 ?_
    refine wa_goto (pc := 168) cx 196 dX11_next_168 rfl ?_
    exact j196  _ hf
  have l77 : ∀  (y : Sg) (o : Sg), lpO (fun w => fX11_next_B77   w) FUEL y = some o → (WA p l e (rmd 1) s m args below meth c 2 E 0 0 (MQ below (Qcq E s.heap.size (none) q) args s 0 0 (AE E s.heap.size)) 104 [some (.ref (eA E 38)), none] [] o) → WA p l e (rmd 1) s m args below meth c 2 E 0 0 (MQ below (Qcq E s.heap.size (none) q) args s 0 0 (AE E s.heap.size)) 77 [some (.ref (eA E 38)), none] [] y := by
    intro  y o hf hk
    refine lp_rule (P := fun y => WA p l e (rmd 1) s m args below meth c 2 E 0 0 (MQ below (Qcq E s.heap.size (none) q) args s 0 0 (AE E s.heap.size)) 77 [some (.ref (eA E 38)), none] [] y) (K := fun o => WA p l e (rmd 1) s m args below meth c 2 E 0 0 (MQ below (Qcq E s.heap.size (none) q) args s 0 0 (AE E s.heap.size)) 104 [some (.ref (eA E 38)), none] [] o) ?_ FUEL y o hf hk
    intro σ r1 hf hk1
    have hf : fX11_next_B77   σ = some r1 := hf
    unfold fX11_next_B77 at hf
    refine wa_aload_n (pc := 77) cx 0 dX11_next_77 rfl rfl ?_
    refine wa_aload_n (pc := 78) cx 0 dX11_next_78 rfl rfl ?_
    refine wa_getI (pc := 79) cx fl_X11_87 lk_38 rfl (cx.bl 38 rfl) dX11_next_79 ?_
    obtain ⟨q26, h27, hf⟩ := bd_some hf
    refine wa_callVi (pc := 82) cx [.int (gf σ 38 14)] (ct_X11_byteAt l E _ _ _ h27) mi_X11_byteAt tw_993 lk_38 rfl (cx.bl 38 rfl) rfl rfl (Nat.le_of_ble_eq_true rfl) ⟨Nat.le_of_ble_eq_true rfl, Nat.le_of_ble_eq_true rfl⟩ ⟨Nat.zero_le _, Nat.zero_le _⟩ dX11_next_82 ?_
    obtain ⟨q28, h29, hf⟩ := bd_some hf
    refine wa_callSi (pc := 85) cx [.int q26] (ct_X11_isLetter l E _ _ _ h29) ms_X11_isLetter tw_998 rfl rfl (Nat.le_of_ble_eq_true rfl) ⟨Nat.le_of_ble_eq_true rfl, Nat.le_of_ble_eq_true rfl⟩ ⟨Nat.zero_le _, Nat.zero_le _⟩ dX11_next_85 ?_
    refine wa_if_eq (pc := 88) cx 104 dX11_next_88 rfl (fun c30 => ?_) (fun c30 => ?_)
    · have hf := (if_pos c30).symm.trans hf
      obtain rfl := Option.some.inj hf
      refine wa_forget [true, false] [some (.ref (eA E 38)), none] rfl ?_
      exact hk1
    · have hf := (if_neg c30).symm.trans hf
      refine wa_aload_n (pc := 91) cx 0 dX11_next_91 rfl rfl ?_
      refine wa_dup (pc := 92) cx dX11_next_92 rfl ?_
      refine wa_getI (pc := 93) cx fl_X11_87 lk_38 rfl (cx.bl 38 rfl) dX11_next_93 ?_
      refine wa_iconst (pc := 96) (v := 1) cx dX11_next_96 (by decide) ?_
      refine wa_iadd (pc := 97) cx dX11_next_97 ?_
      refine wa_putI (pc := 98) cx fp_X11_87 lk_38 rfl (cx.bl 38 rfl) dX11_next_98 ?_
      refine wa_goto (pc := 101) cx 77 dX11_next_101 rfl ?_
      obtain rfl := Option.some.inj hf
      refine wa_forget [true, false] [some (.ref (eA E 38)), none] rfl ?_
      exact hk1
  obtain ⟨o7, h33, hf⟩ := bd_some hf
  refine l0  _ _ h33 ?_
  refine wa_aload_n (pc := 39) cx 0 dX11_next_39 rfl rfl ?_
  refine wa_aload_n (pc := 40) cx 0 dX11_next_40 rfl rfl ?_
  refine wa_getI (pc := 41) cx fl_X11_87 lk_38 rfl (cx.bl 38 rfl) dX11_next_41 ?_
  refine wa_putI (pc := 44) cx fp_X11_93 lk_38 rfl (cx.bl 38 rfl) dX11_next_44 ?_
  refine wa_aload_n (pc := 47) cx 0 dX11_next_47 rfl rfl ?_
  refine wa_aload_n (pc := 48) cx 0 dX11_next_48 rfl rfl ?_
  refine wa_getI (pc := 49) cx fl_X11_87 lk_38 rfl (cx.bl 38 rfl) dX11_next_49 ?_
  obtain ⟨q8, h9, hf⟩ := bd_some hf
  refine wa_callVi (pc := 52) cx [.int (gf (sup o7 38 16 (gf o7 38 14)) 38 14)] (ct_X11_byteAt l E _ _ _ h9) mi_X11_byteAt tw_993 lk_38 rfl (cx.bl 38 rfl) rfl rfl (Nat.le_of_ble_eq_true rfl) ⟨Nat.le_of_ble_eq_true rfl, Nat.le_of_ble_eq_true rfl⟩ ⟨Nat.zero_le _, Nat.zero_le _⟩ dX11_next_52 ?_
  refine wa_istore_n (pc := 55) cx 1 [some (.ref (eA E 38)), some (.int q8)] dX11_next_55 rfl (by decide) rfl rfl ?_
  refine wa_iload_n (pc := 56) cx 1 dX11_next_56 rfl rfl ?_
  refine wa_ldc (pc := 57) (v := (-1000000)) cx dX11_next_57 tw_997 ?_
  refine wa_icmp_ne (pc := 59) cx 70 dX11_next_59 rfl (fun c10 => ?_) (fun c10 => ?_)
  · have hf := (if_neg c10).symm.trans hf
    refine wa_iload_n (pc := 70) cx 1 dX11_next_70 rfl rfl ?_
    obtain ⟨q11, h12, hf⟩ := bd_some hf
    refine wa_callSi (pc := 71) cx [.int q8] (ct_X11_isLetter l E _ _ _ h12) ms_X11_isLetter tw_998 rfl rfl (Nat.le_of_ble_eq_true rfl) ⟨Nat.le_of_ble_eq_true rfl, Nat.le_of_ble_eq_true rfl⟩ ⟨Nat.zero_le _, Nat.zero_le _⟩ dX11_next_71 ?_
    refine wa_if_eq (pc := 74) cx 112 dX11_next_74 rfl (fun c13 => ?_) (fun c13 => ?_)
    · have hf := (if_pos c13).symm.trans hf
      refine wa_iload_n (pc := 112) cx 1 dX11_next_112 rfl rfl ?_
      obtain ⟨q14, h15, hf⟩ := bd_some hf
      refine wa_callSi (pc := 113) cx [.int q8] (ct_X11_isFigure l E _ _ _ h15) ms_X11_isFigure tw_1001 rfl rfl (Nat.le_of_ble_eq_true rfl) ⟨Nat.le_of_ble_eq_true rfl, Nat.le_of_ble_eq_true rfl⟩ ⟨Nat.zero_le _, Nat.zero_le _⟩ dX11_next_113 ?_
      refine wa_if_eq (pc := 116) cx 171 dX11_next_116 rfl (fun c16 => ?_) (fun c16 => ?_)
      · have hf := (if_pos c16).symm.trans hf
        refine wa_aload_n (pc := 171) cx 0 dX11_next_171 rfl rfl ?_
        refine wa_dup (pc := 172) cx dX11_next_172 rfl ?_
        refine wa_getI (pc := 173) cx fl_X11_87 lk_38 rfl (cx.bl 38 rfl) dX11_next_173 ?_
        refine wa_iconst (pc := 176) (v := 1) cx dX11_next_176 (by decide) ?_
        refine wa_iadd (pc := 177) cx dX11_next_177 ?_
        refine wa_putI (pc := 178) cx fp_X11_87 lk_38 rfl (cx.bl 38 rfl) dX11_next_178 ?_
        refine wa_aload_n (pc := 181) cx 0 dX11_next_181 rfl rfl ?_
        refine wa_iload_n (pc := 182) cx 1 dX11_next_182 rfl rfl ?_
        refine wa_bipush (pc := 183) (v := 59) cx dX11_next_183 (by decide) ?_
        refine wa_icmp_ne (pc := 185) cx 192 dX11_next_185 rfl (fun c17 => ?_) (fun c17 => ?_)
        · have hf := (if_neg c17).symm.trans hf
          refine wa_iconst (pc := 192) (v := 0) cx dX11_next_192 (by decide) ?_
          refine wa_forget [true, false] [some (.ref (eA E 38)), none] rfl ?_
          exact j193 _ _ hf
        · have hf := (if_pos c17).symm.trans hf
          refine wa_iconst (pc := 188) (v := 4) cx dX11_next_188 (by decide) ?_
          refine wa_goto (pc := 189) cx 193 dX11_next_189 rfl ?_
          refine wa_forget [true, false] [some (.ref (eA E 38)), none] rfl ?_
          exact j193 _ _ hf
      · have hf := (if_neg c16).symm.trans hf
        refine wa_forget [true, false] [some (.ref (eA E 38)), none] rfl ?_
        obtain ⟨o23, h25, hf⟩ := bd_some hf
        refine l119  _ _ h25 ?_
        refine wa_aload_n (pc := 146) cx 0 dX11_next_146 rfl rfl ?_
        refine wa_aload_n (pc := 147) cx 0 dX11_next_147 rfl rfl ?_
        refine wa_getI (pc := 148) cx fl_X11_87 lk_38 rfl (cx.bl 38 rfl) dX11_next_148 ?_
        refine wa_aload_n (pc := 151) cx 0 dX11_next_151 rfl rfl ?_
        refine wa_getI (pc := 152) cx fl_X11_93 lk_38 rfl (cx.bl 38 rfl) dX11_next_152 ?_
        refine wa_isub (pc := 155) cx dX11_next_155 ?_
        refine wa_iconst (pc := 156) (v := 3) cx dX11_next_156 (by decide) ?_
        refine wa_icmp_le (pc := 157) cx 164 dX11_next_157 rfl (fun c24 => ?_) (fun c24 => ?_)
        · have hf := (if_pos c24).symm.trans hf
          refine wa_iconst (pc := 164) (v := 3) cx dX11_next_164 (by decide) ?_
          exact j165 _ _ hf
        · have hf := (if_neg c24).symm.trans hf
          refine wa_iconst (pc := 160) (v := 0) cx dX11_next_160 (by decide) ?_
          refine wa_goto (pc := 161) cx 165 dX11_next_161 rfl ?_
          exact j165 _ _ hf
    · have hf := (if_neg c13).symm.trans hf
      refine wa_forget [true, false] [some (.ref (eA E 38)), none] rfl ?_
      obtain ⟨o31, h32, hf⟩ := bd_some hf
      refine l77  _ _ h32 ?_
      refine wa_aload_n (pc := 104) cx 0 dX11_next_104 rfl rfl ?_
      refine wa_iconst (pc := 105) (v := 2) cx dX11_next_105 (by decide) ?_
      refine wa_putI (pc := 106) cx fp_X11_96 lk_38 rfl (cx.bl 38 rfl) dX11_next_106 ?_
      refine wa_goto (pc := 109) cx 196 dX11_next_109 rfl ?_
      exact j196  _ hf
  · have hf := (if_pos c10).symm.trans hf
    refine wa_aload_n (pc := 62) cx 0 dX11_next_62 rfl rfl ?_
    refine wa_iconst (pc := 63) (v := 1) cx dX11_next_63 (by decide) ?_
    refine wa_putI (pc := 64) cx fp_X11_96 lk_38 rfl (cx.bl 38 rfl) dX11_next_64 ?_
    refine wa_goto (pc := 67) cx 196 dX11_next_67 rfl ?_
    refine wa_forget [true, false] [some (.ref (eA E 38)), none] rfl ?_
    exact j196  _ hf
def fX11_begin  (σ : Sg) : Option (Sg) :=
  (fX11_next  (sup (sup (sup (sup σ 38 13 (gf σ 38 11)) 38 11 0) 38 14 0) 38 18 0)).bind (fun q1 =>
  some q1)
set_option maxHeartbeats 4000000 in
set_option maxRecDepth 100000 in
theorem ct_X11_begin (l : Launch) (E : En) (σ : Sg)  (q : Sg) (hf : fX11_begin  σ = some q) : CT l yX11_begin cX11_begin 1 none 2 E σ [.ref (eA E 38)] none q := by
  refine CT.of RX11 [some (.ref (eA E 38))] rfl (by decide +kernel) (Nat.le_of_ble_eq_true rfl) rfl ?_
  intro p e s m args below meth c cx
  unfold fX11_begin at hf
  refine wa_aload_n (pc := 0) cx 0 dX11_begin_0 rfl rfl ?_
  refine wa_aload_n (pc := 1) cx 0 dX11_begin_1 rfl rfl ?_
  refine wa_getI (pc := 2) cx fl_X11_77 lk_38 rfl (cx.bl 38 rfl) dX11_begin_2 ?_
  refine wa_putI (pc := 5) cx fp_X11_83 lk_38 rfl (cx.bl 38 rfl) dX11_begin_5 ?_
  refine wa_aload_n (pc := 8) cx 0 dX11_begin_8 rfl rfl ?_
  refine wa_iconst (pc := 9) (v := 0) cx dX11_begin_9 (by decide) ?_
  refine wa_putI (pc := 10) cx fp_X11_77 lk_38 rfl (cx.bl 38 rfl) dX11_begin_10 ?_
  refine wa_aload_n (pc := 13) cx 0 dX11_begin_13 rfl rfl ?_
  refine wa_iconst (pc := 14) (v := 0) cx dX11_begin_14 (by decide) ?_
  refine wa_putI (pc := 15) cx fp_X11_87 lk_38 rfl (cx.bl 38 rfl) dX11_begin_15 ?_
  refine wa_aload_n (pc := 18) cx 0 dX11_begin_18 rfl rfl ?_
  refine wa_iconst (pc := 19) (v := 0) cx dX11_begin_19 (by decide) ?_
  refine wa_putI (pc := 20) cx fp_X11_108 lk_38 rfl (cx.bl 38 rfl) dX11_begin_20 ?_
  refine wa_aload_n (pc := 23) cx 0 dX11_begin_23 rfl rfl ?_
  obtain ⟨q1, h2, hf⟩ := bd_some hf
  refine wa_callVv (pc := 24) cx [] (ct_X11_next l E _  _ h2) mi_X11_next tw_989 lk_38 rfl (cx.bl 38 rfl) rfl rfl (Nat.le_of_ble_eq_true rfl) ⟨Nat.le_of_ble_eq_true rfl, Nat.le_of_ble_eq_true rfl⟩ ⟨Nat.zero_le _, Nat.zero_le _⟩ dX11_begin_24 ?_
  obtain rfl := Option.some.inj hf
  exact wa_vret (pc := 27) cx dX11_begin_27
def fX11_name_B7  (v1 : Int64) (v3 : Int32) (σ : Sg) : Option ((Int64 × Int32) ⊕ (Int64)) :=
  if gf σ 38 17 ≤ v3 then (some (.inr v1)) else (if gf σ 38 15 = 2 then (if (8 : Int32) ≤ (gf σ 38 17 - gf σ 38 16) then (some (.inr v1)) else (gd (inb v3 400) (
  some (.inl ((jlshl v1 8 ||| (ga σ 45 v3).toInt64), (v3 + 1)))))) else (some (.inr v1)))
def fX11_name  (σ : Sg) : Option (Int64) :=
  (lpO (fun w => fX11_name_B7  w.1 w.2 σ) FUEL (0, gf σ 38 16)).bind (fun o5 =>
  if gf σ 38 18 = 0 then (some o5) else (some 0))
set_option maxHeartbeats 4000000 in
set_option maxRecDepth 100000 in
theorem ct_X11_name (l : Launch) (E : En) (σ : Sg)  (q : Int64) (hf : fX11_name  σ = some q) : CT l yX11_name cX11_name 4 (some .long) 0 E σ [.ref (eA E 38)] (some (.long q)) σ := by
  refine CT.of RX11 [some (.ref (eA E 38)), none, none, none] rfl (by decide +kernel) (Nat.le_of_ble_eq_true rfl) rfl ?_
  intro p e s m args below meth c cx
  unfold fX11_name at hf
  have l7 : ∀  (σ : Sg) (y : Int64 × Int32) (o : Int64), lpO (fun w => fX11_name_B7  w.1 w.2 σ) FUEL y = some o → (WA p l e (rmd 0) s m args below meth c 4 E 0 0 (MQ below (Qcq E s.heap.size (some (.long q)) σ) args s 0 0 (AE E s.heap.size)) 56 [some (.ref (eA E 38)), some (.long o), none, none] [] σ) → WA p l e (rmd 0) s m args below meth c 4 E 0 0 (MQ below (Qcq E s.heap.size (some (.long q)) σ) args s 0 0 (AE E s.heap.size)) 7 [some (.ref (eA E 38)), some (.long y.1), none, some (.int y.2)] [] σ := by
    intro  σ y o hf hk
    refine lp_rule (P := fun y => WA p l e (rmd 0) s m args below meth c 4 E 0 0 (MQ below (Qcq E s.heap.size (some (.long q)) σ) args s 0 0 (AE E s.heap.size)) 7 [some (.ref (eA E 38)), some (.long y.1), none, some (.int y.2)] [] σ) (K := fun o => WA p l e (rmd 0) s m args below meth c 4 E 0 0 (MQ below (Qcq E s.heap.size (some (.long q)) σ) args s 0 0 (AE E s.heap.size)) 56 [some (.ref (eA E 38)), some (.long o), none, none] [] σ) ?_ FUEL y o hf hk
    intro y0 r1 hf hk1
    obtain ⟨v1, v3⟩ := y0
    have hf : fX11_name_B7  v1 v3 σ = some r1 := hf
    unfold fX11_name_B7 at hf
    refine wa_iload_n (pc := 7) cx 3 dX11_name_7 rfl rfl ?_
    refine wa_aload_n (pc := 8) cx 0 dX11_name_8 rfl rfl ?_
    refine wa_getI (pc := 9) cx fl_X11_105 lk_38 rfl (cx.bl 38 rfl) dX11_name_9 ?_
    refine wa_icmp_ge (pc := 12) cx 56 dX11_name_12 rfl (fun c1 => ?_) (fun c1 => ?_)
    · have hf := (if_pos c1).symm.trans hf
      obtain rfl := Option.some.inj hf
      refine wa_forget [true, true, false, false] [some (.ref (eA E 38)), some (.long v1), none, none] rfl ?_
      exact hk1
    · have hf := (if_neg c1).symm.trans hf
      refine wa_aload_n (pc := 15) cx 0 dX11_name_15 rfl rfl ?_
      refine wa_getI (pc := 16) cx fl_X11_96 lk_38 rfl (cx.bl 38 rfl) dX11_name_16 ?_
      refine wa_iconst (pc := 19) (v := 2) cx dX11_name_19 (by decide) ?_
      refine wa_icmp_ne (pc := 20) cx 56 dX11_name_20 rfl (fun c2 => ?_) (fun c2 => ?_)
      · have hf := (if_neg c2).symm.trans hf
        obtain rfl := Option.some.inj hf
        refine wa_forget [true, true, false, false] [some (.ref (eA E 38)), some (.long v1), none, none] rfl ?_
        exact hk1
      · have hf := (if_pos c2).symm.trans hf
        refine wa_aload_n (pc := 23) cx 0 dX11_name_23 rfl rfl ?_
        refine wa_getI (pc := 24) cx fl_X11_105 lk_38 rfl (cx.bl 38 rfl) dX11_name_24 ?_
        refine wa_aload_n (pc := 27) cx 0 dX11_name_27 rfl rfl ?_
        refine wa_getI (pc := 28) cx fl_X11_93 lk_38 rfl (cx.bl 38 rfl) dX11_name_28 ?_
        refine wa_isub (pc := 31) cx dX11_name_31 ?_
        refine wa_bipush (pc := 32) (v := 8) cx dX11_name_32 (by decide) ?_
        refine wa_icmp_ge (pc := 34) cx 56 dX11_name_34 rfl (fun c3 => ?_) (fun c3 => ?_)
        · have hf := (if_pos c3).symm.trans hf
          obtain rfl := Option.some.inj hf
          refine wa_forget [true, true, false, false] [some (.ref (eA E 38)), some (.long v1), none, none] rfl ?_
          exact hk1
        · have hf := (if_neg c3).symm.trans hf
          refine wa_lload_n (pc := 37) cx 1 dX11_name_37 rfl rfl ?_
          refine wa_bipush (pc := 38) (v := 8) cx dX11_name_38 (by decide) ?_
          refine wa_lshl (pc := 40) cx dX11_name_40 ?_
          refine wa_aload_n (pc := 41) cx 0 dX11_name_41 rfl rfl ?_
          refine wa_getR (pc := 42) cx fl_X11_28 lk_38 rfl (cx.bl 38 rfl) dX11_name_42 ?_
          refine wa_iload_n (pc := 45) cx 3 dX11_name_45 rfl rfl ?_
          obtain ⟨g4, hf⟩ := gd_some hf
          refine wa_iald (pc := 46) cx lk_45 (cx.bl 45 rfl) g4 dX11_name_46 ?_
          refine wa_i2l (pc := 47) cx dX11_name_47 ?_
          refine wa_lor (pc := 48) cx dX11_name_48 ?_
          refine wa_lstore_n (pc := 49) cx 1 [some (.ref (eA E 38)), some (.long (jlshl v1 8 ||| (ga σ 45 v3).toInt64)), none, some (.int v3)] dX11_name_49 rfl (by decide) rfl rfl ?_
          refine wa_iinc (pc := 50) (v := 1) cx 3 [some (.ref (eA E 38)), some (.long (jlshl v1 8 ||| (ga σ 45 v3).toInt64)), none, some (.int (v3 + 1))] dX11_name_50 (by decide) rfl (by decide) rfl rfl ?_
          refine wa_goto (pc := 53) cx 7 dX11_name_53 rfl ?_
          obtain rfl := Option.some.inj hf
          refine wa_forget [true, true, false, true] [some (.ref (eA E 38)), some (.long (jlshl v1 8 ||| (ga σ 45 v3).toInt64)), none, some (.int (v3 + 1))] rfl ?_
          exact hk1
  refine wa_lconst (pc := 0) (v := 0) cx dX11_name_0 (by decide) ?_
  refine wa_lstore_n (pc := 1) cx 1 [some (.ref (eA E 38)), some (.long 0), none, none] dX11_name_1 rfl (by decide) rfl rfl ?_
  refine wa_aload_n (pc := 2) cx 0 dX11_name_2 rfl rfl ?_
  refine wa_getI (pc := 3) cx fl_X11_93 lk_38 rfl (cx.bl 38 rfl) dX11_name_3 ?_
  refine wa_istore_n (pc := 6) cx 3 [some (.ref (eA E 38)), some (.long 0), none, some (.int (gf σ 38 16))] dX11_name_6 rfl (by decide) rfl rfl ?_
  obtain ⟨o5, h7, hf⟩ := bd_some hf
  refine l7  _ _ _ h7 ?_
  refine wa_aload_n (pc := 56) cx 0 dX11_name_56 rfl rfl ?_
  refine wa_getI (pc := 57) cx fl_X11_108 lk_38 rfl (cx.bl 38 rfl) dX11_name_57 ?_
  refine wa_if_ne (pc := 60) cx 67 dX11_name_60 rfl (fun c6 => ?_) (fun c6 => ?_)
  · have hf := (if_neg c6).symm.trans hf
    refine wa_lconst (pc := 67) (v := 0) cx dX11_name_67 (by decide) ?_
    obtain rfl := Option.some.inj hf
    exact wa_lret (pc := 68) cx dX11_name_68
  · have hf := (if_pos c6).symm.trans hf
    refine wa_lload_n (pc := 63) cx 1 dX11_name_63 rfl rfl ?_
    refine wa_goto (pc := 64) cx 68 dX11_name_64 rfl ?_
    obtain rfl := Option.some.inj hf
    exact wa_lret (pc := 68) cx dX11_name_68
def fX11_bad (a1 : Int32) (σ : Sg) : Option (Sg) :=
  if gf σ 38 18 = 0 then (some (sup (sup σ 38 18 a1) 38 19 (gf (sup σ 38 18 a1) 38 16))) else (some σ)
set_option maxHeartbeats 4000000 in
set_option maxRecDepth 100000 in
theorem ct_X11_bad (l : Launch) (E : En) (σ : Sg) (a1 : Int32) (q : Sg) (hf : fX11_bad a1 σ = some q) : CT l yX11_bad cX11_bad 2 none 0 E σ [.ref (eA E 38), .int a1] none q := by
  refine CT.of RX11 [some (.ref (eA E 38)), some (.int a1)] rfl (by decide +kernel) (Nat.le_of_ble_eq_true rfl) rfl ?_
  intro p e s m args below meth c cx
  unfold fX11_bad at hf
  refine wa_aload_n (pc := 0) cx 0 dX11_bad_0 rfl rfl ?_
  refine wa_getI (pc := 1) cx fl_X11_108 lk_38 rfl (cx.bl 38 rfl) dX11_bad_1 ?_
  refine wa_if_ne (pc := 4) cx 20 dX11_bad_4 rfl (fun c1 => ?_) (fun c1 => ?_)
  · have hf := (if_neg c1).symm.trans hf
    obtain rfl := Option.some.inj hf
    exact wa_vret (pc := 20) cx dX11_bad_20
  · have hf := (if_pos c1).symm.trans hf
    refine wa_aload_n (pc := 7) cx 0 dX11_bad_7 rfl rfl ?_
    refine wa_iload_n (pc := 8) cx 1 dX11_bad_8 rfl rfl ?_
    refine wa_putI (pc := 9) cx fp_X11_108 lk_38 rfl (cx.bl 38 rfl) dX11_bad_9 ?_
    refine wa_aload_n (pc := 12) cx 0 dX11_bad_12 rfl rfl ?_
    refine wa_aload_n (pc := 13) cx 0 dX11_bad_13 rfl rfl ?_
    refine wa_getI (pc := 14) cx fl_X11_93 lk_38 rfl (cx.bl 38 rfl) dX11_bad_14 ?_
    refine wa_putI (pc := 17) cx fp_X11_114 lk_38 rfl (cx.bl 38 rfl) dX11_bad_17 ?_
    obtain rfl := Option.some.inj hf
    exact wa_vret (pc := 20) cx dX11_bad_20
def fX11_must_J9  (σ : Sg) : Option (Sg) :=
  if gf σ 38 18 = 0 then ((fX11_next  σ).bind (fun q3 =>
  some q3)) else (some σ)
def fX11_must (a1 : Int32) (σ : Sg) : Option (Sg) :=
  if a1 = 0 then ((fX11_bad 1 σ).bind (fun q5 =>
  fX11_must_J9  q5)) else (fX11_must_J9  σ)
set_option maxHeartbeats 4000000 in
set_option maxRecDepth 100000 in
theorem ct_X11_must (l : Launch) (E : En) (σ : Sg) (a1 : Int32) (q : Sg) (hf : fX11_must a1 σ = some q) : CT l yX11_must cX11_must 2 none 2 E σ [.ref (eA E 38), .int a1] none q := by
  refine CT.of RX11 [some (.ref (eA E 38)), some (.int a1)] rfl (by decide +kernel) (Nat.le_of_ble_eq_true rfl) rfl ?_
  intro p e s m args below meth c cx
  unfold fX11_must at hf
  have j9 : ∀  (σ : Sg), fX11_must_J9  σ = some q → WA p l e (rmd 2) s m args below meth c 2 E 0 0 (MQ below (Qcq E s.heap.size (none) q) args s 0 0 (AE E s.heap.size)) 9 [some (.ref (eA E 38)), none] [] σ := by
    intro  σ hf
    unfold fX11_must_J9 at hf
    refine wa_aload_n (pc := 9) cx 0 dX11_must_9 rfl rfl ?_
    refine wa_getI (pc := 10) cx fl_X11_108 lk_38 rfl (cx.bl 38 rfl) dX11_must_10 ?_
    refine wa_if_ne (pc := 13) cx 20 dX11_must_13 rfl (fun c2 => ?_) (fun c2 => ?_)
    · have hf := (if_neg c2).symm.trans hf
      obtain rfl := Option.some.inj hf
      exact wa_vret (pc := 20) cx dX11_must_20
    · have hf := (if_pos c2).symm.trans hf
      refine wa_aload_n (pc := 16) cx 0 dX11_must_16 rfl rfl ?_
      obtain ⟨q3, h4, hf⟩ := bd_some hf
      refine wa_callVv (pc := 17) cx [] (ct_X11_next l E _  _ h4) mi_X11_next tw_989 lk_38 rfl (cx.bl 38 rfl) rfl rfl (Nat.le_of_ble_eq_true rfl) ⟨Nat.le_of_ble_eq_true rfl, Nat.le_of_ble_eq_true rfl⟩ ⟨Nat.zero_le _, Nat.zero_le _⟩ dX11_must_17 ?_
      obtain rfl := Option.some.inj hf
      exact wa_vret (pc := 20) cx dX11_must_20
  refine wa_iload_n (pc := 0) cx 1 dX11_must_0 rfl rfl ?_
  refine wa_if_ne (pc := 1) cx 9 dX11_must_1 rfl (fun c1 => ?_) (fun c1 => ?_)
  · have hf := (if_neg c1).symm.trans hf
    refine wa_forget [true, false] [some (.ref (eA E 38)), none] rfl ?_
    exact j9  _ hf
  · have hf := (if_pos c1).symm.trans hf
    refine wa_aload_n (pc := 4) cx 0 dX11_must_4 rfl rfl ?_
    refine wa_iconst (pc := 5) (v := 1) cx dX11_must_5 (by decide) ?_
    obtain ⟨q5, h6, hf⟩ := bd_some hf
    refine wa_callVv (pc := 6) cx [.int 1] (ct_X11_bad l E _ _ _ h6) mi_X11_bad tw_1013 lk_38 rfl (cx.bl 38 rfl) rfl rfl (Nat.le_of_ble_eq_true rfl) ⟨Nat.le_of_ble_eq_true rfl, Nat.le_of_ble_eq_true rfl⟩ ⟨Nat.zero_le _, Nat.zero_le _⟩ dX11_must_6 ?_
    refine wa_forget [true, false] [some (.ref (eA E 38)), none] rfl ?_
    exact j9  _ hf
def fX11_figures_B7  (v1 : Int32) (v2 : Int32) (σ : Sg) : Option ((Int32 × Int32) ⊕ (Int32)) :=
  if gf σ 38 17 ≤ v2 then (some (.inr v1)) else (if gf σ 38 15 = 3 then (gd (inb v2 400) (
  some (.inl ((((10 * v1) + ga σ 45 v2) - 48), (v2 + 1))))) else (some (.inr v1)))
def fX11_figures  (σ : Sg) : Option (Int32) :=
  (lpO (fun w => fX11_figures_B7  w.1 w.2 σ) FUEL (0, gf σ 38 16)).bind (fun o4 =>
  some o4)
set_option maxHeartbeats 4000000 in
set_option maxRecDepth 100000 in
theorem ct_X11_figures (l : Launch) (E : En) (σ : Sg)  (q : Int32) (hf : fX11_figures  σ = some q) : CT l yX11_figures cX11_figures 3 (some .int) 0 E σ [.ref (eA E 38)] (some (.int q)) σ := by
  refine CT.of RX11 [some (.ref (eA E 38)), none, none] rfl (by decide +kernel) (Nat.le_of_ble_eq_true rfl) rfl ?_
  intro p e s m args below meth c cx
  unfold fX11_figures at hf
  have l7 : ∀  (σ : Sg) (y : Int32 × Int32) (o : Int32), lpO (fun w => fX11_figures_B7  w.1 w.2 σ) FUEL y = some o → (WA p l e (rmd 0) s m args below meth c 3 E 0 0 (MQ below (Qcq E s.heap.size (some (.int q)) σ) args s 0 0 (AE E s.heap.size)) 44 [none, some (.int o), none] [] σ) → WA p l e (rmd 0) s m args below meth c 3 E 0 0 (MQ below (Qcq E s.heap.size (some (.int q)) σ) args s 0 0 (AE E s.heap.size)) 7 [some (.ref (eA E 38)), some (.int y.1), some (.int y.2)] [] σ := by
    intro  σ y o hf hk
    refine lp_rule (P := fun y => WA p l e (rmd 0) s m args below meth c 3 E 0 0 (MQ below (Qcq E s.heap.size (some (.int q)) σ) args s 0 0 (AE E s.heap.size)) 7 [some (.ref (eA E 38)), some (.int y.1), some (.int y.2)] [] σ) (K := fun o => WA p l e (rmd 0) s m args below meth c 3 E 0 0 (MQ below (Qcq E s.heap.size (some (.int q)) σ) args s 0 0 (AE E s.heap.size)) 44 [none, some (.int o), none] [] σ) ?_ FUEL y o hf hk
    intro y0 r1 hf hk1
    obtain ⟨v1, v2⟩ := y0
    have hf : fX11_figures_B7  v1 v2 σ = some r1 := hf
    unfold fX11_figures_B7 at hf
    refine wa_iload_n (pc := 7) cx 2 dX11_figures_7 rfl rfl ?_
    refine wa_aload_n (pc := 8) cx 0 dX11_figures_8 rfl rfl ?_
    refine wa_getI (pc := 9) cx fl_X11_105 lk_38 rfl (cx.bl 38 rfl) dX11_figures_9 ?_
    refine wa_icmp_ge (pc := 12) cx 44 dX11_figures_12 rfl (fun c1 => ?_) (fun c1 => ?_)
    · have hf := (if_pos c1).symm.trans hf
      obtain rfl := Option.some.inj hf
      refine wa_forget [false, true, false] [none, some (.int v1), none] rfl ?_
      exact hk1
    · have hf := (if_neg c1).symm.trans hf
      refine wa_aload_n (pc := 15) cx 0 dX11_figures_15 rfl rfl ?_
      refine wa_getI (pc := 16) cx fl_X11_96 lk_38 rfl (cx.bl 38 rfl) dX11_figures_16 ?_
      refine wa_iconst (pc := 19) (v := 3) cx dX11_figures_19 (by decide) ?_
      refine wa_icmp_ne (pc := 20) cx 44 dX11_figures_20 rfl (fun c2 => ?_) (fun c2 => ?_)
      · have hf := (if_neg c2).symm.trans hf
        obtain rfl := Option.some.inj hf
        refine wa_forget [false, true, false] [none, some (.int v1), none] rfl ?_
        exact hk1
      · have hf := (if_pos c2).symm.trans hf
        refine wa_bipush (pc := 23) (v := 10) cx dX11_figures_23 (by decide) ?_
        refine wa_iload_n (pc := 25) cx 1 dX11_figures_25 rfl rfl ?_
        refine wa_imul (pc := 26) cx dX11_figures_26 ?_
        refine wa_aload_n (pc := 27) cx 0 dX11_figures_27 rfl rfl ?_
        refine wa_getR (pc := 28) cx fl_X11_28 lk_38 rfl (cx.bl 38 rfl) dX11_figures_28 ?_
        refine wa_iload_n (pc := 31) cx 2 dX11_figures_31 rfl rfl ?_
        obtain ⟨g3, hf⟩ := gd_some hf
        refine wa_iald (pc := 32) cx lk_45 (cx.bl 45 rfl) g3 dX11_figures_32 ?_
        refine wa_iadd (pc := 33) cx dX11_figures_33 ?_
        refine wa_bipush (pc := 34) (v := 48) cx dX11_figures_34 (by decide) ?_
        refine wa_isub (pc := 36) cx dX11_figures_36 ?_
        refine wa_istore_n (pc := 37) cx 1 [some (.ref (eA E 38)), some (.int (((10 * v1) + ga σ 45 v2) - 48)), some (.int v2)] dX11_figures_37 rfl (by decide) rfl rfl ?_
        refine wa_iinc (pc := 38) (v := 1) cx 2 [some (.ref (eA E 38)), some (.int (((10 * v1) + ga σ 45 v2) - 48)), some (.int (v2 + 1))] dX11_figures_38 (by decide) rfl (by decide) rfl rfl ?_
        refine wa_goto (pc := 41) cx 7 dX11_figures_41 rfl ?_
        obtain rfl := Option.some.inj hf
        refine wa_forget [true, true, true] [some (.ref (eA E 38)), some (.int (((10 * v1) + ga σ 45 v2) - 48)), some (.int (v2 + 1))] rfl ?_
        exact hk1
  refine wa_iconst (pc := 0) (v := 0) cx dX11_figures_0 (by decide) ?_
  refine wa_istore_n (pc := 1) cx 1 [some (.ref (eA E 38)), some (.int 0), none] dX11_figures_1 rfl (by decide) rfl rfl ?_
  refine wa_aload_n (pc := 2) cx 0 dX11_figures_2 rfl rfl ?_
  refine wa_getI (pc := 3) cx fl_X11_93 lk_38 rfl (cx.bl 38 rfl) dX11_figures_3 ?_
  refine wa_istore_n (pc := 6) cx 2 [some (.ref (eA E 38)), some (.int 0), some (.int (gf σ 38 16))] dX11_figures_6 rfl (by decide) rfl rfl ?_
  obtain ⟨o4, h5, hf⟩ := bd_some hf
  refine l7  _ _ _ h5 ?_
  refine wa_iload_n (pc := 44) cx 1 dX11_figures_44 rfl rfl ?_
  obtain rfl := Option.some.inj hf
  exact wa_iret (pc := 45) cx dX11_figures_45
