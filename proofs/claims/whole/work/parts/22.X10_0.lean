def fX10_foundNothing (a1 : Int32) (σ : Sg) : Option (Int32 × Sg) :=
  some (a1, sup σ 0 11 0)
set_option maxHeartbeats 4000000 in
set_option maxRecDepth 100000 in
theorem ct_X10_foundNothing (l : Launch) (E : En) (σ : Sg) (a1 : Int32) (q : Int32 × Sg) (hf : fX10_foundNothing a1 σ = some q) : CT l yX10_foundNothing cX10_foundNothing 2 (some .int) 0 E σ [.ref (eA E 0), .int a1] (some (.int q.1)) q.2 := by
  refine CT.of RX10 [some (.ref (eA E 0)), some (.int a1)] rfl (by decide +kernel) (Nat.le_of_ble_eq_true rfl) rfl ?_
  intro p e s m args below meth c cx
  unfold fX10_foundNothing at hf
  refine wa_aload_n (pc := 0) cx 0 dX10_foundNothing_0 rfl rfl ?_
  refine wa_iconst (pc := 1) (v := 0) cx dX10_foundNothing_1 (by decide) ?_
  refine wa_putI (pc := 2) cx fp_X10_76 lk_0 rfl (cx.bl 0 rfl) dX10_foundNothing_2 ?_
  refine wa_iload_n (pc := 5) cx 1 dX10_foundNothing_5 rfl rfl ?_
  obtain rfl := Option.some.inj hf
  exact wa_iret (pc := 6) cx dX10_foundNothing_6
def fX10_found (a1 : Int32) (σ : Sg) : Option (Int32 × Sg) :=
  some (((-1000010) - a1), sup σ 0 11 a1)
set_option maxHeartbeats 4000000 in
set_option maxRecDepth 100000 in
theorem ct_X10_found (l : Launch) (E : En) (σ : Sg) (a1 : Int32) (q : Int32 × Sg) (hf : fX10_found a1 σ = some q) : CT l yX10_found cX10_found 2 (some .int) 0 E σ [.ref (eA E 0), .int a1] (some (.int q.1)) q.2 := by
  refine CT.of RX10 [some (.ref (eA E 0)), some (.int a1)] rfl (by decide +kernel) (Nat.le_of_ble_eq_true rfl) rfl ?_
  intro p e s m args below meth c cx
  unfold fX10_found at hf
  refine wa_aload_n (pc := 0) cx 0 dX10_found_0 rfl rfl ?_
  refine wa_iload_n (pc := 1) cx 1 dX10_found_1 rfl rfl ?_
  refine wa_putI (pc := 2) cx fp_X10_76 lk_0 rfl (cx.bl 0 rfl) dX10_found_2 ?_
  refine wa_ldcw (pc := 5) (v := (-1000010)) cx dX10_found_5 tw_358 ?_
  refine wa_iload_n (pc := 8) cx 1 dX10_found_8 rfl rfl ?_
  refine wa_isub (pc := 9) cx dX10_found_9 ?_
  obtain rfl := Option.some.inj hf
  exact wa_iret (pc := 10) cx dX10_found_10
def fX10_row_J26  (σ : Sg) : Option (Int32 × Sg) :=
  some ((-1000001), σ)
def fX10_row (a1 : Int32) (a2 : Int32) (a3 : Int32) (σ : Sg) : Option (Int32 × Sg) :=
  (fX7_isNumber a1 σ).bind (fun q1 =>
  if q1 = 0 then (fX10_row_J26  σ) else (if a2 < 0 then (fX10_row_J26  σ) else (if (2 : Int32) < a2 then (fX10_row_J26  σ) else (if a3 ≤ 40 then (if (0 : Int32) ≤ a3 then ((fX7_make a1 a2 a3 σ).bind (fun q8 =>
  (fX10_foundNothing a3 q8).bind (fun q10 =>
  some (q10.1, q10.2)))) else ((fX10_found 4 σ).bind (fun q12 =>
  some (q12.1, q12.2)))) else (fX10_row_J26  σ)))))
set_option maxHeartbeats 4000000 in
set_option maxRecDepth 100000 in
theorem ct_X10_row (l : Launch) (E : En) (σ : Sg) (a1 : Int32) (a2 : Int32) (a3 : Int32) (q : Int32 × Sg) (hf : fX10_row a1 a2 a3 σ = some q) : CT l yX10_row cX10_row 4 (some .int) 1 E σ [.ref (eA E 0), .int a1, .int a2, .int a3] (some (.int q.1)) q.2 := by
  refine CT.of RX10 [some (.ref (eA E 0)), some (.int a1), some (.int a2), some (.int a3)] rfl (by decide +kernel) (Nat.le_of_ble_eq_true rfl) rfl ?_
  intro p e s m args below meth c cx
  unfold fX10_row at hf
  have j26 : ∀  (σ : Sg), fX10_row_J26  σ = some q → WA p l e (rmd 1) s m args below meth c 4 E 0 0 (MQ below (Qcq E s.heap.size (some (.int q.1)) q.2) args s 0 0 (AE E s.heap.size)) 26 [none, none, none, none] [] σ := by
    intro  σ hf
    unfold fX10_row_J26 at hf
    refine wa_ldc (pc := 26) (v := (-1000001)) cx dX10_row_26 tw_353 ?_
    obtain rfl := Option.some.inj hf
    exact wa_iret (pc := 28) cx dX10_row_28
  refine wa_aload_n (pc := 0) cx 0 dX10_row_0 rfl rfl ?_
  refine wa_getR (pc := 1) cx fl_X10_10 lk_0 rfl (cx.bl 0 rfl) dX10_row_1 ?_
  refine wa_iload_n (pc := 4) cx 1 dX10_row_4 rfl rfl ?_
  obtain ⟨q1, h2, hf⟩ := bd_some hf
  refine wa_callVi (pc := 5) cx [.int a1] (ct_X7_isNumber l E _ _ _ h2) mi_X7_isNumber tw_349 lk_1 rfl (cx.bl 1 rfl) rfl rfl (Nat.le_of_ble_eq_true rfl) ⟨Nat.le_of_ble_eq_true rfl, Nat.le_of_ble_eq_true rfl⟩ ⟨Nat.zero_le _, Nat.zero_le _⟩ dX10_row_5 ?_
  refine wa_if_eq (pc := 8) cx 26 dX10_row_8 rfl (fun c3 => ?_) (fun c3 => ?_)
  · have hf := (if_pos c3).symm.trans hf
    refine wa_forget [false, false, false, false] [none, none, none, none] rfl ?_
    exact j26  _ hf
  · have hf := (if_neg c3).symm.trans hf
    refine wa_iload_n (pc := 11) cx 2 dX10_row_11 rfl rfl ?_
    refine wa_if_lt (pc := 12) cx 26 dX10_row_12 rfl (fun c4 => ?_) (fun c4 => ?_)
    · have hf := (if_pos c4).symm.trans hf
      refine wa_forget [false, false, false, false] [none, none, none, none] rfl ?_
      exact j26  _ hf
    · have hf := (if_neg c4).symm.trans hf
      refine wa_iload_n (pc := 15) cx 2 dX10_row_15 rfl rfl ?_
      refine wa_iconst (pc := 16) (v := 2) cx dX10_row_16 (by decide) ?_
      refine wa_icmp_gt (pc := 17) cx 26 dX10_row_17 rfl (fun c5 => ?_) (fun c5 => ?_)
      · have hf := (if_pos c5).symm.trans hf
        refine wa_forget [false, false, false, false] [none, none, none, none] rfl ?_
        exact j26  _ hf
      · have hf := (if_neg c5).symm.trans hf
        refine wa_iload_n (pc := 20) cx 3 dX10_row_20 rfl rfl ?_
        refine wa_bipush (pc := 21) (v := 40) cx dX10_row_21 (by decide) ?_
        refine wa_icmp_le (pc := 23) cx 29 dX10_row_23 rfl (fun c6 => ?_) (fun c6 => ?_)
        · have hf := (if_pos c6).symm.trans hf
          refine wa_iload_n (pc := 29) cx 3 dX10_row_29 rfl rfl ?_
          refine wa_if_ge (pc := 30) cx 39 dX10_row_30 rfl (fun c7 => ?_) (fun c7 => ?_)
          · have hf := (if_pos c7).symm.trans hf
            refine wa_aload_n (pc := 39) cx 0 dX10_row_39 rfl rfl ?_
            refine wa_getR (pc := 40) cx fl_X10_10 lk_0 rfl (cx.bl 0 rfl) dX10_row_40 ?_
            refine wa_iload_n (pc := 43) cx 1 dX10_row_43 rfl rfl ?_
            refine wa_iload_n (pc := 44) cx 2 dX10_row_44 rfl rfl ?_
            refine wa_iload_n (pc := 45) cx 3 dX10_row_45 rfl rfl ?_
            obtain ⟨q8, h9, hf⟩ := bd_some hf
            refine wa_callVv (pc := 46) cx [.int a1, .int a2, .int a3] (ct_X7_make l E _ _ _ _ _ h9) mi_X7_make tw_359 lk_1 rfl (cx.bl 1 rfl) rfl rfl (Nat.le_of_ble_eq_true rfl) ⟨Nat.le_of_ble_eq_true rfl, Nat.le_of_ble_eq_true rfl⟩ ⟨Nat.zero_le _, Nat.zero_le _⟩ dX10_row_46 ?_
            refine wa_aload_n (pc := 49) cx 0 dX10_row_49 rfl rfl ?_
            refine wa_iload_n (pc := 50) cx 3 dX10_row_50 rfl rfl ?_
            obtain ⟨q10, h11, hf⟩ := bd_some hf
            refine wa_callVi (pc := 51) cx [.int a3] (ct_X10_foundNothing l E _ _ _ h11) mi_X10_foundNothing tw_363 lk_0 rfl (cx.bl 0 rfl) rfl rfl (Nat.le_of_ble_eq_true rfl) ⟨Nat.le_of_ble_eq_true rfl, Nat.le_of_ble_eq_true rfl⟩ ⟨Nat.zero_le _, Nat.zero_le _⟩ dX10_row_51 ?_
            obtain rfl := Option.some.inj hf
            exact wa_iret (pc := 54) cx dX10_row_54
          · have hf := (if_neg c7).symm.trans hf
            refine wa_aload_n (pc := 33) cx 0 dX10_row_33 rfl rfl ?_
            refine wa_iconst (pc := 34) (v := 4) cx dX10_row_34 (by decide) ?_
            obtain ⟨q12, h13, hf⟩ := bd_some hf
            refine wa_callVi (pc := 35) cx [.int 4] (ct_X10_found l E _ _ _ h13) mi_X10_found tw_354 lk_0 rfl (cx.bl 0 rfl) rfl rfl (Nat.le_of_ble_eq_true rfl) ⟨Nat.le_of_ble_eq_true rfl, Nat.le_of_ble_eq_true rfl⟩ ⟨Nat.zero_le _, Nat.zero_le _⟩ dX10_row_35 ?_
            obtain rfl := Option.some.inj hf
            exact wa_iret (pc := 38) cx dX10_row_38
        · have hf := (if_neg c6).symm.trans hf
          refine wa_forget [false, false, false, false] [none, none, none, none] rfl ?_
          exact j26  _ hf
def fX10_set (a1 : Int32) (a2 : Int32) (a3 : Int32) (σ : Sg) : Option (Int32 × Sg) :=
  (fX7_isNumber a1 σ).bind (fun q1 =>
  if q1 = 0 then (some ((-1000001), σ)) else ((fX7_isMissing a1 σ).bind (fun q4 =>
  if q4 = 0 then ((fX7_hasPlaces a1 a2 1 σ).bind (fun q7 =>
  if q7 = 0 then ((fX10_found 2 σ).bind (fun q14 =>
  some (q14.1, q14.2))) else ((fX7_put a1 a2 a3 σ).bind (fun q10 =>
  (fX10_foundNothing q10.1 q10.2).bind (fun q12 =>
  some (q12.1, q12.2)))))) else ((fX10_found 1 σ).bind (fun q16 =>
  some (q16.1, q16.2))))))
set_option maxHeartbeats 4000000 in
set_option maxRecDepth 100000 in
theorem ct_X10_set (l : Launch) (E : En) (σ : Sg) (a1 : Int32) (a2 : Int32) (a3 : Int32) (q : Int32 × Sg) (hf : fX10_set a1 a2 a3 σ = some q) : CT l yX10_set cX10_set 4 (some .int) 1 E σ [.ref (eA E 0), .int a1, .int a2, .int a3] (some (.int q.1)) q.2 := by
  refine CT.of RX10 [some (.ref (eA E 0)), some (.int a1), some (.int a2), some (.int a3)] rfl (by decide +kernel) (Nat.le_of_ble_eq_true rfl) rfl ?_
  intro p e s m args below meth c cx
  unfold fX10_set at hf
  refine wa_aload_n (pc := 0) cx 0 dX10_set_0 rfl rfl ?_
  refine wa_getR (pc := 1) cx fl_X10_10 lk_0 rfl (cx.bl 0 rfl) dX10_set_1 ?_
  refine wa_iload_n (pc := 4) cx 1 dX10_set_4 rfl rfl ?_
  obtain ⟨q1, h2, hf⟩ := bd_some hf
  refine wa_callVi (pc := 5) cx [.int a1] (ct_X7_isNumber l E _ _ _ h2) mi_X7_isNumber tw_349 lk_1 rfl (cx.bl 1 rfl) rfl rfl (Nat.le_of_ble_eq_true rfl) ⟨Nat.le_of_ble_eq_true rfl, Nat.le_of_ble_eq_true rfl⟩ ⟨Nat.zero_le _, Nat.zero_le _⟩ dX10_set_5 ?_
  refine wa_if_ne (pc := 8) cx 14 dX10_set_8 rfl (fun c3 => ?_) (fun c3 => ?_)
  · have hf := (if_neg c3).symm.trans hf
    refine wa_aload_n (pc := 14) cx 0 dX10_set_14 rfl rfl ?_
    refine wa_getR (pc := 15) cx fl_X10_10 lk_0 rfl (cx.bl 0 rfl) dX10_set_15 ?_
    refine wa_iload_n (pc := 18) cx 1 dX10_set_18 rfl rfl ?_
    obtain ⟨q4, h5, hf⟩ := bd_some hf
    refine wa_callVi (pc := 19) cx [.int a1] (ct_X7_isMissing l E _ _ _ h5) mi_X7_isMissing tw_371 lk_1 rfl (cx.bl 1 rfl) rfl rfl (Nat.le_of_ble_eq_true rfl) ⟨Nat.le_of_ble_eq_true rfl, Nat.le_of_ble_eq_true rfl⟩ ⟨Nat.zero_le _, Nat.zero_le _⟩ dX10_set_19 ?_
    refine wa_if_eq (pc := 22) cx 31 dX10_set_22 rfl (fun c6 => ?_) (fun c6 => ?_)
    · have hf := (if_pos c6).symm.trans hf
      refine wa_aload_n (pc := 31) cx 0 dX10_set_31 rfl rfl ?_
      refine wa_getR (pc := 32) cx fl_X10_10 lk_0 rfl (cx.bl 0 rfl) dX10_set_32 ?_
      refine wa_iload_n (pc := 35) cx 1 dX10_set_35 rfl rfl ?_
      refine wa_iload_n (pc := 36) cx 2 dX10_set_36 rfl rfl ?_
      refine wa_iconst (pc := 37) (v := 1) cx dX10_set_37 (by decide) ?_
      obtain ⟨q7, h8, hf⟩ := bd_some hf
      refine wa_callVi (pc := 38) cx [.int a1, .int a2, .int 1] (ct_X7_hasPlaces l E _ _ _ _ _ h8) mi_X7_hasPlaces tw_375 lk_1 rfl (cx.bl 1 rfl) rfl rfl (Nat.le_of_ble_eq_true rfl) ⟨Nat.le_of_ble_eq_true rfl, Nat.le_of_ble_eq_true rfl⟩ ⟨Nat.zero_le _, Nat.zero_le _⟩ dX10_set_38 ?_
      refine wa_if_ne (pc := 41) cx 50 dX10_set_41 rfl (fun c9 => ?_) (fun c9 => ?_)
      · have hf := (if_neg c9).symm.trans hf
        refine wa_aload_n (pc := 50) cx 0 dX10_set_50 rfl rfl ?_
        refine wa_aload_n (pc := 51) cx 0 dX10_set_51 rfl rfl ?_
        refine wa_getR (pc := 52) cx fl_X10_10 lk_0 rfl (cx.bl 0 rfl) dX10_set_52 ?_
        refine wa_iload_n (pc := 55) cx 1 dX10_set_55 rfl rfl ?_
        refine wa_iload_n (pc := 56) cx 2 dX10_set_56 rfl rfl ?_
        refine wa_iload_n (pc := 57) cx 3 dX10_set_57 rfl rfl ?_
        obtain ⟨q10, h11, hf⟩ := bd_some hf
        refine wa_callVi (pc := 58) cx [.int a1, .int a2, .int a3] (ct_X7_put l E _ _ _ _ _ h11) mi_X7_put tw_379 lk_1 rfl (cx.bl 1 rfl) rfl rfl (Nat.le_of_ble_eq_true rfl) ⟨Nat.le_of_ble_eq_true rfl, Nat.le_of_ble_eq_true rfl⟩ ⟨Nat.zero_le _, Nat.zero_le _⟩ dX10_set_58 ?_
        obtain ⟨q12, h13, hf⟩ := bd_some hf
        refine wa_callVi (pc := 61) cx [.int q10.1] (ct_X10_foundNothing l E _ _ _ h13) mi_X10_foundNothing tw_363 lk_0 rfl (cx.bl 0 rfl) rfl rfl (Nat.le_of_ble_eq_true rfl) ⟨Nat.le_of_ble_eq_true rfl, Nat.le_of_ble_eq_true rfl⟩ ⟨Nat.zero_le _, Nat.zero_le _⟩ dX10_set_61 ?_
        obtain rfl := Option.some.inj hf
        exact wa_iret (pc := 64) cx dX10_set_64
      · have hf := (if_pos c9).symm.trans hf
        refine wa_aload_n (pc := 44) cx 0 dX10_set_44 rfl rfl ?_
        refine wa_iconst (pc := 45) (v := 2) cx dX10_set_45 (by decide) ?_
        obtain ⟨q14, h15, hf⟩ := bd_some hf
        refine wa_callVi (pc := 46) cx [.int 2] (ct_X10_found l E _ _ _ h15) mi_X10_found tw_354 lk_0 rfl (cx.bl 0 rfl) rfl rfl (Nat.le_of_ble_eq_true rfl) ⟨Nat.le_of_ble_eq_true rfl, Nat.le_of_ble_eq_true rfl⟩ ⟨Nat.zero_le _, Nat.zero_le _⟩ dX10_set_46 ?_
        obtain rfl := Option.some.inj hf
        exact wa_iret (pc := 49) cx dX10_set_49
    · have hf := (if_neg c6).symm.trans hf
      refine wa_aload_n (pc := 25) cx 0 dX10_set_25 rfl rfl ?_
      refine wa_iconst (pc := 26) (v := 1) cx dX10_set_26 (by decide) ?_
      obtain ⟨q16, h17, hf⟩ := bd_some hf
      refine wa_callVi (pc := 27) cx [.int 1] (ct_X10_found l E _ _ _ h17) mi_X10_found tw_354 lk_0 rfl (cx.bl 0 rfl) rfl rfl (Nat.le_of_ble_eq_true rfl) ⟨Nat.le_of_ble_eq_true rfl, Nat.le_of_ble_eq_true rfl⟩ ⟨Nat.zero_le _, Nat.zero_le _⟩ dX10_set_27 ?_
      obtain rfl := Option.some.inj hf
      exact wa_iret (pc := 30) cx dX10_set_30
  · have hf := (if_pos c3).symm.trans hf
    refine wa_ldc (pc := 11) (v := (-1000001)) cx dX10_set_11 tw_353 ?_
    obtain rfl := Option.some.inj hf
    exact wa_iret (pc := 13) cx dX10_set_13
def fX10_copy_J22  (σ : Sg) : Option (Int32 × Sg) :=
  some ((-1000001), σ)
def fX10_copy_J47  (σ : Sg) : Option (Int32 × Sg) :=
  (fX10_found 1 σ).bind (fun q10 =>
  some (q10.1, q10.2))
def fX10_copy_J107  (σ : Sg) : Option (Int32 × Sg) :=
  (fX10_found 2 σ).bind (fun q23 =>
  some (q23.1, q23.2))
def fX10_copy (a1 : Int32) (a2 : Int32) (a3 : Int32) (a4 : Int32) (a5 : Int32) (σ : Sg) : Option (Int32 × Sg) :=
  (fX7_isNumber a1 σ).bind (fun q1 =>
  if q1 = 0 then (fX10_copy_J22  σ) else ((fX7_isNumber a3 σ).bind (fun q4 =>
  if q4 = 0 then (fX10_copy_J22  σ) else ((fX7_isMissing a1 σ).bind (fun q7 =>
  if q7 = 0 then ((fX7_isMissing a3 σ).bind (fun q12 =>
  if q12 = 0 then ((fX7_laneOf a1 σ).bind (fun q15 =>
  (fX7_laneOf a3 σ).bind (fun q17 =>
  if q15 = q17 then ((fX7_hasPlaces a1 a2 a5 σ).bind (fun q20 =>
  if q20 = 0 then (fX10_copy_J107  σ) else ((fX7_hasPlaces a3 a4 a5 σ).bind (fun q25 =>
  if q25 = 0 then (fX10_copy_J107  σ) else ((fX7_move a1 a2 a3 a4 a5 σ).bind (fun q28 =>
  (fX10_foundNothing a5 q28).bind (fun q30 =>
  some (q30.1, q30.2)))))))) else ((fX10_found 5 σ).bind (fun q32 =>
  some (q32.1, q32.2)))))) else (fX10_copy_J47  σ))) else (fX10_copy_J47  σ))))))
set_option maxHeartbeats 4000000 in
set_option maxRecDepth 100000 in
theorem ct_X10_copy (l : Launch) (E : En) (σ : Sg) (a1 : Int32) (a2 : Int32) (a3 : Int32) (a4 : Int32) (a5 : Int32) (q : Int32 × Sg) (hf : fX10_copy a1 a2 a3 a4 a5 σ = some q) : CT l yX10_copy cX10_copy 6 (some .int) 2 E σ [.ref (eA E 0), .int a1, .int a2, .int a3, .int a4, .int a5] (some (.int q.1)) q.2 := by
  refine CT.of RX10 [some (.ref (eA E 0)), some (.int a1), some (.int a2), some (.int a3), some (.int a4), some (.int a5)] rfl (by decide +kernel) (Nat.le_of_ble_eq_true rfl) rfl ?_
  intro p e s m args below meth c cx
  unfold fX10_copy at hf
  have j22 : ∀  (σ : Sg), fX10_copy_J22  σ = some q → WA p l e (rmd 2) s m args below meth c 6 E 0 0 (MQ below (Qcq E s.heap.size (some (.int q.1)) q.2) args s 0 0 (AE E s.heap.size)) 22 [none, none, none, none, none, none] [] σ := by
    intro  σ hf
    unfold fX10_copy_J22 at hf
    refine wa_ldc (pc := 22) (v := (-1000001)) cx dX10_copy_22 tw_353 ?_
    obtain rfl := Option.some.inj hf
    exact wa_iret (pc := 24) cx dX10_copy_24
  have j47 : ∀  (σ : Sg), fX10_copy_J47  σ = some q → WA p l e (rmd 2) s m args below meth c 6 E 0 0 (MQ below (Qcq E s.heap.size (some (.int q.1)) q.2) args s 0 0 (AE E s.heap.size)) 47 [some (.ref (eA E 0)), none, none, none, none, none] [] σ := by
    intro  σ hf
    unfold fX10_copy_J47 at hf
    refine wa_aload_n (pc := 47) cx 0 dX10_copy_47 rfl rfl ?_
    refine wa_iconst (pc := 48) (v := 1) cx dX10_copy_48 (by decide) ?_
    obtain ⟨q10, h11, hf⟩ := bd_some hf
    refine wa_callVi (pc := 49) cx [.int 1] (ct_X10_found l E _ _ _ h11) mi_X10_found tw_354 lk_0 rfl (cx.bl 0 rfl) rfl rfl (Nat.le_of_ble_eq_true rfl) ⟨Nat.le_of_ble_eq_true rfl, Nat.le_of_ble_eq_true rfl⟩ ⟨Nat.zero_le _, Nat.zero_le _⟩ dX10_copy_49 ?_
    obtain rfl := Option.some.inj hf
    exact wa_iret (pc := 52) cx dX10_copy_52
  have j107 : ∀  (σ : Sg), fX10_copy_J107  σ = some q → WA p l e (rmd 2) s m args below meth c 6 E 0 0 (MQ below (Qcq E s.heap.size (some (.int q.1)) q.2) args s 0 0 (AE E s.heap.size)) 107 [some (.ref (eA E 0)), none, none, none, none, none] [] σ := by
    intro  σ hf
    unfold fX10_copy_J107 at hf
    refine wa_aload_n (pc := 107) cx 0 dX10_copy_107 rfl rfl ?_
    refine wa_iconst (pc := 108) (v := 2) cx dX10_copy_108 (by decide) ?_
    obtain ⟨q23, h24, hf⟩ := bd_some hf
    refine wa_callVi (pc := 109) cx [.int 2] (ct_X10_found l E _ _ _ h24) mi_X10_found tw_354 lk_0 rfl (cx.bl 0 rfl) rfl rfl (Nat.le_of_ble_eq_true rfl) ⟨Nat.le_of_ble_eq_true rfl, Nat.le_of_ble_eq_true rfl⟩ ⟨Nat.zero_le _, Nat.zero_le _⟩ dX10_copy_109 ?_
    obtain rfl := Option.some.inj hf
    exact wa_iret (pc := 112) cx dX10_copy_112
  refine wa_aload_n (pc := 0) cx 0 dX10_copy_0 rfl rfl ?_
  refine wa_getR (pc := 1) cx fl_X10_10 lk_0 rfl (cx.bl 0 rfl) dX10_copy_1 ?_
  refine wa_iload_n (pc := 4) cx 1 dX10_copy_4 rfl rfl ?_
  obtain ⟨q1, h2, hf⟩ := bd_some hf
  refine wa_callVi (pc := 5) cx [.int a1] (ct_X7_isNumber l E _ _ _ h2) mi_X7_isNumber tw_349 lk_1 rfl (cx.bl 1 rfl) rfl rfl (Nat.le_of_ble_eq_true rfl) ⟨Nat.le_of_ble_eq_true rfl, Nat.le_of_ble_eq_true rfl⟩ ⟨Nat.zero_le _, Nat.zero_le _⟩ dX10_copy_5 ?_
  refine wa_if_eq (pc := 8) cx 22 dX10_copy_8 rfl (fun c3 => ?_) (fun c3 => ?_)
  · have hf := (if_pos c3).symm.trans hf
    refine wa_forget [false, false, false, false, false, false] [none, none, none, none, none, none] rfl ?_
    exact j22  _ hf
  · have hf := (if_neg c3).symm.trans hf
    refine wa_aload_n (pc := 11) cx 0 dX10_copy_11 rfl rfl ?_
    refine wa_getR (pc := 12) cx fl_X10_10 lk_0 rfl (cx.bl 0 rfl) dX10_copy_12 ?_
    refine wa_iload_n (pc := 15) cx 3 dX10_copy_15 rfl rfl ?_
    obtain ⟨q4, h5, hf⟩ := bd_some hf
    refine wa_callVi (pc := 16) cx [.int a3] (ct_X7_isNumber l E _ _ _ h5) mi_X7_isNumber tw_349 lk_1 rfl (cx.bl 1 rfl) rfl rfl (Nat.le_of_ble_eq_true rfl) ⟨Nat.le_of_ble_eq_true rfl, Nat.le_of_ble_eq_true rfl⟩ ⟨Nat.zero_le _, Nat.zero_le _⟩ dX10_copy_16 ?_
    refine wa_if_ne (pc := 19) cx 25 dX10_copy_19 rfl (fun c6 => ?_) (fun c6 => ?_)
    · have hf := (if_neg c6).symm.trans hf
      refine wa_aload_n (pc := 25) cx 0 dX10_copy_25 rfl rfl ?_
      refine wa_getR (pc := 26) cx fl_X10_10 lk_0 rfl (cx.bl 0 rfl) dX10_copy_26 ?_
      refine wa_iload_n (pc := 29) cx 1 dX10_copy_29 rfl rfl ?_
      obtain ⟨q7, h8, hf⟩ := bd_some hf
      refine wa_callVi (pc := 30) cx [.int a1] (ct_X7_isMissing l E _ _ _ h8) mi_X7_isMissing tw_371 lk_1 rfl (cx.bl 1 rfl) rfl rfl (Nat.le_of_ble_eq_true rfl) ⟨Nat.le_of_ble_eq_true rfl, Nat.le_of_ble_eq_true rfl⟩ ⟨Nat.zero_le _, Nat.zero_le _⟩ dX10_copy_30 ?_
      refine wa_if_ne (pc := 33) cx 47 dX10_copy_33 rfl (fun c9 => ?_) (fun c9 => ?_)
      · have hf := (if_neg c9).symm.trans hf
        refine wa_forget [true, false, false, false, false, false] [some (.ref (eA E 0)), none, none, none, none, none] rfl ?_
        exact j47  _ hf
      · have hf := (if_pos c9).symm.trans hf
        refine wa_aload_n (pc := 36) cx 0 dX10_copy_36 rfl rfl ?_
        refine wa_getR (pc := 37) cx fl_X10_10 lk_0 rfl (cx.bl 0 rfl) dX10_copy_37 ?_
        refine wa_iload_n (pc := 40) cx 3 dX10_copy_40 rfl rfl ?_
        obtain ⟨q12, h13, hf⟩ := bd_some hf
        refine wa_callVi (pc := 41) cx [.int a3] (ct_X7_isMissing l E _ _ _ h13) mi_X7_isMissing tw_371 lk_1 rfl (cx.bl 1 rfl) rfl rfl (Nat.le_of_ble_eq_true rfl) ⟨Nat.le_of_ble_eq_true rfl, Nat.le_of_ble_eq_true rfl⟩ ⟨Nat.zero_le _, Nat.zero_le _⟩ dX10_copy_41 ?_
        refine wa_if_eq (pc := 44) cx 53 dX10_copy_44 rfl (fun c14 => ?_) (fun c14 => ?_)
        · have hf := (if_pos c14).symm.trans hf
          refine wa_aload_n (pc := 53) cx 0 dX10_copy_53 rfl rfl ?_
          refine wa_getR (pc := 54) cx fl_X10_10 lk_0 rfl (cx.bl 0 rfl) dX10_copy_54 ?_
          refine wa_iload_n (pc := 57) cx 1 dX10_copy_57 rfl rfl ?_
          obtain ⟨q15, h16, hf⟩ := bd_some hf
          refine wa_callVi (pc := 58) cx [.int a1] (ct_X7_laneOf l E _ _ _ h16) mi_X7_laneOf tw_387 lk_1 rfl (cx.bl 1 rfl) rfl rfl (Nat.le_of_ble_eq_true rfl) ⟨Nat.le_of_ble_eq_true rfl, Nat.le_of_ble_eq_true rfl⟩ ⟨Nat.zero_le _, Nat.zero_le _⟩ dX10_copy_58 ?_
          refine wa_aload_n (pc := 61) cx 0 dX10_copy_61 rfl rfl ?_
          refine wa_getR (pc := 62) cx fl_X10_10 lk_0 rfl (cx.bl 0 rfl) dX10_copy_62 ?_
          refine wa_iload_n (pc := 65) cx 3 dX10_copy_65 rfl rfl ?_
          obtain ⟨q17, h18, hf⟩ := bd_some hf
          refine wa_callVi (pc := 66) cx [.int a3] (ct_X7_laneOf l E _ _ _ h18) mi_X7_laneOf tw_387 lk_1 rfl (cx.bl 1 rfl) rfl rfl (Nat.le_of_ble_eq_true rfl) ⟨Nat.le_of_ble_eq_true rfl, Nat.le_of_ble_eq_true rfl⟩ ⟨Nat.zero_le _, Nat.zero_le _⟩ dX10_copy_66 ?_
          refine wa_icmp_eq (pc := 69) cx 78 dX10_copy_69 rfl (fun c19 => ?_) (fun c19 => ?_)
          · have hf := (if_pos c19).symm.trans hf
            refine wa_aload_n (pc := 78) cx 0 dX10_copy_78 rfl rfl ?_
            refine wa_getR (pc := 79) cx fl_X10_10 lk_0 rfl (cx.bl 0 rfl) dX10_copy_79 ?_
            refine wa_iload_n (pc := 82) cx 1 dX10_copy_82 rfl rfl ?_
            refine wa_iload_n (pc := 83) cx 2 dX10_copy_83 rfl rfl ?_
            refine wa_iload (pc := 84) cx 5 dX10_copy_84 rfl ?_
            obtain ⟨q20, h21, hf⟩ := bd_some hf
            refine wa_callVi (pc := 86) cx [.int a1, .int a2, .int a5] (ct_X7_hasPlaces l E _ _ _ _ _ h21) mi_X7_hasPlaces tw_375 lk_1 rfl (cx.bl 1 rfl) rfl rfl (Nat.le_of_ble_eq_true rfl) ⟨Nat.le_of_ble_eq_true rfl, Nat.le_of_ble_eq_true rfl⟩ ⟨Nat.zero_le _, Nat.zero_le _⟩ dX10_copy_86 ?_
            refine wa_if_eq (pc := 89) cx 107 dX10_copy_89 rfl (fun c22 => ?_) (fun c22 => ?_)
            · have hf := (if_pos c22).symm.trans hf
              refine wa_forget [true, false, false, false, false, false] [some (.ref (eA E 0)), none, none, none, none, none] rfl ?_
              exact j107  _ hf
            · have hf := (if_neg c22).symm.trans hf
              refine wa_aload_n (pc := 92) cx 0 dX10_copy_92 rfl rfl ?_
              refine wa_getR (pc := 93) cx fl_X10_10 lk_0 rfl (cx.bl 0 rfl) dX10_copy_93 ?_
              refine wa_iload_n (pc := 96) cx 3 dX10_copy_96 rfl rfl ?_
              refine wa_iload (pc := 97) cx 4 dX10_copy_97 rfl ?_
              refine wa_iload (pc := 99) cx 5 dX10_copy_99 rfl ?_
              obtain ⟨q25, h26, hf⟩ := bd_some hf
              refine wa_callVi (pc := 101) cx [.int a3, .int a4, .int a5] (ct_X7_hasPlaces l E _ _ _ _ _ h26) mi_X7_hasPlaces tw_375 lk_1 rfl (cx.bl 1 rfl) rfl rfl (Nat.le_of_ble_eq_true rfl) ⟨Nat.le_of_ble_eq_true rfl, Nat.le_of_ble_eq_true rfl⟩ ⟨Nat.zero_le _, Nat.zero_le _⟩ dX10_copy_101 ?_
              refine wa_if_ne (pc := 104) cx 113 dX10_copy_104 rfl (fun c27 => ?_) (fun c27 => ?_)
              · have hf := (if_neg c27).symm.trans hf
                refine wa_aload_n (pc := 113) cx 0 dX10_copy_113 rfl rfl ?_
                refine wa_getR (pc := 114) cx fl_X10_10 lk_0 rfl (cx.bl 0 rfl) dX10_copy_114 ?_
                refine wa_iload_n (pc := 117) cx 1 dX10_copy_117 rfl rfl ?_
                refine wa_iload_n (pc := 118) cx 2 dX10_copy_118 rfl rfl ?_
                refine wa_iload_n (pc := 119) cx 3 dX10_copy_119 rfl rfl ?_
                refine wa_iload (pc := 120) cx 4 dX10_copy_120 rfl ?_
                refine wa_iload (pc := 122) cx 5 dX10_copy_122 rfl ?_
                obtain ⟨q28, h29, hf⟩ := bd_some hf
                refine wa_callVv (pc := 124) cx [.int a1, .int a2, .int a3, .int a4, .int a5] (ct_X7_move l E _ _ _ _ _ _ _ h29) mi_X7_move tw_391 lk_1 rfl (cx.bl 1 rfl) rfl rfl (Nat.le_of_ble_eq_true rfl) ⟨Nat.le_of_ble_eq_true rfl, Nat.le_of_ble_eq_true rfl⟩ ⟨Nat.zero_le _, Nat.zero_le _⟩ dX10_copy_124 ?_
                refine wa_aload_n (pc := 127) cx 0 dX10_copy_127 rfl rfl ?_
                refine wa_iload (pc := 128) cx 5 dX10_copy_128 rfl ?_
                obtain ⟨q30, h31, hf⟩ := bd_some hf
                refine wa_callVi (pc := 130) cx [.int a5] (ct_X10_foundNothing l E _ _ _ h31) mi_X10_foundNothing tw_363 lk_0 rfl (cx.bl 0 rfl) rfl rfl (Nat.le_of_ble_eq_true rfl) ⟨Nat.le_of_ble_eq_true rfl, Nat.le_of_ble_eq_true rfl⟩ ⟨Nat.zero_le _, Nat.zero_le _⟩ dX10_copy_130 ?_
                obtain rfl := Option.some.inj hf
                exact wa_iret (pc := 133) cx dX10_copy_133
              · have hf := (if_pos c27).symm.trans hf
                refine wa_forget [true, false, false, false, false, false] [some (.ref (eA E 0)), none, none, none, none, none] rfl ?_
                exact j107  _ hf
          · have hf := (if_neg c19).symm.trans hf
            refine wa_aload_n (pc := 72) cx 0 dX10_copy_72 rfl rfl ?_
            refine wa_iconst (pc := 73) (v := 5) cx dX10_copy_73 (by decide) ?_
            obtain ⟨q32, h33, hf⟩ := bd_some hf
            refine wa_callVi (pc := 74) cx [.int 5] (ct_X10_found l E _ _ _ h33) mi_X10_found tw_354 lk_0 rfl (cx.bl 0 rfl) rfl rfl (Nat.le_of_ble_eq_true rfl) ⟨Nat.le_of_ble_eq_true rfl, Nat.le_of_ble_eq_true rfl⟩ ⟨Nat.zero_le _, Nat.zero_le _⟩ dX10_copy_74 ?_
            obtain rfl := Option.some.inj hf
            exact wa_iret (pc := 77) cx dX10_copy_77
        · have hf := (if_neg c14).symm.trans hf
          refine wa_forget [true, false, false, false, false, false] [some (.ref (eA E 0)), none, none, none, none, none] rfl ?_
          exact j47  _ hf
    · have hf := (if_pos c6).symm.trans hf
      refine wa_forget [false, false, false, false, false, false] [none, none, none, none, none, none] rfl ?_
      exact j22  _ hf
def fX10_drop (a1 : Int32) (σ : Sg) : Option (Int32 × Sg) :=
  (fX7_isNumber a1 σ).bind (fun q1 =>
  if q1 = 0 then (some ((-1000001), σ)) else ((fX7_isMissing a1 σ).bind (fun q4 =>
  if q4 = 0 then ((fX7_sizeOf a1 σ).bind (fun q7 =>
  (fX7_remove a1 σ).bind (fun q9 =>
  (fX10_foundNothing q7 q9).bind (fun q11 =>
  some (q11.1, q11.2))))) else ((fX10_found 1 σ).bind (fun q13 =>
  some (q13.1, q13.2))))))
set_option maxHeartbeats 4000000 in
set_option maxRecDepth 100000 in
theorem ct_X10_drop (l : Launch) (E : En) (σ : Sg) (a1 : Int32) (q : Int32 × Sg) (hf : fX10_drop a1 σ = some q) : CT l yX10_drop cX10_drop 3 (some .int) 1 E σ [.ref (eA E 0), .int a1] (some (.int q.1)) q.2 := by
  refine CT.of RX10 [some (.ref (eA E 0)), some (.int a1), none] rfl (by decide +kernel) (Nat.le_of_ble_eq_true rfl) rfl ?_
  intro p e s m args below meth c cx
  unfold fX10_drop at hf
  refine wa_aload_n (pc := 0) cx 0 dX10_drop_0 rfl rfl ?_
  refine wa_getR (pc := 1) cx fl_X10_10 lk_0 rfl (cx.bl 0 rfl) dX10_drop_1 ?_
  refine wa_iload_n (pc := 4) cx 1 dX10_drop_4 rfl rfl ?_
  obtain ⟨q1, h2, hf⟩ := bd_some hf
  refine wa_callVi (pc := 5) cx [.int a1] (ct_X7_isNumber l E _ _ _ h2) mi_X7_isNumber tw_349 lk_1 rfl (cx.bl 1 rfl) rfl rfl (Nat.le_of_ble_eq_true rfl) ⟨Nat.le_of_ble_eq_true rfl, Nat.le_of_ble_eq_true rfl⟩ ⟨Nat.zero_le _, Nat.zero_le _⟩ dX10_drop_5 ?_
  refine wa_if_ne (pc := 8) cx 14 dX10_drop_8 rfl (fun c3 => ?_) (fun c3 => ?_)
  · have hf := (if_neg c3).symm.trans hf
    refine wa_aload_n (pc := 14) cx 0 dX10_drop_14 rfl rfl ?_
    refine wa_getR (pc := 15) cx fl_X10_10 lk_0 rfl (cx.bl 0 rfl) dX10_drop_15 ?_
    refine wa_iload_n (pc := 18) cx 1 dX10_drop_18 rfl rfl ?_
    obtain ⟨q4, h5, hf⟩ := bd_some hf
    refine wa_callVi (pc := 19) cx [.int a1] (ct_X7_isMissing l E _ _ _ h5) mi_X7_isMissing tw_371 lk_1 rfl (cx.bl 1 rfl) rfl rfl (Nat.le_of_ble_eq_true rfl) ⟨Nat.le_of_ble_eq_true rfl, Nat.le_of_ble_eq_true rfl⟩ ⟨Nat.zero_le _, Nat.zero_le _⟩ dX10_drop_19 ?_
    refine wa_if_eq (pc := 22) cx 31 dX10_drop_22 rfl (fun c6 => ?_) (fun c6 => ?_)
    · have hf := (if_pos c6).symm.trans hf
      refine wa_aload_n (pc := 31) cx 0 dX10_drop_31 rfl rfl ?_
      refine wa_getR (pc := 32) cx fl_X10_10 lk_0 rfl (cx.bl 0 rfl) dX10_drop_32 ?_
      refine wa_iload_n (pc := 35) cx 1 dX10_drop_35 rfl rfl ?_
      obtain ⟨q7, h8, hf⟩ := bd_some hf
      refine wa_callVi (pc := 36) cx [.int a1] (ct_X7_sizeOf l E _ _ _ h8) mi_X7_sizeOf tw_402 lk_1 rfl (cx.bl 1 rfl) rfl rfl (Nat.le_of_ble_eq_true rfl) ⟨Nat.le_of_ble_eq_true rfl, Nat.le_of_ble_eq_true rfl⟩ ⟨Nat.zero_le _, Nat.zero_le _⟩ dX10_drop_36 ?_
      refine wa_istore_n (pc := 39) cx 2 [some (.ref (eA E 0)), some (.int a1), some (.int q7)] dX10_drop_39 rfl (by decide) rfl rfl ?_
      refine wa_aload_n (pc := 40) cx 0 dX10_drop_40 rfl rfl ?_
      refine wa_getR (pc := 41) cx fl_X10_10 lk_0 rfl (cx.bl 0 rfl) dX10_drop_41 ?_
      refine wa_iload_n (pc := 44) cx 1 dX10_drop_44 rfl rfl ?_
      obtain ⟨q9, h10, hf⟩ := bd_some hf
      refine wa_callVv (pc := 45) cx [.int a1] (ct_X7_remove l E _ _ _ h10) mi_X7_remove tw_406 lk_1 rfl (cx.bl 1 rfl) rfl rfl (Nat.le_of_ble_eq_true rfl) ⟨Nat.le_of_ble_eq_true rfl, Nat.le_of_ble_eq_true rfl⟩ ⟨Nat.zero_le _, Nat.zero_le _⟩ dX10_drop_45 ?_
      refine wa_aload_n (pc := 48) cx 0 dX10_drop_48 rfl rfl ?_
      refine wa_iload_n (pc := 49) cx 2 dX10_drop_49 rfl rfl ?_
      obtain ⟨q11, h12, hf⟩ := bd_some hf
      refine wa_callVi (pc := 50) cx [.int q7] (ct_X10_foundNothing l E _ _ _ h12) mi_X10_foundNothing tw_363 lk_0 rfl (cx.bl 0 rfl) rfl rfl (Nat.le_of_ble_eq_true rfl) ⟨Nat.le_of_ble_eq_true rfl, Nat.le_of_ble_eq_true rfl⟩ ⟨Nat.zero_le _, Nat.zero_le _⟩ dX10_drop_50 ?_
      obtain rfl := Option.some.inj hf
      exact wa_iret (pc := 53) cx dX10_drop_53
    · have hf := (if_neg c6).symm.trans hf
      refine wa_aload_n (pc := 25) cx 0 dX10_drop_25 rfl rfl ?_
      refine wa_iconst (pc := 26) (v := 1) cx dX10_drop_26 (by decide) ?_
      obtain ⟨q13, h14, hf⟩ := bd_some hf
      refine wa_callVi (pc := 27) cx [.int 1] (ct_X10_found l E _ _ _ h14) mi_X10_found tw_354 lk_0 rfl (cx.bl 0 rfl) rfl rfl (Nat.le_of_ble_eq_true rfl) ⟨Nat.le_of_ble_eq_true rfl, Nat.le_of_ble_eq_true rfl⟩ ⟨Nat.zero_le _, Nat.zero_le _⟩ dX10_drop_27 ?_
      obtain rfl := Option.some.inj hf
      exact wa_iret (pc := 30) cx dX10_drop_30
  · have hf := (if_pos c3).symm.trans hf
    refine wa_ldc (pc := 11) (v := (-1000001)) cx dX10_drop_11 tw_353 ?_
    obtain rfl := Option.some.inj hf
    exact wa_iret (pc := 13) cx dX10_drop_13
def fX10_feed_J11  (σ : Sg) : Option (Int32 × Sg) :=
  some ((-1000001), σ)
def fX10_feed_B36 (v1 : Int64) (v4 : Int32) (σ : Sg) : Option ((Int32 × Sg) ⊕ (Sg)) :=
  if v4 < 0 then (some (.inr σ)) else ((fX8_add (i2b ((jlshr v1 (8 * v4)).toInt32)) σ).bind (fun q7 =>
  some (.inl ((v4 + (-1)), q7))))
def fX10_feed (a1 : Int64) (a2 : Int32) (σ : Sg) : Option (Int32 × Sg) :=
  if a2 < 1 then (fX10_feed_J11  σ) else (if a2 ≤ 8 then ((fX8_hasRoom a2 σ).bind (fun q3 =>
  if q3 = 0 then (some ((-1000003), σ)) else ((lpO (fun w => fX10_feed_B36 a1 w.1 w.2) FUEL ((a2 - 1), σ)).bind (fun o9 =>
  some (gf o9 6 1, o9))))) else (fX10_feed_J11  σ))
set_option maxHeartbeats 4000000 in
set_option maxRecDepth 100000 in
theorem ct_X10_feed (l : Launch) (E : En) (σ : Sg) (a1 : Int64) (a2 : Int32) (q : Int32 × Sg) (hf : fX10_feed a1 a2 σ = some q) : CT l yX10_feed cX10_feed 5 (some .int) 1 E σ [.ref (eA E 0), .long a1, .int a2] (some (.int q.1)) q.2 := by
  refine CT.of RX10 [some (.ref (eA E 0)), some (.long a1), none, some (.int a2), none] rfl (by decide +kernel) (Nat.le_of_ble_eq_true rfl) rfl ?_
  intro p e s m args below meth c cx
  unfold fX10_feed at hf
  have j11 : ∀  (σ : Sg), fX10_feed_J11  σ = some q → WA p l e (rmd 1) s m args below meth c 5 E 0 0 (MQ below (Qcq E s.heap.size (some (.int q.1)) q.2) args s 0 0 (AE E s.heap.size)) 11 [none, none, none, none, none] [] σ := by
    intro  σ hf
    unfold fX10_feed_J11 at hf
    refine wa_ldc (pc := 11) (v := (-1000001)) cx dX10_feed_11 tw_353 ?_
    obtain rfl := Option.some.inj hf
    exact wa_iret (pc := 13) cx dX10_feed_13
  have l36 : ∀ (v1 : Int64) (y : Int32 × Sg) (o : Sg), lpO (fun w => fX10_feed_B36 v1 w.1 w.2) FUEL y = some o → (WA p l e (rmd 1) s m args below meth c 5 E 0 0 (MQ below (Qcq E s.heap.size (some (.int q.1)) q.2) args s 0 0 (AE E s.heap.size)) 66 [some (.ref (eA E 0)), none, none, none, none] [] o) → WA p l e (rmd 1) s m args below meth c 5 E 0 0 (MQ below (Qcq E s.heap.size (some (.int q.1)) q.2) args s 0 0 (AE E s.heap.size)) 36 [some (.ref (eA E 0)), some (.long v1), none, none, some (.int y.1)] [] y.2 := by
    intro v1 y o hf hk
    refine lp_rule (P := fun y => WA p l e (rmd 1) s m args below meth c 5 E 0 0 (MQ below (Qcq E s.heap.size (some (.int q.1)) q.2) args s 0 0 (AE E s.heap.size)) 36 [some (.ref (eA E 0)), some (.long v1), none, none, some (.int y.1)] [] y.2) (K := fun o => WA p l e (rmd 1) s m args below meth c 5 E 0 0 (MQ below (Qcq E s.heap.size (some (.int q.1)) q.2) args s 0 0 (AE E s.heap.size)) 66 [some (.ref (eA E 0)), none, none, none, none] [] o) ?_ FUEL y o hf hk
    intro y0 r1 hf hk1
    obtain ⟨v4, σ⟩ := y0
    have hf : fX10_feed_B36 v1 v4 σ = some r1 := hf
    unfold fX10_feed_B36 at hf
    refine wa_iload (pc := 36) cx 4 dX10_feed_36 rfl ?_
    refine wa_if_lt (pc := 38) cx 66 dX10_feed_38 rfl (fun c6 => ?_) (fun c6 => ?_)
    · have hf := (if_pos c6).symm.trans hf
      obtain rfl := Option.some.inj hf
      refine wa_forget [true, false, false, false, false] [some (.ref (eA E 0)), none, none, none, none] rfl ?_
      exact hk1
    · have hf := (if_neg c6).symm.trans hf
      refine wa_aload_n (pc := 41) cx 0 dX10_feed_41 rfl rfl ?_
      refine wa_getR (pc := 42) cx fl_X10_19 lk_0 rfl (cx.bl 0 rfl) dX10_feed_42 ?_
      refine wa_getR (pc := 45) cx fl_X10_120 lk_5 rfl (cx.bl 5 rfl) dX10_feed_45 ?_
      refine wa_lload_n (pc := 48) cx 1 dX10_feed_48 rfl rfl ?_
      refine wa_bipush (pc := 49) (v := 8) cx dX10_feed_49 (by decide) ?_
      refine wa_iload (pc := 51) cx 4 dX10_feed_51 rfl ?_
      refine wa_imul (pc := 53) cx dX10_feed_53 ?_
      refine wa_lshr (pc := 54) cx dX10_feed_54 ?_
      refine wa_l2i (pc := 55) cx dX10_feed_55 ?_
      refine wa_i2b (pc := 56) cx dX10_feed_56 ?_
      obtain ⟨q7, h8, hf⟩ := bd_some hf
      refine wa_callVv (pc := 57) cx [.int (i2b ((jlshr v1 (8 * v4)).toInt32))] (ct_X8_add l E _ _ _ h8) mi_X8_add tw_419 lk_6 rfl (cx.bl 6 rfl) rfl rfl (Nat.le_of_ble_eq_true rfl) ⟨Nat.le_of_ble_eq_true rfl, Nat.le_of_ble_eq_true rfl⟩ ⟨Nat.zero_le _, Nat.zero_le _⟩ dX10_feed_57 ?_
      refine wa_iinc (pc := 60) (v := (-1)) cx 4 [some (.ref (eA E 0)), some (.long v1), none, none, some (.int (v4 + (-1)))] dX10_feed_60 (by decide) rfl (by decide) rfl rfl ?_
      refine wa_goto (pc := 63) cx 36 dX10_feed_63 rfl ?_
      obtain rfl := Option.some.inj hf
      refine wa_forget [true, true, false, false, true] [some (.ref (eA E 0)), some (.long v1), none, none, some (.int (v4 + (-1)))] rfl ?_
      exact hk1
  refine wa_iload_n (pc := 0) cx 3 dX10_feed_0 rfl rfl ?_
  refine wa_iconst (pc := 1) (v := 1) cx dX10_feed_1 (by decide) ?_
  refine wa_icmp_lt (pc := 2) cx 11 dX10_feed_2 rfl (fun c1 => ?_) (fun c1 => ?_)
  · have hf := (if_pos c1).symm.trans hf
    refine wa_forget [false, false, false, false, false] [none, none, none, none, none] rfl ?_
    exact j11  _ hf
  · have hf := (if_neg c1).symm.trans hf
    refine wa_iload_n (pc := 5) cx 3 dX10_feed_5 rfl rfl ?_
    refine wa_bipush (pc := 6) (v := 8) cx dX10_feed_6 (by decide) ?_
    refine wa_icmp_le (pc := 8) cx 14 dX10_feed_8 rfl (fun c2 => ?_) (fun c2 => ?_)
    · have hf := (if_pos c2).symm.trans hf
      refine wa_aload_n (pc := 14) cx 0 dX10_feed_14 rfl rfl ?_
      refine wa_getR (pc := 15) cx fl_X10_19 lk_0 rfl (cx.bl 0 rfl) dX10_feed_15 ?_
      refine wa_getR (pc := 18) cx fl_X10_120 lk_5 rfl (cx.bl 5 rfl) dX10_feed_18 ?_
      refine wa_iload_n (pc := 21) cx 3 dX10_feed_21 rfl rfl ?_
      obtain ⟨q3, h4, hf⟩ := bd_some hf
      refine wa_callVi (pc := 22) cx [.int a2] (ct_X8_hasRoom l E _ _ _ h4) mi_X8_hasRoom tw_414 lk_6 rfl (cx.bl 6 rfl) rfl rfl (Nat.le_of_ble_eq_true rfl) ⟨Nat.le_of_ble_eq_true rfl, Nat.le_of_ble_eq_true rfl⟩ ⟨Nat.zero_le _, Nat.zero_le _⟩ dX10_feed_22 ?_
      refine wa_if_ne (pc := 25) cx 31 dX10_feed_25 rfl (fun c5 => ?_) (fun c5 => ?_)
      · have hf := (if_neg c5).symm.trans hf
        refine wa_iload_n (pc := 31) cx 3 dX10_feed_31 rfl rfl ?_
        refine wa_iconst (pc := 32) (v := 1) cx dX10_feed_32 (by decide) ?_
        refine wa_isub (pc := 33) cx dX10_feed_33 ?_
        refine wa_istore (pc := 34) cx 4 [some (.ref (eA E 0)), some (.long a1), none, some (.int a2), some (.int (a2 - 1))] dX10_feed_34 (by decide) rfl rfl ?_
        refine wa_forget [true, true, false, false, true] [some (.ref (eA E 0)), some (.long a1), none, none, some (.int (a2 - 1))] rfl ?_
        obtain ⟨o9, h10, hf⟩ := bd_some hf
        refine l36 _ _ _ h10 ?_
        refine wa_aload_n (pc := 66) cx 0 dX10_feed_66 rfl rfl ?_
        refine wa_getR (pc := 67) cx fl_X10_19 lk_0 rfl (cx.bl 0 rfl) dX10_feed_67 ?_
        refine wa_getR (pc := 70) cx fl_X10_120 lk_5 rfl (cx.bl 5 rfl) dX10_feed_70 ?_
        refine wa_getI (pc := 73) cx fl_X10_134 lk_6 rfl (cx.bl 6 rfl) dX10_feed_73 ?_
        obtain rfl := Option.some.inj hf
        exact wa_iret (pc := 76) cx dX10_feed_76
      · have hf := (if_pos c5).symm.trans hf
        refine wa_ldc (pc := 28) (v := (-1000003)) cx dX10_feed_28 tw_418 ?_
        obtain rfl := Option.some.inj hf
        exact wa_iret (pc := 30) cx dX10_feed_30
    · have hf := (if_neg c2).symm.trans hf
      refine wa_forget [false, false, false, false, false] [none, none, none, none, none] rfl ?_
      exact j11  _ hf
def fX10_walk  (σ : Sg) : Option (Int32 × Sg) :=
  (fX6_readInto  σ).bind (fun q1 =>
  if gf (sup q1 6 1 0) 5 1 = 0 then ((fX9_becomeAs_8_15  (sup q1 6 1 0)).bind (fun q4 =>
  (fX0_forgetAll  q4).bind (fun q6 =>
  some (gf q6 8 4, q6)))) else (some (((-1000100) - gf (sup (sup q1 6 1 0) 0 10 (gf (sup q1 6 1 0) 5 1)) 6 3), sup (sup q1 6 1 0) 0 10 (gf (sup q1 6 1 0) 5 1))))
set_option maxHeartbeats 4000000 in
set_option maxRecDepth 100000 in
theorem ct_X10_walk (l : Launch) (E : En) (σ : Sg)  (q : Int32 × Sg) (hf : fX10_walk  σ = some q) : CT l yX10_walk cX10_walk 1 (some .int) 8 E σ [.ref (eA E 0)] (some (.int q.1)) q.2 := by
  refine CT.of RX10 [some (.ref (eA E 0))] rfl (by decide +kernel) (Nat.le_of_ble_eq_true rfl) rfl ?_
  intro p e s m args below meth c cx
  unfold fX10_walk at hf
  refine wa_aload_n (pc := 0) cx 0 dX10_walk_0 rfl rfl ?_
  refine wa_getR (pc := 1) cx fl_X10_19 lk_0 rfl (cx.bl 0 rfl) dX10_walk_1 ?_
  refine wa_aload_n (pc := 4) cx 0 dX10_walk_4 rfl rfl ?_
  refine wa_getR (pc := 5) cx fl_X10_30 lk_0 rfl (cx.bl 0 rfl) dX10_walk_5 ?_
  obtain ⟨q1, h2, hf⟩ := bd_some hf
  refine wa_callVv (pc := 8) cx [.ref (eA E 15)] (ct_X6_readInto l E _  _ h2) mi_X6_readInto tw_427 lk_5 rfl (cx.bl 5 rfl) rfl rfl (Nat.le_of_ble_eq_true rfl) ⟨Nat.le_of_ble_eq_true rfl, Nat.le_of_ble_eq_true rfl⟩ ⟨Nat.zero_le _, Nat.zero_le _⟩ dX10_walk_8 ?_
  refine wa_aload_n (pc := 11) cx 0 dX10_walk_11 rfl rfl ?_
  refine wa_getR (pc := 12) cx fl_X10_19 lk_0 rfl (cx.bl 0 rfl) dX10_walk_12 ?_
  refine wa_getR (pc := 15) cx fl_X10_120 lk_5 rfl (cx.bl 5 rfl) dX10_walk_15 ?_
  refine wa_iconst (pc := 18) (v := 0) cx dX10_walk_18 (by decide) ?_
  refine wa_putI (pc := 19) cx fp_X10_134 lk_6 rfl (cx.bl 6 rfl) dX10_walk_19 ?_
  refine wa_aload_n (pc := 22) cx 0 dX10_walk_22 rfl rfl ?_
  refine wa_getR (pc := 23) cx fl_X10_19 lk_0 rfl (cx.bl 0 rfl) dX10_walk_23 ?_
  refine wa_getI (pc := 26) cx fl_X10_141 lk_5 rfl (cx.bl 5 rfl) dX10_walk_26 ?_
  refine wa_if_eq (pc := 29) cx 57 dX10_walk_29 rfl (fun c3 => ?_) (fun c3 => ?_)
  · have hf := (if_pos c3).symm.trans hf
    refine wa_aload_n (pc := 57) cx 0 dX10_walk_57 rfl rfl ?_
    refine wa_getR (pc := 58) cx fl_X10_26 lk_0 rfl (cx.bl 0 rfl) dX10_walk_58 ?_
    refine wa_aload_n (pc := 61) cx 0 dX10_walk_61 rfl rfl ?_
    refine wa_getR (pc := 62) cx fl_X10_30 lk_0 rfl (cx.bl 0 rfl) dX10_walk_62 ?_
    obtain ⟨q4, h5, hf⟩ := bd_some hf
    refine wa_callVv (pc := 65) cx [.ref (eA E 15)] (ct_X9_becomeAs_8_15 l E _  _ h5) mi_X9_becomeAs tw_546 lk_8 rfl (cx.bl 8 rfl) rfl rfl (Nat.le_of_ble_eq_true rfl) ⟨Nat.le_of_ble_eq_true rfl, Nat.le_of_ble_eq_true rfl⟩ ⟨Nat.zero_le _, Nat.zero_le _⟩ dX10_walk_65 ?_
    refine wa_aload_n (pc := 68) cx 0 dX10_walk_68 rfl rfl ?_
    refine wa_getR (pc := 69) cx fl_X10_40 lk_0 rfl (cx.bl 0 rfl) dX10_walk_69 ?_
    obtain ⟨q6, h7, hf⟩ := bd_some hf
    refine wa_callVv (pc := 72) cx [] (ct_X0_forgetAll l E _  _ h7) mi_X0_forgetAll tw_551 lk_23 rfl (cx.bl 23 rfl) rfl rfl (Nat.le_of_ble_eq_true rfl) ⟨Nat.le_of_ble_eq_true rfl, Nat.le_of_ble_eq_true rfl⟩ ⟨Nat.zero_le _, Nat.zero_le _⟩ dX10_walk_72 ?_
    refine wa_aload_n (pc := 75) cx 0 dX10_walk_75 rfl rfl ?_
    refine wa_getR (pc := 76) cx fl_X10_26 lk_0 rfl (cx.bl 0 rfl) dX10_walk_76 ?_
    refine wa_getI (pc := 79) cx fl_X10_153 lk_8 rfl (cx.bl 8 rfl) dX10_walk_79 ?_
    obtain rfl := Option.some.inj hf
    exact wa_iret (pc := 82) cx dX10_walk_82
  · have hf := (if_neg c3).symm.trans hf
    refine wa_aload_n (pc := 32) cx 0 dX10_walk_32 rfl rfl ?_
    refine wa_aload_n (pc := 33) cx 0 dX10_walk_33 rfl rfl ?_
    refine wa_getR (pc := 34) cx fl_X10_19 lk_0 rfl (cx.bl 0 rfl) dX10_walk_34 ?_
    refine wa_getI (pc := 37) cx fl_X10_141 lk_5 rfl (cx.bl 5 rfl) dX10_walk_37 ?_
    refine wa_putI (pc := 40) cx fp_X10_72 lk_0 rfl (cx.bl 0 rfl) dX10_walk_40 ?_
    refine wa_ldc (pc := 43) (v := (-1000100)) cx dX10_walk_43 tw_545 ?_
    refine wa_aload_n (pc := 45) cx 0 dX10_walk_45 rfl rfl ?_
    refine wa_getR (pc := 46) cx fl_X10_19 lk_0 rfl (cx.bl 0 rfl) dX10_walk_46 ?_
    refine wa_getR (pc := 49) cx fl_X10_120 lk_5 rfl (cx.bl 5 rfl) dX10_walk_49 ?_
    refine wa_getI (pc := 52) cx fl_X10_144 lk_6 rfl (cx.bl 6 rfl) dX10_walk_52 ?_
    refine wa_isub (pc := 55) cx dX10_walk_55 ?_
    obtain rfl := Option.some.inj hf
    exact wa_iret (pc := 56) cx dX10_walk_56
def fX10_fault  (σ : Sg) : Option (Int32) :=
  some (gf σ 0 10)
set_option maxHeartbeats 4000000 in
set_option maxRecDepth 100000 in
theorem ct_X10_fault (l : Launch) (E : En) (σ : Sg)  (q : Int32) (hf : fX10_fault  σ = some q) : CT l yX10_fault cX10_fault 1 (some .int) 0 E σ [.ref (eA E 0)] (some (.int q)) σ := by
  refine CT.of RX10 [some (.ref (eA E 0))] rfl (by decide +kernel) (Nat.le_of_ble_eq_true rfl) rfl ?_
  intro p e s m args below meth c cx
  unfold fX10_fault at hf
  refine wa_aload_n (pc := 0) cx 0 dX10_fault_0 rfl rfl ?_
  refine wa_getI (pc := 1) cx fl_X10_72 lk_0 rfl (cx.bl 0 rfl) dX10_fault_1 ?_
  obtain rfl := Option.some.inj hf
  exact wa_iret (pc := 4) cx dX10_fault_4
def fX10_lay_J21  (σ : Sg) : Option (Int32 × Sg) :=
  some ((-1000001), σ)
def fX10_lay (a1 : Int32) (a2 : Int32) (σ : Sg) : Option (Int32 × Sg) :=
  (fX9_hasYarn a1 σ).bind (fun q1 =>
  if q1 = 0 then (fX10_lay_J21  σ) else (if a2 < (-1) then (fX10_lay_J21  σ) else (if a2 < 3 then ((fX0_keep  σ).bind (fun q6 =>
  gd (inb (0 + a1) 36) (
  gd (inb (0 + a1) 36) (
  some (ga q6 14 (0 + a1), sa q6 14 (0 + a1) a2))))) else (fX10_lay_J21  σ))))
set_option maxHeartbeats 4000000 in
set_option maxRecDepth 100000 in
theorem ct_X10_lay (l : Launch) (E : En) (σ : Sg) (a1 : Int32) (a2 : Int32) (q : Int32 × Sg) (hf : fX10_lay a1 a2 σ = some q) : CT l yX10_lay cX10_lay 4 (some .int) 2 E σ [.ref (eA E 0), .int a1, .int a2] (some (.int q.1)) q.2 := by
  refine CT.of RX10 [some (.ref (eA E 0)), some (.int a1), some (.int a2), none] rfl (by decide +kernel) (Nat.le_of_ble_eq_true rfl) rfl ?_
  intro p e s m args below meth c cx
  unfold fX10_lay at hf
  have j21 : ∀  (σ : Sg), fX10_lay_J21  σ = some q → WA p l e (rmd 2) s m args below meth c 4 E 0 0 (MQ below (Qcq E s.heap.size (some (.int q.1)) q.2) args s 0 0 (AE E s.heap.size)) 21 [none, none, none, none] [] σ := by
    intro  σ hf
    unfold fX10_lay_J21 at hf
    refine wa_ldc (pc := 21) (v := (-1000001)) cx dX10_lay_21 tw_353 ?_
    obtain rfl := Option.some.inj hf
    exact wa_iret (pc := 23) cx dX10_lay_23
  refine wa_aload_n (pc := 0) cx 0 dX10_lay_0 rfl rfl ?_
  refine wa_getR (pc := 1) cx fl_X10_26 lk_0 rfl (cx.bl 0 rfl) dX10_lay_1 ?_
  refine wa_iload_n (pc := 4) cx 1 dX10_lay_4 rfl rfl ?_
  obtain ⟨q1, h2, hf⟩ := bd_some hf
  refine wa_callVi (pc := 5) cx [.int a1] (ct_X9_hasYarn l E _ _ _ h2) mi_X9_hasYarn tw_563 lk_8 rfl (cx.bl 8 rfl) rfl rfl (Nat.le_of_ble_eq_true rfl) ⟨Nat.le_of_ble_eq_true rfl, Nat.le_of_ble_eq_true rfl⟩ ⟨Nat.zero_le _, Nat.zero_le _⟩ dX10_lay_5 ?_
  refine wa_if_eq (pc := 8) cx 21 dX10_lay_8 rfl (fun c3 => ?_) (fun c3 => ?_)
  · have hf := (if_pos c3).symm.trans hf
    refine wa_forget [false, false, false, false] [none, none, none, none] rfl ?_
    exact j21  _ hf
  · have hf := (if_neg c3).symm.trans hf
    refine wa_iload_n (pc := 11) cx 2 dX10_lay_11 rfl rfl ?_
    refine wa_iconst (pc := 12) (v := (-1)) cx dX10_lay_12 (by decide) ?_
    refine wa_icmp_lt (pc := 13) cx 21 dX10_lay_13 rfl (fun c4 => ?_) (fun c4 => ?_)
    · have hf := (if_pos c4).symm.trans hf
      refine wa_forget [false, false, false, false] [none, none, none, none] rfl ?_
      exact j21  _ hf
    · have hf := (if_neg c4).symm.trans hf
      refine wa_iload_n (pc := 16) cx 2 dX10_lay_16 rfl rfl ?_
      refine wa_iconst (pc := 17) (v := 3) cx dX10_lay_17 (by decide) ?_
      refine wa_icmp_lt (pc := 18) cx 24 dX10_lay_18 rfl (fun c5 => ?_) (fun c5 => ?_)
      · have hf := (if_pos c5).symm.trans hf
        refine wa_aload_n (pc := 24) cx 0 dX10_lay_24 rfl rfl ?_
        refine wa_getR (pc := 25) cx fl_X10_40 lk_0 rfl (cx.bl 0 rfl) dX10_lay_25 ?_
        refine wa_aload_n (pc := 28) cx 0 dX10_lay_28 rfl rfl ?_
        refine wa_getR (pc := 29) cx fl_X10_26 lk_0 rfl (cx.bl 0 rfl) dX10_lay_29 ?_
        obtain ⟨q6, h7, hf⟩ := bd_some hf
        refine wa_callVv (pc := 32) cx [.ref (eA E 8)] (ct_X0_keep l E _  _ h7) mi_X0_keep tw_567 lk_23 rfl (cx.bl 23 rfl) rfl rfl (Nat.le_of_ble_eq_true rfl) ⟨Nat.le_of_ble_eq_true rfl, Nat.le_of_ble_eq_true rfl⟩ ⟨Nat.zero_le _, Nat.zero_le _⟩ dX10_lay_32 ?_
        refine wa_aload_n (pc := 35) cx 0 dX10_lay_35 rfl rfl ?_
        refine wa_getR (pc := 36) cx fl_X10_26 lk_0 rfl (cx.bl 0 rfl) dX10_lay_36 ?_
        refine wa_getR (pc := 39) cx fl_X10_162 lk_8 rfl (cx.bl 8 rfl) dX10_lay_39 ?_
        refine wa_iconst (pc := 42) (v := 0) cx dX10_lay_42 (by decide) ?_
        refine wa_iload_n (pc := 43) cx 1 dX10_lay_43 rfl rfl ?_
        refine wa_iadd (pc := 44) cx dX10_lay_44 ?_
        obtain ⟨g8, hf⟩ := gd_some hf
        refine wa_iald (pc := 45) cx lk_14 (cx.bl 14 rfl) g8 dX10_lay_45 ?_
        refine wa_istore_n (pc := 46) cx 3 [some (.ref (eA E 0)), some (.int a1), some (.int a2), some (.int (ga q6 14 (0 + a1)))] dX10_lay_46 rfl (by decide) rfl rfl ?_
        refine wa_aload_n (pc := 47) cx 0 dX10_lay_47 rfl rfl ?_
        refine wa_getR (pc := 48) cx fl_X10_26 lk_0 rfl (cx.bl 0 rfl) dX10_lay_48 ?_
        refine wa_getR (pc := 51) cx fl_X10_162 lk_8 rfl (cx.bl 8 rfl) dX10_lay_51 ?_
        refine wa_iconst (pc := 54) (v := 0) cx dX10_lay_54 (by decide) ?_
        refine wa_iload_n (pc := 55) cx 1 dX10_lay_55 rfl rfl ?_
        refine wa_iadd (pc := 56) cx dX10_lay_56 ?_
        refine wa_iload_n (pc := 57) cx 2 dX10_lay_57 rfl rfl ?_
        obtain ⟨g9, hf⟩ := gd_some hf
        refine wa_iast (pc := 58) cx lk_14 (cx.bl 14 rfl) g9 dX10_lay_58 ?_
        refine wa_iload_n (pc := 59) cx 3 dX10_lay_59 rfl rfl ?_
        obtain rfl := Option.some.inj hf
        exact wa_iret (pc := 60) cx dX10_lay_60
      · have hf := (if_neg c5).symm.trans hf
        refine wa_forget [false, false, false, false] [none, none, none, none] rfl ?_
        exact j21  _ hf
def fX10_pitch (a1 : Int32) (σ : Sg) : Option (Int32 × Sg) :=
  (fX9_hasYarn a1 σ).bind (fun q1 =>
  if q1 = 0 then (some ((-1000001), σ)) else (gd (inb (27 + a1) 36) (
  if ga σ 14 (27 + a1) = 0 then ((fX0_keep  σ).bind (fun q6 =>
  gd (inb (27 + a1) 36) (
  (fX9_strength a1 (sa q6 14 (27 + a1) 1)).bind (fun q9 =>
  some (q9, sa q6 14 (27 + a1) 1))))) else (some ((-1000002), σ)))))
set_option maxHeartbeats 4000000 in
set_option maxRecDepth 100000 in
theorem ct_X10_pitch (l : Launch) (E : En) (σ : Sg) (a1 : Int32) (q : Int32 × Sg) (hf : fX10_pitch a1 σ = some q) : CT l yX10_pitch cX10_pitch 2 (some .int) 3 E σ [.ref (eA E 0), .int a1] (some (.int q.1)) q.2 := by
  refine CT.of RX10 [some (.ref (eA E 0)), some (.int a1)] rfl (by decide +kernel) (Nat.le_of_ble_eq_true rfl) rfl ?_
  intro p e s m args below meth c cx
  unfold fX10_pitch at hf
  refine wa_aload_n (pc := 0) cx 0 dX10_pitch_0 rfl rfl ?_
  refine wa_getR (pc := 1) cx fl_X10_26 lk_0 rfl (cx.bl 0 rfl) dX10_pitch_1 ?_
  refine wa_iload_n (pc := 4) cx 1 dX10_pitch_4 rfl rfl ?_
  obtain ⟨q1, h2, hf⟩ := bd_some hf
  refine wa_callVi (pc := 5) cx [.int a1] (ct_X9_hasYarn l E _ _ _ h2) mi_X9_hasYarn tw_563 lk_8 rfl (cx.bl 8 rfl) rfl rfl (Nat.le_of_ble_eq_true rfl) ⟨Nat.le_of_ble_eq_true rfl, Nat.le_of_ble_eq_true rfl⟩ ⟨Nat.zero_le _, Nat.zero_le _⟩ dX10_pitch_5 ?_
  refine wa_if_ne (pc := 8) cx 14 dX10_pitch_8 rfl (fun c3 => ?_) (fun c3 => ?_)
  · have hf := (if_neg c3).symm.trans hf
    refine wa_aload_n (pc := 14) cx 0 dX10_pitch_14 rfl rfl ?_
    refine wa_getR (pc := 15) cx fl_X10_26 lk_0 rfl (cx.bl 0 rfl) dX10_pitch_15 ?_
    refine wa_getR (pc := 18) cx fl_X10_162 lk_8 rfl (cx.bl 8 rfl) dX10_pitch_18 ?_
    refine wa_bipush (pc := 21) (v := 27) cx dX10_pitch_21 (by decide) ?_
    refine wa_iload_n (pc := 23) cx 1 dX10_pitch_23 rfl rfl ?_
    refine wa_iadd (pc := 24) cx dX10_pitch_24 ?_
    obtain ⟨g4, hf⟩ := gd_some hf
    refine wa_iald (pc := 25) cx lk_14 (cx.bl 14 rfl) g4 dX10_pitch_25 ?_
    refine wa_if_eq (pc := 26) cx 32 dX10_pitch_26 rfl (fun c5 => ?_) (fun c5 => ?_)
    · have hf := (if_pos c5).symm.trans hf
      refine wa_aload_n (pc := 32) cx 0 dX10_pitch_32 rfl rfl ?_
      refine wa_getR (pc := 33) cx fl_X10_40 lk_0 rfl (cx.bl 0 rfl) dX10_pitch_33 ?_
      refine wa_aload_n (pc := 36) cx 0 dX10_pitch_36 rfl rfl ?_
      refine wa_getR (pc := 37) cx fl_X10_26 lk_0 rfl (cx.bl 0 rfl) dX10_pitch_37 ?_
      obtain ⟨q6, h7, hf⟩ := bd_some hf
      refine wa_callVv (pc := 40) cx [.ref (eA E 8)] (ct_X0_keep l E _  _ h7) mi_X0_keep tw_567 lk_23 rfl (cx.bl 23 rfl) rfl rfl (Nat.le_of_ble_eq_true rfl) ⟨Nat.le_of_ble_eq_true rfl, Nat.le_of_ble_eq_true rfl⟩ ⟨Nat.zero_le _, Nat.zero_le _⟩ dX10_pitch_40 ?_
      refine wa_aload_n (pc := 43) cx 0 dX10_pitch_43 rfl rfl ?_
      refine wa_getR (pc := 44) cx fl_X10_26 lk_0 rfl (cx.bl 0 rfl) dX10_pitch_44 ?_
      refine wa_getR (pc := 47) cx fl_X10_162 lk_8 rfl (cx.bl 8 rfl) dX10_pitch_47 ?_
      refine wa_bipush (pc := 50) (v := 27) cx dX10_pitch_50 (by decide) ?_
      refine wa_iload_n (pc := 52) cx 1 dX10_pitch_52 rfl rfl ?_
      refine wa_iadd (pc := 53) cx dX10_pitch_53 ?_
      refine wa_iconst (pc := 54) (v := 1) cx dX10_pitch_54 (by decide) ?_
      obtain ⟨g8, hf⟩ := gd_some hf
      refine wa_iast (pc := 55) cx lk_14 (cx.bl 14 rfl) g8 dX10_pitch_55 ?_
      refine wa_aload_n (pc := 56) cx 0 dX10_pitch_56 rfl rfl ?_
      refine wa_getR (pc := 57) cx fl_X10_26 lk_0 rfl (cx.bl 0 rfl) dX10_pitch_57 ?_
      refine wa_iload_n (pc := 60) cx 1 dX10_pitch_60 rfl rfl ?_
      obtain ⟨q9, h10, hf⟩ := bd_some hf
      refine wa_callVi (pc := 61) cx [.int a1] (ct_X9_strength l E _ _ _ h10) mi_X9_strength tw_580 lk_8 rfl (cx.bl 8 rfl) rfl rfl (Nat.le_of_ble_eq_true rfl) ⟨Nat.le_of_ble_eq_true rfl, Nat.le_of_ble_eq_true rfl⟩ ⟨Nat.zero_le _, Nat.zero_le _⟩ dX10_pitch_61 ?_
      obtain rfl := Option.some.inj hf
      exact wa_iret (pc := 64) cx dX10_pitch_64
    · have hf := (if_neg c5).symm.trans hf
      refine wa_ldc (pc := 29) (v := (-1000002)) cx dX10_pitch_29 tw_579 ?_
      obtain rfl := Option.some.inj hf
      exact wa_iret (pc := 31) cx dX10_pitch_31
  · have hf := (if_pos c3).symm.trans hf
    refine wa_ldc (pc := 11) (v := (-1000001)) cx dX10_pitch_11 tw_353 ?_
    obtain rfl := Option.some.inj hf
    exact wa_iret (pc := 13) cx dX10_pitch_13
def fX10_vow_J20  (σ : Sg) : Option (Int32 × Sg) :=
  some ((-1000001), σ)
def fX10_vow (a1 : Int32) (a2 : Int32) (σ : Sg) : Option (Int32 × Sg) :=
  (fX9_hasYarn a1 σ).bind (fun q1 =>
  if q1 = 0 then (fX10_vow_J20  σ) else (if a2 < 0 then (fX10_vow_J20  σ) else (if a2 ≤ 2 then ((fX0_keep  σ).bind (fun q6 =>
  gd (inb (9 + a1) 36) (
  gd (inb (9 + a1) 36) (
  some (ga q6 14 (9 + a1), sa q6 14 (9 + a1) a2))))) else (fX10_vow_J20  σ))))
set_option maxHeartbeats 4000000 in
set_option maxRecDepth 100000 in
theorem ct_X10_vow (l : Launch) (E : En) (σ : Sg) (a1 : Int32) (a2 : Int32) (q : Int32 × Sg) (hf : fX10_vow a1 a2 σ = some q) : CT l yX10_vow cX10_vow 4 (some .int) 2 E σ [.ref (eA E 0), .int a1, .int a2] (some (.int q.1)) q.2 := by
  refine CT.of RX10 [some (.ref (eA E 0)), some (.int a1), some (.int a2), none] rfl (by decide +kernel) (Nat.le_of_ble_eq_true rfl) rfl ?_
  intro p e s m args below meth c cx
  unfold fX10_vow at hf
  have j20 : ∀  (σ : Sg), fX10_vow_J20  σ = some q → WA p l e (rmd 2) s m args below meth c 4 E 0 0 (MQ below (Qcq E s.heap.size (some (.int q.1)) q.2) args s 0 0 (AE E s.heap.size)) 20 [none, none, none, none] [] σ := by
    intro  σ hf
    unfold fX10_vow_J20 at hf
    refine wa_ldc (pc := 20) (v := (-1000001)) cx dX10_vow_20 tw_353 ?_
    obtain rfl := Option.some.inj hf
    exact wa_iret (pc := 22) cx dX10_vow_22
  refine wa_aload_n (pc := 0) cx 0 dX10_vow_0 rfl rfl ?_
  refine wa_getR (pc := 1) cx fl_X10_26 lk_0 rfl (cx.bl 0 rfl) dX10_vow_1 ?_
  refine wa_iload_n (pc := 4) cx 1 dX10_vow_4 rfl rfl ?_
  obtain ⟨q1, h2, hf⟩ := bd_some hf
  refine wa_callVi (pc := 5) cx [.int a1] (ct_X9_hasYarn l E _ _ _ h2) mi_X9_hasYarn tw_563 lk_8 rfl (cx.bl 8 rfl) rfl rfl (Nat.le_of_ble_eq_true rfl) ⟨Nat.le_of_ble_eq_true rfl, Nat.le_of_ble_eq_true rfl⟩ ⟨Nat.zero_le _, Nat.zero_le _⟩ dX10_vow_5 ?_
  refine wa_if_eq (pc := 8) cx 20 dX10_vow_8 rfl (fun c3 => ?_) (fun c3 => ?_)
  · have hf := (if_pos c3).symm.trans hf
    refine wa_forget [false, false, false, false] [none, none, none, none] rfl ?_
    exact j20  _ hf
  · have hf := (if_neg c3).symm.trans hf
    refine wa_iload_n (pc := 11) cx 2 dX10_vow_11 rfl rfl ?_
    refine wa_if_lt (pc := 12) cx 20 dX10_vow_12 rfl (fun c4 => ?_) (fun c4 => ?_)
    · have hf := (if_pos c4).symm.trans hf
      refine wa_forget [false, false, false, false] [none, none, none, none] rfl ?_
      exact j20  _ hf
    · have hf := (if_neg c4).symm.trans hf
      refine wa_iload_n (pc := 15) cx 2 dX10_vow_15 rfl rfl ?_
      refine wa_iconst (pc := 16) (v := 2) cx dX10_vow_16 (by decide) ?_
      refine wa_icmp_le (pc := 17) cx 23 dX10_vow_17 rfl (fun c5 => ?_) (fun c5 => ?_)
      · have hf := (if_pos c5).symm.trans hf
        refine wa_aload_n (pc := 23) cx 0 dX10_vow_23 rfl rfl ?_
        refine wa_getR (pc := 24) cx fl_X10_40 lk_0 rfl (cx.bl 0 rfl) dX10_vow_24 ?_
        refine wa_aload_n (pc := 27) cx 0 dX10_vow_27 rfl rfl ?_
        refine wa_getR (pc := 28) cx fl_X10_26 lk_0 rfl (cx.bl 0 rfl) dX10_vow_28 ?_
        obtain ⟨q6, h7, hf⟩ := bd_some hf
        refine wa_callVv (pc := 31) cx [.ref (eA E 8)] (ct_X0_keep l E _  _ h7) mi_X0_keep tw_567 lk_23 rfl (cx.bl 23 rfl) rfl rfl (Nat.le_of_ble_eq_true rfl) ⟨Nat.le_of_ble_eq_true rfl, Nat.le_of_ble_eq_true rfl⟩ ⟨Nat.zero_le _, Nat.zero_le _⟩ dX10_vow_31 ?_
        refine wa_aload_n (pc := 34) cx 0 dX10_vow_34 rfl rfl ?_
        refine wa_getR (pc := 35) cx fl_X10_26 lk_0 rfl (cx.bl 0 rfl) dX10_vow_35 ?_
        refine wa_getR (pc := 38) cx fl_X10_162 lk_8 rfl (cx.bl 8 rfl) dX10_vow_38 ?_
        refine wa_bipush (pc := 41) (v := 9) cx dX10_vow_41 (by decide) ?_
        refine wa_iload_n (pc := 43) cx 1 dX10_vow_43 rfl rfl ?_
        refine wa_iadd (pc := 44) cx dX10_vow_44 ?_
        obtain ⟨g8, hf⟩ := gd_some hf
        refine wa_iald (pc := 45) cx lk_14 (cx.bl 14 rfl) g8 dX10_vow_45 ?_
        refine wa_istore_n (pc := 46) cx 3 [some (.ref (eA E 0)), some (.int a1), some (.int a2), some (.int (ga q6 14 (9 + a1)))] dX10_vow_46 rfl (by decide) rfl rfl ?_
        refine wa_aload_n (pc := 47) cx 0 dX10_vow_47 rfl rfl ?_
        refine wa_getR (pc := 48) cx fl_X10_26 lk_0 rfl (cx.bl 0 rfl) dX10_vow_48 ?_
        refine wa_getR (pc := 51) cx fl_X10_162 lk_8 rfl (cx.bl 8 rfl) dX10_vow_51 ?_
        refine wa_bipush (pc := 54) (v := 9) cx dX10_vow_54 (by decide) ?_
        refine wa_iload_n (pc := 56) cx 1 dX10_vow_56 rfl rfl ?_
        refine wa_iadd (pc := 57) cx dX10_vow_57 ?_
        refine wa_iload_n (pc := 58) cx 2 dX10_vow_58 rfl rfl ?_
        obtain ⟨g9, hf⟩ := gd_some hf
        refine wa_iast (pc := 59) cx lk_14 (cx.bl 14 rfl) g9 dX10_vow_59 ?_
        refine wa_iload_n (pc := 60) cx 3 dX10_vow_60 rfl rfl ?_
        obtain rfl := Option.some.inj hf
        exact wa_iret (pc := 61) cx dX10_vow_61
      · have hf := (if_neg c5).symm.trans hf
        refine wa_forget [false, false, false, false] [none, none, none, none] rfl ?_
        exact j20  _ hf
def fX10_splice (a1 : Int32) (σ : Sg) : Option (Int32 × Sg) :=
  (fX9_hasYarn a1 σ).bind (fun q1 =>
  if q1 = 0 then (some ((-1000001), σ)) else ((fX0_keep  σ).bind (fun q4 =>
  gd (inb (18 + a1) 36) (
  gd (inb (18 + a1) 36) (
  some (ga q4 14 (18 + a1), sa q4 14 (18 + a1) 0))))))
set_option maxHeartbeats 4000000 in
set_option maxRecDepth 100000 in
theorem ct_X10_splice (l : Launch) (E : En) (σ : Sg) (a1 : Int32) (q : Int32 × Sg) (hf : fX10_splice a1 σ = some q) : CT l yX10_splice cX10_splice 3 (some .int) 2 E σ [.ref (eA E 0), .int a1] (some (.int q.1)) q.2 := by
  refine CT.of RX10 [some (.ref (eA E 0)), some (.int a1), none] rfl (by decide +kernel) (Nat.le_of_ble_eq_true rfl) rfl ?_
  intro p e s m args below meth c cx
  unfold fX10_splice at hf
  refine wa_aload_n (pc := 0) cx 0 dX10_splice_0 rfl rfl ?_
  refine wa_getR (pc := 1) cx fl_X10_26 lk_0 rfl (cx.bl 0 rfl) dX10_splice_1 ?_
  refine wa_iload_n (pc := 4) cx 1 dX10_splice_4 rfl rfl ?_
  obtain ⟨q1, h2, hf⟩ := bd_some hf
  refine wa_callVi (pc := 5) cx [.int a1] (ct_X9_hasYarn l E _ _ _ h2) mi_X9_hasYarn tw_563 lk_8 rfl (cx.bl 8 rfl) rfl rfl (Nat.le_of_ble_eq_true rfl) ⟨Nat.le_of_ble_eq_true rfl, Nat.le_of_ble_eq_true rfl⟩ ⟨Nat.zero_le _, Nat.zero_le _⟩ dX10_splice_5 ?_
  refine wa_if_ne (pc := 8) cx 14 dX10_splice_8 rfl (fun c3 => ?_) (fun c3 => ?_)
  · have hf := (if_neg c3).symm.trans hf
    refine wa_aload_n (pc := 14) cx 0 dX10_splice_14 rfl rfl ?_
    refine wa_getR (pc := 15) cx fl_X10_40 lk_0 rfl (cx.bl 0 rfl) dX10_splice_15 ?_
    refine wa_aload_n (pc := 18) cx 0 dX10_splice_18 rfl rfl ?_
    refine wa_getR (pc := 19) cx fl_X10_26 lk_0 rfl (cx.bl 0 rfl) dX10_splice_19 ?_
    obtain ⟨q4, h5, hf⟩ := bd_some hf
    refine wa_callVv (pc := 22) cx [.ref (eA E 8)] (ct_X0_keep l E _  _ h5) mi_X0_keep tw_567 lk_23 rfl (cx.bl 23 rfl) rfl rfl (Nat.le_of_ble_eq_true rfl) ⟨Nat.le_of_ble_eq_true rfl, Nat.le_of_ble_eq_true rfl⟩ ⟨Nat.zero_le _, Nat.zero_le _⟩ dX10_splice_22 ?_
    refine wa_aload_n (pc := 25) cx 0 dX10_splice_25 rfl rfl ?_
    refine wa_getR (pc := 26) cx fl_X10_26 lk_0 rfl (cx.bl 0 rfl) dX10_splice_26 ?_
    refine wa_getR (pc := 29) cx fl_X10_162 lk_8 rfl (cx.bl 8 rfl) dX10_splice_29 ?_
    refine wa_bipush (pc := 32) (v := 18) cx dX10_splice_32 (by decide) ?_
    refine wa_iload_n (pc := 34) cx 1 dX10_splice_34 rfl rfl ?_
    refine wa_iadd (pc := 35) cx dX10_splice_35 ?_
    obtain ⟨g6, hf⟩ := gd_some hf
    refine wa_iald (pc := 36) cx lk_14 (cx.bl 14 rfl) g6 dX10_splice_36 ?_
    refine wa_istore_n (pc := 37) cx 2 [some (.ref (eA E 0)), some (.int a1), some (.int (ga q4 14 (18 + a1)))] dX10_splice_37 rfl (by decide) rfl rfl ?_
    refine wa_aload_n (pc := 38) cx 0 dX10_splice_38 rfl rfl ?_
    refine wa_getR (pc := 39) cx fl_X10_26 lk_0 rfl (cx.bl 0 rfl) dX10_splice_39 ?_
    refine wa_getR (pc := 42) cx fl_X10_162 lk_8 rfl (cx.bl 8 rfl) dX10_splice_42 ?_
    refine wa_bipush (pc := 45) (v := 18) cx dX10_splice_45 (by decide) ?_
    refine wa_iload_n (pc := 47) cx 1 dX10_splice_47 rfl rfl ?_
    refine wa_iadd (pc := 48) cx dX10_splice_48 ?_
    refine wa_iconst (pc := 49) (v := 0) cx dX10_splice_49 (by decide) ?_
    obtain ⟨g7, hf⟩ := gd_some hf
    refine wa_iast (pc := 50) cx lk_14 (cx.bl 14 rfl) g7 dX10_splice_50 ?_
    refine wa_iload_n (pc := 51) cx 2 dX10_splice_51 rfl rfl ?_
    obtain rfl := Option.some.inj hf
    exact wa_iret (pc := 52) cx dX10_splice_52
  · have hf := (if_pos c3).symm.trans hf
    refine wa_ldc (pc := 11) (v := (-1000001)) cx dX10_splice_11 tw_353 ?_
    obtain rfl := Option.some.inj hf
    exact wa_iret (pc := 13) cx dX10_splice_13
def fX10_isLoad_J15  (σ : Sg) : Option (Int32) :=
  some 0
def fX10_isLoad (a1 : Int32) (σ : Sg) : Option (Int32) :=
  if a1 < 0 then (fX10_isLoad_J15  σ) else (if (9999 : Int32) < a1 then (fX10_isLoad_J15  σ) else (some 1))
set_option maxHeartbeats 4000000 in
set_option maxRecDepth 100000 in
theorem ct_X10_isLoad (l : Launch) (E : En) (σ : Sg) (a1 : Int32) (q : Int32) (hf : fX10_isLoad a1 σ = some q) : CT l yX10_isLoad cX10_isLoad 1 (some .boolean) 0 E σ [.int a1] (some (.int q)) σ := by
  refine CT.of RX10 [some (.int a1)] rfl (by decide +kernel) (Nat.le_of_ble_eq_true rfl) rfl ?_
  intro p e s m args below meth c cx
  unfold fX10_isLoad at hf
  have j15 : ∀  (σ : Sg), fX10_isLoad_J15  σ = some q → WA p l e (rmd 0) s m args below meth c 1 E 0 0 (MQ below (Qcq E s.heap.size (some (.int q)) σ) args s 0 0 (AE E s.heap.size)) 15 [none] [] σ := by
    intro  σ hf
    unfold fX10_isLoad_J15 at hf
    refine wa_iconst (pc := 15) (v := 0) cx dX10_isLoad_15 (by decide) ?_
    obtain rfl := Option.some.inj hf
    exact wa_zret (pc := 16) cx rfl dX10_isLoad_16
  refine wa_iload_n (pc := 0) cx 0 dX10_isLoad_0 rfl rfl ?_
  refine wa_if_lt (pc := 1) cx 15 dX10_isLoad_1 rfl (fun c1 => ?_) (fun c1 => ?_)
  · have hf := (if_pos c1).symm.trans hf
    refine wa_forget [false] [none] rfl ?_
    exact j15  _ hf
  · have hf := (if_neg c1).symm.trans hf
    refine wa_iload_n (pc := 4) cx 0 dX10_isLoad_4 rfl rfl ?_
    refine wa_sipush (pc := 5) (v := 9999) cx dX10_isLoad_5 (by decide) ?_
    refine wa_icmp_gt (pc := 8) cx 15 dX10_isLoad_8 rfl (fun c2 => ?_) (fun c2 => ?_)
    · have hf := (if_pos c2).symm.trans hf
      refine wa_forget [false] [none] rfl ?_
      exact j15  _ hf
    · have hf := (if_neg c2).symm.trans hf
      refine wa_iconst (pc := 11) (v := 1) cx dX10_isLoad_11 (by decide) ?_
      refine wa_goto (pc := 12) cx 16 dX10_isLoad_12 rfl ?_
      obtain rfl := Option.some.inj hf
      exact wa_zret (pc := 16) cx rfl dX10_isLoad_16
def fX10_isSeed_J16  (σ : Sg) : Option (Int32) :=
  some 0
def fX10_isSeed (a1 : Int32) (σ : Sg) : Option (Int32) :=
  if a1 < 1 then (fX10_isSeed_J16  σ) else (if (999999 : Int32) < a1 then (fX10_isSeed_J16  σ) else (some 1))
set_option maxHeartbeats 4000000 in
set_option maxRecDepth 100000 in
theorem ct_X10_isSeed (l : Launch) (E : En) (σ : Sg) (a1 : Int32) (q : Int32) (hf : fX10_isSeed a1 σ = some q) : CT l yX10_isSeed cX10_isSeed 1 (some .boolean) 0 E σ [.int a1] (some (.int q)) σ := by
  refine CT.of RX10 [some (.int a1)] rfl (by decide +kernel) (Nat.le_of_ble_eq_true rfl) rfl ?_
  intro p e s m args below meth c cx
  unfold fX10_isSeed at hf
  have j16 : ∀  (σ : Sg), fX10_isSeed_J16  σ = some q → WA p l e (rmd 0) s m args below meth c 1 E 0 0 (MQ below (Qcq E s.heap.size (some (.int q)) σ) args s 0 0 (AE E s.heap.size)) 16 [none] [] σ := by
    intro  σ hf
    unfold fX10_isSeed_J16 at hf
    refine wa_iconst (pc := 16) (v := 0) cx dX10_isSeed_16 (by decide) ?_
    obtain rfl := Option.some.inj hf
    exact wa_zret (pc := 17) cx rfl dX10_isSeed_17
  refine wa_iload_n (pc := 0) cx 0 dX10_isSeed_0 rfl rfl ?_
  refine wa_iconst (pc := 1) (v := 1) cx dX10_isSeed_1 (by decide) ?_
  refine wa_icmp_lt (pc := 2) cx 16 dX10_isSeed_2 rfl (fun c1 => ?_) (fun c1 => ?_)
  · have hf := (if_pos c1).symm.trans hf
    refine wa_forget [false] [none] rfl ?_
    exact j16  _ hf
  · have hf := (if_neg c1).symm.trans hf
    refine wa_iload_n (pc := 5) cx 0 dX10_isSeed_5 rfl rfl ?_
    refine wa_ldcw (pc := 6) (v := 999999) cx dX10_isSeed_6 tw_609 ?_
    refine wa_icmp_gt (pc := 9) cx 16 dX10_isSeed_9 rfl (fun c2 => ?_) (fun c2 => ?_)
    · have hf := (if_pos c2).symm.trans hf
      refine wa_forget [false] [none] rfl ?_
      exact j16  _ hf
    · have hf := (if_neg c2).symm.trans hf
      refine wa_iconst (pc := 12) (v := 1) cx dX10_isSeed_12 (by decide) ?_
      refine wa_goto (pc := 13) cx 17 dX10_isSeed_13 rfl ?_
      obtain rfl := Option.some.inj hf
      exact wa_zret (pc := 17) cx rfl dX10_isSeed_17
def fX10_nextX (a1 : Int32) (σ : Sg) : Option (Int32) :=
  some ((lrm ((a1).toInt64 * 16807) 2147483647).toInt32)
set_option maxHeartbeats 4000000 in
set_option maxRecDepth 100000 in
theorem ct_X10_nextX (l : Launch) (E : En) (σ : Sg) (a1 : Int32) (q : Int32) (hf : fX10_nextX a1 σ = some q) : CT l yX10_nextX cX10_nextX 1 (some .int) 0 E σ [.int a1] (some (.int q)) σ := by
  refine CT.of RX10 [some (.int a1)] rfl (by decide +kernel) (Nat.le_of_ble_eq_true rfl) rfl ?_
  intro p e s m args below meth c cx
  unfold fX10_nextX at hf
  refine wa_iload_n (pc := 0) cx 0 dX10_nextX_0 rfl rfl ?_
  refine wa_i2l (pc := 1) cx dX10_nextX_1 ?_
  refine wa_ldc2 (pc := 2) (v := 16807) cx dX10_nextX_2 tw_613 ?_
  refine wa_lmul (pc := 5) cx dX10_nextX_5 ?_
  refine wa_ldc2 (pc := 6) (v := 2147483647) cx dX10_nextX_6 tw_614 ?_
  refine wa_lrem (pc := 9) cx dX10_nextX_9 (by decide) ?_
  refine wa_l2i (pc := 10) cx dX10_nextX_10 ?_
  obtain rfl := Option.some.inj hf
  exact wa_iret (pc := 11) cx dX10_nextX_11
def fX10_pull_J27  (σ : Sg) : Option (Int32 × Sg) :=
  some ((-1000001), σ)
def fX10_pull (a1 : Int32) (a2 : Int32) (σ : Sg) : Option (Int32 × Sg) :=
  if gf σ 8 0 = 0 then (some ((-1000002), σ)) else ((fX10_isLoad a1 σ).bind (fun q2 =>
  if q2 = 0 then (fX10_pull_J27  σ) else ((fX10_isSeed a2 σ).bind (fun q5 =>
  if q5 = 0 then (fX10_pull_J27  σ) else ((fX0_keep  σ).bind (fun q8 =>
  (fX10_nextX a2 q8).bind (fun q10 =>
  (fX9_ropeBears  q8).bind (fun q12 =>
  if (a1 + irm q10 10) ≤ q12 then ((fX9_wearLaid  q8).bind (fun q15 =>
  some ((-1000000), q15))) else ((fX9_weakestStrand  q8).bind (fun q17 =>
  (fX9_part q17 q8).bind (fun q19 =>
  some (q17, q19))))))))))))
set_option maxHeartbeats 4000000 in
set_option maxRecDepth 100000 in
theorem ct_X10_pull (l : Launch) (E : En) (σ : Sg) (a1 : Int32) (a2 : Int32) (q : Int32 × Sg) (hf : fX10_pull a1 a2 σ = some q) : CT l yX10_pull cX10_pull 4 (some .int) 6 E σ [.ref (eA E 0), .int a1, .int a2] (some (.int q.1)) q.2 := by
  refine CT.of RX10 [some (.ref (eA E 0)), some (.int a1), some (.int a2), none] rfl (by decide +kernel) (Nat.le_of_ble_eq_true rfl) rfl ?_
  intro p e s m args below meth c cx
  unfold fX10_pull at hf
  have j27 : ∀  (σ : Sg), fX10_pull_J27  σ = some q → WA p l e (rmd 6) s m args below meth c 4 E 0 0 (MQ below (Qcq E s.heap.size (some (.int q.1)) q.2) args s 0 0 (AE E s.heap.size)) 27 [none, none, none, none] [] σ := by
    intro  σ hf
    unfold fX10_pull_J27 at hf
    refine wa_ldc (pc := 27) (v := (-1000001)) cx dX10_pull_27 tw_353 ?_
    obtain rfl := Option.some.inj hf
    exact wa_iret (pc := 29) cx dX10_pull_29
  refine wa_aload_n (pc := 0) cx 0 dX10_pull_0 rfl rfl ?_
  refine wa_getR (pc := 1) cx fl_X10_26 lk_0 rfl (cx.bl 0 rfl) dX10_pull_1 ?_
  refine wa_getI (pc := 4) cx fl_X10_170 lk_8 rfl (cx.bl 8 rfl) dX10_pull_4 ?_
  refine wa_if_ne (pc := 7) cx 13 dX10_pull_7 rfl (fun c1 => ?_) (fun c1 => ?_)
  · have hf := (if_neg c1).symm.trans hf
    refine wa_iload_n (pc := 13) cx 1 dX10_pull_13 rfl rfl ?_
    obtain ⟨q2, h3, hf⟩ := bd_some hf
    refine wa_callSi (pc := 14) cx [.int a1] (ct_X10_isLoad l E _ _ _ h3) ms_X10_isLoad tw_603 rfl rfl (Nat.le_of_ble_eq_true rfl) ⟨Nat.le_of_ble_eq_true rfl, Nat.le_of_ble_eq_true rfl⟩ ⟨Nat.zero_le _, Nat.zero_le _⟩ dX10_pull_14 ?_
    refine wa_if_eq (pc := 17) cx 27 dX10_pull_17 rfl (fun c4 => ?_) (fun c4 => ?_)
    · have hf := (if_pos c4).symm.trans hf
      refine wa_forget [false, false, false, false] [none, none, none, none] rfl ?_
      exact j27  _ hf
    · have hf := (if_neg c4).symm.trans hf
      refine wa_iload_n (pc := 20) cx 2 dX10_pull_20 rfl rfl ?_
      obtain ⟨q5, h6, hf⟩ := bd_some hf
      refine wa_callSi (pc := 21) cx [.int a2] (ct_X10_isSeed l E _ _ _ h6) ms_X10_isSeed tw_606 rfl rfl (Nat.le_of_ble_eq_true rfl) ⟨Nat.le_of_ble_eq_true rfl, Nat.le_of_ble_eq_true rfl⟩ ⟨Nat.zero_le _, Nat.zero_le _⟩ dX10_pull_21 ?_
      refine wa_if_ne (pc := 24) cx 30 dX10_pull_24 rfl (fun c7 => ?_) (fun c7 => ?_)
      · have hf := (if_neg c7).symm.trans hf
        refine wa_aload_n (pc := 30) cx 0 dX10_pull_30 rfl rfl ?_
        refine wa_getR (pc := 31) cx fl_X10_40 lk_0 rfl (cx.bl 0 rfl) dX10_pull_31 ?_
        refine wa_aload_n (pc := 34) cx 0 dX10_pull_34 rfl rfl ?_
        refine wa_getR (pc := 35) cx fl_X10_26 lk_0 rfl (cx.bl 0 rfl) dX10_pull_35 ?_
        obtain ⟨q8, h9, hf⟩ := bd_some hf
        refine wa_callVv (pc := 38) cx [.ref (eA E 8)] (ct_X0_keep l E _  _ h9) mi_X0_keep tw_567 lk_23 rfl (cx.bl 23 rfl) rfl rfl (Nat.le_of_ble_eq_true rfl) ⟨Nat.le_of_ble_eq_true rfl, Nat.le_of_ble_eq_true rfl⟩ ⟨Nat.zero_le _, Nat.zero_le _⟩ dX10_pull_38 ?_
        refine wa_iload_n (pc := 41) cx 1 dX10_pull_41 rfl rfl ?_
        refine wa_iload_n (pc := 42) cx 2 dX10_pull_42 rfl rfl ?_
        obtain ⟨q10, h11, hf⟩ := bd_some hf
        refine wa_callSi (pc := 43) cx [.int a2] (ct_X10_nextX l E _ _ _ h11) ms_X10_nextX tw_610 rfl rfl (Nat.le_of_ble_eq_true rfl) ⟨Nat.le_of_ble_eq_true rfl, Nat.le_of_ble_eq_true rfl⟩ ⟨Nat.zero_le _, Nat.zero_le _⟩ dX10_pull_43 ?_
        refine wa_bipush (pc := 46) (v := 10) cx dX10_pull_46 (by decide) ?_
        refine wa_irem (pc := 48) cx dX10_pull_48 (by decide) ?_
        refine wa_iadd (pc := 49) cx dX10_pull_49 ?_
        refine wa_aload_n (pc := 50) cx 0 dX10_pull_50 rfl rfl ?_
        refine wa_getR (pc := 51) cx fl_X10_26 lk_0 rfl (cx.bl 0 rfl) dX10_pull_51 ?_
        obtain ⟨q12, h13, hf⟩ := bd_some hf
        refine wa_callVi (pc := 54) cx [] (ct_X9_ropeBears l E _  _ h13) mi_X9_ropeBears tw_615 lk_8 rfl (cx.bl 8 rfl) rfl rfl (Nat.le_of_ble_eq_true rfl) ⟨Nat.le_of_ble_eq_true rfl, Nat.le_of_ble_eq_true rfl⟩ ⟨Nat.zero_le _, Nat.zero_le _⟩ dX10_pull_54 ?_
        refine wa_icmp_le (pc := 57) cx 78 dX10_pull_57 rfl (fun c14 => ?_) (fun c14 => ?_)
        · have hf := (if_pos c14).symm.trans hf
          refine wa_aload_n (pc := 78) cx 0 dX10_pull_78 rfl rfl ?_
          refine wa_getR (pc := 79) cx fl_X10_26 lk_0 rfl (cx.bl 0 rfl) dX10_pull_79 ?_
          obtain ⟨q15, h16, hf⟩ := bd_some hf
          refine wa_callVv (pc := 82) cx [] (ct_X9_wearLaid l E _  _ h16) mi_X9_wearLaid tw_641 lk_8 rfl (cx.bl 8 rfl) rfl rfl (Nat.le_of_ble_eq_true rfl) ⟨Nat.le_of_ble_eq_true rfl, Nat.le_of_ble_eq_true rfl⟩ ⟨Nat.zero_le _, Nat.zero_le _⟩ dX10_pull_82 ?_
          refine wa_ldc (pc := 85) (v := (-1000000)) cx dX10_pull_85 tw_649 ?_
          obtain rfl := Option.some.inj hf
          exact wa_iret (pc := 87) cx dX10_pull_87
        · have hf := (if_neg c14).symm.trans hf
          refine wa_aload_n (pc := 60) cx 0 dX10_pull_60 rfl rfl ?_
          refine wa_getR (pc := 61) cx fl_X10_26 lk_0 rfl (cx.bl 0 rfl) dX10_pull_61 ?_
          obtain ⟨q17, h18, hf⟩ := bd_some hf
          refine wa_callVi (pc := 64) cx [] (ct_X9_weakestStrand l E _  _ h18) mi_X9_weakestStrand tw_629 lk_8 rfl (cx.bl 8 rfl) rfl rfl (Nat.le_of_ble_eq_true rfl) ⟨Nat.le_of_ble_eq_true rfl, Nat.le_of_ble_eq_true rfl⟩ ⟨Nat.zero_le _, Nat.zero_le _⟩ dX10_pull_64 ?_
          refine wa_istore_n (pc := 67) cx 3 [some (.ref (eA E 0)), some (.int a1), some (.int a2), some (.int q17)] dX10_pull_67 rfl (by decide) rfl rfl ?_
          refine wa_aload_n (pc := 68) cx 0 dX10_pull_68 rfl rfl ?_
          refine wa_getR (pc := 69) cx fl_X10_26 lk_0 rfl (cx.bl 0 rfl) dX10_pull_69 ?_
          refine wa_iload_n (pc := 72) cx 3 dX10_pull_72 rfl rfl ?_
          obtain ⟨q19, h20, hf⟩ := bd_some hf
          refine wa_callVv (pc := 73) cx [.int q17] (ct_X9_part l E _ _ _ h20) mi_X9_part tw_637 lk_8 rfl (cx.bl 8 rfl) rfl rfl (Nat.le_of_ble_eq_true rfl) ⟨Nat.le_of_ble_eq_true rfl, Nat.le_of_ble_eq_true rfl⟩ ⟨Nat.zero_le _, Nat.zero_le _⟩ dX10_pull_73 ?_
          refine wa_iload_n (pc := 76) cx 3 dX10_pull_76 rfl rfl ?_
          obtain rfl := Option.some.inj hf
          exact wa_iret (pc := 77) cx dX10_pull_77
      · have hf := (if_pos c7).symm.trans hf
        refine wa_forget [false, false, false, false] [none, none, none, none] rfl ?_
        exact j27  _ hf
  · have hf := (if_pos c1).symm.trans hf
    refine wa_ldc (pc := 10) (v := (-1000002)) cx dX10_pull_10 tw_579 ?_
    obtain rfl := Option.some.inj hf
    exact wa_iret (pc := 12) cx dX10_pull_12
def fX10_year_J169 (v2 : Int32) (v3 : Int32) (v4 : Int32) (σ : Sg) : Option ((Int32 × Int32 × Int32 × Sg) ⊕ (Int32 × Sg)) :=
  some (.inl (v2, v3, (v4 + 1), σ))
def fX10_year_J167 (v3 : Int32) (v4 : Int32) (t1 : Int32) (t0 : Int32) (σ : Sg) : Option ((Int32 × Int32 × Int32 × Sg) ⊕ (Int32 × Sg)) :=
  fX10_year_J169 (t0 ||| t1) v3 v4 σ
def fX10_year_J152 (v2 : Int32) (v3 : Int32) (v4 : Int32) (v5 : Int32) (t2 : Int32) (t1 : Int32) (σ : Sg) : Option ((Int32 × Int32 × Int32 × Sg) ⊕ (Int32 × Sg)) :=
  gd (inb t1 36) (
  if v5 = 0 then (fX10_year_J167 v3 v4 (jshl 1 v4) v2 (sa σ 14 t1 t2)) else (fX10_year_J167 v3 v4 0 v2 (sa σ 14 t1 t2)))
def fX10_year_J130 (v2 : Int32) (v3 : Int32) (v4 : Int32) (v5 : Int32) (σ : Sg) : Option ((Int32 × Int32 × Int32 × Sg) ⊕ (Int32 × Sg)) :=
  if v5 = 0 then (fX10_year_J152 v2 v3 v4 v5 2 (9 + v4) σ) else (fX10_year_J152 v2 v3 v4 v5 1 (9 + v4) σ)
def fX10_year_J128 (v2 : Int32) (v3 : Int32) (v4 : Int32) (t0 : Int32) (σ : Sg) : Option ((Int32 × Int32 × Int32 × Sg) ⊕ (Int32 × Sg)) :=
  fX10_year_J130 v2 v3 v4 t0 σ
def fX10_year_J88 (v2 : Int32) (v3 : Int32) (v4 : Int32) (t0 : Int32) (σ : Sg) : Option ((Int32 × Int32 × Int32 × Sg) ⊕ (Int32 × Sg)) :=
  (fX9_isDrawn v4 σ).bind (fun q12 =>
  if q12 = 0 then (fX10_year_J130 v2 v3 v4 t0 σ) else ((fX10_nextX v3 σ).bind (fun q18 =>
  (fX9_keptInTen v4 σ).bind (fun q20 =>
  if q20 ≤ irm q18 10 then (fX10_year_J128 v2 q18 v4 0 σ) else (fX10_year_J128 v2 q18 v4 1 σ)))))
def fX10_year_B41  (v2 : Int32) (v3 : Int32) (v4 : Int32) (σ : Sg) : Option ((Int32 × Int32 × Int32 × Sg) ⊕ (Int32 × Sg)) :=
  if gf σ 8 4 ≤ v4 then (some (.inr (v2, σ))) else (gd (inb (9 + v4) 36) (
  if ga σ 14 (9 + v4) = 0 then (gd (inb v4 9) (
  if ga σ 11 v4 = 2 then (fX10_year_J88 v2 v3 v4 1 σ) else (fX10_year_J88 v2 v3 v4 0 σ))) else (fX10_year_J169 v2 v3 v4 σ)))
def fX10_year (a1 : Int32) (σ : Sg) : Option (Int32 × Sg) :=
  if gf σ 8 0 = 0 then (some ((-1000002), σ)) else ((fX10_isSeed a1 σ).bind (fun q2 =>
  if q2 = 0 then (some ((-1000001), σ)) else ((fX0_keep  σ).bind (fun q5 =>
  (lpO (fun w => fX10_year_B41  w.1 w.2.1 w.2.2.1 w.2.2.2) FUEL (0, a1, 0, q5)).bind (fun o23 =>
  some (o23.1, o23.2))))))
set_option maxHeartbeats 4000000 in
set_option maxRecDepth 100000 in
theorem ct_X10_year (l : Launch) (E : En) (σ : Sg) (a1 : Int32) (q : Int32 × Sg) (hf : fX10_year a1 σ = some q) : CT l yX10_year cX10_year 6 (some .int) 2 E σ [.ref (eA E 0), .int a1] (some (.int q.1)) q.2 := by
  refine CT.of RX10 [some (.ref (eA E 0)), some (.int a1), none, none, none, none] rfl (by decide +kernel) (Nat.le_of_ble_eq_true rfl) rfl ?_
  intro p e s m args below meth c cx
  unfold fX10_year at hf
  have l41 : ∀  (y : Int32 × Int32 × Int32 × Sg) (o : Int32 × Sg), lpO (fun w => fX10_year_B41  w.1 w.2.1 w.2.2.1 w.2.2.2) FUEL y = some o → (WA p l e (rmd 2) s m args below meth c 6 E 0 0 (MQ below (Qcq E s.heap.size (some (.int q.1)) q.2) args s 0 0 (AE E s.heap.size)) 175 [none, none, some (.int o.1), none, none, none] [] o.2) → WA p l e (rmd 2) s m args below meth c 6 E 0 0 (MQ below (Qcq E s.heap.size (some (.int q.1)) q.2) args s 0 0 (AE E s.heap.size)) 41 [some (.ref (eA E 0)), none, some (.int y.1), some (.int y.2.1), some (.int y.2.2.1), none] [] y.2.2.2 := by
    intro  y o hf hk
    refine lp_rule (P := fun y => WA p l e (rmd 2) s m args below meth c 6 E 0 0 (MQ below (Qcq E s.heap.size (some (.int q.1)) q.2) args s 0 0 (AE E s.heap.size)) 41 [some (.ref (eA E 0)), none, some (.int y.1), some (.int y.2.1), some (.int y.2.2.1), none] [] y.2.2.2) (K := fun o => WA p l e (rmd 2) s m args below meth c 6 E 0 0 (MQ below (Qcq E s.heap.size (some (.int q.1)) q.2) args s 0 0 (AE E s.heap.size)) 175 [none, none, some (.int o.1), none, none, none] [] o.2) ?_ FUEL y o hf hk
    have j169 : ∀ (v2 : Int32) (v3 : Int32) (v4 : Int32) (σ : Sg) (r1 : (Int32 × Int32 × Int32 × Sg) ⊕ (Int32 × Sg)), fX10_year_J169 v2 v3 v4 σ = some r1 → (sel (fun y1 => WA p l e (rmd 2) s m args below meth c 6 E 0 0 (MQ below (Qcq E s.heap.size (some (.int q.1)) q.2) args s 0 0 (AE E s.heap.size)) 41 [some (.ref (eA E 0)), none, some (.int y1.1), some (.int y1.2.1), some (.int y1.2.2.1), none] [] y1.2.2.2) (fun y1 => WA p l e (rmd 2) s m args below meth c 6 E 0 0 (MQ below (Qcq E s.heap.size (some (.int q.1)) q.2) args s 0 0 (AE E s.heap.size)) 175 [none, none, some (.int y1.1), none, none, none] [] y1.2) r1) → WA p l e (rmd 2) s m args below meth c 6 E 0 0 (MQ below (Qcq E s.heap.size (some (.int q.1)) q.2) args s 0 0 (AE E s.heap.size)) 169 [some (.ref (eA E 0)), none, some (.int v2), some (.int v3), some (.int v4), none] [] σ := by
      intro v2 v3 v4 σ r1 hf hk1
      unfold fX10_year_J169 at hf
      refine wa_iinc (pc := 169) (v := 1) cx 4 [some (.ref (eA E 0)), none, some (.int v2), some (.int v3), some (.int (v4 + 1)), none] dX10_year_169 (by decide) rfl (by decide) rfl rfl ?_
      refine wa_goto (pc := 172) cx 41 dX10_year_172 rfl ?_
      obtain rfl := Option.some.inj hf
      refine wa_forget [true, false, true, true, true, false] [some (.ref (eA E 0)), none, some (.int v2), some (.int v3), some (.int (v4 + 1)), none] rfl ?_
      exact hk1
    have j167 : ∀ (v3 : Int32) (v4 : Int32) (t1 : Int32) (t0 : Int32) (σ : Sg) (r1 : (Int32 × Int32 × Int32 × Sg) ⊕ (Int32 × Sg)), fX10_year_J167 v3 v4 t1 t0 σ = some r1 → (sel (fun y1 => WA p l e (rmd 2) s m args below meth c 6 E 0 0 (MQ below (Qcq E s.heap.size (some (.int q.1)) q.2) args s 0 0 (AE E s.heap.size)) 41 [some (.ref (eA E 0)), none, some (.int y1.1), some (.int y1.2.1), some (.int y1.2.2.1), none] [] y1.2.2.2) (fun y1 => WA p l e (rmd 2) s m args below meth c 6 E 0 0 (MQ below (Qcq E s.heap.size (some (.int q.1)) q.2) args s 0 0 (AE E s.heap.size)) 175 [none, none, some (.int y1.1), none, none, none] [] y1.2) r1) → WA p l e (rmd 2) s m args below meth c 6 E 0 0 (MQ below (Qcq E s.heap.size (some (.int q.1)) q.2) args s 0 0 (AE E s.heap.size)) 167 [some (.ref (eA E 0)), none, none, some (.int v3), some (.int v4), none] [.int t1, .int t0] σ := by
      intro v3 v4 t1 t0 σ r1 hf hk1
      unfold fX10_year_J167 at hf
      refine wa_ior (pc := 167) cx dX10_year_167 ?_
      refine wa_istore_n (pc := 168) cx 2 [some (.ref (eA E 0)), none, some (.int (t0 ||| t1)), some (.int v3), some (.int v4), none] dX10_year_168 rfl (by decide) rfl rfl ?_
      exact j169 _ _ _ _ _ hf hk1
    have j152 : ∀ (v2 : Int32) (v3 : Int32) (v4 : Int32) (v5 : Int32) (t2 : Int32) (t1 : Int32) (σ : Sg) (r1 : (Int32 × Int32 × Int32 × Sg) ⊕ (Int32 × Sg)), fX10_year_J152 v2 v3 v4 v5 t2 t1 σ = some r1 → (sel (fun y1 => WA p l e (rmd 2) s m args below meth c 6 E 0 0 (MQ below (Qcq E s.heap.size (some (.int q.1)) q.2) args s 0 0 (AE E s.heap.size)) 41 [some (.ref (eA E 0)), none, some (.int y1.1), some (.int y1.2.1), some (.int y1.2.2.1), none] [] y1.2.2.2) (fun y1 => WA p l e (rmd 2) s m args below meth c 6 E 0 0 (MQ below (Qcq E s.heap.size (some (.int q.1)) q.2) args s 0 0 (AE E s.heap.size)) 175 [none, none, some (.int y1.1), none, none, none] [] y1.2) r1) → WA p l e (rmd 2) s m args below meth c 6 E 0 0 (MQ below (Qcq E s.heap.size (some (.int q.1)) q.2) args s 0 0 (AE E s.heap.size)) 152 [some (.ref (eA E 0)), none, some (.int v2), some (.int v3), some (.int v4), some (.int v5)] [.int t2, .int t1, .ref (eA E 14)] σ := by
      intro v2 v3 v4 v5 t2 t1 σ r1 hf hk1
      unfold fX10_year_J152 at hf
      obtain ⟨g16, hf⟩ := gd_some hf
      refine wa_iast (pc := 152) cx lk_14 (cx.bl 14 rfl) g16 dX10_year_152 ?_
      refine wa_iload_n (pc := 153) cx 2 dX10_year_153 rfl rfl ?_
      refine wa_iload (pc := 154) cx 5 dX10_year_154 rfl ?_
      refine wa_if_eq (pc := 156) cx 163 dX10_year_156 rfl (fun c17 => ?_) (fun c17 => ?_)
      · have hf := (if_pos c17).symm.trans hf
        refine wa_iconst (pc := 163) (v := 1) cx dX10_year_163 (by decide) ?_
        refine wa_iload (pc := 164) cx 4 dX10_year_164 rfl ?_
        refine wa_ishl (pc := 166) cx dX10_year_166 ?_
        refine wa_forget [true, false, false, true, true, false] [some (.ref (eA E 0)), none, none, some (.int v3), some (.int v4), none] rfl ?_
        exact j167 _ _ _ _ _ _ hf hk1
      · have hf := (if_neg c17).symm.trans hf
        refine wa_iconst (pc := 159) (v := 0) cx dX10_year_159 (by decide) ?_
        refine wa_goto (pc := 160) cx 167 dX10_year_160 rfl ?_
        refine wa_forget [true, false, false, true, true, false] [some (.ref (eA E 0)), none, none, some (.int v3), some (.int v4), none] rfl ?_
        exact j167 _ _ _ _ _ _ hf hk1
    have j130 : ∀ (v2 : Int32) (v3 : Int32) (v4 : Int32) (v5 : Int32) (σ : Sg) (r1 : (Int32 × Int32 × Int32 × Sg) ⊕ (Int32 × Sg)), fX10_year_J130 v2 v3 v4 v5 σ = some r1 → (sel (fun y1 => WA p l e (rmd 2) s m args below meth c 6 E 0 0 (MQ below (Qcq E s.heap.size (some (.int q.1)) q.2) args s 0 0 (AE E s.heap.size)) 41 [some (.ref (eA E 0)), none, some (.int y1.1), some (.int y1.2.1), some (.int y1.2.2.1), none] [] y1.2.2.2) (fun y1 => WA p l e (rmd 2) s m args below meth c 6 E 0 0 (MQ below (Qcq E s.heap.size (some (.int q.1)) q.2) args s 0 0 (AE E s.heap.size)) 175 [none, none, some (.int y1.1), none, none, none] [] y1.2) r1) → WA p l e (rmd 2) s m args below meth c 6 E 0 0 (MQ below (Qcq E s.heap.size (some (.int q.1)) q.2) args s 0 0 (AE E s.heap.size)) 130 [some (.ref (eA E 0)), none, some (.int v2), some (.int v3), some (.int v4), some (.int v5)] [] σ := by
      intro v2 v3 v4 v5 σ r1 hf hk1
      unfold fX10_year_J130 at hf
      refine wa_aload_n (pc := 130) cx 0 dX10_year_130 rfl rfl ?_
      refine wa_getR (pc := 131) cx fl_X10_26 lk_0 rfl (cx.bl 0 rfl) dX10_year_131 ?_
      refine wa_getR (pc := 134) cx fl_X10_162 lk_8 rfl (cx.bl 8 rfl) dX10_year_134 ?_
      refine wa_bipush (pc := 137) (v := 9) cx dX10_year_137 (by decide) ?_
      refine wa_iload (pc := 139) cx 4 dX10_year_139 rfl ?_
      refine wa_iadd (pc := 141) cx dX10_year_141 ?_
      refine wa_iload (pc := 142) cx 5 dX10_year_142 rfl ?_
      refine wa_if_eq (pc := 144) cx 151 dX10_year_144 rfl (fun c15 => ?_) (fun c15 => ?_)
      · have hf := (if_pos c15).symm.trans hf
        refine wa_iconst (pc := 151) (v := 2) cx dX10_year_151 (by decide) ?_
        exact j152 _ _ _ _ _ _ _ _ hf hk1
      · have hf := (if_neg c15).symm.trans hf
        refine wa_iconst (pc := 147) (v := 1) cx dX10_year_147 (by decide) ?_
        refine wa_goto (pc := 148) cx 152 dX10_year_148 rfl ?_
        exact j152 _ _ _ _ _ _ _ _ hf hk1
    have j128 : ∀ (v2 : Int32) (v3 : Int32) (v4 : Int32) (t0 : Int32) (σ : Sg) (r1 : (Int32 × Int32 × Int32 × Sg) ⊕ (Int32 × Sg)), fX10_year_J128 v2 v3 v4 t0 σ = some r1 → (sel (fun y1 => WA p l e (rmd 2) s m args below meth c 6 E 0 0 (MQ below (Qcq E s.heap.size (some (.int q.1)) q.2) args s 0 0 (AE E s.heap.size)) 41 [some (.ref (eA E 0)), none, some (.int y1.1), some (.int y1.2.1), some (.int y1.2.2.1), none] [] y1.2.2.2) (fun y1 => WA p l e (rmd 2) s m args below meth c 6 E 0 0 (MQ below (Qcq E s.heap.size (some (.int q.1)) q.2) args s 0 0 (AE E s.heap.size)) 175 [none, none, some (.int y1.1), none, none, none] [] y1.2) r1) → WA p l e (rmd 2) s m args below meth c 6 E 0 0 (MQ below (Qcq E s.heap.size (some (.int q.1)) q.2) args s 0 0 (AE E s.heap.size)) 128 [some (.ref (eA E 0)), none, some (.int v2), some (.int v3), some (.int v4), none] [.int t0] σ := by
      intro v2 v3 v4 t0 σ r1 hf hk1
      unfold fX10_year_J128 at hf
      refine wa_istore (pc := 128) cx 5 [some (.ref (eA E 0)), none, some (.int v2), some (.int v3), some (.int v4), some (.int t0)] dX10_year_128 (by decide) rfl rfl ?_
      exact j130 _ _ _ _ _ _ hf hk1
    have j88 : ∀ (v2 : Int32) (v3 : Int32) (v4 : Int32) (t0 : Int32) (σ : Sg) (r1 : (Int32 × Int32 × Int32 × Sg) ⊕ (Int32 × Sg)), fX10_year_J88 v2 v3 v4 t0 σ = some r1 → (sel (fun y1 => WA p l e (rmd 2) s m args below meth c 6 E 0 0 (MQ below (Qcq E s.heap.size (some (.int q.1)) q.2) args s 0 0 (AE E s.heap.size)) 41 [some (.ref (eA E 0)), none, some (.int y1.1), some (.int y1.2.1), some (.int y1.2.2.1), none] [] y1.2.2.2) (fun y1 => WA p l e (rmd 2) s m args below meth c 6 E 0 0 (MQ below (Qcq E s.heap.size (some (.int q.1)) q.2) args s 0 0 (AE E s.heap.size)) 175 [none, none, some (.int y1.1), none, none, none] [] y1.2) r1) → WA p l e (rmd 2) s m args below meth c 6 E 0 0 (MQ below (Qcq E s.heap.size (some (.int q.1)) q.2) args s 0 0 (AE E s.heap.size)) 88 [some (.ref (eA E 0)), none, some (.int v2), some (.int v3), some (.int v4), none] [.int t0] σ := by
      intro v2 v3 v4 t0 σ r1 hf hk1
      unfold fX10_year_J88 at hf
      refine wa_istore (pc := 88) cx 5 [some (.ref (eA E 0)), none, some (.int v2), some (.int v3), some (.int v4), some (.int t0)] dX10_year_88 (by decide) rfl rfl ?_
      refine wa_aload_n (pc := 90) cx 0 dX10_year_90 rfl rfl ?_
      refine wa_getR (pc := 91) cx fl_X10_26 lk_0 rfl (cx.bl 0 rfl) dX10_year_91 ?_
      refine wa_iload (pc := 94) cx 4 dX10_year_94 rfl ?_
      obtain ⟨q12, h13, hf⟩ := bd_some hf
      refine wa_callVi (pc := 96) cx [.int v4] (ct_X9_isDrawn l E _ _ _ h13) mi_X9_isDrawn tw_654 lk_8 rfl (cx.bl 8 rfl) rfl rfl (Nat.le_of_ble_eq_true rfl) ⟨Nat.le_of_ble_eq_true rfl, Nat.le_of_ble_eq_true rfl⟩ ⟨Nat.zero_le _, Nat.zero_le _⟩ dX10_year_96 ?_
      refine wa_if_eq (pc := 99) cx 130 dX10_year_99 rfl (fun c14 => ?_) (fun c14 => ?_)
      · have hf := (if_pos c14).symm.trans hf
        exact j130 _ _ _ _ _ _ hf hk1
      · have hf := (if_neg c14).symm.trans hf
        refine wa_iload_n (pc := 102) cx 3 dX10_year_102 rfl rfl ?_
        obtain ⟨q18, h19, hf⟩ := bd_some hf
        refine wa_callSi (pc := 103) cx [.int v3] (ct_X10_nextX l E _ _ _ h19) ms_X10_nextX tw_610 rfl rfl (Nat.le_of_ble_eq_true rfl) ⟨Nat.le_of_ble_eq_true rfl, Nat.le_of_ble_eq_true rfl⟩ ⟨Nat.zero_le _, Nat.zero_le _⟩ dX10_year_103 ?_
        refine wa_istore_n (pc := 106) cx 3 [some (.ref (eA E 0)), none, some (.int v2), some (.int q18), some (.int v4), some (.int t0)] dX10_year_106 rfl (by decide) rfl rfl ?_
        refine wa_iload_n (pc := 107) cx 3 dX10_year_107 rfl rfl ?_
        refine wa_bipush (pc := 108) (v := 10) cx dX10_year_108 (by decide) ?_
        refine wa_irem (pc := 110) cx dX10_year_110 (by decide) ?_
        refine wa_aload_n (pc := 111) cx 0 dX10_year_111 rfl rfl ?_
        refine wa_getR (pc := 112) cx fl_X10_26 lk_0 rfl (cx.bl 0 rfl) dX10_year_112 ?_
        refine wa_iload (pc := 115) cx 4 dX10_year_115 rfl ?_
        obtain ⟨q20, h21, hf⟩ := bd_some hf
        refine wa_callVi (pc := 117) cx [.int v4] (ct_X9_keptInTen l E _ _ _ h21) mi_X9_keptInTen tw_658 lk_8 rfl (cx.bl 8 rfl) rfl rfl (Nat.le_of_ble_eq_true rfl) ⟨Nat.le_of_ble_eq_true rfl, Nat.le_of_ble_eq_true rfl⟩ ⟨Nat.zero_le _, Nat.zero_le _⟩ dX10_year_117 ?_
        refine wa_icmp_ge (pc := 120) cx 127 dX10_year_120 rfl (fun c22 => ?_) (fun c22 => ?_)
        · have hf := (if_pos c22).symm.trans hf
          refine wa_iconst (pc := 127) (v := 0) cx dX10_year_127 (by decide) ?_
          refine wa_forget [true, false, true, true, true, false] [some (.ref (eA E 0)), none, some (.int v2), some (.int q18), some (.int v4), none] rfl ?_
          exact j128 _ _ _ _ _ _ hf hk1
        · have hf := (if_neg c22).symm.trans hf
          refine wa_iconst (pc := 123) (v := 1) cx dX10_year_123 (by decide) ?_
          refine wa_goto (pc := 124) cx 128 dX10_year_124 rfl ?_
          refine wa_forget [true, false, true, true, true, false] [some (.ref (eA E 0)), none, some (.int v2), some (.int q18), some (.int v4), none] rfl ?_
          exact j128 _ _ _ _ _ _ hf hk1
    intro y0 r1 hf hk1
    obtain ⟨v2, v3, v4, σ⟩ := y0
    have hf : fX10_year_B41  v2 v3 v4 σ = some r1 := hf
    unfold fX10_year_B41 at hf
    refine wa_iload (pc := 41) cx 4 dX10_year_41 rfl ?_
    refine wa_aload_n (pc := 43) cx 0 dX10_year_43 rfl rfl ?_
    refine wa_getR (pc := 44) cx fl_X10_26 lk_0 rfl (cx.bl 0 rfl) dX10_year_44 ?_
    refine wa_getI (pc := 47) cx fl_X10_153 lk_8 rfl (cx.bl 8 rfl) dX10_year_47 ?_
    refine wa_icmp_ge (pc := 50) cx 175 dX10_year_50 rfl (fun c7 => ?_) (fun c7 => ?_)
    · have hf := (if_pos c7).symm.trans hf
      obtain rfl := Option.some.inj hf
      refine wa_forget [false, false, true, false, false, false] [none, none, some (.int v2), none, none, none] rfl ?_
      exact hk1
    · have hf := (if_neg c7).symm.trans hf
      refine wa_aload_n (pc := 53) cx 0 dX10_year_53 rfl rfl ?_
      refine wa_getR (pc := 54) cx fl_X10_26 lk_0 rfl (cx.bl 0 rfl) dX10_year_54 ?_
      refine wa_getR (pc := 57) cx fl_X10_162 lk_8 rfl (cx.bl 8 rfl) dX10_year_57 ?_
      refine wa_bipush (pc := 60) (v := 9) cx dX10_year_60 (by decide) ?_
      refine wa_iload (pc := 62) cx 4 dX10_year_62 rfl ?_
      refine wa_iadd (pc := 64) cx dX10_year_64 ?_
      obtain ⟨g8, hf⟩ := gd_some hf
      refine wa_iald (pc := 65) cx lk_14 (cx.bl 14 rfl) g8 dX10_year_65 ?_
      refine wa_if_ne (pc := 66) cx 169 dX10_year_66 rfl (fun c9 => ?_) (fun c9 => ?_)
      · have hf := (if_neg c9).symm.trans hf
        exact j169 _ _ _ _ _ hf hk1
      · have hf := (if_pos c9).symm.trans hf
        refine wa_aload_n (pc := 69) cx 0 dX10_year_69 rfl rfl ?_
        refine wa_getR (pc := 70) cx fl_X10_26 lk_0 rfl (cx.bl 0 rfl) dX10_year_70 ?_
        refine wa_getR (pc := 73) cx fl_X10_197 lk_8 rfl (cx.bl 8 rfl) dX10_year_73 ?_
        refine wa_iload (pc := 76) cx 4 dX10_year_76 rfl ?_
        obtain ⟨g10, hf⟩ := gd_some hf
        refine wa_iald (pc := 78) cx lk_11 (cx.bl 11 rfl) g10 dX10_year_78 ?_
        refine wa_iconst (pc := 79) (v := 2) cx dX10_year_79 (by decide) ?_
        refine wa_icmp_ne (pc := 80) cx 87 dX10_year_80 rfl (fun c11 => ?_) (fun c11 => ?_)
        · have hf := (if_neg c11).symm.trans hf
          refine wa_iconst (pc := 87) (v := 0) cx dX10_year_87 (by decide) ?_
          exact j88 _ _ _ _ _ _ hf hk1
        · have hf := (if_pos c11).symm.trans hf
          refine wa_iconst (pc := 83) (v := 1) cx dX10_year_83 (by decide) ?_
          refine wa_goto (pc := 84) cx 88 dX10_year_84 rfl ?_
          exact j88 _ _ _ _ _ _ hf hk1
  refine wa_aload_n (pc := 0) cx 0 dX10_year_0 rfl rfl ?_
  refine wa_getR (pc := 1) cx fl_X10_26 lk_0 rfl (cx.bl 0 rfl) dX10_year_1 ?_
  refine wa_getI (pc := 4) cx fl_X10_170 lk_8 rfl (cx.bl 8 rfl) dX10_year_4 ?_
  refine wa_if_ne (pc := 7) cx 13 dX10_year_7 rfl (fun c1 => ?_) (fun c1 => ?_)
  · have hf := (if_neg c1).symm.trans hf
    refine wa_iload_n (pc := 13) cx 1 dX10_year_13 rfl rfl ?_
    obtain ⟨q2, h3, hf⟩ := bd_some hf
    refine wa_callSi (pc := 14) cx [.int a1] (ct_X10_isSeed l E _ _ _ h3) ms_X10_isSeed tw_606 rfl rfl (Nat.le_of_ble_eq_true rfl) ⟨Nat.le_of_ble_eq_true rfl, Nat.le_of_ble_eq_true rfl⟩ ⟨Nat.zero_le _, Nat.zero_le _⟩ dX10_year_14 ?_
    refine wa_if_ne (pc := 17) cx 23 dX10_year_17 rfl (fun c4 => ?_) (fun c4 => ?_)
    · have hf := (if_neg c4).symm.trans hf
      refine wa_aload_n (pc := 23) cx 0 dX10_year_23 rfl rfl ?_
      refine wa_getR (pc := 24) cx fl_X10_40 lk_0 rfl (cx.bl 0 rfl) dX10_year_24 ?_
      refine wa_aload_n (pc := 27) cx 0 dX10_year_27 rfl rfl ?_
      refine wa_getR (pc := 28) cx fl_X10_26 lk_0 rfl (cx.bl 0 rfl) dX10_year_28 ?_
      obtain ⟨q5, h6, hf⟩ := bd_some hf
      refine wa_callVv (pc := 31) cx [.ref (eA E 8)] (ct_X0_keep l E _  _ h6) mi_X0_keep tw_567 lk_23 rfl (cx.bl 23 rfl) rfl rfl (Nat.le_of_ble_eq_true rfl) ⟨Nat.le_of_ble_eq_true rfl, Nat.le_of_ble_eq_true rfl⟩ ⟨Nat.zero_le _, Nat.zero_le _⟩ dX10_year_31 ?_
      refine wa_iconst (pc := 34) (v := 0) cx dX10_year_34 (by decide) ?_
      refine wa_istore_n (pc := 35) cx 2 [some (.ref (eA E 0)), some (.int a1), some (.int 0), none, none, none] dX10_year_35 rfl (by decide) rfl rfl ?_
      refine wa_iload_n (pc := 36) cx 1 dX10_year_36 rfl rfl ?_
      refine wa_istore_n (pc := 37) cx 3 [some (.ref (eA E 0)), some (.int a1), some (.int 0), some (.int a1), none, none] dX10_year_37 rfl (by decide) rfl rfl ?_
      refine wa_iconst (pc := 38) (v := 0) cx dX10_year_38 (by decide) ?_
      refine wa_istore (pc := 39) cx 4 [some (.ref (eA E 0)), some (.int a1), some (.int 0), some (.int a1), some (.int 0), none] dX10_year_39 (by decide) rfl rfl ?_
      refine wa_forget [true, false, true, true, true, false] [some (.ref (eA E 0)), none, some (.int 0), some (.int a1), some (.int 0), none] rfl ?_
      obtain ⟨o23, h24, hf⟩ := bd_some hf
      refine l41  _ _ h24 ?_
      refine wa_iload_n (pc := 175) cx 2 dX10_year_175 rfl rfl ?_
      obtain rfl := Option.some.inj hf
      exact wa_iret (pc := 176) cx dX10_year_176
    · have hf := (if_pos c4).symm.trans hf
      refine wa_ldc (pc := 20) (v := (-1000001)) cx dX10_year_20 tw_353 ?_
      obtain rfl := Option.some.inj hf
      exact wa_iret (pc := 22) cx dX10_year_22
  · have hf := (if_pos c1).symm.trans hf
    refine wa_ldc (pc := 10) (v := (-1000002)) cx dX10_year_10 tw_579 ?_
    obtain rfl := Option.some.inj hf
    exact wa_iret (pc := 12) cx dX10_year_12
def fX10_undo  (σ : Sg) : Option (Int32 × Sg) :=
  if gf σ 23 2 = 0 then (some ((-1000002), σ)) else ((fX0_takeBack  σ).bind (fun q2 =>
  some (gf q2 23 2, q2)))
set_option maxHeartbeats 4000000 in
set_option maxRecDepth 100000 in
theorem ct_X10_undo (l : Launch) (E : En) (σ : Sg)  (q : Int32 × Sg) (hf : fX10_undo  σ = some q) : CT l yX10_undo cX10_undo 1 (some .int) 2 E σ [.ref (eA E 0)] (some (.int q.1)) q.2 := by
  refine CT.of RX10 [some (.ref (eA E 0))] rfl (by decide +kernel) (Nat.le_of_ble_eq_true rfl) rfl ?_
  intro p e s m args below meth c cx
  unfold fX10_undo at hf
  refine wa_aload_n (pc := 0) cx 0 dX10_undo_0 rfl rfl ?_
  refine wa_getR (pc := 1) cx fl_X10_40 lk_0 rfl (cx.bl 0 rfl) dX10_undo_1 ?_
  refine wa_getI (pc := 4) cx fl_X10_208 lk_23 rfl (cx.bl 23 rfl) dX10_undo_4 ?_
  refine wa_if_ne (pc := 7) cx 13 dX10_undo_7 rfl (fun c1 => ?_) (fun c1 => ?_)
  · have hf := (if_neg c1).symm.trans hf
    refine wa_aload_n (pc := 13) cx 0 dX10_undo_13 rfl rfl ?_
    refine wa_getR (pc := 14) cx fl_X10_40 lk_0 rfl (cx.bl 0 rfl) dX10_undo_14 ?_
    refine wa_aload_n (pc := 17) cx 0 dX10_undo_17 rfl rfl ?_
    refine wa_getR (pc := 18) cx fl_X10_26 lk_0 rfl (cx.bl 0 rfl) dX10_undo_18 ?_
    obtain ⟨q2, h3, hf⟩ := bd_some hf
    refine wa_callVv (pc := 21) cx [.ref (eA E 8)] (ct_X0_takeBack l E _  _ h3) mi_X0_takeBack tw_666 lk_23 rfl (cx.bl 23 rfl) rfl rfl (Nat.le_of_ble_eq_true rfl) ⟨Nat.le_of_ble_eq_true rfl, Nat.le_of_ble_eq_true rfl⟩ ⟨Nat.zero_le _, Nat.zero_le _⟩ dX10_undo_21 ?_
    refine wa_aload_n (pc := 24) cx 0 dX10_undo_24 rfl rfl ?_
    refine wa_getR (pc := 25) cx fl_X10_40 lk_0 rfl (cx.bl 0 rfl) dX10_undo_25 ?_
    refine wa_getI (pc := 28) cx fl_X10_208 lk_23 rfl (cx.bl 23 rfl) dX10_undo_28 ?_
    obtain rfl := Option.some.inj hf
    exact wa_iret (pc := 31) cx dX10_undo_31
  · have hf := (if_pos c1).symm.trans hf
    refine wa_ldc (pc := 10) (v := (-1000002)) cx dX10_undo_10 tw_579 ?_
    obtain rfl := Option.some.inj hf
    exact wa_iret (pc := 12) cx dX10_undo_12
