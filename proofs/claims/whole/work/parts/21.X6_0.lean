def fX6_takeNumber_J45  (σ : Sg) : Option (Int32 × Sg) :=
  some (0, sup σ 5 1 2)
def fX6_takeNumber (a1 : Int32) (a2 : Int32) (σ : Sg) : Option (Int32 × Sg) :=
  if gf σ 5 1 = 0 then (if gf σ 6 2 = 2 then (if gf σ 6 4 < a1 then (fX6_takeNumber_J45  σ) else (if gf σ 6 4 ≤ a2 then ((fX8_next  σ).bind (fun q5 =>
  some (gf σ 6 4, q5))) else (fX6_takeNumber_J45  σ))) else (some (0, sup σ 5 1 1))) else (some (0, σ))
set_option maxHeartbeats 4000000 in
set_option maxRecDepth 100000 in
theorem ct_X6_takeNumber (l : Launch) (E : En) (σ : Sg) (a1 : Int32) (a2 : Int32) (q : Int32 × Sg) (hf : fX6_takeNumber a1 a2 σ = some q) : CT l yX6_takeNumber cX6_takeNumber 4 (some .int) 3 E σ [.ref (eA E 5), .int a1, .int a2] (some (.int q.1)) q.2 := by
  refine CT.of RX6 [some (.ref (eA E 5)), some (.int a1), some (.int a2), none] rfl (by decide +kernel) (Nat.le_of_ble_eq_true rfl) rfl ?_
  intro p e s m args below meth c cx
  unfold fX6_takeNumber at hf
  have j45 : ∀  (σ : Sg), fX6_takeNumber_J45  σ = some q → WA p l e (rmd 3) s m args below meth c 4 E 0 0 (MQ below (Qcq E s.heap.size (some (.int q.1)) q.2) args s 0 0 (AE E s.heap.size)) 45 [some (.ref (eA E 5)), none, none, none] [] σ := by
    intro  σ hf
    unfold fX6_takeNumber_J45 at hf
    refine wa_aload_n (pc := 45) cx 0 dX6_takeNumber_45 rfl rfl ?_
    refine wa_iconst (pc := 46) (v := 2) cx dX6_takeNumber_46 (by decide) ?_
    refine wa_putI (pc := 47) cx fp_X6_18 lk_5 rfl (cx.bl 5 rfl) dX6_takeNumber_47 ?_
    refine wa_iconst (pc := 50) (v := 0) cx dX6_takeNumber_50 (by decide) ?_
    obtain rfl := Option.some.inj hf
    exact wa_iret (pc := 51) cx dX6_takeNumber_51
  refine wa_aload_n (pc := 0) cx 0 dX6_takeNumber_0 rfl rfl ?_
  refine wa_getI (pc := 1) cx fl_X6_18 lk_5 rfl (cx.bl 5 rfl) dX6_takeNumber_1 ?_
  refine wa_if_eq (pc := 4) cx 9 dX6_takeNumber_4 rfl (fun c1 => ?_) (fun c1 => ?_)
  · have hf := (if_pos c1).symm.trans hf
    refine wa_aload_n (pc := 9) cx 0 dX6_takeNumber_9 rfl rfl ?_
    refine wa_getR (pc := 10) cx fl_X6_12 lk_5 rfl (cx.bl 5 rfl) dX6_takeNumber_10 ?_
    refine wa_getI (pc := 13) cx fl_X6_48 lk_6 rfl (cx.bl 6 rfl) dX6_takeNumber_13 ?_
    refine wa_iconst (pc := 16) (v := 2) cx dX6_takeNumber_16 (by decide) ?_
    refine wa_icmp_eq (pc := 17) cx 27 dX6_takeNumber_17 rfl (fun c2 => ?_) (fun c2 => ?_)
    · have hf := (if_pos c2).symm.trans hf
      refine wa_aload_n (pc := 27) cx 0 dX6_takeNumber_27 rfl rfl ?_
      refine wa_getR (pc := 28) cx fl_X6_12 lk_5 rfl (cx.bl 5 rfl) dX6_takeNumber_28 ?_
      refine wa_getI (pc := 31) cx fl_X6_106 lk_6 rfl (cx.bl 6 rfl) dX6_takeNumber_31 ?_
      refine wa_istore_n (pc := 34) cx 3 [some (.ref (eA E 5)), some (.int a1), some (.int a2), some (.int (gf σ 6 4))] dX6_takeNumber_34 rfl (by decide) rfl rfl ?_
      refine wa_iload_n (pc := 35) cx 3 dX6_takeNumber_35 rfl rfl ?_
      refine wa_iload_n (pc := 36) cx 1 dX6_takeNumber_36 rfl rfl ?_
      refine wa_icmp_lt (pc := 37) cx 45 dX6_takeNumber_37 rfl (fun c3 => ?_) (fun c3 => ?_)
      · have hf := (if_pos c3).symm.trans hf
        refine wa_forget [true, false, false, false] [some (.ref (eA E 5)), none, none, none] rfl ?_
        exact j45  _ hf
      · have hf := (if_neg c3).symm.trans hf
        refine wa_iload_n (pc := 40) cx 3 dX6_takeNumber_40 rfl rfl ?_
        refine wa_iload_n (pc := 41) cx 2 dX6_takeNumber_41 rfl rfl ?_
        refine wa_icmp_le (pc := 42) cx 52 dX6_takeNumber_42 rfl (fun c4 => ?_) (fun c4 => ?_)
        · have hf := (if_pos c4).symm.trans hf
          refine wa_aload_n (pc := 52) cx 0 dX6_takeNumber_52 rfl rfl ?_
          refine wa_getR (pc := 53) cx fl_X6_12 lk_5 rfl (cx.bl 5 rfl) dX6_takeNumber_53 ?_
          obtain ⟨q5, h6, hf⟩ := bd_some hf
          refine wa_callVv (pc := 56) cx [] (ct_X8_next l E _  _ h6) mi_X8_next tw_517 lk_6 rfl (cx.bl 6 rfl) rfl rfl (Nat.le_of_ble_eq_true rfl) ⟨Nat.le_of_ble_eq_true rfl, Nat.le_of_ble_eq_true rfl⟩ ⟨Nat.zero_le _, Nat.zero_le _⟩ dX6_takeNumber_56 ?_
          refine wa_iload_n (pc := 59) cx 3 dX6_takeNumber_59 rfl rfl ?_
          obtain rfl := Option.some.inj hf
          exact wa_iret (pc := 60) cx dX6_takeNumber_60
        · have hf := (if_neg c4).symm.trans hf
          refine wa_forget [true, false, false, false] [some (.ref (eA E 5)), none, none, none] rfl ?_
          exact j45  _ hf
    · have hf := (if_neg c2).symm.trans hf
      refine wa_aload_n (pc := 20) cx 0 dX6_takeNumber_20 rfl rfl ?_
      refine wa_iconst (pc := 21) (v := 1) cx dX6_takeNumber_21 (by decide) ?_
      refine wa_putI (pc := 22) cx fp_X6_18 lk_5 rfl (cx.bl 5 rfl) dX6_takeNumber_22 ?_
      refine wa_iconst (pc := 25) (v := 0) cx dX6_takeNumber_25 (by decide) ?_
      obtain rfl := Option.some.inj hf
      exact wa_iret (pc := 26) cx dX6_takeNumber_26
  · have hf := (if_neg c1).symm.trans hf
    refine wa_iconst (pc := 7) (v := 0) cx dX6_takeNumber_7 (by decide) ?_
    obtain rfl := Option.some.inj hf
    exact wa_iret (pc := 8) cx dX6_takeNumber_8
def fX6_takeSign  (σ : Sg) : Option (Sg) :=
  if gf σ 5 1 = 0 then (if gf σ 6 2 = 3 then ((fX8_next  σ).bind (fun q3 =>
  some q3)) else (some (sup σ 5 1 1))) else (some σ)
set_option maxHeartbeats 4000000 in
set_option maxRecDepth 100000 in
theorem ct_X6_takeSign (l : Launch) (E : En) (σ : Sg)  (q : Sg) (hf : fX6_takeSign  σ = some q) : CT l yX6_takeSign cX6_takeSign 1 none 3 E σ [.ref (eA E 5)] none q := by
  refine CT.of RX6 [some (.ref (eA E 5))] rfl (by decide +kernel) (Nat.le_of_ble_eq_true rfl) rfl ?_
  intro p e s m args below meth c cx
  unfold fX6_takeSign at hf
  refine wa_aload_n (pc := 0) cx 0 dX6_takeSign_0 rfl rfl ?_
  refine wa_getI (pc := 1) cx fl_X6_18 lk_5 rfl (cx.bl 5 rfl) dX6_takeSign_1 ?_
  refine wa_if_eq (pc := 4) cx 8 dX6_takeSign_4 rfl (fun c1 => ?_) (fun c1 => ?_)
  · have hf := (if_pos c1).symm.trans hf
    refine wa_aload_n (pc := 8) cx 0 dX6_takeSign_8 rfl rfl ?_
    refine wa_getR (pc := 9) cx fl_X6_12 lk_5 rfl (cx.bl 5 rfl) dX6_takeSign_9 ?_
    refine wa_getI (pc := 12) cx fl_X6_48 lk_6 rfl (cx.bl 6 rfl) dX6_takeSign_12 ?_
    refine wa_iconst (pc := 15) (v := 3) cx dX6_takeSign_15 (by decide) ?_
    refine wa_icmp_eq (pc := 16) cx 25 dX6_takeSign_16 rfl (fun c2 => ?_) (fun c2 => ?_)
    · have hf := (if_pos c2).symm.trans hf
      refine wa_aload_n (pc := 25) cx 0 dX6_takeSign_25 rfl rfl ?_
      refine wa_getR (pc := 26) cx fl_X6_12 lk_5 rfl (cx.bl 5 rfl) dX6_takeSign_26 ?_
      obtain ⟨q3, h4, hf⟩ := bd_some hf
      refine wa_callVv (pc := 29) cx [] (ct_X8_next l E _  _ h4) mi_X8_next tw_517 lk_6 rfl (cx.bl 6 rfl) rfl rfl (Nat.le_of_ble_eq_true rfl) ⟨Nat.le_of_ble_eq_true rfl, Nat.le_of_ble_eq_true rfl⟩ ⟨Nat.zero_le _, Nat.zero_le _⟩ dX6_takeSign_29 ?_
      obtain rfl := Option.some.inj hf
      exact wa_vret (pc := 32) cx dX6_takeSign_32
    · have hf := (if_neg c2).symm.trans hf
      refine wa_aload_n (pc := 19) cx 0 dX6_takeSign_19 rfl rfl ?_
      refine wa_iconst (pc := 20) (v := 1) cx dX6_takeSign_20 (by decide) ?_
      refine wa_putI (pc := 21) cx fp_X6_18 lk_5 rfl (cx.bl 5 rfl) dX6_takeSign_21 ?_
      obtain rfl := Option.some.inj hf
      exact wa_vret (pc := 24) cx dX6_takeSign_24
  · have hf := (if_neg c1).symm.trans hf
    obtain rfl := Option.some.inj hf
    exact wa_vret (pc := 7) cx dX6_takeSign_7
def fX6_readLaw  (σ : Sg) : Option (Sg) :=
  (fX8_isWord_6_K0  σ).bind (fun q1 =>
  if q1.1 = 0 then (some (sup q1.2 5 1 1)) else ((fX8_next  q1.2).bind (fun q4 =>
  (fX6_takeNumber 1 50 q4).bind (fun q6 =>
  (fX6_takeNumber 0 20 (sup q6.2 15 1 q6.1)).bind (fun q8 =>
  (fX6_takeSign  (sup q8.2 15 2 q8.1)).bind (fun q10 =>
  some q10))))))
set_option maxHeartbeats 4000000 in
set_option maxRecDepth 100000 in
theorem ct_X6_readLaw (l : Launch) (E : En) (σ : Sg)  (q : Sg) (hf : fX6_readLaw  σ = some q) : CT l yX6_readLaw cX6_readLaw 2 none 5 E σ [.ref (eA E 5), .ref (eA E 15)] none q := by
  refine CT.of RX6 [some (.ref (eA E 5)), some (.ref (eA E 15))] rfl (by decide +kernel) (Nat.le_of_ble_eq_true rfl) rfl ?_
  intro p e s m args below meth c cx
  unfold fX6_readLaw at hf
  refine wa_aload_n (pc := 0) cx 0 dX6_readLaw_0 rfl rfl ?_
  refine wa_getR (pc := 1) cx fl_X6_12 lk_5 rfl (cx.bl 5 rfl) dX6_readLaw_1 ?_
  refine wa_ldcS (pc := 4) cx 0 (by decide) dX6_readLaw_4 rfl ?_
  obtain ⟨q1, h2, hf⟩ := bd_some hf
  refine wa_callVi (pc := 6) cx [.ref (eK E 0)] (ct_X8_isWord_6_K0 l E _  _ h2) mi_X8_isWord tw_465 lk_6 rfl (cx.bl 6 rfl) rfl rfl (Nat.le_of_ble_eq_true rfl) ⟨Nat.le_of_ble_eq_true rfl, Nat.le_of_ble_eq_true rfl⟩ ⟨Nat.zero_le _, Nat.zero_le _⟩ dX6_readLaw_6 ?_
  refine wa_if_ne (pc := 9) cx 18 dX6_readLaw_9 rfl (fun c3 => ?_) (fun c3 => ?_)
  · have hf := (if_neg c3).symm.trans hf
    refine wa_aload_n (pc := 18) cx 0 dX6_readLaw_18 rfl rfl ?_
    refine wa_getR (pc := 19) cx fl_X6_12 lk_5 rfl (cx.bl 5 rfl) dX6_readLaw_19 ?_
    obtain ⟨q4, h5, hf⟩ := bd_some hf
    refine wa_callVv (pc := 22) cx [] (ct_X8_next l E _  _ h5) mi_X8_next tw_517 lk_6 rfl (cx.bl 6 rfl) rfl rfl (Nat.le_of_ble_eq_true rfl) ⟨Nat.le_of_ble_eq_true rfl, Nat.le_of_ble_eq_true rfl⟩ ⟨Nat.zero_le _, Nat.zero_le _⟩ dX6_readLaw_22 ?_
    refine wa_aload_n (pc := 25) cx 1 dX6_readLaw_25 rfl rfl ?_
    refine wa_aload_n (pc := 26) cx 0 dX6_readLaw_26 rfl rfl ?_
    refine wa_iconst (pc := 27) (v := 1) cx dX6_readLaw_27 (by decide) ?_
    refine wa_bipush (pc := 28) (v := 50) cx dX6_readLaw_28 (by decide) ?_
    obtain ⟨q6, h7, hf⟩ := bd_some hf
    refine wa_callVi (pc := 30) cx [.int 1, .int 50] (ct_X6_takeNumber l E _ _ _ _ h7) mi_X6_takeNumber tw_518 lk_5 rfl (cx.bl 5 rfl) rfl rfl (Nat.le_of_ble_eq_true rfl) ⟨Nat.le_of_ble_eq_true rfl, Nat.le_of_ble_eq_true rfl⟩ ⟨Nat.zero_le _, Nat.zero_le _⟩ dX6_readLaw_30 ?_
    refine wa_putI (pc := 33) cx fp_X6_60 lk_15 rfl (cx.bl 15 rfl) dX6_readLaw_33 ?_
    refine wa_aload_n (pc := 36) cx 1 dX6_readLaw_36 rfl rfl ?_
    refine wa_aload_n (pc := 37) cx 0 dX6_readLaw_37 rfl rfl ?_
    refine wa_iconst (pc := 38) (v := 0) cx dX6_readLaw_38 (by decide) ?_
    refine wa_bipush (pc := 39) (v := 20) cx dX6_readLaw_39 (by decide) ?_
    obtain ⟨q8, h9, hf⟩ := bd_some hf
    refine wa_callVi (pc := 41) cx [.int 0, .int 20] (ct_X6_takeNumber l E _ _ _ _ h9) mi_X6_takeNumber tw_518 lk_5 rfl (cx.bl 5 rfl) rfl rfl (Nat.le_of_ble_eq_true rfl) ⟨Nat.le_of_ble_eq_true rfl, Nat.le_of_ble_eq_true rfl⟩ ⟨Nat.zero_le _, Nat.zero_le _⟩ dX6_readLaw_41 ?_
    refine wa_putI (pc := 44) cx fp_X6_63 lk_15 rfl (cx.bl 15 rfl) dX6_readLaw_44 ?_
    refine wa_aload_n (pc := 47) cx 0 dX6_readLaw_47 rfl rfl ?_
    obtain ⟨q10, h11, hf⟩ := bd_some hf
    refine wa_callVv (pc := 48) cx [] (ct_X6_takeSign l E _  _ h11) mi_X6_takeSign tw_522 lk_5 rfl (cx.bl 5 rfl) rfl rfl (Nat.le_of_ble_eq_true rfl) ⟨Nat.le_of_ble_eq_true rfl, Nat.le_of_ble_eq_true rfl⟩ ⟨Nat.zero_le _, Nat.zero_le _⟩ dX6_readLaw_48 ?_
    obtain rfl := Option.some.inj hf
    exact wa_vret (pc := 51) cx dX6_readLaw_51
  · have hf := (if_pos c3).symm.trans hf
    refine wa_aload_n (pc := 12) cx 0 dX6_readLaw_12 rfl rfl ?_
    refine wa_iconst (pc := 13) (v := 1) cx dX6_readLaw_13 (by decide) ?_
    refine wa_putI (pc := 14) cx fp_X6_18 lk_5 rfl (cx.bl 5 rfl) dX6_readLaw_14 ?_
    obtain rfl := Option.some.inj hf
    exact wa_vret (pc := 17) cx dX6_readLaw_17
def fX6_readSpeaker  (σ : Sg) : Option (Sg) :=
  if gf σ 15 3 < 5 then ((fX8_next  σ).bind (fun q2 =>
  (fX6_takeNumber 0 10 q2).bind (fun q4 =>
  gd (inb (gf q2 15 3) 5) (
  (fX6_takeNumber 0 99 (sa q4.2 16 (gf q2 15 3) q4.1)).bind (fun q7 =>
  gd (inb (gf (sa q4.2 16 (gf q2 15 3) q4.1) 15 3) 5) (
  (fX6_takeSign  (sa q7.2 17 (gf (sa q4.2 16 (gf q2 15 3) q4.1) 15 3) q7.1)).bind (fun q10 =>
  some (sup q10 15 3 (gf q10 15 3 + 1))))))))) else (some (sup σ 5 1 3))
set_option maxHeartbeats 4000000 in
set_option maxRecDepth 100000 in
theorem ct_X6_readSpeaker (l : Launch) (E : En) (σ : Sg)  (q : Sg) (hf : fX6_readSpeaker  σ = some q) : CT l yX6_readSpeaker cX6_readSpeaker 2 none 4 E σ [.ref (eA E 5), .ref (eA E 15)] none q := by
  refine CT.of RX6 [some (.ref (eA E 5)), some (.ref (eA E 15))] rfl (by decide +kernel) (Nat.le_of_ble_eq_true rfl) rfl ?_
  intro p e s m args below meth c cx
  unfold fX6_readSpeaker at hf
  refine wa_aload_n (pc := 0) cx 1 dX6_readSpeaker_0 rfl rfl ?_
  refine wa_getI (pc := 1) cx fl_X6_69 lk_15 rfl (cx.bl 15 rfl) dX6_readSpeaker_1 ?_
  refine wa_iconst (pc := 4) (v := 5) cx dX6_readSpeaker_4 (by decide) ?_
  refine wa_icmp_lt (pc := 5) cx 14 dX6_readSpeaker_5 rfl (fun c1 => ?_) (fun c1 => ?_)
  · have hf := (if_pos c1).symm.trans hf
    refine wa_aload_n (pc := 14) cx 0 dX6_readSpeaker_14 rfl rfl ?_
    refine wa_getR (pc := 15) cx fl_X6_12 lk_5 rfl (cx.bl 5 rfl) dX6_readSpeaker_15 ?_
    obtain ⟨q2, h3, hf⟩ := bd_some hf
    refine wa_callVv (pc := 18) cx [] (ct_X8_next l E _  _ h3) mi_X8_next tw_517 lk_6 rfl (cx.bl 6 rfl) rfl rfl (Nat.le_of_ble_eq_true rfl) ⟨Nat.le_of_ble_eq_true rfl, Nat.le_of_ble_eq_true rfl⟩ ⟨Nat.zero_le _, Nat.zero_le _⟩ dX6_readSpeaker_18 ?_
    refine wa_aload_n (pc := 21) cx 1 dX6_readSpeaker_21 rfl rfl ?_
    refine wa_getR (pc := 22) cx fl_X6_72 lk_15 rfl (cx.bl 15 rfl) dX6_readSpeaker_22 ?_
    refine wa_aload_n (pc := 25) cx 1 dX6_readSpeaker_25 rfl rfl ?_
    refine wa_getI (pc := 26) cx fl_X6_69 lk_15 rfl (cx.bl 15 rfl) dX6_readSpeaker_26 ?_
    refine wa_aload_n (pc := 29) cx 0 dX6_readSpeaker_29 rfl rfl ?_
    refine wa_iconst (pc := 30) (v := 0) cx dX6_readSpeaker_30 (by decide) ?_
    refine wa_bipush (pc := 31) (v := 10) cx dX6_readSpeaker_31 (by decide) ?_
    obtain ⟨q4, h5, hf⟩ := bd_some hf
    refine wa_callVi (pc := 33) cx [.int 0, .int 10] (ct_X6_takeNumber l E _ _ _ _ h5) mi_X6_takeNumber tw_518 lk_5 rfl (cx.bl 5 rfl) rfl rfl (Nat.le_of_ble_eq_true rfl) ⟨Nat.le_of_ble_eq_true rfl, Nat.le_of_ble_eq_true rfl⟩ ⟨Nat.zero_le _, Nat.zero_le _⟩ dX6_readSpeaker_33 ?_
    obtain ⟨g6, hf⟩ := gd_some hf
    refine wa_iast (pc := 36) cx lk_16 (cx.bl 16 rfl) g6 dX6_readSpeaker_36 ?_
    refine wa_aload_n (pc := 37) cx 1 dX6_readSpeaker_37 rfl rfl ?_
    refine wa_getR (pc := 38) cx fl_X6_76 lk_15 rfl (cx.bl 15 rfl) dX6_readSpeaker_38 ?_
    refine wa_aload_n (pc := 41) cx 1 dX6_readSpeaker_41 rfl rfl ?_
    refine wa_getI (pc := 42) cx fl_X6_69 lk_15 rfl (cx.bl 15 rfl) dX6_readSpeaker_42 ?_
    refine wa_aload_n (pc := 45) cx 0 dX6_readSpeaker_45 rfl rfl ?_
    refine wa_iconst (pc := 46) (v := 0) cx dX6_readSpeaker_46 (by decide) ?_
    refine wa_bipush (pc := 47) (v := 99) cx dX6_readSpeaker_47 (by decide) ?_
    obtain ⟨q7, h8, hf⟩ := bd_some hf
    refine wa_callVi (pc := 49) cx [.int 0, .int 99] (ct_X6_takeNumber l E _ _ _ _ h8) mi_X6_takeNumber tw_518 lk_5 rfl (cx.bl 5 rfl) rfl rfl (Nat.le_of_ble_eq_true rfl) ⟨Nat.le_of_ble_eq_true rfl, Nat.le_of_ble_eq_true rfl⟩ ⟨Nat.zero_le _, Nat.zero_le _⟩ dX6_readSpeaker_49 ?_
    obtain ⟨g9, hf⟩ := gd_some hf
    refine wa_iast (pc := 52) cx lk_17 (cx.bl 17 rfl) g9 dX6_readSpeaker_52 ?_
    refine wa_aload_n (pc := 53) cx 0 dX6_readSpeaker_53 rfl rfl ?_
    obtain ⟨q10, h11, hf⟩ := bd_some hf
    refine wa_callVv (pc := 54) cx [] (ct_X6_takeSign l E _  _ h11) mi_X6_takeSign tw_522 lk_5 rfl (cx.bl 5 rfl) rfl rfl (Nat.le_of_ble_eq_true rfl) ⟨Nat.le_of_ble_eq_true rfl, Nat.le_of_ble_eq_true rfl⟩ ⟨Nat.zero_le _, Nat.zero_le _⟩ dX6_readSpeaker_54 ?_
    refine wa_aload_n (pc := 57) cx 1 dX6_readSpeaker_57 rfl rfl ?_
    refine wa_dup (pc := 58) cx dX6_readSpeaker_58 rfl ?_
    refine wa_getI (pc := 59) cx fl_X6_69 lk_15 rfl (cx.bl 15 rfl) dX6_readSpeaker_59 ?_
    refine wa_iconst (pc := 62) (v := 1) cx dX6_readSpeaker_62 (by decide) ?_
    refine wa_iadd (pc := 63) cx dX6_readSpeaker_63 ?_
    refine wa_putI (pc := 64) cx fp_X6_69 lk_15 rfl (cx.bl 15 rfl) dX6_readSpeaker_64 ?_
    obtain rfl := Option.some.inj hf
    exact wa_vret (pc := 67) cx dX6_readSpeaker_67
  · have hf := (if_neg c1).symm.trans hf
    refine wa_aload_n (pc := 8) cx 0 dX6_readSpeaker_8 rfl rfl ?_
    refine wa_iconst (pc := 9) (v := 3) cx dX6_readSpeaker_9 (by decide) ?_
    refine wa_putI (pc := 10) cx fp_X6_18 lk_5 rfl (cx.bl 5 rfl) dX6_readSpeaker_10 ?_
    obtain rfl := Option.some.inj hf
    exact wa_vret (pc := 13) cx dX6_readSpeaker_13
def fX6_takeSort_J101 (v1 : Int32) (σ : Sg) : Option (Int32 × Sg) :=
  some (v1, σ)
def fX6_takeSort_J81 (t0 : Int32) (σ : Sg) : Option (Int32 × Sg) :=
  if t0 = 0 then (fX6_takeSort_J101 t0 (sup σ 5 1 1)) else ((fX8_next  σ).bind (fun q17 =>
  fX6_takeSort_J101 t0 q17))
def fX6_takeSort  (σ : Sg) : Option (Int32 × Sg) :=
  (fX8_isWord_6_K3  σ).bind (fun q1 =>
  if q1.1 = 0 then ((fX8_isWord_6_K4  q1.2).bind (fun q4 =>
  if q4.1 = 0 then ((fX8_isWord_6_K5  q4.2).bind (fun q7 =>
  if q7.1 = 0 then ((fX8_isWord_6_K6  q7.2).bind (fun q10 =>
  if q10.1 = 0 then ((fX8_isWord_6_K7  q10.2).bind (fun q13 =>
  if q13.1 = 0 then (fX6_takeSort_J81 0 q13.2) else (fX6_takeSort_J81 5 q13.2))) else (fX6_takeSort_J81 4 q10.2))) else (fX6_takeSort_J81 3 q7.2))) else (fX6_takeSort_J81 2 q4.2))) else (fX6_takeSort_J81 1 q1.2))
set_option maxHeartbeats 4000000 in
set_option maxRecDepth 100000 in
theorem ct_X6_takeSort (l : Launch) (E : En) (σ : Sg)  (q : Int32 × Sg) (hf : fX6_takeSort  σ = some q) : CT l yX6_takeSort cX6_takeSort 2 (some .int) 5 E σ [.ref (eA E 5)] (some (.int q.1)) q.2 := by
  refine CT.of RX6 [some (.ref (eA E 5)), none] rfl (by decide +kernel) (Nat.le_of_ble_eq_true rfl) rfl ?_
  intro p e s m args below meth c cx
  unfold fX6_takeSort at hf
  have j101 : ∀ (v1 : Int32) (σ : Sg), fX6_takeSort_J101 v1 σ = some q → WA p l e (rmd 5) s m args below meth c 2 E 0 0 (MQ below (Qcq E s.heap.size (some (.int q.1)) q.2) args s 0 0 (AE E s.heap.size)) 101 [none, some (.int v1)] [] σ := by
    intro v1 σ hf
    unfold fX6_takeSort_J101 at hf
    refine wa_iload_n (pc := 101) cx 1 dX6_takeSort_101 rfl rfl ?_
    obtain rfl := Option.some.inj hf
    exact wa_iret (pc := 102) cx dX6_takeSort_102
  have j81 : ∀ (t0 : Int32) (σ : Sg), fX6_takeSort_J81 t0 σ = some q → WA p l e (rmd 5) s m args below meth c 2 E 0 0 (MQ below (Qcq E s.heap.size (some (.int q.1)) q.2) args s 0 0 (AE E s.heap.size)) 81 [some (.ref (eA E 5)), none] [.int t0] σ := by
    intro t0 σ hf
    unfold fX6_takeSort_J81 at hf
    refine wa_istore_n (pc := 81) cx 1 [some (.ref (eA E 5)), some (.int t0)] dX6_takeSort_81 rfl (by decide) rfl rfl ?_
    refine wa_iload_n (pc := 82) cx 1 dX6_takeSort_82 rfl rfl ?_
    refine wa_if_ne (pc := 83) cx 94 dX6_takeSort_83 rfl (fun c16 => ?_) (fun c16 => ?_)
    · have hf := (if_neg c16).symm.trans hf
      refine wa_aload_n (pc := 94) cx 0 dX6_takeSort_94 rfl rfl ?_
      refine wa_getR (pc := 95) cx fl_X6_12 lk_5 rfl (cx.bl 5 rfl) dX6_takeSort_95 ?_
      obtain ⟨q17, h18, hf⟩ := bd_some hf
      refine wa_callVv (pc := 98) cx [] (ct_X8_next l E _  _ h18) mi_X8_next tw_517 lk_6 rfl (cx.bl 6 rfl) rfl rfl (Nat.le_of_ble_eq_true rfl) ⟨Nat.le_of_ble_eq_true rfl, Nat.le_of_ble_eq_true rfl⟩ ⟨Nat.zero_le _, Nat.zero_le _⟩ dX6_takeSort_98 ?_
      refine wa_forget [false, true] [none, some (.int t0)] rfl ?_
      exact j101 _ _ hf
    · have hf := (if_pos c16).symm.trans hf
      refine wa_aload_n (pc := 86) cx 0 dX6_takeSort_86 rfl rfl ?_
      refine wa_iconst (pc := 87) (v := 1) cx dX6_takeSort_87 (by decide) ?_
      refine wa_putI (pc := 88) cx fp_X6_18 lk_5 rfl (cx.bl 5 rfl) dX6_takeSort_88 ?_
      refine wa_goto (pc := 91) cx 101 dX6_takeSort_91 rfl ?_
      refine wa_forget [false, true] [none, some (.int t0)] rfl ?_
      exact j101 _ _ hf
  refine wa_aload_n (pc := 0) cx 0 dX6_takeSort_0 rfl rfl ?_
  refine wa_getR (pc := 1) cx fl_X6_12 lk_5 rfl (cx.bl 5 rfl) dX6_takeSort_1 ?_
  refine wa_ldcS (pc := 4) cx 3 (by decide) dX6_takeSort_4 rfl ?_
  obtain ⟨q1, h2, hf⟩ := bd_some hf
  refine wa_callVi (pc := 6) cx [.ref (eK E 3)] (ct_X8_isWord_6_K3 l E _  _ h2) mi_X8_isWord tw_465 lk_6 rfl (cx.bl 6 rfl) rfl rfl (Nat.le_of_ble_eq_true rfl) ⟨Nat.le_of_ble_eq_true rfl, Nat.le_of_ble_eq_true rfl⟩ ⟨Nat.zero_le _, Nat.zero_le _⟩ dX6_takeSort_6 ?_
  refine wa_if_eq (pc := 9) cx 16 dX6_takeSort_9 rfl (fun c3 => ?_) (fun c3 => ?_)
  · have hf := (if_pos c3).symm.trans hf
    refine wa_aload_n (pc := 16) cx 0 dX6_takeSort_16 rfl rfl ?_
    refine wa_getR (pc := 17) cx fl_X6_12 lk_5 rfl (cx.bl 5 rfl) dX6_takeSort_17 ?_
    refine wa_ldcS (pc := 20) cx 4 (by decide) dX6_takeSort_20 rfl ?_
    obtain ⟨q4, h5, hf⟩ := bd_some hf
    refine wa_callVi (pc := 22) cx [.ref (eK E 4)] (ct_X8_isWord_6_K4 l E _  _ h5) mi_X8_isWord tw_465 lk_6 rfl (cx.bl 6 rfl) rfl rfl (Nat.le_of_ble_eq_true rfl) ⟨Nat.le_of_ble_eq_true rfl, Nat.le_of_ble_eq_true rfl⟩ ⟨Nat.zero_le _, Nat.zero_le _⟩ dX6_takeSort_22 ?_
    refine wa_if_eq (pc := 25) cx 32 dX6_takeSort_25 rfl (fun c6 => ?_) (fun c6 => ?_)
    · have hf := (if_pos c6).symm.trans hf
      refine wa_aload_n (pc := 32) cx 0 dX6_takeSort_32 rfl rfl ?_
      refine wa_getR (pc := 33) cx fl_X6_12 lk_5 rfl (cx.bl 5 rfl) dX6_takeSort_33 ?_
      refine wa_ldcS (pc := 36) cx 5 (by decide) dX6_takeSort_36 rfl ?_
      obtain ⟨q7, h8, hf⟩ := bd_some hf
      refine wa_callVi (pc := 38) cx [.ref (eK E 5)] (ct_X8_isWord_6_K5 l E _  _ h8) mi_X8_isWord tw_465 lk_6 rfl (cx.bl 6 rfl) rfl rfl (Nat.le_of_ble_eq_true rfl) ⟨Nat.le_of_ble_eq_true rfl, Nat.le_of_ble_eq_true rfl⟩ ⟨Nat.zero_le _, Nat.zero_le _⟩ dX6_takeSort_38 ?_
      refine wa_if_eq (pc := 41) cx 48 dX6_takeSort_41 rfl (fun c9 => ?_) (fun c9 => ?_)
      · have hf := (if_pos c9).symm.trans hf
        refine wa_aload_n (pc := 48) cx 0 dX6_takeSort_48 rfl rfl ?_
        refine wa_getR (pc := 49) cx fl_X6_12 lk_5 rfl (cx.bl 5 rfl) dX6_takeSort_49 ?_
        refine wa_ldcS (pc := 52) cx 6 (by decide) dX6_takeSort_52 rfl ?_
        obtain ⟨q10, h11, hf⟩ := bd_some hf
        refine wa_callVi (pc := 54) cx [.ref (eK E 6)] (ct_X8_isWord_6_K6 l E _  _ h11) mi_X8_isWord tw_465 lk_6 rfl (cx.bl 6 rfl) rfl rfl (Nat.le_of_ble_eq_true rfl) ⟨Nat.le_of_ble_eq_true rfl, Nat.le_of_ble_eq_true rfl⟩ ⟨Nat.zero_le _, Nat.zero_le _⟩ dX6_takeSort_54 ?_
        refine wa_if_eq (pc := 57) cx 64 dX6_takeSort_57 rfl (fun c12 => ?_) (fun c12 => ?_)
        · have hf := (if_pos c12).symm.trans hf
          refine wa_aload_n (pc := 64) cx 0 dX6_takeSort_64 rfl rfl ?_
          refine wa_getR (pc := 65) cx fl_X6_12 lk_5 rfl (cx.bl 5 rfl) dX6_takeSort_65 ?_
          refine wa_ldcS (pc := 68) cx 7 (by decide) dX6_takeSort_68 rfl ?_
          obtain ⟨q13, h14, hf⟩ := bd_some hf
          refine wa_callVi (pc := 70) cx [.ref (eK E 7)] (ct_X8_isWord_6_K7 l E _  _ h14) mi_X8_isWord tw_465 lk_6 rfl (cx.bl 6 rfl) rfl rfl (Nat.le_of_ble_eq_true rfl) ⟨Nat.le_of_ble_eq_true rfl, Nat.le_of_ble_eq_true rfl⟩ ⟨Nat.zero_le _, Nat.zero_le _⟩ dX6_takeSort_70 ?_
          refine wa_if_eq (pc := 73) cx 80 dX6_takeSort_73 rfl (fun c15 => ?_) (fun c15 => ?_)
          · have hf := (if_pos c15).symm.trans hf
            refine wa_iconst (pc := 80) (v := 0) cx dX6_takeSort_80 (by decide) ?_
            exact j81 _ _ hf
          · have hf := (if_neg c15).symm.trans hf
            refine wa_iconst (pc := 76) (v := 5) cx dX6_takeSort_76 (by decide) ?_
            refine wa_goto (pc := 77) cx 81 dX6_takeSort_77 rfl ?_
            exact j81 _ _ hf
        · have hf := (if_neg c12).symm.trans hf
          refine wa_iconst (pc := 60) (v := 4) cx dX6_takeSort_60 (by decide) ?_
          refine wa_goto (pc := 61) cx 81 dX6_takeSort_61 rfl ?_
          exact j81 _ _ hf
      · have hf := (if_neg c9).symm.trans hf
        refine wa_iconst (pc := 44) (v := 3) cx dX6_takeSort_44 (by decide) ?_
        refine wa_goto (pc := 45) cx 81 dX6_takeSort_45 rfl ?_
        exact j81 _ _ hf
    · have hf := (if_neg c6).symm.trans hf
      refine wa_iconst (pc := 28) (v := 2) cx dX6_takeSort_28 (by decide) ?_
      refine wa_goto (pc := 29) cx 81 dX6_takeSort_29 rfl ?_
      exact j81 _ _ hf
  · have hf := (if_neg c3).symm.trans hf
    refine wa_iconst (pc := 12) (v := 1) cx dX6_takeSort_12 (by decide) ?_
    refine wa_goto (pc := 13) cx 81 dX6_takeSort_13 rfl ?_
    exact j81 _ _ hf
def fX6_readYarn  (σ : Sg) : Option (Sg) :=
  if gf σ 15 4 < 9 then ((fX8_next  σ).bind (fun q2 =>
  (fX6_takeSort  q2).bind (fun q4 =>
  gd (inb (gf q2 15 4) 9) (
  (fX6_takeNumber 0 (gf (sa q4.2 18 (gf q2 15 4) q4.1) 15 3 - 1) (sa q4.2 18 (gf q2 15 4) q4.1)).bind (fun q7 =>
  gd (inb (gf (sa q4.2 18 (gf q2 15 4) q4.1) 15 4) 9) (
  (fX6_takeNumber 1 9 (sa q7.2 19 (gf (sa q4.2 18 (gf q2 15 4) q4.1) 15 4) q7.1)).bind (fun q10 =>
  gd (inb (gf (sa q7.2 19 (gf (sa q4.2 18 (gf q2 15 4) q4.1) 15 4) q7.1) 15 4) 9) (
  (fX6_takeSign  (sa q10.2 20 (gf (sa q7.2 19 (gf (sa q4.2 18 (gf q2 15 4) q4.1) 15 4) q7.1) 15 4) q10.1)).bind (fun q13 =>
  some (sup q13 15 4 (gf q13 15 4 + 1))))))))))) else (some (sup σ 5 1 3))
set_option maxHeartbeats 4000000 in
set_option maxRecDepth 100000 in
theorem ct_X6_readYarn (l : Launch) (E : En) (σ : Sg)  (q : Sg) (hf : fX6_readYarn  σ = some q) : CT l yX6_readYarn cX6_readYarn 2 none 6 E σ [.ref (eA E 5), .ref (eA E 15)] none q := by
  refine CT.of RX6 [some (.ref (eA E 5)), some (.ref (eA E 15))] rfl (by decide +kernel) (Nat.le_of_ble_eq_true rfl) rfl ?_
  intro p e s m args below meth c cx
  unfold fX6_readYarn at hf
  refine wa_aload_n (pc := 0) cx 1 dX6_readYarn_0 rfl rfl ?_
  refine wa_getI (pc := 1) cx fl_X6_79 lk_15 rfl (cx.bl 15 rfl) dX6_readYarn_1 ?_
  refine wa_bipush (pc := 4) (v := 9) cx dX6_readYarn_4 (by decide) ?_
  refine wa_icmp_lt (pc := 6) cx 15 dX6_readYarn_6 rfl (fun c1 => ?_) (fun c1 => ?_)
  · have hf := (if_pos c1).symm.trans hf
    refine wa_aload_n (pc := 15) cx 0 dX6_readYarn_15 rfl rfl ?_
    refine wa_getR (pc := 16) cx fl_X6_12 lk_5 rfl (cx.bl 5 rfl) dX6_readYarn_16 ?_
    obtain ⟨q2, h3, hf⟩ := bd_some hf
    refine wa_callVv (pc := 19) cx [] (ct_X8_next l E _  _ h3) mi_X8_next tw_517 lk_6 rfl (cx.bl 6 rfl) rfl rfl (Nat.le_of_ble_eq_true rfl) ⟨Nat.le_of_ble_eq_true rfl, Nat.le_of_ble_eq_true rfl⟩ ⟨Nat.zero_le _, Nat.zero_le _⟩ dX6_readYarn_19 ?_
    refine wa_aload_n (pc := 22) cx 1 dX6_readYarn_22 rfl rfl ?_
    refine wa_getR (pc := 23) cx fl_X6_82 lk_15 rfl (cx.bl 15 rfl) dX6_readYarn_23 ?_
    refine wa_aload_n (pc := 26) cx 1 dX6_readYarn_26 rfl rfl ?_
    refine wa_getI (pc := 27) cx fl_X6_79 lk_15 rfl (cx.bl 15 rfl) dX6_readYarn_27 ?_
    refine wa_aload_n (pc := 30) cx 0 dX6_readYarn_30 rfl rfl ?_
    obtain ⟨q4, h5, hf⟩ := bd_some hf
    refine wa_callVi (pc := 31) cx [] (ct_X6_takeSort l E _  _ h5) mi_X6_takeSort tw_536 lk_5 rfl (cx.bl 5 rfl) rfl rfl (Nat.le_of_ble_eq_true rfl) ⟨Nat.le_of_ble_eq_true rfl, Nat.le_of_ble_eq_true rfl⟩ ⟨Nat.zero_le _, Nat.zero_le _⟩ dX6_readYarn_31 ?_
    obtain ⟨g6, hf⟩ := gd_some hf
    refine wa_iast (pc := 34) cx lk_18 (cx.bl 18 rfl) g6 dX6_readYarn_34 ?_
    refine wa_aload_n (pc := 35) cx 1 dX6_readYarn_35 rfl rfl ?_
    refine wa_getR (pc := 36) cx fl_X6_89 lk_15 rfl (cx.bl 15 rfl) dX6_readYarn_36 ?_
    refine wa_aload_n (pc := 39) cx 1 dX6_readYarn_39 rfl rfl ?_
    refine wa_getI (pc := 40) cx fl_X6_79 lk_15 rfl (cx.bl 15 rfl) dX6_readYarn_40 ?_
    refine wa_aload_n (pc := 43) cx 0 dX6_readYarn_43 rfl rfl ?_
    refine wa_iconst (pc := 44) (v := 0) cx dX6_readYarn_44 (by decide) ?_
    refine wa_aload_n (pc := 45) cx 1 dX6_readYarn_45 rfl rfl ?_
    refine wa_getI (pc := 46) cx fl_X6_69 lk_15 rfl (cx.bl 15 rfl) dX6_readYarn_46 ?_
    refine wa_iconst (pc := 49) (v := 1) cx dX6_readYarn_49 (by decide) ?_
    refine wa_isub (pc := 50) cx dX6_readYarn_50 ?_
    obtain ⟨q7, h8, hf⟩ := bd_some hf
    refine wa_callVi (pc := 51) cx [.int 0, .int (gf (sa q4.2 18 (gf q2 15 4) q4.1) 15 3 - 1)] (ct_X6_takeNumber l E _ _ _ _ h8) mi_X6_takeNumber tw_518 lk_5 rfl (cx.bl 5 rfl) rfl rfl (Nat.le_of_ble_eq_true rfl) ⟨Nat.le_of_ble_eq_true rfl, Nat.le_of_ble_eq_true rfl⟩ ⟨Nat.zero_le _, Nat.zero_le _⟩ dX6_readYarn_51 ?_
    obtain ⟨g9, hf⟩ := gd_some hf
    refine wa_iast (pc := 54) cx lk_19 (cx.bl 19 rfl) g9 dX6_readYarn_54 ?_
    refine wa_aload_n (pc := 55) cx 1 dX6_readYarn_55 rfl rfl ?_
    refine wa_getR (pc := 56) cx fl_X6_91 lk_15 rfl (cx.bl 15 rfl) dX6_readYarn_56 ?_
    refine wa_aload_n (pc := 59) cx 1 dX6_readYarn_59 rfl rfl ?_
    refine wa_getI (pc := 60) cx fl_X6_79 lk_15 rfl (cx.bl 15 rfl) dX6_readYarn_60 ?_
    refine wa_aload_n (pc := 63) cx 0 dX6_readYarn_63 rfl rfl ?_
    refine wa_iconst (pc := 64) (v := 1) cx dX6_readYarn_64 (by decide) ?_
    refine wa_bipush (pc := 65) (v := 9) cx dX6_readYarn_65 (by decide) ?_
    obtain ⟨q10, h11, hf⟩ := bd_some hf
    refine wa_callVi (pc := 67) cx [.int 1, .int 9] (ct_X6_takeNumber l E _ _ _ _ h11) mi_X6_takeNumber tw_518 lk_5 rfl (cx.bl 5 rfl) rfl rfl (Nat.le_of_ble_eq_true rfl) ⟨Nat.le_of_ble_eq_true rfl, Nat.le_of_ble_eq_true rfl⟩ ⟨Nat.zero_le _, Nat.zero_le _⟩ dX6_readYarn_67 ?_
    obtain ⟨g12, hf⟩ := gd_some hf
    refine wa_iast (pc := 70) cx lk_20 (cx.bl 20 rfl) g12 dX6_readYarn_70 ?_
    refine wa_aload_n (pc := 71) cx 0 dX6_readYarn_71 rfl rfl ?_
    obtain ⟨q13, h14, hf⟩ := bd_some hf
    refine wa_callVv (pc := 72) cx [] (ct_X6_takeSign l E _  _ h14) mi_X6_takeSign tw_522 lk_5 rfl (cx.bl 5 rfl) rfl rfl (Nat.le_of_ble_eq_true rfl) ⟨Nat.le_of_ble_eq_true rfl, Nat.le_of_ble_eq_true rfl⟩ ⟨Nat.zero_le _, Nat.zero_le _⟩ dX6_readYarn_72 ?_
    refine wa_aload_n (pc := 75) cx 1 dX6_readYarn_75 rfl rfl ?_
    refine wa_dup (pc := 76) cx dX6_readYarn_76 rfl ?_
    refine wa_getI (pc := 77) cx fl_X6_79 lk_15 rfl (cx.bl 15 rfl) dX6_readYarn_77 ?_
    refine wa_iconst (pc := 80) (v := 1) cx dX6_readYarn_80 (by decide) ?_
    refine wa_iadd (pc := 81) cx dX6_readYarn_81 ?_
    refine wa_putI (pc := 82) cx fp_X6_79 lk_15 rfl (cx.bl 15 rfl) dX6_readYarn_82 ?_
    obtain rfl := Option.some.inj hf
    exact wa_vret (pc := 85) cx dX6_readYarn_85
  · have hf := (if_neg c1).symm.trans hf
    refine wa_aload_n (pc := 9) cx 0 dX6_readYarn_9 rfl rfl ?_
    refine wa_iconst (pc := 10) (v := 3) cx dX6_readYarn_10 (by decide) ?_
    refine wa_putI (pc := 11) cx fp_X6_18 lk_5 rfl (cx.bl 5 rfl) dX6_readYarn_11 ?_
    obtain rfl := Option.some.inj hf
    exact wa_vret (pc := 14) cx dX6_readYarn_14
def fX6_readInto_B23  (v2 : Int32) (σ : Sg) : Option ((Int32 × Sg) ⊕ (Sg)) :=
  if (5 : Int32) < v2 then (some (.inr σ)) else (if gf σ 5 1 = 0 then ((fX8_isWord_6_K1  σ).bind (fun q9 =>
  if q9.1 = 0 then (some (.inr q9.2)) else ((fX6_readSpeaker  q9.2).bind (fun q12 =>
  some (.inl ((v2 + 1), q12)))))) else (some (.inr σ)))
def fX6_readInto_B60  (v2 : Int32) (σ : Sg) : Option ((Int32 × Sg) ⊕ (Sg)) :=
  if (9 : Int32) < v2 then (some (.inr σ)) else (if gf σ 5 1 = 0 then ((fX8_isWord_6_K2  σ).bind (fun q17 =>
  if q17.1 = 0 then (some (.inr q17.2)) else ((fX6_readYarn  q17.2).bind (fun q20 =>
  some (.inl ((v2 + 1), q20)))))) else (some (.inr σ)))
def fX6_readInto  (σ : Sg) : Option (Sg) :=
  (fX9_begin_15  (sup σ 5 1 0)).bind (fun q1 =>
  (fX8_rewind  q1).bind (fun q3 =>
  (fX6_readLaw  q3).bind (fun q5 =>
  (lpO (fun w => fX6_readInto_B23  w.1 w.2) FUEL (0, q5)).bind (fun o14 =>
  (lpO (fun w => fX6_readInto_B60  w.1 w.2) FUEL (0, o14)).bind (fun o22 =>
  if gf o22 5 1 = 0 then (if gf o22 6 2 = 0 then (some o22) else (some (sup o22 5 1 1))) else (some o22))))))
set_option maxHeartbeats 4000000 in
set_option maxRecDepth 100000 in
theorem ct_X6_readInto (l : Launch) (E : En) (σ : Sg)  (q : Sg) (hf : fX6_readInto  σ = some q) : CT l yX6_readInto cX6_readInto 3 none 7 E σ [.ref (eA E 5), .ref (eA E 15)] none q := by
  refine CT.of RX6 [some (.ref (eA E 5)), some (.ref (eA E 15)), none] rfl (by decide +kernel) (Nat.le_of_ble_eq_true rfl) rfl ?_
  intro p e s m args below meth c cx
  unfold fX6_readInto at hf
  have l23 : ∀  (y : Int32 × Sg) (o : Sg), lpO (fun w => fX6_readInto_B23  w.1 w.2) FUEL y = some o → (WA p l e (rmd 7) s m args below meth c 3 E 0 0 (MQ below (Qcq E s.heap.size (none) q) args s 0 0 (AE E s.heap.size)) 58 [some (.ref (eA E 5)), some (.ref (eA E 15)), none] [] o) → WA p l e (rmd 7) s m args below meth c 3 E 0 0 (MQ below (Qcq E s.heap.size (none) q) args s 0 0 (AE E s.heap.size)) 23 [some (.ref (eA E 5)), some (.ref (eA E 15)), some (.int y.1)] [] y.2 := by
    intro  y o hf hk
    refine lp_rule (P := fun y => WA p l e (rmd 7) s m args below meth c 3 E 0 0 (MQ below (Qcq E s.heap.size (none) q) args s 0 0 (AE E s.heap.size)) 23 [some (.ref (eA E 5)), some (.ref (eA E 15)), some (.int y.1)] [] y.2) (K := fun o => WA p l e (rmd 7) s m args below meth c 3 E 0 0 (MQ below (Qcq E s.heap.size (none) q) args s 0 0 (AE E s.heap.size)) 58 [some (.ref (eA E 5)), some (.ref (eA E 15)), none] [] o) ?_ FUEL y o hf hk
    intro y0 r1 hf hk1
    obtain ⟨v2, σ⟩ := y0
    have hf : fX6_readInto_B23  v2 σ = some r1 := hf
    unfold fX6_readInto_B23 at hf
    refine wa_iload_n (pc := 23) cx 2 dX6_readInto_23 rfl rfl ?_
    refine wa_iconst (pc := 24) (v := 5) cx dX6_readInto_24 (by decide) ?_
    refine wa_icmp_gt (pc := 25) cx 58 dX6_readInto_25 rfl (fun c7 => ?_) (fun c7 => ?_)
    · have hf := (if_pos c7).symm.trans hf
      obtain rfl := Option.some.inj hf
      refine wa_forget [true, true, false] [some (.ref (eA E 5)), some (.ref (eA E 15)), none] rfl ?_
      exact hk1
    · have hf := (if_neg c7).symm.trans hf
      refine wa_aload_n (pc := 28) cx 0 dX6_readInto_28 rfl rfl ?_
      refine wa_getI (pc := 29) cx fl_X6_18 lk_5 rfl (cx.bl 5 rfl) dX6_readInto_29 ?_
      refine wa_if_ne (pc := 32) cx 58 dX6_readInto_32 rfl (fun c8 => ?_) (fun c8 => ?_)
      · have hf := (if_neg c8).symm.trans hf
        obtain rfl := Option.some.inj hf
        refine wa_forget [true, true, false] [some (.ref (eA E 5)), some (.ref (eA E 15)), none] rfl ?_
        exact hk1
      · have hf := (if_pos c8).symm.trans hf
        refine wa_aload_n (pc := 35) cx 0 dX6_readInto_35 rfl rfl ?_
        refine wa_getR (pc := 36) cx fl_X6_12 lk_5 rfl (cx.bl 5 rfl) dX6_readInto_36 ?_
        refine wa_ldcS (pc := 39) cx 1 (by decide) dX6_readInto_39 rfl ?_
        obtain ⟨q9, h10, hf⟩ := bd_some hf
        refine wa_callVi (pc := 41) cx [.ref (eK E 1)] (ct_X8_isWord_6_K1 l E _  _ h10) mi_X8_isWord tw_465 lk_6 rfl (cx.bl 6 rfl) rfl rfl (Nat.le_of_ble_eq_true rfl) ⟨Nat.le_of_ble_eq_true rfl, Nat.le_of_ble_eq_true rfl⟩ ⟨Nat.zero_le _, Nat.zero_le _⟩ dX6_readInto_41 ?_
        refine wa_if_eq (pc := 44) cx 58 dX6_readInto_44 rfl (fun c11 => ?_) (fun c11 => ?_)
        · have hf := (if_pos c11).symm.trans hf
          obtain rfl := Option.some.inj hf
          refine wa_forget [true, true, false] [some (.ref (eA E 5)), some (.ref (eA E 15)), none] rfl ?_
          exact hk1
        · have hf := (if_neg c11).symm.trans hf
          refine wa_aload_n (pc := 47) cx 0 dX6_readInto_47 rfl rfl ?_
          refine wa_aload_n (pc := 48) cx 1 dX6_readInto_48 rfl rfl ?_
          obtain ⟨q12, h13, hf⟩ := bd_some hf
          refine wa_callVv (pc := 49) cx [.ref (eA E 15)] (ct_X6_readSpeaker l E _  _ h13) mi_X6_readSpeaker tw_527 lk_5 rfl (cx.bl 5 rfl) rfl rfl (Nat.le_of_ble_eq_true rfl) ⟨Nat.le_of_ble_eq_true rfl, Nat.le_of_ble_eq_true rfl⟩ ⟨Nat.zero_le _, Nat.zero_le _⟩ dX6_readInto_49 ?_
          refine wa_iinc (pc := 52) (v := 1) cx 2 [some (.ref (eA E 5)), some (.ref (eA E 15)), some (.int (v2 + 1))] dX6_readInto_52 (by decide) rfl (by decide) rfl rfl ?_
          refine wa_goto (pc := 55) cx 23 dX6_readInto_55 rfl ?_
          obtain rfl := Option.some.inj hf
          refine wa_forget [true, true, true] [some (.ref (eA E 5)), some (.ref (eA E 15)), some (.int (v2 + 1))] rfl ?_
          exact hk1
  have l60 : ∀  (y : Int32 × Sg) (o : Sg), lpO (fun w => fX6_readInto_B60  w.1 w.2) FUEL y = some o → (WA p l e (rmd 7) s m args below meth c 3 E 0 0 (MQ below (Qcq E s.heap.size (none) q) args s 0 0 (AE E s.heap.size)) 96 [some (.ref (eA E 5)), none, none] [] o) → WA p l e (rmd 7) s m args below meth c 3 E 0 0 (MQ below (Qcq E s.heap.size (none) q) args s 0 0 (AE E s.heap.size)) 60 [some (.ref (eA E 5)), some (.ref (eA E 15)), some (.int y.1)] [] y.2 := by
    intro  y o hf hk
    refine lp_rule (P := fun y => WA p l e (rmd 7) s m args below meth c 3 E 0 0 (MQ below (Qcq E s.heap.size (none) q) args s 0 0 (AE E s.heap.size)) 60 [some (.ref (eA E 5)), some (.ref (eA E 15)), some (.int y.1)] [] y.2) (K := fun o => WA p l e (rmd 7) s m args below meth c 3 E 0 0 (MQ below (Qcq E s.heap.size (none) q) args s 0 0 (AE E s.heap.size)) 96 [some (.ref (eA E 5)), none, none] [] o) ?_ FUEL y o hf hk
    intro y0 r1 hf hk1
    obtain ⟨v2, σ⟩ := y0
    have hf : fX6_readInto_B60  v2 σ = some r1 := hf
    unfold fX6_readInto_B60 at hf
    refine wa_iload_n (pc := 60) cx 2 dX6_readInto_60 rfl rfl ?_
    refine wa_bipush (pc := 61) (v := 9) cx dX6_readInto_61 (by decide) ?_
    refine wa_icmp_gt (pc := 63) cx 96 dX6_readInto_63 rfl (fun c15 => ?_) (fun c15 => ?_)
    · have hf := (if_pos c15).symm.trans hf
      obtain rfl := Option.some.inj hf
      refine wa_forget [true, false, false] [some (.ref (eA E 5)), none, none] rfl ?_
      exact hk1
    · have hf := (if_neg c15).symm.trans hf
      refine wa_aload_n (pc := 66) cx 0 dX6_readInto_66 rfl rfl ?_
      refine wa_getI (pc := 67) cx fl_X6_18 lk_5 rfl (cx.bl 5 rfl) dX6_readInto_67 ?_
      refine wa_if_ne (pc := 70) cx 96 dX6_readInto_70 rfl (fun c16 => ?_) (fun c16 => ?_)
      · have hf := (if_neg c16).symm.trans hf
        obtain rfl := Option.some.inj hf
        refine wa_forget [true, false, false] [some (.ref (eA E 5)), none, none] rfl ?_
        exact hk1
      · have hf := (if_pos c16).symm.trans hf
        refine wa_aload_n (pc := 73) cx 0 dX6_readInto_73 rfl rfl ?_
        refine wa_getR (pc := 74) cx fl_X6_12 lk_5 rfl (cx.bl 5 rfl) dX6_readInto_74 ?_
        refine wa_ldcS (pc := 77) cx 2 (by decide) dX6_readInto_77 rfl ?_
        obtain ⟨q17, h18, hf⟩ := bd_some hf
        refine wa_callVi (pc := 79) cx [.ref (eK E 2)] (ct_X8_isWord_6_K2 l E _  _ h18) mi_X8_isWord tw_465 lk_6 rfl (cx.bl 6 rfl) rfl rfl (Nat.le_of_ble_eq_true rfl) ⟨Nat.le_of_ble_eq_true rfl, Nat.le_of_ble_eq_true rfl⟩ ⟨Nat.zero_le _, Nat.zero_le _⟩ dX6_readInto_79 ?_
        refine wa_if_eq (pc := 82) cx 96 dX6_readInto_82 rfl (fun c19 => ?_) (fun c19 => ?_)
        · have hf := (if_pos c19).symm.trans hf
          obtain rfl := Option.some.inj hf
          refine wa_forget [true, false, false] [some (.ref (eA E 5)), none, none] rfl ?_
          exact hk1
        · have hf := (if_neg c19).symm.trans hf
          refine wa_aload_n (pc := 85) cx 0 dX6_readInto_85 rfl rfl ?_
          refine wa_aload_n (pc := 86) cx 1 dX6_readInto_86 rfl rfl ?_
          obtain ⟨q20, h21, hf⟩ := bd_some hf
          refine wa_callVv (pc := 87) cx [.ref (eA E 15)] (ct_X6_readYarn l E _  _ h21) mi_X6_readYarn tw_532 lk_5 rfl (cx.bl 5 rfl) rfl rfl (Nat.le_of_ble_eq_true rfl) ⟨Nat.le_of_ble_eq_true rfl, Nat.le_of_ble_eq_true rfl⟩ ⟨Nat.zero_le _, Nat.zero_le _⟩ dX6_readInto_87 ?_
          refine wa_iinc (pc := 90) (v := 1) cx 2 [some (.ref (eA E 5)), some (.ref (eA E 15)), some (.int (v2 + 1))] dX6_readInto_90 (by decide) rfl (by decide) rfl rfl ?_
          refine wa_goto (pc := 93) cx 60 dX6_readInto_93 rfl ?_
          obtain rfl := Option.some.inj hf
          refine wa_forget [true, true, true] [some (.ref (eA E 5)), some (.ref (eA E 15)), some (.int (v2 + 1))] rfl ?_
          exact hk1
  refine wa_aload_n (pc := 0) cx 0 dX6_readInto_0 rfl rfl ?_
  refine wa_iconst (pc := 1) (v := 0) cx dX6_readInto_1 (by decide) ?_
  refine wa_putI (pc := 2) cx fp_X6_18 lk_5 rfl (cx.bl 5 rfl) dX6_readInto_2 ?_
  refine wa_aload_n (pc := 5) cx 1 dX6_readInto_5 rfl rfl ?_
  obtain ⟨q1, h2, hf⟩ := bd_some hf
  refine wa_callVv (pc := 6) cx [] (ct_X9_begin_15 l E _  _ h2) mi_X9_begin tw_431 lk_15 rfl (cx.bl 15 rfl) rfl rfl (Nat.le_of_ble_eq_true rfl) ⟨Nat.le_of_ble_eq_true rfl, Nat.le_of_ble_eq_true rfl⟩ ⟨Nat.zero_le _, Nat.zero_le _⟩ dX6_readInto_6 ?_
  refine wa_aload_n (pc := 9) cx 0 dX6_readInto_9 rfl rfl ?_
  refine wa_getR (pc := 10) cx fl_X6_12 lk_5 rfl (cx.bl 5 rfl) dX6_readInto_10 ?_
  obtain ⟨q3, h4, hf⟩ := bd_some hf
  refine wa_callVv (pc := 13) cx [] (ct_X8_rewind l E _  _ h4) mi_X8_rewind tw_435 lk_6 rfl (cx.bl 6 rfl) rfl rfl (Nat.le_of_ble_eq_true rfl) ⟨Nat.le_of_ble_eq_true rfl, Nat.le_of_ble_eq_true rfl⟩ ⟨Nat.zero_le _, Nat.zero_le _⟩ dX6_readInto_13 ?_
  refine wa_aload_n (pc := 16) cx 0 dX6_readInto_16 rfl rfl ?_
  refine wa_aload_n (pc := 17) cx 1 dX6_readInto_17 rfl rfl ?_
  obtain ⟨q5, h6, hf⟩ := bd_some hf
  refine wa_callVv (pc := 18) cx [.ref (eA E 15)] (ct_X6_readLaw l E _  _ h6) mi_X6_readLaw tw_460 lk_5 rfl (cx.bl 5 rfl) rfl rfl (Nat.le_of_ble_eq_true rfl) ⟨Nat.le_of_ble_eq_true rfl, Nat.le_of_ble_eq_true rfl⟩ ⟨Nat.zero_le _, Nat.zero_le _⟩ dX6_readInto_18 ?_
  refine wa_iconst (pc := 21) (v := 0) cx dX6_readInto_21 (by decide) ?_
  refine wa_istore_n (pc := 22) cx 2 [some (.ref (eA E 5)), some (.ref (eA E 15)), some (.int 0)] dX6_readInto_22 rfl (by decide) rfl rfl ?_
  obtain ⟨o14, h26, hf⟩ := bd_some hf
  refine l23  _ _ h26 ?_
  refine wa_iconst (pc := 58) (v := 0) cx dX6_readInto_58 (by decide) ?_
  refine wa_istore_n (pc := 59) cx 2 [some (.ref (eA E 5)), some (.ref (eA E 15)), some (.int 0)] dX6_readInto_59 rfl (by decide) rfl rfl ?_
  obtain ⟨o22, h25, hf⟩ := bd_some hf
  refine l60  _ _ h25 ?_
  refine wa_aload_n (pc := 96) cx 0 dX6_readInto_96 rfl rfl ?_
  refine wa_getI (pc := 97) cx fl_X6_18 lk_5 rfl (cx.bl 5 rfl) dX6_readInto_97 ?_
  refine wa_if_ne (pc := 100) cx 118 dX6_readInto_100 rfl (fun c23 => ?_) (fun c23 => ?_)
  · have hf := (if_neg c23).symm.trans hf
    obtain rfl := Option.some.inj hf
    exact wa_vret (pc := 118) cx dX6_readInto_118
  · have hf := (if_pos c23).symm.trans hf
    refine wa_aload_n (pc := 103) cx 0 dX6_readInto_103 rfl rfl ?_
    refine wa_getR (pc := 104) cx fl_X6_12 lk_5 rfl (cx.bl 5 rfl) dX6_readInto_104 ?_
    refine wa_getI (pc := 107) cx fl_X6_48 lk_6 rfl (cx.bl 6 rfl) dX6_readInto_107 ?_
    refine wa_if_eq (pc := 110) cx 118 dX6_readInto_110 rfl (fun c24 => ?_) (fun c24 => ?_)
    · have hf := (if_pos c24).symm.trans hf
      obtain rfl := Option.some.inj hf
      exact wa_vret (pc := 118) cx dX6_readInto_118
    · have hf := (if_neg c24).symm.trans hf
      refine wa_aload_n (pc := 113) cx 0 dX6_readInto_113 rfl rfl ?_
      refine wa_iconst (pc := 114) (v := 1) cx dX6_readInto_114 (by decide) ?_
      refine wa_putI (pc := 115) cx fp_X6_18 lk_5 rfl (cx.bl 5 rfl) dX6_readInto_115 ?_
      obtain rfl := Option.some.inj hf
      exact wa_vret (pc := 118) cx dX6_readInto_118
