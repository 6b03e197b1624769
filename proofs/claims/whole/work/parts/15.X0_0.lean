def fX0_forgetAll  (σ : Sg) : Option (Sg) :=
  some (sup σ 23 2 0)
set_option maxHeartbeats 4000000 in
set_option maxRecDepth 100000 in
theorem ct_X0_forgetAll (l : Launch) (E : En) (σ : Sg)  (q : Sg) (hf : fX0_forgetAll  σ = some q) : CT l yX0_forgetAll cX0_forgetAll 1 none 0 E σ [.ref (eA E 23)] none q := by
  refine CT.of RX0 [some (.ref (eA E 23))] rfl (by decide +kernel) (Nat.le_of_ble_eq_true rfl) rfl ?_
  intro p e s m args below meth c cx
  unfold fX0_forgetAll at hf
  refine wa_aload_n (pc := 0) cx 0 dX0_forgetAll_0 rfl rfl ?_
  refine wa_iconst (pc := 1) (v := 0) cx dX0_forgetAll_1 (by decide) ?_
  refine wa_putI (pc := 2) cx fp_X0_19 lk_23 rfl (cx.bl 23 rfl) dX0_forgetAll_2 ?_
  obtain rfl := Option.some.inj hf
  exact wa_vret (pc := 5) cx dX0_forgetAll_5
def fX0_keep_J41 (t1 : Int32) (σ : Sg) : Option (Sg) :=
  some (sup (sup σ 23 1 t1) 23 2 (jmin (gf (sup σ 23 1 t1) 23 2 + 1) 24))
def fX0_keep  (σ : Sg) : Option (Sg) :=
  gd (cpk 0 (gf σ 23 1 * 36) 36 36 864) (
  if gf (scp σ 14 24 0 (gf σ 23 1 * 36) 36) 23 1 = 23 then (fX0_keep_J41 0 (scp σ 14 24 0 (gf σ 23 1 * 36) 36)) else (fX0_keep_J41 (gf (scp σ 14 24 0 (gf σ 23 1 * 36) 36) 23 1 + 1) (scp σ 14 24 0 (gf σ 23 1 * 36) 36)))
set_option maxHeartbeats 4000000 in
set_option maxRecDepth 100000 in
theorem ct_X0_keep (l : Launch) (E : En) (σ : Sg)  (q : Sg) (hf : fX0_keep  σ = some q) : CT l yX0_keep cX0_keep 2 none 1 E σ [.ref (eA E 23), .ref (eA E 8)] none q := by
  refine CT.of RX0 [some (.ref (eA E 23)), some (.ref (eA E 8))] rfl (by decide +kernel) (Nat.le_of_ble_eq_true rfl) rfl ?_
  intro p e s m args below meth c cx
  unfold fX0_keep at hf
  have j41 : ∀ (t1 : Int32) (σ : Sg), fX0_keep_J41 t1 σ = some q → WA p l e (rmd 1) s m args below meth c 2 E 0 0 (MQ below (Qcq E s.heap.size (none) q) args s 0 0 (AE E s.heap.size)) 41 [some (.ref (eA E 23)), none] [.int t1, .ref (eA E 23)] σ := by
    intro t1 σ hf
    unfold fX0_keep_J41 at hf
    refine wa_putI (pc := 41) cx fp_X0_15 lk_23 rfl (cx.bl 23 rfl) dX0_keep_41 ?_
    refine wa_aload_n (pc := 44) cx 0 dX0_keep_44 rfl rfl ?_
    refine wa_aload_n (pc := 45) cx 0 dX0_keep_45 rfl rfl ?_
    refine wa_getI (pc := 46) cx fl_X0_19 lk_23 rfl (cx.bl 23 rfl) dX0_keep_46 ?_
    refine wa_iconst (pc := 49) (v := 1) cx dX0_keep_49 (by decide) ?_
    refine wa_iadd (pc := 50) cx dX0_keep_50 ?_
    refine wa_bipush (pc := 51) (v := 24) cx dX0_keep_51 (by decide) ?_
    refine wa_mmin (pc := 53) cx tw_572 (Nat.le_of_ble_eq_true rfl) (Nat.le_of_ble_eq_true rfl) ⟨Nat.zero_le _, Nat.zero_le _⟩ dX0_keep_53 ?_
    refine wa_putI (pc := 56) cx fp_X0_19 lk_23 rfl (cx.bl 23 rfl) dX0_keep_56 ?_
    obtain rfl := Option.some.inj hf
    exact wa_vret (pc := 59) cx dX0_keep_59
  refine wa_aload_n (pc := 0) cx 1 dX0_keep_0 rfl rfl ?_
  refine wa_getR (pc := 1) cx fl_X0_22 lk_8 rfl (cx.bl 8 rfl) dX0_keep_1 ?_
  refine wa_iconst (pc := 4) (v := 0) cx dX0_keep_4 (by decide) ?_
  refine wa_aload_n (pc := 5) cx 0 dX0_keep_5 rfl rfl ?_
  refine wa_getR (pc := 6) cx fl_X0_11 lk_23 rfl (cx.bl 23 rfl) dX0_keep_6 ?_
  refine wa_aload_n (pc := 9) cx 0 dX0_keep_9 rfl rfl ?_
  refine wa_getI (pc := 10) cx fl_X0_15 lk_23 rfl (cx.bl 23 rfl) dX0_keep_10 ?_
  refine wa_bipush (pc := 13) (v := 36) cx dX0_keep_13 (by decide) ?_
  refine wa_imul (pc := 15) cx dX0_keep_15 ?_
  refine wa_bipush (pc := 16) (v := 36) cx dX0_keep_16 (by decide) ?_
  obtain ⟨g1, hf⟩ := gd_some hf
  refine wa_copy (pc := 18) cx lk_14 lk_24 (cx.bl 14 rfl) (cx.bl 24 rfl) g1 tw_571 (Nat.le_of_ble_eq_true rfl) (Nat.le_of_ble_eq_true rfl) dX0_keep_18 ?_
  refine wa_aload_n (pc := 21) cx 0 dX0_keep_21 rfl rfl ?_
  refine wa_aload_n (pc := 22) cx 0 dX0_keep_22 rfl rfl ?_
  refine wa_getI (pc := 23) cx fl_X0_15 lk_23 rfl (cx.bl 23 rfl) dX0_keep_23 ?_
  refine wa_bipush (pc := 26) (v := 23) cx dX0_keep_26 (by decide) ?_
  refine wa_icmp_ne (pc := 28) cx 35 dX0_keep_28 rfl (fun c2 => ?_) (fun c2 => ?_)
  · have hf := (if_neg c2).symm.trans hf
    refine wa_aload_n (pc := 35) cx 0 dX0_keep_35 rfl rfl ?_
    refine wa_getI (pc := 36) cx fl_X0_15 lk_23 rfl (cx.bl 23 rfl) dX0_keep_36 ?_
    refine wa_iconst (pc := 39) (v := 1) cx dX0_keep_39 (by decide) ?_
    refine wa_iadd (pc := 40) cx dX0_keep_40 ?_
    refine wa_forget [true, false] [some (.ref (eA E 23)), none] rfl ?_
    exact j41 _ _ hf
  · have hf := (if_pos c2).symm.trans hf
    refine wa_iconst (pc := 31) (v := 0) cx dX0_keep_31 (by decide) ?_
    refine wa_goto (pc := 32) cx 41 dX0_keep_32 rfl ?_
    refine wa_forget [true, false] [some (.ref (eA E 23)), none] rfl ?_
    exact j41 _ _ hf
def fX0_takeBack_J19 (t1 : Int32) (σ : Sg) : Option (Sg) :=
  gd (cpk (gf (sup (sup σ 23 1 t1) 23 2 (gf (sup σ 23 1 t1) 23 2 - 1)) 23 1 * 36) 0 36 864 36) (
  some (scp (sup (sup σ 23 1 t1) 23 2 (gf (sup σ 23 1 t1) 23 2 - 1)) 24 14 (gf (sup (sup σ 23 1 t1) 23 2 (gf (sup σ 23 1 t1) 23 2 - 1)) 23 1 * 36) 0 36))
def fX0_takeBack  (σ : Sg) : Option (Sg) :=
  if gf σ 23 1 = 0 then (fX0_takeBack_J19 23 σ) else (fX0_takeBack_J19 (gf σ 23 1 - 1) σ)
set_option maxHeartbeats 4000000 in
set_option maxRecDepth 100000 in
theorem ct_X0_takeBack (l : Launch) (E : En) (σ : Sg)  (q : Sg) (hf : fX0_takeBack  σ = some q) : CT l yX0_takeBack cX0_takeBack 2 none 1 E σ [.ref (eA E 23), .ref (eA E 8)] none q := by
  refine CT.of RX0 [some (.ref (eA E 23)), some (.ref (eA E 8))] rfl (by decide +kernel) (Nat.le_of_ble_eq_true rfl) rfl ?_
  intro p e s m args below meth c cx
  unfold fX0_takeBack at hf
  have j19 : ∀ (t1 : Int32) (σ : Sg), fX0_takeBack_J19 t1 σ = some q → WA p l e (rmd 1) s m args below meth c 2 E 0 0 (MQ below (Qcq E s.heap.size (none) q) args s 0 0 (AE E s.heap.size)) 19 [some (.ref (eA E 23)), some (.ref (eA E 8))] [.int t1, .ref (eA E 23)] σ := by
    intro t1 σ hf
    unfold fX0_takeBack_J19 at hf
    refine wa_putI (pc := 19) cx fp_X0_15 lk_23 rfl (cx.bl 23 rfl) dX0_takeBack_19 ?_
    refine wa_aload_n (pc := 22) cx 0 dX0_takeBack_22 rfl rfl ?_
    refine wa_dup (pc := 23) cx dX0_takeBack_23 rfl ?_
    refine wa_getI (pc := 24) cx fl_X0_19 lk_23 rfl (cx.bl 23 rfl) dX0_takeBack_24 ?_
    refine wa_iconst (pc := 27) (v := 1) cx dX0_takeBack_27 (by decide) ?_
    refine wa_isub (pc := 28) cx dX0_takeBack_28 ?_
    refine wa_putI (pc := 29) cx fp_X0_19 lk_23 rfl (cx.bl 23 rfl) dX0_takeBack_29 ?_
    refine wa_aload_n (pc := 32) cx 0 dX0_takeBack_32 rfl rfl ?_
    refine wa_getR (pc := 33) cx fl_X0_11 lk_23 rfl (cx.bl 23 rfl) dX0_takeBack_33 ?_
    refine wa_aload_n (pc := 36) cx 0 dX0_takeBack_36 rfl rfl ?_
    refine wa_getI (pc := 37) cx fl_X0_15 lk_23 rfl (cx.bl 23 rfl) dX0_takeBack_37 ?_
    refine wa_bipush (pc := 40) (v := 36) cx dX0_takeBack_40 (by decide) ?_
    refine wa_imul (pc := 42) cx dX0_takeBack_42 ?_
    refine wa_aload_n (pc := 43) cx 1 dX0_takeBack_43 rfl rfl ?_
    refine wa_getR (pc := 44) cx fl_X0_22 lk_8 rfl (cx.bl 8 rfl) dX0_takeBack_44 ?_
    refine wa_iconst (pc := 47) (v := 0) cx dX0_takeBack_47 (by decide) ?_
    refine wa_bipush (pc := 48) (v := 36) cx dX0_takeBack_48 (by decide) ?_
    obtain ⟨g2, hf⟩ := gd_some hf
    refine wa_copy (pc := 50) cx lk_24 lk_14 (cx.bl 24 rfl) (cx.bl 14 rfl) g2 tw_571 (Nat.le_of_ble_eq_true rfl) (Nat.le_of_ble_eq_true rfl) dX0_takeBack_50 ?_
    obtain rfl := Option.some.inj hf
    exact wa_vret (pc := 53) cx dX0_takeBack_53
  refine wa_aload_n (pc := 0) cx 0 dX0_takeBack_0 rfl rfl ?_
  refine wa_aload_n (pc := 1) cx 0 dX0_takeBack_1 rfl rfl ?_
  refine wa_getI (pc := 2) cx fl_X0_15 lk_23 rfl (cx.bl 23 rfl) dX0_takeBack_2 ?_
  refine wa_if_ne (pc := 5) cx 13 dX0_takeBack_5 rfl (fun c1 => ?_) (fun c1 => ?_)
  · have hf := (if_neg c1).symm.trans hf
    refine wa_aload_n (pc := 13) cx 0 dX0_takeBack_13 rfl rfl ?_
    refine wa_getI (pc := 14) cx fl_X0_15 lk_23 rfl (cx.bl 23 rfl) dX0_takeBack_14 ?_
    refine wa_iconst (pc := 17) (v := 1) cx dX0_takeBack_17 (by decide) ?_
    refine wa_isub (pc := 18) cx dX0_takeBack_18 ?_
    exact j19 _ _ hf
  · have hf := (if_pos c1).symm.trans hf
    refine wa_bipush (pc := 8) (v := 23) cx dX0_takeBack_8 (by decide) ?_
    refine wa_goto (pc := 10) cx 19 dX0_takeBack_10 rfl ?_
    exact j19 _ _ hf
