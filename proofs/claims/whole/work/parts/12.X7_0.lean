def fX7_isNumber_J14  (σ : Sg) : Option (Int32) :=
  some 0
def fX7_isNumber (a1 : Int32) (σ : Sg) : Option (Int32) :=
  if a1 < 0 then (fX7_isNumber_J14  σ) else (if (8 : Int32) ≤ a1 then (fX7_isNumber_J14  σ) else (some 1))
set_option maxHeartbeats 4000000 in
set_option maxRecDepth 100000 in
theorem ct_X7_isNumber (l : Launch) (E : En) (σ : Sg) (a1 : Int32) (q : Int32) (hf : fX7_isNumber a1 σ = some q) : CT l yX7_isNumber cX7_isNumber 2 (some .boolean) 0 E σ [.ref (eA E 1), .int a1] (some (.int q)) σ := by
  refine CT.of RX7 [some (.ref (eA E 1)), some (.int a1)] rfl (by decide +kernel) (Nat.le_of_ble_eq_true rfl) rfl ?_
  intro p e s m args below meth c cx
  unfold fX7_isNumber at hf
  have j14 : ∀  (σ : Sg), fX7_isNumber_J14  σ = some q → WA p l e (rmd 0) s m args below meth c 2 E 0 0 (MQ below (Qcq E s.heap.size (some (.int q)) σ) args s 0 0 (AE E s.heap.size)) 14 [none, none] [] σ := by
    intro  σ hf
    unfold fX7_isNumber_J14 at hf
    refine wa_iconst (pc := 14) (v := 0) cx dX7_isNumber_14 (by decide) ?_
    obtain rfl := Option.some.inj hf
    exact wa_zret (pc := 15) cx rfl dX7_isNumber_15
  refine wa_iload_n (pc := 0) cx 1 dX7_isNumber_0 rfl rfl ?_
  refine wa_if_lt (pc := 1) cx 14 dX7_isNumber_1 rfl (fun c1 => ?_) (fun c1 => ?_)
  · have hf := (if_pos c1).symm.trans hf
    refine wa_forget [false, false] [none, none] rfl ?_
    exact j14  _ hf
  · have hf := (if_neg c1).symm.trans hf
    refine wa_iload_n (pc := 4) cx 1 dX7_isNumber_4 rfl rfl ?_
    refine wa_bipush (pc := 5) (v := 8) cx dX7_isNumber_5 (by decide) ?_
    refine wa_icmp_ge (pc := 7) cx 14 dX7_isNumber_7 rfl (fun c2 => ?_) (fun c2 => ?_)
    · have hf := (if_pos c2).symm.trans hf
      refine wa_forget [false, false] [none, none] rfl ?_
      exact j14  _ hf
    · have hf := (if_neg c2).symm.trans hf
      refine wa_iconst (pc := 10) (v := 1) cx dX7_isNumber_10 (by decide) ?_
      refine wa_goto (pc := 11) cx 15 dX7_isNumber_11 rfl ?_
      obtain rfl := Option.some.inj hf
      exact wa_zret (pc := 15) cx rfl dX7_isNumber_15
def fX7_make_B17 (v1 : Int32) (v3 : Int32) (v4 : Int32) (σ : Sg) : Option ((Int32 × Sg) ⊕ (Sg)) :=
  if v3 ≤ v4 then (some (.inr σ)) else (gd (inb ((v1 * 40) + v4) 320) (
  some (.inl ((v4 + 1), sa σ 4 ((v1 * 40) + v4) 0))))
def fX7_make (a1 : Int32) (a2 : Int32) (a3 : Int32) (σ : Sg) : Option (Sg) :=
  gd (inb a1 8) (
  gd (inb a1 8) (
  (lpO (fun w => fX7_make_B17 a1 a3 w.1 w.2) FUEL (0, sa (sa σ 2 a1 a2) 3 a1 a3)).bind (fun o5 =>
  some o5)))
set_option maxHeartbeats 4000000 in
set_option maxRecDepth 100000 in
theorem ct_X7_make (l : Launch) (E : En) (σ : Sg) (a1 : Int32) (a2 : Int32) (a3 : Int32) (q : Sg) (hf : fX7_make a1 a2 a3 σ = some q) : CT l yX7_make cX7_make 5 none 0 E σ [.ref (eA E 1), .int a1, .int a2, .int a3] none q := by
  refine CT.of RX7 [some (.ref (eA E 1)), some (.int a1), some (.int a2), some (.int a3), none] rfl (by decide +kernel) (Nat.le_of_ble_eq_true rfl) rfl ?_
  intro p e s m args below meth c cx
  unfold fX7_make at hf
  have l17 : ∀ (v1 : Int32) (v3 : Int32) (y : Int32 × Sg) (o : Sg), lpO (fun w => fX7_make_B17 v1 v3 w.1 w.2) FUEL y = some o → (WA p l e (rmd 0) s m args below meth c 5 E 0 0 (MQ below (Qcq E s.heap.size (none) q) args s 0 0 (AE E s.heap.size)) 42 [none, none, none, none, none] [] o) → WA p l e (rmd 0) s m args below meth c 5 E 0 0 (MQ below (Qcq E s.heap.size (none) q) args s 0 0 (AE E s.heap.size)) 17 [some (.ref (eA E 1)), some (.int v1), none, some (.int v3), some (.int y.1)] [] y.2 := by
    intro v1 v3 y o hf hk
    refine lp_rule (P := fun y => WA p l e (rmd 0) s m args below meth c 5 E 0 0 (MQ below (Qcq E s.heap.size (none) q) args s 0 0 (AE E s.heap.size)) 17 [some (.ref (eA E 1)), some (.int v1), none, some (.int v3), some (.int y.1)] [] y.2) (K := fun o => WA p l e (rmd 0) s m args below meth c 5 E 0 0 (MQ below (Qcq E s.heap.size (none) q) args s 0 0 (AE E s.heap.size)) 42 [none, none, none, none, none] [] o) ?_ FUEL y o hf hk
    intro y0 r1 hf hk1
    obtain ⟨v4, σ⟩ := y0
    have hf : fX7_make_B17 v1 v3 v4 σ = some r1 := hf
    unfold fX7_make_B17 at hf
    refine wa_iload (pc := 17) cx 4 dX7_make_17 rfl ?_
    refine wa_iload_n (pc := 19) cx 3 dX7_make_19 rfl rfl ?_
    refine wa_icmp_ge (pc := 20) cx 42 dX7_make_20 rfl (fun c3 => ?_) (fun c3 => ?_)
    · have hf := (if_pos c3).symm.trans hf
      obtain rfl := Option.some.inj hf
      refine wa_forget [false, false, false, false, false] [none, none, none, none, none] rfl ?_
      exact hk1
    · have hf := (if_neg c3).symm.trans hf
      refine wa_aload_n (pc := 23) cx 0 dX7_make_23 rfl rfl ?_
      refine wa_getR (pc := 24) cx fl_X7_16 lk_1 rfl (cx.bl 1 rfl) dX7_make_24 ?_
      refine wa_iload_n (pc := 27) cx 1 dX7_make_27 rfl rfl ?_
      refine wa_bipush (pc := 28) (v := 40) cx dX7_make_28 (by decide) ?_
      refine wa_imul (pc := 30) cx dX7_make_30 ?_
      refine wa_iload (pc := 31) cx 4 dX7_make_31 rfl ?_
      refine wa_iadd (pc := 33) cx dX7_make_33 ?_
      refine wa_iconst (pc := 34) (v := 0) cx dX7_make_34 (by decide) ?_
      obtain ⟨g4, hf⟩ := gd_some hf
      refine wa_iast (pc := 35) cx lk_4 (cx.bl 4 rfl) g4 dX7_make_35 ?_
      refine wa_iinc (pc := 36) (v := 1) cx 4 [some (.ref (eA E 1)), some (.int v1), none, some (.int v3), some (.int (v4 + 1))] dX7_make_36 (by decide) rfl (by decide) rfl rfl ?_
      refine wa_goto (pc := 39) cx 17 dX7_make_39 rfl ?_
      obtain rfl := Option.some.inj hf
      refine wa_forget [true, true, false, true, true] [some (.ref (eA E 1)), some (.int v1), none, some (.int v3), some (.int (v4 + 1))] rfl ?_
      exact hk1
  refine wa_aload_n (pc := 0) cx 0 dX7_make_0 rfl rfl ?_
  refine wa_getR (pc := 1) cx fl_X7_9 lk_1 rfl (cx.bl 1 rfl) dX7_make_1 ?_
  refine wa_iload_n (pc := 4) cx 1 dX7_make_4 rfl rfl ?_
  refine wa_iload_n (pc := 5) cx 2 dX7_make_5 rfl rfl ?_
  obtain ⟨g1, hf⟩ := gd_some hf
  refine wa_iast (pc := 6) cx lk_2 (cx.bl 2 rfl) g1 dX7_make_6 ?_
  refine wa_aload_n (pc := 7) cx 0 dX7_make_7 rfl rfl ?_
  refine wa_getR (pc := 8) cx fl_X7_13 lk_1 rfl (cx.bl 1 rfl) dX7_make_8 ?_
  refine wa_iload_n (pc := 11) cx 1 dX7_make_11 rfl rfl ?_
  refine wa_iload_n (pc := 12) cx 3 dX7_make_12 rfl rfl ?_
  obtain ⟨g2, hf⟩ := gd_some hf
  refine wa_iast (pc := 13) cx lk_3 (cx.bl 3 rfl) g2 dX7_make_13 ?_
  refine wa_iconst (pc := 14) (v := 0) cx dX7_make_14 (by decide) ?_
  refine wa_istore (pc := 15) cx 4 [some (.ref (eA E 1)), some (.int a1), some (.int a2), some (.int a3), some (.int 0)] dX7_make_15 (by decide) rfl rfl ?_
  refine wa_forget [true, true, false, true, true] [some (.ref (eA E 1)), some (.int a1), none, some (.int a3), some (.int 0)] rfl ?_
  obtain ⟨o5, h6, hf⟩ := bd_some hf
  refine l17 _ _ _ _ h6 ?_
  obtain rfl := Option.some.inj hf
  exact wa_vret (pc := 42) cx dX7_make_42
def fX7_isMissing (a1 : Int32) (σ : Sg) : Option (Int32) :=
  gd (inb a1 8) (
  if ga σ 3 a1 = (-1) then (some 1) else (some 0))
set_option maxHeartbeats 4000000 in
set_option maxRecDepth 100000 in
theorem ct_X7_isMissing (l : Launch) (E : En) (σ : Sg) (a1 : Int32) (q : Int32) (hf : fX7_isMissing a1 σ = some q) : CT l yX7_isMissing cX7_isMissing 2 (some .boolean) 0 E σ [.ref (eA E 1), .int a1] (some (.int q)) σ := by
  refine CT.of RX7 [some (.ref (eA E 1)), some (.int a1)] rfl (by decide +kernel) (Nat.le_of_ble_eq_true rfl) rfl ?_
  intro p e s m args below meth c cx
  unfold fX7_isMissing at hf
  refine wa_aload_n (pc := 0) cx 0 dX7_isMissing_0 rfl rfl ?_
  refine wa_getR (pc := 1) cx fl_X7_13 lk_1 rfl (cx.bl 1 rfl) dX7_isMissing_1 ?_
  refine wa_iload_n (pc := 4) cx 1 dX7_isMissing_4 rfl rfl ?_
  obtain ⟨g1, hf⟩ := gd_some hf
  refine wa_iald (pc := 5) cx lk_3 (cx.bl 3 rfl) g1 dX7_isMissing_5 ?_
  refine wa_iconst (pc := 6) (v := (-1)) cx dX7_isMissing_6 (by decide) ?_
  refine wa_icmp_ne (pc := 7) cx 14 dX7_isMissing_7 rfl (fun c2 => ?_) (fun c2 => ?_)
  · have hf := (if_neg c2).symm.trans hf
    refine wa_iconst (pc := 14) (v := 0) cx dX7_isMissing_14 (by decide) ?_
    obtain rfl := Option.some.inj hf
    exact wa_zret (pc := 15) cx rfl dX7_isMissing_15
  · have hf := (if_pos c2).symm.trans hf
    refine wa_iconst (pc := 10) (v := 1) cx dX7_isMissing_10 (by decide) ?_
    refine wa_goto (pc := 11) cx 15 dX7_isMissing_11 rfl ?_
    obtain rfl := Option.some.inj hf
    exact wa_zret (pc := 15) cx rfl dX7_isMissing_15
def fX7_hasPlaces_J24  (σ : Sg) : Option (Int32) :=
  some 0
def fX7_hasPlaces (a1 : Int32) (a2 : Int32) (a3 : Int32) (σ : Sg) : Option (Int32) :=
  if a2 < 0 then (fX7_hasPlaces_J24  σ) else (if a3 < 0 then (fX7_hasPlaces_J24  σ) else (gd (inb a1 8) (
  if (ga σ 3 a1 - a3) < a2 then (fX7_hasPlaces_J24  σ) else (some 1))))
set_option maxHeartbeats 4000000 in
set_option maxRecDepth 100000 in
theorem ct_X7_hasPlaces (l : Launch) (E : En) (σ : Sg) (a1 : Int32) (a2 : Int32) (a3 : Int32) (q : Int32) (hf : fX7_hasPlaces a1 a2 a3 σ = some q) : CT l yX7_hasPlaces cX7_hasPlaces 4 (some .boolean) 0 E σ [.ref (eA E 1), .int a1, .int a2, .int a3] (some (.int q)) σ := by
  refine CT.of RX7 [some (.ref (eA E 1)), some (.int a1), some (.int a2), some (.int a3)] rfl (by decide +kernel) (Nat.le_of_ble_eq_true rfl) rfl ?_
  intro p e s m args below meth c cx
  unfold fX7_hasPlaces at hf
  have j24 : ∀  (σ : Sg), fX7_hasPlaces_J24  σ = some q → WA p l e (rmd 0) s m args below meth c 4 E 0 0 (MQ below (Qcq E s.heap.size (some (.int q)) σ) args s 0 0 (AE E s.heap.size)) 24 [none, none, none, none] [] σ := by
    intro  σ hf
    unfold fX7_hasPlaces_J24 at hf
    refine wa_iconst (pc := 24) (v := 0) cx dX7_hasPlaces_24 (by decide) ?_
    obtain rfl := Option.some.inj hf
    exact wa_zret (pc := 25) cx rfl dX7_hasPlaces_25
  refine wa_iload_n (pc := 0) cx 2 dX7_hasPlaces_0 rfl rfl ?_
  refine wa_if_lt (pc := 1) cx 24 dX7_hasPlaces_1 rfl (fun c1 => ?_) (fun c1 => ?_)
  · have hf := (if_pos c1).symm.trans hf
    refine wa_forget [false, false, false, false] [none, none, none, none] rfl ?_
    exact j24  _ hf
  · have hf := (if_neg c1).symm.trans hf
    refine wa_iload_n (pc := 4) cx 3 dX7_hasPlaces_4 rfl rfl ?_
    refine wa_if_lt (pc := 5) cx 24 dX7_hasPlaces_5 rfl (fun c2 => ?_) (fun c2 => ?_)
    · have hf := (if_pos c2).symm.trans hf
      refine wa_forget [false, false, false, false] [none, none, none, none] rfl ?_
      exact j24  _ hf
    · have hf := (if_neg c2).symm.trans hf
      refine wa_iload_n (pc := 8) cx 2 dX7_hasPlaces_8 rfl rfl ?_
      refine wa_aload_n (pc := 9) cx 0 dX7_hasPlaces_9 rfl rfl ?_
      refine wa_getR (pc := 10) cx fl_X7_13 lk_1 rfl (cx.bl 1 rfl) dX7_hasPlaces_10 ?_
      refine wa_iload_n (pc := 13) cx 1 dX7_hasPlaces_13 rfl rfl ?_
      obtain ⟨g3, hf⟩ := gd_some hf
      refine wa_iald (pc := 14) cx lk_3 (cx.bl 3 rfl) g3 dX7_hasPlaces_14 ?_
      refine wa_iload_n (pc := 15) cx 3 dX7_hasPlaces_15 rfl rfl ?_
      refine wa_isub (pc := 16) cx dX7_hasPlaces_16 ?_
      refine wa_icmp_gt (pc := 17) cx 24 dX7_hasPlaces_17 rfl (fun c4 => ?_) (fun c4 => ?_)
      · have hf := (if_pos c4).symm.trans hf
        refine wa_forget [false, false, false, false] [none, none, none, none] rfl ?_
        exact j24  _ hf
      · have hf := (if_neg c4).symm.trans hf
        refine wa_iconst (pc := 20) (v := 1) cx dX7_hasPlaces_20 (by decide) ?_
        refine wa_goto (pc := 21) cx 25 dX7_hasPlaces_21 rfl ?_
        obtain rfl := Option.some.inj hf
        exact wa_zret (pc := 25) cx rfl dX7_hasPlaces_25
def fX7_put_J30 (v1 : Int32) (v2 : Int32) (t0 : Int32) (σ : Sg) : Option (Int32 × Sg) :=
  gd (inb ((v1 * 40) + v2) 320) (
  some (t0, sa σ 4 ((v1 * 40) + v2) t0))
def fX7_put (a1 : Int32) (a2 : Int32) (a3 : Int32) (σ : Sg) : Option (Int32 × Sg) :=
  gd (inb a1 8) (
  if ga σ 2 a1 = 0 then (fX7_put_J30 a1 a2 (i2b a3) σ) else (gd (inb a1 8) (
  if ga σ 2 a1 = 1 then (fX7_put_J30 a1 a2 (i2s a3) σ) else (fX7_put_J30 a1 a2 a3 σ))))
set_option maxHeartbeats 4000000 in
set_option maxRecDepth 100000 in
theorem ct_X7_put (l : Launch) (E : En) (σ : Sg) (a1 : Int32) (a2 : Int32) (a3 : Int32) (q : Int32 × Sg) (hf : fX7_put a1 a2 a3 σ = some q) : CT l yX7_put cX7_put 5 (some .int) 0 E σ [.ref (eA E 1), .int a1, .int a2, .int a3] (some (.int q.1)) q.2 := by
  refine CT.of RX7 [some (.ref (eA E 1)), some (.int a1), some (.int a2), some (.int a3), none] rfl (by decide +kernel) (Nat.le_of_ble_eq_true rfl) rfl ?_
  intro p e s m args below meth c cx
  unfold fX7_put at hf
  have j30 : ∀ (v1 : Int32) (v2 : Int32) (t0 : Int32) (σ : Sg), fX7_put_J30 v1 v2 t0 σ = some q → WA p l e (rmd 0) s m args below meth c 5 E 0 0 (MQ below (Qcq E s.heap.size (some (.int q.1)) q.2) args s 0 0 (AE E s.heap.size)) 30 [some (.ref (eA E 1)), some (.int v1), some (.int v2), none, none] [.int t0] σ := by
    intro v1 v2 t0 σ hf
    unfold fX7_put_J30 at hf
    refine wa_istore (pc := 30) cx 4 [some (.ref (eA E 1)), some (.int v1), some (.int v2), none, some (.int t0)] dX7_put_30 (by decide) rfl rfl ?_
    refine wa_aload_n (pc := 32) cx 0 dX7_put_32 rfl rfl ?_
    refine wa_getR (pc := 33) cx fl_X7_16 lk_1 rfl (cx.bl 1 rfl) dX7_put_33 ?_
    refine wa_iload_n (pc := 36) cx 1 dX7_put_36 rfl rfl ?_
    refine wa_bipush (pc := 37) (v := 40) cx dX7_put_37 (by decide) ?_
    refine wa_imul (pc := 39) cx dX7_put_39 ?_
    refine wa_iload_n (pc := 40) cx 2 dX7_put_40 rfl rfl ?_
    refine wa_iadd (pc := 41) cx dX7_put_41 ?_
    refine wa_iload (pc := 42) cx 4 dX7_put_42 rfl ?_
    obtain ⟨g5, hf⟩ := gd_some hf
    refine wa_iast (pc := 44) cx lk_4 (cx.bl 4 rfl) g5 dX7_put_44 ?_
    refine wa_iload (pc := 45) cx 4 dX7_put_45 rfl ?_
    obtain rfl := Option.some.inj hf
    exact wa_iret (pc := 47) cx dX7_put_47
  refine wa_aload_n (pc := 0) cx 0 dX7_put_0 rfl rfl ?_
  refine wa_getR (pc := 1) cx fl_X7_9 lk_1 rfl (cx.bl 1 rfl) dX7_put_1 ?_
  refine wa_iload_n (pc := 4) cx 1 dX7_put_4 rfl rfl ?_
  obtain ⟨g1, hf⟩ := gd_some hf
  refine wa_iald (pc := 5) cx lk_2 (cx.bl 2 rfl) g1 dX7_put_5 ?_
  refine wa_if_ne (pc := 6) cx 14 dX7_put_6 rfl (fun c2 => ?_) (fun c2 => ?_)
  · have hf := (if_neg c2).symm.trans hf
    refine wa_aload_n (pc := 14) cx 0 dX7_put_14 rfl rfl ?_
    refine wa_getR (pc := 15) cx fl_X7_9 lk_1 rfl (cx.bl 1 rfl) dX7_put_15 ?_
    refine wa_iload_n (pc := 18) cx 1 dX7_put_18 rfl rfl ?_
    obtain ⟨g3, hf⟩ := gd_some hf
    refine wa_iald (pc := 19) cx lk_2 (cx.bl 2 rfl) g3 dX7_put_19 ?_
    refine wa_iconst (pc := 20) (v := 1) cx dX7_put_20 (by decide) ?_
    refine wa_icmp_ne (pc := 21) cx 29 dX7_put_21 rfl (fun c4 => ?_) (fun c4 => ?_)
    · have hf := (if_neg c4).symm.trans hf
      refine wa_iload_n (pc := 29) cx 3 dX7_put_29 rfl rfl ?_
      refine wa_forget [true, true, true, false, false] [some (.ref (eA E 1)), some (.int a1), some (.int a2), none, none] rfl ?_
      exact j30 _ _ _ _ hf
    · have hf := (if_pos c4).symm.trans hf
      refine wa_iload_n (pc := 24) cx 3 dX7_put_24 rfl rfl ?_
      refine wa_i2s (pc := 25) cx dX7_put_25 ?_
      refine wa_goto (pc := 26) cx 30 dX7_put_26 rfl ?_
      refine wa_forget [true, true, true, false, false] [some (.ref (eA E 1)), some (.int a1), some (.int a2), none, none] rfl ?_
      exact j30 _ _ _ _ hf
  · have hf := (if_pos c2).symm.trans hf
    refine wa_iload_n (pc := 9) cx 3 dX7_put_9 rfl rfl ?_
    refine wa_i2b (pc := 10) cx dX7_put_10 ?_
    refine wa_goto (pc := 11) cx 30 dX7_put_11 rfl ?_
    refine wa_forget [true, true, true, false, false] [some (.ref (eA E 1)), some (.int a1), some (.int a2), none, none] rfl ?_
    exact j30 _ _ _ _ hf
def fX7_laneOf (a1 : Int32) (σ : Sg) : Option (Int32) :=
  gd (inb a1 8) (
  some (ga σ 2 a1))
set_option maxHeartbeats 4000000 in
set_option maxRecDepth 100000 in
theorem ct_X7_laneOf (l : Launch) (E : En) (σ : Sg) (a1 : Int32) (q : Int32) (hf : fX7_laneOf a1 σ = some q) : CT l yX7_laneOf cX7_laneOf 2 (some .int) 0 E σ [.ref (eA E 1), .int a1] (some (.int q)) σ := by
  refine CT.of RX7 [some (.ref (eA E 1)), some (.int a1)] rfl (by decide +kernel) (Nat.le_of_ble_eq_true rfl) rfl ?_
  intro p e s m args below meth c cx
  unfold fX7_laneOf at hf
  refine wa_aload_n (pc := 0) cx 0 dX7_laneOf_0 rfl rfl ?_
  refine wa_getR (pc := 1) cx fl_X7_9 lk_1 rfl (cx.bl 1 rfl) dX7_laneOf_1 ?_
  refine wa_iload_n (pc := 4) cx 1 dX7_laneOf_4 rfl rfl ?_
  obtain ⟨g1, hf⟩ := gd_some hf
  refine wa_iald (pc := 5) cx lk_2 (cx.bl 2 rfl) g1 dX7_laneOf_5 ?_
  obtain rfl := Option.some.inj hf
  exact wa_iret (pc := 6) cx dX7_laneOf_6
def fX7_move (a1 : Int32) (a2 : Int32) (a3 : Int32) (a4 : Int32) (a5 : Int32) (σ : Sg) : Option (Sg) :=
  gd (cpk ((a1 * 40) + a2) ((a3 * 40) + a4) a5 320 320) (
  some (scp σ 4 4 ((a1 * 40) + a2) ((a3 * 40) + a4) a5))
set_option maxHeartbeats 4000000 in
set_option maxRecDepth 100000 in
theorem ct_X7_move (l : Launch) (E : En) (σ : Sg) (a1 : Int32) (a2 : Int32) (a3 : Int32) (a4 : Int32) (a5 : Int32) (q : Sg) (hf : fX7_move a1 a2 a3 a4 a5 σ = some q) : CT l yX7_move cX7_move 6 none 1 E σ [.ref (eA E 1), .int a1, .int a2, .int a3, .int a4, .int a5] none q := by
  refine CT.of RX7 [some (.ref (eA E 1)), some (.int a1), some (.int a2), some (.int a3), some (.int a4), some (.int a5)] rfl (by decide +kernel) (Nat.le_of_ble_eq_true rfl) rfl ?_
  intro p e s m args below meth c cx
  unfold fX7_move at hf
  refine wa_aload_n (pc := 0) cx 0 dX7_move_0 rfl rfl ?_
  refine wa_getR (pc := 1) cx fl_X7_16 lk_1 rfl (cx.bl 1 rfl) dX7_move_1 ?_
  refine wa_iload_n (pc := 4) cx 1 dX7_move_4 rfl rfl ?_
  refine wa_bipush (pc := 5) (v := 40) cx dX7_move_5 (by decide) ?_
  refine wa_imul (pc := 7) cx dX7_move_7 ?_
  refine wa_iload_n (pc := 8) cx 2 dX7_move_8 rfl rfl ?_
  refine wa_iadd (pc := 9) cx dX7_move_9 ?_
  refine wa_aload_n (pc := 10) cx 0 dX7_move_10 rfl rfl ?_
  refine wa_getR (pc := 11) cx fl_X7_16 lk_1 rfl (cx.bl 1 rfl) dX7_move_11 ?_
  refine wa_iload_n (pc := 14) cx 3 dX7_move_14 rfl rfl ?_
  refine wa_bipush (pc := 15) (v := 40) cx dX7_move_15 (by decide) ?_
  refine wa_imul (pc := 17) cx dX7_move_17 ?_
  refine wa_iload (pc := 18) cx 4 dX7_move_18 rfl ?_
  refine wa_iadd (pc := 20) cx dX7_move_20 ?_
  refine wa_iload (pc := 21) cx 5 dX7_move_21 rfl ?_
  obtain ⟨g1, hf⟩ := gd_some hf
  refine wa_copy (pc := 23) cx lk_4 lk_4 (cx.bl 4 rfl) (cx.bl 4 rfl) g1 tw_395 (Nat.le_of_ble_eq_true rfl) (Nat.le_of_ble_eq_true rfl) dX7_move_23 ?_
  obtain rfl := Option.some.inj hf
  exact wa_vret (pc := 26) cx dX7_move_26
def fX7_sizeOf (a1 : Int32) (σ : Sg) : Option (Int32) :=
  gd (inb a1 8) (
  some (ga σ 3 a1))
set_option maxHeartbeats 4000000 in
set_option maxRecDepth 100000 in
theorem ct_X7_sizeOf (l : Launch) (E : En) (σ : Sg) (a1 : Int32) (q : Int32) (hf : fX7_sizeOf a1 σ = some q) : CT l yX7_sizeOf cX7_sizeOf 2 (some .int) 0 E σ [.ref (eA E 1), .int a1] (some (.int q)) σ := by
  refine CT.of RX7 [some (.ref (eA E 1)), some (.int a1)] rfl (by decide +kernel) (Nat.le_of_ble_eq_true rfl) rfl ?_
  intro p e s m args below meth c cx
  unfold fX7_sizeOf at hf
  refine wa_aload_n (pc := 0) cx 0 dX7_sizeOf_0 rfl rfl ?_
  refine wa_getR (pc := 1) cx fl_X7_13 lk_1 rfl (cx.bl 1 rfl) dX7_sizeOf_1 ?_
  refine wa_iload_n (pc := 4) cx 1 dX7_sizeOf_4 rfl rfl ?_
  obtain ⟨g1, hf⟩ := gd_some hf
  refine wa_iald (pc := 5) cx lk_3 (cx.bl 3 rfl) g1 dX7_sizeOf_5 ?_
  obtain rfl := Option.some.inj hf
  exact wa_iret (pc := 6) cx dX7_sizeOf_6
def fX7_remove (a1 : Int32) (σ : Sg) : Option (Sg) :=
  gd (inb a1 8) (
  some (sa σ 3 a1 (-1)))
set_option maxHeartbeats 4000000 in
set_option maxRecDepth 100000 in
theorem ct_X7_remove (l : Launch) (E : En) (σ : Sg) (a1 : Int32) (q : Sg) (hf : fX7_remove a1 σ = some q) : CT l yX7_remove cX7_remove 2 none 0 E σ [.ref (eA E 1), .int a1] none q := by
  refine CT.of RX7 [some (.ref (eA E 1)), some (.int a1)] rfl (by decide +kernel) (Nat.le_of_ble_eq_true rfl) rfl ?_
  intro p e s m args below meth c cx
  unfold fX7_remove at hf
  refine wa_aload_n (pc := 0) cx 0 dX7_remove_0 rfl rfl ?_
  refine wa_getR (pc := 1) cx fl_X7_13 lk_1 rfl (cx.bl 1 rfl) dX7_remove_1 ?_
  refine wa_iload_n (pc := 4) cx 1 dX7_remove_4 rfl rfl ?_
  refine wa_iconst (pc := 5) (v := (-1)) cx dX7_remove_5 (by decide) ?_
  obtain ⟨g1, hf⟩ := gd_some hf
  refine wa_iast (pc := 6) cx lk_3 (cx.bl 3 rfl) g1 dX7_remove_6 ?_
  obtain rfl := Option.some.inj hf
  exact wa_vret (pc := 7) cx dX7_remove_7
def fX7_hasBelowZero_B3 (v1 : Int32) (v2 : Int32) (v3 : Int32) (v4 : Int32) (σ : Sg) : Option ((Int32) ⊕ ((Unit) ⊕ (Unit))) :=
  if v3 ≤ v4 then (some (.inr (.inr ()))) else (gd (inb (((v1 * 40) + v2) + v4) 320) (
  if (0 : Int32) ≤ ga σ 4 (((v1 * 40) + v2) + v4) then (some (.inl (v4 + 1))) else (some (.inr (.inl ())))))
def fX7_hasBelowZero (a1 : Int32) (a2 : Int32) (a3 : Int32) (σ : Sg) : Option (Int32) :=
  (lpO (fun w => fX7_hasBelowZero_B3 a1 a2 a3 w σ) FUEL 0).bind (fun o6 => match o6 with
  | .inl z7 => some 1
  | .inr z8 => some 0)
set_option maxHeartbeats 4000000 in
set_option maxRecDepth 100000 in
theorem ct_X7_hasBelowZero (l : Launch) (E : En) (σ : Sg) (a1 : Int32) (a2 : Int32) (a3 : Int32) (q : Int32) (hf : fX7_hasBelowZero a1 a2 a3 σ = some q) : CT l yX7_hasBelowZero cX7_hasBelowZero 5 (some .boolean) 0 E σ [.ref (eA E 1), .int a1, .int a2, .int a3] (some (.int q)) σ := by
  refine CT.of RX7 [some (.ref (eA E 1)), some (.int a1), some (.int a2), some (.int a3), none] rfl (by decide +kernel) (Nat.le_of_ble_eq_true rfl) rfl ?_
  intro p e s m args below meth c cx
  unfold fX7_hasBelowZero at hf
  have l3 : ∀ (v1 : Int32) (v2 : Int32) (v3 : Int32) (σ : Sg) (y : Int32) (o : (Unit) ⊕ (Unit)), lpO (fun w => fX7_hasBelowZero_B3 v1 v2 v3 w σ) FUEL y = some o → (sel (fun z4 => WA p l e (rmd 0) s m args below meth c 5 E 0 0 (MQ below (Qcq E s.heap.size (some (.int q)) σ) args s 0 0 (AE E s.heap.size)) 26 [none, none, none, none, none] [] σ) (fun z4 => WA p l e (rmd 0) s m args below meth c 5 E 0 0 (MQ below (Qcq E s.heap.size (some (.int q)) σ) args s 0 0 (AE E s.heap.size)) 34 [none, none, none, none, none] [] σ) o) → WA p l e (rmd 0) s m args below meth c 5 E 0 0 (MQ below (Qcq E s.heap.size (some (.int q)) σ) args s 0 0 (AE E s.heap.size)) 3 [some (.ref (eA E 1)), some (.int v1), some (.int v2), some (.int v3), some (.int y)] [] σ := by
    intro v1 v2 v3 σ y o hf hk
    refine lp_rule (P := fun y => WA p l e (rmd 0) s m args below meth c 5 E 0 0 (MQ below (Qcq E s.heap.size (some (.int q)) σ) args s 0 0 (AE E s.heap.size)) 3 [some (.ref (eA E 1)), some (.int v1), some (.int v2), some (.int v3), some (.int y)] [] σ) (K := fun o => sel (fun z5 => WA p l e (rmd 0) s m args below meth c 5 E 0 0 (MQ below (Qcq E s.heap.size (some (.int q)) σ) args s 0 0 (AE E s.heap.size)) 26 [none, none, none, none, none] [] σ) (fun z5 => WA p l e (rmd 0) s m args below meth c 5 E 0 0 (MQ below (Qcq E s.heap.size (some (.int q)) σ) args s 0 0 (AE E s.heap.size)) 34 [none, none, none, none, none] [] σ) o) ?_ FUEL y o hf hk
    intro v4 r1 hf hk1
    have hf : fX7_hasBelowZero_B3 v1 v2 v3 v4 σ = some r1 := hf
    unfold fX7_hasBelowZero_B3 at hf
    refine wa_iload (pc := 3) cx 4 dX7_hasBelowZero_3 rfl ?_
    refine wa_iload_n (pc := 5) cx 3 dX7_hasBelowZero_5 rfl rfl ?_
    refine wa_icmp_ge (pc := 6) cx 34 dX7_hasBelowZero_6 rfl (fun c1 => ?_) (fun c1 => ?_)
    · have hf := (if_pos c1).symm.trans hf
      obtain rfl := Option.some.inj hf
      refine wa_forget [false, false, false, false, false] [none, none, none, none, none] rfl ?_
      exact hk1
    · have hf := (if_neg c1).symm.trans hf
      refine wa_aload_n (pc := 9) cx 0 dX7_hasBelowZero_9 rfl rfl ?_
      refine wa_getR (pc := 10) cx fl_X7_16 lk_1 rfl (cx.bl 1 rfl) dX7_hasBelowZero_10 ?_
      refine wa_iload_n (pc := 13) cx 1 dX7_hasBelowZero_13 rfl rfl ?_
      refine wa_bipush (pc := 14) (v := 40) cx dX7_hasBelowZero_14 (by decide) ?_
      refine wa_imul (pc := 16) cx dX7_hasBelowZero_16 ?_
      refine wa_iload_n (pc := 17) cx 2 dX7_hasBelowZero_17 rfl rfl ?_
      refine wa_iadd (pc := 18) cx dX7_hasBelowZero_18 ?_
      refine wa_iload (pc := 19) cx 4 dX7_hasBelowZero_19 rfl ?_
      refine wa_iadd (pc := 21) cx dX7_hasBelowZero_21 ?_
      obtain ⟨g2, hf⟩ := gd_some hf
      refine wa_iald (pc := 22) cx lk_4 (cx.bl 4 rfl) g2 dX7_hasBelowZero_22 ?_
      refine wa_if_ge (pc := 23) cx 28 dX7_hasBelowZero_23 rfl (fun c3 => ?_) (fun c3 => ?_)
      · have hf := (if_pos c3).symm.trans hf
        refine wa_iinc (pc := 28) (v := 1) cx 4 [some (.ref (eA E 1)), some (.int v1), some (.int v2), some (.int v3), some (.int (v4 + 1))] dX7_hasBelowZero_28 (by decide) rfl (by decide) rfl rfl ?_
        refine wa_goto (pc := 31) cx 3 dX7_hasBelowZero_31 rfl ?_
        obtain rfl := Option.some.inj hf
        refine wa_forget [true, true, true, true, true] [some (.ref (eA E 1)), some (.int v1), some (.int v2), some (.int v3), some (.int (v4 + 1))] rfl ?_
        exact hk1
      · have hf := (if_neg c3).symm.trans hf
        obtain rfl := Option.some.inj hf
        refine wa_forget [false, false, false, false, false] [none, none, none, none, none] rfl ?_
        exact hk1
  refine wa_iconst (pc := 0) (v := 0) cx dX7_hasBelowZero_0 (by decide) ?_
  refine wa_istore (pc := 1) cx 4 [some (.ref (eA E 1)), some (.int a1), some (.int a2), some (.int a3), some (.int 0)] dX7_hasBelowZero_1 (by decide) rfl rfl ?_
  obtain ⟨o6, h9, hf⟩ := bd_some hf
  refine l3 _ _ _ _ _ _ h9 ?_
  cases o6 with
  | inl z7 =>
    refine wa_iconst (pc := 26) (v := 1) cx dX7_hasBelowZero_26 (by decide) ?_
    obtain rfl := Option.some.inj hf
    exact wa_zret (pc := 27) cx rfl dX7_hasBelowZero_27
  | inr z8 =>
    refine wa_iconst (pc := 34) (v := 0) cx dX7_hasBelowZero_34 (by decide) ?_
    obtain rfl := Option.some.inj hf
    exact wa_zret (pc := 35) cx rfl dX7_hasBelowZero_35
def fX7_countUpTo_B3 (v1 : Int32) (v2 : Int32) (v3 : Int32) (v4 : Int32) (v5 : Int32) (σ : Sg) : Option ((Int32) ⊕ ((Int32) ⊕ (Unit))) :=
  if v3 ≤ v5 then (some (.inr (.inr ()))) else (gd (inb (((v1 * 40) + v2) + v5) 320) (
  if ga σ 4 (((v1 * 40) + v2) + v5) ≤ v4 then (some (.inl (v5 + 1))) else (some (.inr (.inl v5)))))
def fX7_countUpTo (a1 : Int32) (a2 : Int32) (a3 : Int32) (a4 : Int32) (σ : Sg) : Option (Int32) :=
  (lpO (fun w => fX7_countUpTo_B3 a1 a2 a3 a4 w σ) FUEL 0).bind (fun o6 => match o6 with
  | .inl z7 => some z7
  | .inr z8 => some a3)
set_option maxHeartbeats 4000000 in
set_option maxRecDepth 100000 in
theorem ct_X7_countUpTo (l : Launch) (E : En) (σ : Sg) (a1 : Int32) (a2 : Int32) (a3 : Int32) (a4 : Int32) (q : Int32) (hf : fX7_countUpTo a1 a2 a3 a4 σ = some q) : CT l yX7_countUpTo cX7_countUpTo 6 (some .int) 0 E σ [.ref (eA E 1), .int a1, .int a2, .int a3, .int a4] (some (.int q)) σ := by
  refine CT.of RX7 [some (.ref (eA E 1)), some (.int a1), some (.int a2), some (.int a3), some (.int a4), none] rfl (by decide +kernel) (Nat.le_of_ble_eq_true rfl) rfl ?_
  intro p e s m args below meth c cx
  unfold fX7_countUpTo at hf
  have l3 : ∀ (v1 : Int32) (v2 : Int32) (v3 : Int32) (v4 : Int32) (σ : Sg) (y : Int32) (o : (Int32) ⊕ (Unit)), lpO (fun w => fX7_countUpTo_B3 v1 v2 v3 v4 w σ) FUEL y = some o → (sel (fun z4 => WA p l e (rmd 0) s m args below meth c 6 E 0 0 (MQ below (Qcq E s.heap.size (some (.int q)) σ) args s 0 0 (AE E s.heap.size)) 28 [none, none, none, none, none, some (.int z4)] [] σ) (fun z4 => WA p l e (rmd 0) s m args below meth c 6 E 0 0 (MQ below (Qcq E s.heap.size (some (.int q)) σ) args s 0 0 (AE E s.heap.size)) 37 [none, none, none, some (.int v3), none, none] [] σ) o) → WA p l e (rmd 0) s m args below meth c 6 E 0 0 (MQ below (Qcq E s.heap.size (some (.int q)) σ) args s 0 0 (AE E s.heap.size)) 3 [some (.ref (eA E 1)), some (.int v1), some (.int v2), some (.int v3), some (.int v4), some (.int y)] [] σ := by
    intro v1 v2 v3 v4 σ y o hf hk
    refine lp_rule (P := fun y => WA p l e (rmd 0) s m args below meth c 6 E 0 0 (MQ below (Qcq E s.heap.size (some (.int q)) σ) args s 0 0 (AE E s.heap.size)) 3 [some (.ref (eA E 1)), some (.int v1), some (.int v2), some (.int v3), some (.int v4), some (.int y)] [] σ) (K := fun o => sel (fun z5 => WA p l e (rmd 0) s m args below meth c 6 E 0 0 (MQ below (Qcq E s.heap.size (some (.int q)) σ) args s 0 0 (AE E s.heap.size)) 28 [none, none, none, none, none, some (.int z5)] [] σ) (fun z5 => WA p l e (rmd 0) s m args below meth c 6 E 0 0 (MQ below (Qcq E s.heap.size (some (.int q)) σ) args s 0 0 (AE E s.heap.size)) 37 [none, none, none, some (.int v3), none, none] [] σ) o) ?_ FUEL y o hf hk
    intro v5 r1 hf hk1
    have hf : fX7_countUpTo_B3 v1 v2 v3 v4 v5 σ = some r1 := hf
    unfold fX7_countUpTo_B3 at hf
    refine wa_iload (pc := 3) cx 5 dX7_countUpTo_3 rfl ?_
    refine wa_iload_n (pc := 5) cx 3 dX7_countUpTo_5 rfl rfl ?_
    refine wa_icmp_ge (pc := 6) cx 37 dX7_countUpTo_6 rfl (fun c1 => ?_) (fun c1 => ?_)
    · have hf := (if_pos c1).symm.trans hf
      obtain rfl := Option.some.inj hf
      refine wa_forget [false, false, false, true, false, false] [none, none, none, some (.int v3), none, none] rfl ?_
      exact hk1
    · have hf := (if_neg c1).symm.trans hf
      refine wa_aload_n (pc := 9) cx 0 dX7_countUpTo_9 rfl rfl ?_
      refine wa_getR (pc := 10) cx fl_X7_16 lk_1 rfl (cx.bl 1 rfl) dX7_countUpTo_10 ?_
      refine wa_iload_n (pc := 13) cx 1 dX7_countUpTo_13 rfl rfl ?_
      refine wa_bipush (pc := 14) (v := 40) cx dX7_countUpTo_14 (by decide) ?_
      refine wa_imul (pc := 16) cx dX7_countUpTo_16 ?_
      refine wa_iload_n (pc := 17) cx 2 dX7_countUpTo_17 rfl rfl ?_
      refine wa_iadd (pc := 18) cx dX7_countUpTo_18 ?_
      refine wa_iload (pc := 19) cx 5 dX7_countUpTo_19 rfl ?_
      refine wa_iadd (pc := 21) cx dX7_countUpTo_21 ?_
      obtain ⟨g2, hf⟩ := gd_some hf
      refine wa_iald (pc := 22) cx lk_4 (cx.bl 4 rfl) g2 dX7_countUpTo_22 ?_
      refine wa_iload (pc := 23) cx 4 dX7_countUpTo_23 rfl ?_
      refine wa_icmp_le (pc := 25) cx 31 dX7_countUpTo_25 rfl (fun c3 => ?_) (fun c3 => ?_)
      · have hf := (if_pos c3).symm.trans hf
        refine wa_iinc (pc := 31) (v := 1) cx 5 [some (.ref (eA E 1)), some (.int v1), some (.int v2), some (.int v3), some (.int v4), some (.int (v5 + 1))] dX7_countUpTo_31 (by decide) rfl (by decide) rfl rfl ?_
        refine wa_goto (pc := 34) cx 3 dX7_countUpTo_34 rfl ?_
        obtain rfl := Option.some.inj hf
        refine wa_forget [true, true, true, true, true, true] [some (.ref (eA E 1)), some (.int v1), some (.int v2), some (.int v3), some (.int v4), some (.int (v5 + 1))] rfl ?_
        exact hk1
      · have hf := (if_neg c3).symm.trans hf
        obtain rfl := Option.some.inj hf
        refine wa_forget [false, false, false, false, false, true] [none, none, none, none, none, some (.int v5)] rfl ?_
        exact hk1
  refine wa_iconst (pc := 0) (v := 0) cx dX7_countUpTo_0 (by decide) ?_
  refine wa_istore (pc := 1) cx 5 [some (.ref (eA E 1)), some (.int a1), some (.int a2), some (.int a3), some (.int a4), some (.int 0)] dX7_countUpTo_1 (by decide) rfl rfl ?_
  obtain ⟨o6, h9, hf⟩ := bd_some hf
  refine l3 _ _ _ _ _ _ _ h9 ?_
  cases o6 with
  | inl z7 =>
    refine wa_iload (pc := 28) cx 5 dX7_countUpTo_28 rfl ?_
    obtain rfl := Option.some.inj hf
    exact wa_iret (pc := 30) cx dX7_countUpTo_30
  | inr z8 =>
    refine wa_iload_n (pc := 37) cx 3 dX7_countUpTo_37 rfl rfl ?_
    obtain rfl := Option.some.inj hf
    exact wa_iret (pc := 38) cx dX7_countUpTo_38
def fX7_howMany_J24 (v2 : Int32) (t1 : Int32) (t0 : Int32) (σ : Sg) : Option ((Int32 × Int32) ⊕ (Int32)) :=
  some (.inl ((t0 + t1), (v2 + 1)))
def fX7_howMany_B4  (v1 : Int32) (v2 : Int32) (σ : Sg) : Option ((Int32 × Int32) ⊕ (Int32)) :=
  if (8 : Int32) ≤ v2 then (some (.inr v1)) else ((fX7_isMissing v2 σ).bind (fun q2 =>
  if q2 = 0 then (fX7_howMany_J24 v2 1 v1 σ) else (fX7_howMany_J24 v2 0 v1 σ)))
def fX7_howMany  (σ : Sg) : Option (Int32) :=
  (lpO (fun w => fX7_howMany_B4  w.1 w.2 σ) FUEL (0, 0)).bind (fun o5 =>
  some o5)
set_option maxHeartbeats 4000000 in
set_option maxRecDepth 100000 in
theorem ct_X7_howMany (l : Launch) (E : En) (σ : Sg)  (q : Int32) (hf : fX7_howMany  σ = some q) : CT l yX7_howMany cX7_howMany 3 (some .int) 1 E σ [.ref (eA E 1)] (some (.int q)) σ := by
  refine CT.of RX7 [some (.ref (eA E 1)), none, none] rfl (by decide +kernel) (Nat.le_of_ble_eq_true rfl) rfl ?_
  intro p e s m args below meth c cx
  unfold fX7_howMany at hf
  have l4 : ∀  (σ : Sg) (y : Int32 × Int32) (o : Int32), lpO (fun w => fX7_howMany_B4  w.1 w.2 σ) FUEL y = some o → (WA p l e (rmd 1) s m args below meth c 3 E 0 0 (MQ below (Qcq E s.heap.size (some (.int q)) σ) args s 0 0 (AE E s.heap.size)) 32 [none, some (.int o), none] [] σ) → WA p l e (rmd 1) s m args below meth c 3 E 0 0 (MQ below (Qcq E s.heap.size (some (.int q)) σ) args s 0 0 (AE E s.heap.size)) 4 [some (.ref (eA E 1)), some (.int y.1), some (.int y.2)] [] σ := by
    intro  σ y o hf hk
    refine lp_rule (P := fun y => WA p l e (rmd 1) s m args below meth c 3 E 0 0 (MQ below (Qcq E s.heap.size (some (.int q)) σ) args s 0 0 (AE E s.heap.size)) 4 [some (.ref (eA E 1)), some (.int y.1), some (.int y.2)] [] σ) (K := fun o => WA p l e (rmd 1) s m args below meth c 3 E 0 0 (MQ below (Qcq E s.heap.size (some (.int q)) σ) args s 0 0 (AE E s.heap.size)) 32 [none, some (.int o), none] [] σ) ?_ FUEL y o hf hk
    have j24 : ∀ (v2 : Int32) (t1 : Int32) (t0 : Int32) (σ : Sg) (r1 : (Int32 × Int32) ⊕ (Int32)), fX7_howMany_J24 v2 t1 t0 σ = some r1 → (sel (fun y1 => WA p l e (rmd 1) s m args below meth c 3 E 0 0 (MQ below (Qcq E s.heap.size (some (.int q)) σ) args s 0 0 (AE E s.heap.size)) 4 [some (.ref (eA E 1)), some (.int y1.1), some (.int y1.2)] [] σ) (fun y1 => WA p l e (rmd 1) s m args below meth c 3 E 0 0 (MQ below (Qcq E s.heap.size (some (.int q)) σ) args s 0 0 (AE E s.heap.size)) 32 [none, some (.int y1), none] [] σ) r1) → WA p l e (rmd 1) s m args below meth c 3 E 0 0 (MQ below (Qcq E s.heap.size (some (.int q)) σ) args s 0 0 (AE E s.heap.size)) 24 [some (.ref (eA E 1)), none, some (.int v2)] [.int t1, .int t0] σ := by
      intro v2 t1 t0 σ r1 hf hk1
      unfold fX7_howMany_J24 at hf
      refine wa_iadd (pc := 24) cx dX7_howMany_24 ?_
      refine wa_istore_n (pc := 25) cx 1 [some (.ref (eA E 1)), some (.int (t0 + t1)), some (.int v2)] dX7_howMany_25 rfl (by decide) rfl rfl ?_
      refine wa_iinc (pc := 26) (v := 1) cx 2 [some (.ref (eA E 1)), some (.int (t0 + t1)), some (.int (v2 + 1))] dX7_howMany_26 (by decide) rfl (by decide) rfl rfl ?_
      refine wa_goto (pc := 29) cx 4 dX7_howMany_29 rfl ?_
      obtain rfl := Option.some.inj hf
      refine wa_forget [true, true, true] [some (.ref (eA E 1)), some (.int (t0 + t1)), some (.int (v2 + 1))] rfl ?_
      exact hk1
    intro y0 r1 hf hk1
    obtain ⟨v1, v2⟩ := y0
    have hf : fX7_howMany_B4  v1 v2 σ = some r1 := hf
    unfold fX7_howMany_B4 at hf
    refine wa_iload_n (pc := 4) cx 2 dX7_howMany_4 rfl rfl ?_
    refine wa_bipush (pc := 5) (v := 8) cx dX7_howMany_5 (by decide) ?_
    refine wa_icmp_ge (pc := 7) cx 32 dX7_howMany_7 rfl (fun c1 => ?_) (fun c1 => ?_)
    · have hf := (if_pos c1).symm.trans hf
      obtain rfl := Option.some.inj hf
      refine wa_forget [false, true, false] [none, some (.int v1), none] rfl ?_
      exact hk1
    · have hf := (if_neg c1).symm.trans hf
      refine wa_iload_n (pc := 10) cx 1 dX7_howMany_10 rfl rfl ?_
      refine wa_aload_n (pc := 11) cx 0 dX7_howMany_11 rfl rfl ?_
      refine wa_iload_n (pc := 12) cx 2 dX7_howMany_12 rfl rfl ?_
      obtain ⟨q2, h3, hf⟩ := bd_some hf
      refine wa_callVi (pc := 13) cx [.int v2] (ct_X7_isMissing l E _ _ _ h3) mi_X7_isMissing tw_836 lk_1 rfl (cx.bl 1 rfl) rfl rfl (Nat.le_of_ble_eq_true rfl) ⟨Nat.le_of_ble_eq_true rfl, Nat.le_of_ble_eq_true rfl⟩ ⟨Nat.zero_le _, Nat.zero_le _⟩ dX7_howMany_13 ?_
      refine wa_if_eq (pc := 16) cx 23 dX7_howMany_16 rfl (fun c4 => ?_) (fun c4 => ?_)
      · have hf := (if_pos c4).symm.trans hf
        refine wa_iconst (pc := 23) (v := 1) cx dX7_howMany_23 (by decide) ?_
        refine wa_forget [true, false, true] [some (.ref (eA E 1)), none, some (.int v2)] rfl ?_
        exact j24 _ _ _ _ _ hf hk1
      · have hf := (if_neg c4).symm.trans hf
        refine wa_iconst (pc := 19) (v := 0) cx dX7_howMany_19 (by decide) ?_
        refine wa_goto (pc := 20) cx 24 dX7_howMany_20 rfl ?_
        refine wa_forget [true, false, true] [some (.ref (eA E 1)), none, some (.int v2)] rfl ?_
        exact j24 _ _ _ _ _ hf hk1
  refine wa_iconst (pc := 0) (v := 0) cx dX7_howMany_0 (by decide) ?_
  refine wa_istore_n (pc := 1) cx 1 [some (.ref (eA E 1)), some (.int 0), none] dX7_howMany_1 rfl (by decide) rfl rfl ?_
  refine wa_iconst (pc := 2) (v := 0) cx dX7_howMany_2 (by decide) ?_
  refine wa_istore_n (pc := 3) cx 2 [some (.ref (eA E 1)), some (.int 0), some (.int 0)] dX7_howMany_3 rfl (by decide) rfl rfl ?_
  obtain ⟨o5, h6, hf⟩ := bd_some hf
  refine l4  _ _ _ h6 ?_
  refine wa_iload_n (pc := 32) cx 1 dX7_howMany_32 rfl rfl ?_
  obtain rfl := Option.some.inj hf
  exact wa_iret (pc := 33) cx dX7_howMany_33
