def fX11_number_J53 (v3 : Int32) (t1 : Int32) (σ : Sg) : Option (Int32 × Sg) :=
  (fX11_must t1 σ).bind (fun q6 =>
  some (v3, q6))
def fX11_number_J39 (v3 : Int32) (σ : Sg) : Option (Int32 × Sg) :=
  if gf σ 38 15 = 3 then (fX11_number_J53 v3 1 σ) else (fX11_number_J53 v3 0 σ)
def fX11_number (a1 : Int32) (a2 : Int32) (σ : Sg) : Option (Int32 × Sg) :=
  if gf σ 38 18 ≤ 0 then ((fX11_figures  σ).bind (fun q2 =>
  if gf σ 38 15 = 3 then ((fX11_in ((q2).toInt64) ((a1).toInt64) ((a2).toInt64) σ).bind (fun q8 =>
  if q8 = 0 then ((fX11_bad 2 σ).bind (fun q11 =>
  fX11_number_J39 q2 q11)) else (fX11_number_J39 q2 σ))) else (fX11_number_J39 q2 σ))) else (some (0, σ))
set_option maxHeartbeats 4000000 in
set_option maxRecDepth 100000 in
theorem ct_X11_number (l : Launch) (E : En) (σ : Sg) (a1 : Int32) (a2 : Int32) (q : Int32 × Sg) (hf : fX11_number a1 a2 σ = some q) : CT l yX11_number cX11_number 4 (some .int) 3 E σ [.ref (eA E 38), .int a1, .int a2] (some (.int q.1)) q.2 := by
  refine CT.of RX11 [some (.ref (eA E 38)), some (.int a1), some (.int a2), none] rfl (by decide +kernel) (Nat.le_of_ble_eq_true rfl) rfl ?_
  intro p e s m args below meth c cx
  unfold fX11_number at hf
  have j53 : ∀ (v3 : Int32) (t1 : Int32) (σ : Sg), fX11_number_J53 v3 t1 σ = some q → WA p l e (rmd 3) s m args below meth c 4 E 0 0 (MQ below (Qcq E s.heap.size (some (.int q.1)) q.2) args s 0 0 (AE E s.heap.size)) 53 [none, none, none, some (.int v3)] [.int t1, .ref (eA E 38)] σ := by
    intro v3 t1 σ hf
    unfold fX11_number_J53 at hf
    obtain ⟨q6, h7, hf⟩ := bd_some hf
    refine wa_callVv (pc := 53) cx [.int t1] (ct_X11_must l E _ _ _ h7) mi_X11_must tw_1009 lk_38 rfl (cx.bl 38 rfl) rfl rfl (Nat.le_of_ble_eq_true rfl) ⟨Nat.le_of_ble_eq_true rfl, Nat.le_of_ble_eq_true rfl⟩ ⟨Nat.zero_le _, Nat.zero_le _⟩ dX11_number_53 ?_
    refine wa_iload_n (pc := 56) cx 3 dX11_number_56 rfl rfl ?_
    obtain rfl := Option.some.inj hf
    exact wa_iret (pc := 57) cx dX11_number_57
  have j39 : ∀ (v3 : Int32) (σ : Sg), fX11_number_J39 v3 σ = some q → WA p l e (rmd 3) s m args below meth c 4 E 0 0 (MQ below (Qcq E s.heap.size (some (.int q.1)) q.2) args s 0 0 (AE E s.heap.size)) 39 [some (.ref (eA E 38)), none, none, some (.int v3)] [] σ := by
    intro v3 σ hf
    unfold fX11_number_J39 at hf
    refine wa_aload_n (pc := 39) cx 0 dX11_number_39 rfl rfl ?_
    refine wa_aload_n (pc := 40) cx 0 dX11_number_40 rfl rfl ?_
    refine wa_getI (pc := 41) cx fl_X11_96 lk_38 rfl (cx.bl 38 rfl) dX11_number_41 ?_
    refine wa_iconst (pc := 44) (v := 3) cx dX11_number_44 (by decide) ?_
    refine wa_icmp_ne (pc := 45) cx 52 dX11_number_45 rfl (fun c5 => ?_) (fun c5 => ?_)
    · have hf := (if_neg c5).symm.trans hf
      refine wa_iconst (pc := 52) (v := 0) cx dX11_number_52 (by decide) ?_
      refine wa_forget [false, false, false, true] [none, none, none, some (.int v3)] rfl ?_
      exact j53 _ _ _ hf
    · have hf := (if_pos c5).symm.trans hf
      refine wa_iconst (pc := 48) (v := 1) cx dX11_number_48 (by decide) ?_
      refine wa_goto (pc := 49) cx 53 dX11_number_49 rfl ?_
      refine wa_forget [false, false, false, true] [none, none, none, some (.int v3)] rfl ?_
      exact j53 _ _ _ hf
  refine wa_aload_n (pc := 0) cx 0 dX11_number_0 rfl rfl ?_
  refine wa_getI (pc := 1) cx fl_X11_108 lk_38 rfl (cx.bl 38 rfl) dX11_number_1 ?_
  refine wa_if_le (pc := 4) cx 9 dX11_number_4 rfl (fun c1 => ?_) (fun c1 => ?_)
  · have hf := (if_pos c1).symm.trans hf
    refine wa_aload_n (pc := 9) cx 0 dX11_number_9 rfl rfl ?_
    obtain ⟨q2, h3, hf⟩ := bd_some hf
    refine wa_callVi (pc := 10) cx [] (ct_X11_figures l E _  _ h3) mi_X11_figures tw_1021 lk_38 rfl (cx.bl 38 rfl) rfl rfl (Nat.le_of_ble_eq_true rfl) ⟨Nat.le_of_ble_eq_true rfl, Nat.le_of_ble_eq_true rfl⟩ ⟨Nat.zero_le _, Nat.zero_le _⟩ dX11_number_10 ?_
    refine wa_istore_n (pc := 13) cx 3 [some (.ref (eA E 38)), some (.int a1), some (.int a2), some (.int q2)] dX11_number_13 rfl (by decide) rfl rfl ?_
    refine wa_aload_n (pc := 14) cx 0 dX11_number_14 rfl rfl ?_
    refine wa_getI (pc := 15) cx fl_X11_96 lk_38 rfl (cx.bl 38 rfl) dX11_number_15 ?_
    refine wa_iconst (pc := 18) (v := 3) cx dX11_number_18 (by decide) ?_
    refine wa_icmp_ne (pc := 19) cx 39 dX11_number_19 rfl (fun c4 => ?_) (fun c4 => ?_)
    · have hf := (if_neg c4).symm.trans hf
      refine wa_forget [true, false, false, true] [some (.ref (eA E 38)), none, none, some (.int q2)] rfl ?_
      exact j39 _ _ hf
    · have hf := (if_pos c4).symm.trans hf
      refine wa_iload_n (pc := 22) cx 3 dX11_number_22 rfl rfl ?_
      refine wa_i2l (pc := 23) cx dX11_number_23 ?_
      refine wa_iload_n (pc := 24) cx 1 dX11_number_24 rfl rfl ?_
      refine wa_i2l (pc := 25) cx dX11_number_25 ?_
      refine wa_iload_n (pc := 26) cx 2 dX11_number_26 rfl rfl ?_
      refine wa_i2l (pc := 27) cx dX11_number_27 ?_
      obtain ⟨q8, h9, hf⟩ := bd_some hf
      refine wa_callSi (pc := 28) cx [.long ((q2).toInt64), .long ((a1).toInt64), .long ((a2).toInt64)] (ct_X11_in l E _ _ _ _ _ h9) ms_X11_in tw_952 rfl rfl (Nat.le_of_ble_eq_true rfl) ⟨Nat.le_of_ble_eq_true rfl, Nat.le_of_ble_eq_true rfl⟩ ⟨Nat.zero_le _, Nat.zero_le _⟩ dX11_number_28 ?_
      refine wa_if_ne (pc := 31) cx 39 dX11_number_31 rfl (fun c10 => ?_) (fun c10 => ?_)
      · have hf := (if_neg c10).symm.trans hf
        refine wa_forget [true, false, false, true] [some (.ref (eA E 38)), none, none, some (.int q2)] rfl ?_
        exact j39 _ _ hf
      · have hf := (if_pos c10).symm.trans hf
        refine wa_aload_n (pc := 34) cx 0 dX11_number_34 rfl rfl ?_
        refine wa_iconst (pc := 35) (v := 2) cx dX11_number_35 (by decide) ?_
        obtain ⟨q11, h12, hf⟩ := bd_some hf
        refine wa_callVv (pc := 36) cx [.int 2] (ct_X11_bad l E _ _ _ h12) mi_X11_bad tw_1013 lk_38 rfl (cx.bl 38 rfl) rfl rfl (Nat.le_of_ble_eq_true rfl) ⟨Nat.le_of_ble_eq_true rfl, Nat.le_of_ble_eq_true rfl⟩ ⟨Nat.zero_le _, Nat.zero_le _⟩ dX11_number_36 ?_
        refine wa_forget [true, false, false, true] [some (.ref (eA E 38)), none, none, some (.int q2)] rfl ?_
        exact j39 _ _ hf
  · have hf := (if_neg c1).symm.trans hf
    refine wa_iconst (pc := 7) (v := 0) cx dX11_number_7 (by decide) ?_
    obtain rfl := Option.some.inj hf
    exact wa_iret (pc := 8) cx dX11_number_8
def fX11_mustEnd_J21 (t1 : Int32) (σ : Sg) : Option (Sg) :=
  (fX11_must t1 σ).bind (fun q3 =>
  some q3)
def fX11_mustEnd  (σ : Sg) : Option (Sg) :=
  if gf σ 38 18 = 0 then (if gf σ 38 15 = 4 then (fX11_mustEnd_J21 1 σ) else (fX11_mustEnd_J21 0 σ)) else (some σ)
set_option maxHeartbeats 4000000 in
set_option maxRecDepth 100000 in
theorem ct_X11_mustEnd (l : Launch) (E : En) (σ : Sg)  (q : Sg) (hf : fX11_mustEnd  σ = some q) : CT l yX11_mustEnd cX11_mustEnd 1 none 3 E σ [.ref (eA E 38)] none q := by
  refine CT.of RX11 [some (.ref (eA E 38))] rfl (by decide +kernel) (Nat.le_of_ble_eq_true rfl) rfl ?_
  intro p e s m args below meth c cx
  unfold fX11_mustEnd at hf
  have j21 : ∀ (t1 : Int32) (σ : Sg), fX11_mustEnd_J21 t1 σ = some q → WA p l e (rmd 3) s m args below meth c 1 E 0 0 (MQ below (Qcq E s.heap.size (none) q) args s 0 0 (AE E s.heap.size)) 21 [none] [.int t1, .ref (eA E 38)] σ := by
    intro t1 σ hf
    unfold fX11_mustEnd_J21 at hf
    obtain ⟨q3, h4, hf⟩ := bd_some hf
    refine wa_callVv (pc := 21) cx [.int t1] (ct_X11_must l E _ _ _ h4) mi_X11_must tw_1009 lk_38 rfl (cx.bl 38 rfl) rfl rfl (Nat.le_of_ble_eq_true rfl) ⟨Nat.le_of_ble_eq_true rfl, Nat.le_of_ble_eq_true rfl⟩ ⟨Nat.zero_le _, Nat.zero_le _⟩ dX11_mustEnd_21 ?_
    obtain rfl := Option.some.inj hf
    exact wa_vret (pc := 24) cx dX11_mustEnd_24
  refine wa_aload_n (pc := 0) cx 0 dX11_mustEnd_0 rfl rfl ?_
  refine wa_getI (pc := 1) cx fl_X11_108 lk_38 rfl (cx.bl 38 rfl) dX11_mustEnd_1 ?_
  refine wa_if_ne (pc := 4) cx 24 dX11_mustEnd_4 rfl (fun c1 => ?_) (fun c1 => ?_)
  · have hf := (if_neg c1).symm.trans hf
    obtain rfl := Option.some.inj hf
    exact wa_vret (pc := 24) cx dX11_mustEnd_24
  · have hf := (if_pos c1).symm.trans hf
    refine wa_aload_n (pc := 7) cx 0 dX11_mustEnd_7 rfl rfl ?_
    refine wa_aload_n (pc := 8) cx 0 dX11_mustEnd_8 rfl rfl ?_
    refine wa_getI (pc := 9) cx fl_X11_96 lk_38 rfl (cx.bl 38 rfl) dX11_mustEnd_9 ?_
    refine wa_iconst (pc := 12) (v := 4) cx dX11_mustEnd_12 (by decide) ?_
    refine wa_icmp_ne (pc := 13) cx 20 dX11_mustEnd_13 rfl (fun c2 => ?_) (fun c2 => ?_)
    · have hf := (if_neg c2).symm.trans hf
      refine wa_iconst (pc := 20) (v := 0) cx dX11_mustEnd_20 (by decide) ?_
      refine wa_forget [false] [none] rfl ?_
      exact j21 _ _ hf
    · have hf := (if_pos c2).symm.trans hf
      refine wa_iconst (pc := 16) (v := 1) cx dX11_mustEnd_16 (by decide) ?_
      refine wa_goto (pc := 17) cx 21 dX11_mustEnd_17 rfl ?_
      refine wa_forget [false] [none] rfl ?_
      exact j21 _ _ hf
def fX11_begins_J15  (σ : Sg) : Option (Sg) :=
  (fX11_must 1 σ).bind (fun q3 =>
  some q3)
def fX11_begins (a1 : Int32) (a2 : Int32) (σ : Sg) : Option (Sg) :=
  gd (inb a1 77) (
  if ga σ 43 a1 = a2 then ((fX11_bad 3 σ).bind (fun q5 =>
  fX11_begins_J15  q5)) else (fX11_begins_J15  σ))
set_option maxHeartbeats 4000000 in
set_option maxRecDepth 100000 in
theorem ct_X11_begins (l : Launch) (E : En) (σ : Sg) (a1 : Int32) (a2 : Int32) (q : Sg) (hf : fX11_begins a1 a2 σ = some q) : CT l yX11_begins cX11_begins 3 none 3 E σ [.ref (eA E 38), .int a1, .int a2] none q := by
  refine CT.of RX11 [some (.ref (eA E 38)), some (.int a1), some (.int a2)] rfl (by decide +kernel) (Nat.le_of_ble_eq_true rfl) rfl ?_
  intro p e s m args below meth c cx
  unfold fX11_begins at hf
  have j15 : ∀  (σ : Sg), fX11_begins_J15  σ = some q → WA p l e (rmd 3) s m args below meth c 3 E 0 0 (MQ below (Qcq E s.heap.size (none) q) args s 0 0 (AE E s.heap.size)) 15 [some (.ref (eA E 38)), none, none] [] σ := by
    intro  σ hf
    unfold fX11_begins_J15 at hf
    refine wa_aload_n (pc := 15) cx 0 dX11_begins_15 rfl rfl ?_
    refine wa_iconst (pc := 16) (v := 1) cx dX11_begins_16 (by decide) ?_
    obtain ⟨q3, h4, hf⟩ := bd_some hf
    refine wa_callVv (pc := 17) cx [.int 1] (ct_X11_must l E _ _ _ h4) mi_X11_must tw_1009 lk_38 rfl (cx.bl 38 rfl) rfl rfl (Nat.le_of_ble_eq_true rfl) ⟨Nat.le_of_ble_eq_true rfl, Nat.le_of_ble_eq_true rfl⟩ ⟨Nat.zero_le _, Nat.zero_le _⟩ dX11_begins_17 ?_
    obtain rfl := Option.some.inj hf
    exact wa_vret (pc := 20) cx dX11_begins_20
  refine wa_aload_n (pc := 0) cx 0 dX11_begins_0 rfl rfl ?_
  refine wa_getR (pc := 1) cx fl_X11_22 lk_38 rfl (cx.bl 38 rfl) dX11_begins_1 ?_
  refine wa_iload_n (pc := 4) cx 1 dX11_begins_4 rfl rfl ?_
  obtain ⟨g1, hf⟩ := gd_some hf
  refine wa_iald (pc := 5) cx lk_43 (cx.bl 43 rfl) g1 dX11_begins_5 ?_
  refine wa_iload_n (pc := 6) cx 2 dX11_begins_6 rfl rfl ?_
  refine wa_icmp_ne (pc := 7) cx 15 dX11_begins_7 rfl (fun c2 => ?_) (fun c2 => ?_)
  · have hf := (if_neg c2).symm.trans hf
    refine wa_forget [true, false, false] [some (.ref (eA E 38)), none, none] rfl ?_
    exact j15  _ hf
  · have hf := (if_pos c2).symm.trans hf
    refine wa_aload_n (pc := 10) cx 0 dX11_begins_10 rfl rfl ?_
    refine wa_iconst (pc := 11) (v := 3) cx dX11_begins_11 (by decide) ?_
    obtain ⟨q5, h6, hf⟩ := bd_some hf
    refine wa_callVv (pc := 12) cx [.int 3] (ct_X11_bad l E _ _ _ h6) mi_X11_bad tw_1013 lk_38 rfl (cx.bl 38 rfl) rfl rfl (Nat.le_of_ble_eq_true rfl) ⟨Nat.le_of_ble_eq_true rfl, Nat.le_of_ble_eq_true rfl⟩ ⟨Nat.zero_le _, Nat.zero_le _⟩ dX11_begins_12 ?_
    refine wa_forget [true, false, false] [some (.ref (eA E 38)), none, none] rfl ?_
    exact j15  _ hf
def fX11_readSpeaker  (σ : Sg) : Option (Sg) :=
  (fX11_begins 2 5 σ).bind (fun q1 =>
  (fX11_number 0 10 q1).bind (fun q3 =>
  (fX11_number 0 99 q3.2).bind (fun q5 =>
  (fX11_mustEnd  q5.2).bind (fun q7 =>
  if gf q7 38 18 = 0 then (gd (inb 2 77) (
  gd (inb (4 + (2 * ga q7 43 2)) 77) (
  gd (inb 2 77) (
  gd (inb ((4 + (2 * ga (sa q7 43 (4 + (2 * ga q7 43 2)) q3.1) 43 2)) + 1) 77) (
  gd (inb 2 77) (
  gd (inb 2 77) (
  some (sa (sa (sa q7 43 (4 + (2 * ga q7 43 2)) q3.1) 43 ((4 + (2 * ga (sa q7 43 (4 + (2 * ga q7 43 2)) q3.1) 43 2)) + 1) q5.1) 43 2 (ga (sa (sa q7 43 (4 + (2 * ga q7 43 2)) q3.1) 43 ((4 + (2 * ga (sa q7 43 (4 + (2 * ga q7 43 2)) q3.1) 43 2)) + 1) q5.1) 43 2 + 1))))))))) else (some q7)))))
set_option maxHeartbeats 4000000 in
set_option maxRecDepth 100000 in
theorem ct_X11_readSpeaker (l : Launch) (E : En) (σ : Sg)  (q : Sg) (hf : fX11_readSpeaker  σ = some q) : CT l yX11_readSpeaker cX11_readSpeaker 3 none 4 E σ [.ref (eA E 38)] none q := by
  refine CT.of RX11 [some (.ref (eA E 38)), none, none] rfl (by decide +kernel) (Nat.le_of_ble_eq_true rfl) rfl ?_
  intro p e s m args below meth c cx
  unfold fX11_readSpeaker at hf
  refine wa_aload_n (pc := 0) cx 0 dX11_readSpeaker_0 rfl rfl ?_
  refine wa_iconst (pc := 1) (v := 2) cx dX11_readSpeaker_1 (by decide) ?_
  refine wa_iconst (pc := 2) (v := 5) cx dX11_readSpeaker_2 (by decide) ?_
  obtain ⟨q1, h2, hf⟩ := bd_some hf
  refine wa_callVv (pc := 3) cx [.int 2, .int 5] (ct_X11_begins l E _ _ _ _ h2) mi_X11_begins tw_1034 lk_38 rfl (cx.bl 38 rfl) rfl rfl (Nat.le_of_ble_eq_true rfl) ⟨Nat.le_of_ble_eq_true rfl, Nat.le_of_ble_eq_true rfl⟩ ⟨Nat.zero_le _, Nat.zero_le _⟩ dX11_readSpeaker_3 ?_
  refine wa_aload_n (pc := 6) cx 0 dX11_readSpeaker_6 rfl rfl ?_
  refine wa_iconst (pc := 7) (v := 0) cx dX11_readSpeaker_7 (by decide) ?_
  refine wa_bipush (pc := 8) (v := 10) cx dX11_readSpeaker_8 (by decide) ?_
  obtain ⟨q3, h4, hf⟩ := bd_some hf
  refine wa_callVi (pc := 10) cx [.int 0, .int 10] (ct_X11_number l E _ _ _ _ h4) mi_X11_number tw_1017 lk_38 rfl (cx.bl 38 rfl) rfl rfl (Nat.le_of_ble_eq_true rfl) ⟨Nat.le_of_ble_eq_true rfl, Nat.le_of_ble_eq_true rfl⟩ ⟨Nat.zero_le _, Nat.zero_le _⟩ dX11_readSpeaker_10 ?_
  refine wa_istore_n (pc := 13) cx 1 [some (.ref (eA E 38)), some (.int q3.1), none] dX11_readSpeaker_13 rfl (by decide) rfl rfl ?_
  refine wa_aload_n (pc := 14) cx 0 dX11_readSpeaker_14 rfl rfl ?_
  refine wa_iconst (pc := 15) (v := 0) cx dX11_readSpeaker_15 (by decide) ?_
  refine wa_bipush (pc := 16) (v := 99) cx dX11_readSpeaker_16 (by decide) ?_
  obtain ⟨q5, h6, hf⟩ := bd_some hf
  refine wa_callVi (pc := 18) cx [.int 0, .int 99] (ct_X11_number l E _ _ _ _ h6) mi_X11_number tw_1017 lk_38 rfl (cx.bl 38 rfl) rfl rfl (Nat.le_of_ble_eq_true rfl) ⟨Nat.le_of_ble_eq_true rfl, Nat.le_of_ble_eq_true rfl⟩ ⟨Nat.zero_le _, Nat.zero_le _⟩ dX11_readSpeaker_18 ?_
  refine wa_istore_n (pc := 21) cx 2 [some (.ref (eA E 38)), some (.int q3.1), some (.int q5.1)] dX11_readSpeaker_21 rfl (by decide) rfl rfl ?_
  refine wa_aload_n (pc := 22) cx 0 dX11_readSpeaker_22 rfl rfl ?_
  obtain ⟨q7, h8, hf⟩ := bd_some hf
  refine wa_callVv (pc := 23) cx [] (ct_X11_mustEnd l E _  _ h8) mi_X11_mustEnd tw_1025 lk_38 rfl (cx.bl 38 rfl) rfl rfl (Nat.le_of_ble_eq_true rfl) ⟨Nat.le_of_ble_eq_true rfl, Nat.le_of_ble_eq_true rfl⟩ ⟨Nat.zero_le _, Nat.zero_le _⟩ dX11_readSpeaker_23 ?_
  refine wa_aload_n (pc := 26) cx 0 dX11_readSpeaker_26 rfl rfl ?_
  refine wa_getI (pc := 27) cx fl_X11_108 lk_38 rfl (cx.bl 38 rfl) dX11_readSpeaker_27 ?_
  refine wa_if_ne (pc := 30) cx 77 dX11_readSpeaker_30 rfl (fun c9 => ?_) (fun c9 => ?_)
  · have hf := (if_neg c9).symm.trans hf
    obtain rfl := Option.some.inj hf
    exact wa_vret (pc := 77) cx dX11_readSpeaker_77
  · have hf := (if_pos c9).symm.trans hf
    refine wa_aload_n (pc := 33) cx 0 dX11_readSpeaker_33 rfl rfl ?_
    refine wa_getR (pc := 34) cx fl_X11_22 lk_38 rfl (cx.bl 38 rfl) dX11_readSpeaker_34 ?_
    refine wa_iconst (pc := 37) (v := 4) cx dX11_readSpeaker_37 (by decide) ?_
    refine wa_iconst (pc := 38) (v := 2) cx dX11_readSpeaker_38 (by decide) ?_
    refine wa_aload_n (pc := 39) cx 0 dX11_readSpeaker_39 rfl rfl ?_
    refine wa_getR (pc := 40) cx fl_X11_22 lk_38 rfl (cx.bl 38 rfl) dX11_readSpeaker_40 ?_
    refine wa_iconst (pc := 43) (v := 2) cx dX11_readSpeaker_43 (by decide) ?_
    obtain ⟨g10, hf⟩ := gd_some hf
    refine wa_iald (pc := 44) cx lk_43 (cx.bl 43 rfl) g10 dX11_readSpeaker_44 ?_
    refine wa_imul (pc := 45) cx dX11_readSpeaker_45 ?_
    refine wa_iadd (pc := 46) cx dX11_readSpeaker_46 ?_
    refine wa_iload_n (pc := 47) cx 1 dX11_readSpeaker_47 rfl rfl ?_
    obtain ⟨g11, hf⟩ := gd_some hf
    refine wa_iast (pc := 48) cx lk_43 (cx.bl 43 rfl) g11 dX11_readSpeaker_48 ?_
    refine wa_aload_n (pc := 49) cx 0 dX11_readSpeaker_49 rfl rfl ?_
    refine wa_getR (pc := 50) cx fl_X11_22 lk_38 rfl (cx.bl 38 rfl) dX11_readSpeaker_50 ?_
    refine wa_iconst (pc := 53) (v := 4) cx dX11_readSpeaker_53 (by decide) ?_
    refine wa_iconst (pc := 54) (v := 2) cx dX11_readSpeaker_54 (by decide) ?_
    refine wa_aload_n (pc := 55) cx 0 dX11_readSpeaker_55 rfl rfl ?_
    refine wa_getR (pc := 56) cx fl_X11_22 lk_38 rfl (cx.bl 38 rfl) dX11_readSpeaker_56 ?_
    refine wa_iconst (pc := 59) (v := 2) cx dX11_readSpeaker_59 (by decide) ?_
    obtain ⟨g12, hf⟩ := gd_some hf
    refine wa_iald (pc := 60) cx lk_43 (cx.bl 43 rfl) g12 dX11_readSpeaker_60 ?_
    refine wa_imul (pc := 61) cx dX11_readSpeaker_61 ?_
    refine wa_iadd (pc := 62) cx dX11_readSpeaker_62 ?_
    refine wa_iconst (pc := 63) (v := 1) cx dX11_readSpeaker_63 (by decide) ?_
    refine wa_iadd (pc := 64) cx dX11_readSpeaker_64 ?_
    refine wa_iload_n (pc := 65) cx 2 dX11_readSpeaker_65 rfl rfl ?_
    obtain ⟨g13, hf⟩ := gd_some hf
    refine wa_iast (pc := 66) cx lk_43 (cx.bl 43 rfl) g13 dX11_readSpeaker_66 ?_
    refine wa_aload_n (pc := 67) cx 0 dX11_readSpeaker_67 rfl rfl ?_
    refine wa_getR (pc := 68) cx fl_X11_22 lk_38 rfl (cx.bl 38 rfl) dX11_readSpeaker_68 ?_
    refine wa_iconst (pc := 71) (v := 2) cx dX11_readSpeaker_71 (by decide) ?_
    refine wa_dup2 (pc := 72) cx dX11_readSpeaker_72 rfl rfl ?_
    obtain ⟨g14, hf⟩ := gd_some hf
    refine wa_iald (pc := 73) cx lk_43 (cx.bl 43 rfl) g14 dX11_readSpeaker_73 ?_
    refine wa_iconst (pc := 74) (v := 1) cx dX11_readSpeaker_74 (by decide) ?_
    refine wa_iadd (pc := 75) cx dX11_readSpeaker_75 ?_
    obtain ⟨g15, hf⟩ := gd_some hf
    refine wa_iast (pc := 76) cx lk_43 (cx.bl 43 rfl) g15 dX11_readSpeaker_76 ?_
    obtain rfl := Option.some.inj hf
    exact wa_vret (pc := 77) cx dX11_readSpeaker_77
def fX11_kindBy (a1 : Int64) (σ : Sg) : Option (Int32) :=
  if lg_cmp a1 7761783 = 0 then (some 1) else (if lg_cmp a1 1868657768 = 0 then (some 2) else (if lg_cmp a1 7104869 = 0 then (some 4) else (if lg_cmp a1 1752133733 = 0 then (some 5) else (if lg_cmp a1 1684365940 = 0 then (some 3) else (some (-1000000))))))
set_option maxHeartbeats 4000000 in
set_option maxRecDepth 100000 in
theorem ct_X11_kindBy (l : Launch) (E : En) (σ : Sg) (a1 : Int64) (q : Int32) (hf : fX11_kindBy a1 σ = some q) : CT l yX11_kindBy cX11_kindBy 2 (some .int) 0 E σ [.long a1] (some (.int q)) σ := by
  refine CT.of RX11 [some (.long a1), none] rfl (by decide +kernel) (Nat.le_of_ble_eq_true rfl) rfl ?_
  intro p e s m args below meth c cx
  unfold fX11_kindBy at hf
  refine wa_lload_n (pc := 0) cx 0 dX11_kindBy_0 rfl rfl ?_
  refine wa_ldc2 (pc := 1) (v := 7761783) cx dX11_kindBy_1 tw_1046 ?_
  refine wa_lcmp (pc := 4) cx dX11_kindBy_4 ?_
  refine wa_if_ne (pc := 5) cx 12 dX11_kindBy_5 rfl (fun c1 => ?_) (fun c1 => ?_)
  · have hf := (if_neg c1).symm.trans hf
    refine wa_lload_n (pc := 12) cx 0 dX11_kindBy_12 rfl rfl ?_
    refine wa_ldc2 (pc := 13) (v := 1868657768) cx dX11_kindBy_13 tw_1047 ?_
    refine wa_lcmp (pc := 16) cx dX11_kindBy_16 ?_
    refine wa_if_ne (pc := 17) cx 24 dX11_kindBy_17 rfl (fun c2 => ?_) (fun c2 => ?_)
    · have hf := (if_neg c2).symm.trans hf
      refine wa_lload_n (pc := 24) cx 0 dX11_kindBy_24 rfl rfl ?_
      refine wa_ldc2 (pc := 25) (v := 7104869) cx dX11_kindBy_25 tw_1048 ?_
      refine wa_lcmp (pc := 28) cx dX11_kindBy_28 ?_
      refine wa_if_ne (pc := 29) cx 36 dX11_kindBy_29 rfl (fun c3 => ?_) (fun c3 => ?_)
      · have hf := (if_neg c3).symm.trans hf
        refine wa_lload_n (pc := 36) cx 0 dX11_kindBy_36 rfl rfl ?_
        refine wa_ldc2 (pc := 37) (v := 1752133733) cx dX11_kindBy_37 tw_1049 ?_
        refine wa_lcmp (pc := 40) cx dX11_kindBy_40 ?_
        refine wa_if_ne (pc := 41) cx 48 dX11_kindBy_41 rfl (fun c4 => ?_) (fun c4 => ?_)
        · have hf := (if_neg c4).symm.trans hf
          refine wa_lload_n (pc := 48) cx 0 dX11_kindBy_48 rfl rfl ?_
          refine wa_ldc2 (pc := 49) (v := 1684365940) cx dX11_kindBy_49 tw_1050 ?_
          refine wa_lcmp (pc := 52) cx dX11_kindBy_52 ?_
          refine wa_if_ne (pc := 53) cx 60 dX11_kindBy_53 rfl (fun c5 => ?_) (fun c5 => ?_)
          · have hf := (if_neg c5).symm.trans hf
            refine wa_ldc (pc := 60) (v := (-1000000)) cx dX11_kindBy_60 tw_997 ?_
            obtain rfl := Option.some.inj hf
            exact wa_iret (pc := 62) cx dX11_kindBy_62
          · have hf := (if_pos c5).symm.trans hf
            refine wa_iconst (pc := 56) (v := 3) cx dX11_kindBy_56 (by decide) ?_
            refine wa_goto (pc := 57) cx 62 dX11_kindBy_57 rfl ?_
            obtain rfl := Option.some.inj hf
            exact wa_iret (pc := 62) cx dX11_kindBy_62
        · have hf := (if_pos c4).symm.trans hf
          refine wa_iconst (pc := 44) (v := 5) cx dX11_kindBy_44 (by decide) ?_
          refine wa_goto (pc := 45) cx 62 dX11_kindBy_45 rfl ?_
          obtain rfl := Option.some.inj hf
          exact wa_iret (pc := 62) cx dX11_kindBy_62
      · have hf := (if_pos c3).symm.trans hf
        refine wa_iconst (pc := 32) (v := 4) cx dX11_kindBy_32 (by decide) ?_
        refine wa_goto (pc := 33) cx 62 dX11_kindBy_33 rfl ?_
        obtain rfl := Option.some.inj hf
        exact wa_iret (pc := 62) cx dX11_kindBy_62
    · have hf := (if_pos c2).symm.trans hf
      refine wa_iconst (pc := 20) (v := 2) cx dX11_kindBy_20 (by decide) ?_
      refine wa_goto (pc := 21) cx 62 dX11_kindBy_21 rfl ?_
      obtain rfl := Option.some.inj hf
      exact wa_iret (pc := 62) cx dX11_kindBy_62
  · have hf := (if_pos c1).symm.trans hf
    refine wa_iconst (pc := 8) (v := 1) cx dX11_kindBy_8 (by decide) ?_
    refine wa_goto (pc := 9) cx 62 dX11_kindBy_9 rfl ?_
    obtain rfl := Option.some.inj hf
    exact wa_iret (pc := 62) cx dX11_kindBy_62
def fX11_readYarn_J37 (v1 : Int32) (σ : Sg) : Option (Sg) :=
  gd (inb 2 77) (
  (fX11_number 0 (ga σ 43 2 - 1) σ).bind (fun q9 =>
  (fX11_number 1 9 q9.2).bind (fun q11 =>
  (fX11_mustEnd  q11.2).bind (fun q13 =>
  if gf q13 38 18 = 0 then (gd (inb 3 77) (
  gd (inb (14 + (7 * ga q13 43 3)) 77) (
  gd (inb ((14 + (7 * ga q13 43 3)) + 1) 77) (
  gd (inb ((14 + (7 * ga q13 43 3)) + 2) 77) (
  gd (inb ((14 + (7 * ga q13 43 3)) + 3) 77) (
  gd (inb 3 77) (
  gd (inb 3 77) (
  some (sa (sa (sa (sa (sa q13 43 (14 + (7 * ga q13 43 3)) v1) 43 ((14 + (7 * ga q13 43 3)) + 1) q9.1) 43 ((14 + (7 * ga q13 43 3)) + 2) q11.1) 43 ((14 + (7 * ga q13 43 3)) + 3) (-1)) 43 3 (ga (sa (sa (sa (sa q13 43 (14 + (7 * ga q13 43 3)) v1) 43 ((14 + (7 * ga q13 43 3)) + 1) q9.1) 43 ((14 + (7 * ga q13 43 3)) + 2) q11.1) 43 ((14 + (7 * ga q13 43 3)) + 3) (-1)) 43 3 + 1)))))))))) else (some q13)))))
def fX11_readYarn_J34 (v1 : Int32) (t1 : Int32) (σ : Sg) : Option (Sg) :=
  (fX11_must t1 σ).bind (fun q24 =>
  fX11_readYarn_J37 v1 q24)
def fX11_readYarn  (σ : Sg) : Option (Sg) :=
  (fX11_begins 3 9 σ).bind (fun q1 =>
  (fX11_name  q1).bind (fun q3 =>
  (fX11_kindBy q3 q1).bind (fun q5 =>
  if gf q1 38 18 = 0 then (if q5 = (-1000000) then (fX11_readYarn_J34 q5 0 q1) else (fX11_readYarn_J34 q5 1 q1)) else (fX11_readYarn_J37 q5 q1))))
set_option maxHeartbeats 4000000 in
set_option maxRecDepth 100000 in
theorem ct_X11_readYarn (l : Launch) (E : En) (σ : Sg)  (q : Sg) (hf : fX11_readYarn  σ = some q) : CT l yX11_readYarn cX11_readYarn 5 none 4 E σ [.ref (eA E 38)] none q := by
  refine CT.of RX11 [some (.ref (eA E 38)), none, none, none, none] rfl (by decide +kernel) (Nat.le_of_ble_eq_true rfl) rfl ?_
  intro p e s m args below meth c cx
  unfold fX11_readYarn at hf
  have j37 : ∀ (v1 : Int32) (σ : Sg), fX11_readYarn_J37 v1 σ = some q → WA p l e (rmd 4) s m args below meth c 5 E 0 0 (MQ below (Qcq E s.heap.size (none) q) args s 0 0 (AE E s.heap.size)) 37 [some (.ref (eA E 38)), some (.int v1), none, none, none] [] σ := by
    intro v1 σ hf
    unfold fX11_readYarn_J37 at hf
    refine wa_aload_n (pc := 37) cx 0 dX11_readYarn_37 rfl rfl ?_
    refine wa_iconst (pc := 38) (v := 0) cx dX11_readYarn_38 (by decide) ?_
    refine wa_aload_n (pc := 39) cx 0 dX11_readYarn_39 rfl rfl ?_
    refine wa_getR (pc := 40) cx fl_X11_22 lk_38 rfl (cx.bl 38 rfl) dX11_readYarn_40 ?_
    refine wa_iconst (pc := 43) (v := 2) cx dX11_readYarn_43 (by decide) ?_
    obtain ⟨g8, hf⟩ := gd_some hf
    refine wa_iald (pc := 44) cx lk_43 (cx.bl 43 rfl) g8 dX11_readYarn_44 ?_
    refine wa_iconst (pc := 45) (v := 1) cx dX11_readYarn_45 (by decide) ?_
    refine wa_isub (pc := 46) cx dX11_readYarn_46 ?_
    obtain ⟨q9, h10, hf⟩ := bd_some hf
    refine wa_callVi (pc := 47) cx [.int 0, .int (ga σ 43 2 - 1)] (ct_X11_number l E _ _ _ _ h10) mi_X11_number tw_1017 lk_38 rfl (cx.bl 38 rfl) rfl rfl (Nat.le_of_ble_eq_true rfl) ⟨Nat.le_of_ble_eq_true rfl, Nat.le_of_ble_eq_true rfl⟩ ⟨Nat.zero_le _, Nat.zero_le _⟩ dX11_readYarn_47 ?_
    refine wa_istore_n (pc := 50) cx 2 [some (.ref (eA E 38)), some (.int v1), some (.int q9.1), none, none] dX11_readYarn_50 rfl (by decide) rfl rfl ?_
    refine wa_aload_n (pc := 51) cx 0 dX11_readYarn_51 rfl rfl ?_
    refine wa_iconst (pc := 52) (v := 1) cx dX11_readYarn_52 (by decide) ?_
    refine wa_bipush (pc := 53) (v := 9) cx dX11_readYarn_53 (by decide) ?_
    obtain ⟨q11, h12, hf⟩ := bd_some hf
    refine wa_callVi (pc := 55) cx [.int 1, .int 9] (ct_X11_number l E _ _ _ _ h12) mi_X11_number tw_1017 lk_38 rfl (cx.bl 38 rfl) rfl rfl (Nat.le_of_ble_eq_true rfl) ⟨Nat.le_of_ble_eq_true rfl, Nat.le_of_ble_eq_true rfl⟩ ⟨Nat.zero_le _, Nat.zero_le _⟩ dX11_readYarn_55 ?_
    refine wa_istore_n (pc := 58) cx 3 [some (.ref (eA E 38)), some (.int v1), some (.int q9.1), some (.int q11.1), none] dX11_readYarn_58 rfl (by decide) rfl rfl ?_
    refine wa_aload_n (pc := 59) cx 0 dX11_readYarn_59 rfl rfl ?_
    obtain ⟨q13, h14, hf⟩ := bd_some hf
    refine wa_callVv (pc := 60) cx [] (ct_X11_mustEnd l E _  _ h14) mi_X11_mustEnd tw_1025 lk_38 rfl (cx.bl 38 rfl) rfl rfl (Nat.le_of_ble_eq_true rfl) ⟨Nat.le_of_ble_eq_true rfl, Nat.le_of_ble_eq_true rfl⟩ ⟨Nat.zero_le _, Nat.zero_le _⟩ dX11_readYarn_60 ?_
    refine wa_aload_n (pc := 63) cx 0 dX11_readYarn_63 rfl rfl ?_
    refine wa_getI (pc := 64) cx fl_X11_108 lk_38 rfl (cx.bl 38 rfl) dX11_readYarn_64 ?_
    refine wa_if_ne (pc := 67) cx 132 dX11_readYarn_67 rfl (fun c15 => ?_) (fun c15 => ?_)
    · have hf := (if_neg c15).symm.trans hf
      obtain rfl := Option.some.inj hf
      exact wa_vret (pc := 132) cx dX11_readYarn_132
    · have hf := (if_pos c15).symm.trans hf
      refine wa_bipush (pc := 70) (v := 14) cx dX11_readYarn_70 (by decide) ?_
      refine wa_bipush (pc := 72) (v := 7) cx dX11_readYarn_72 (by decide) ?_
      refine wa_aload_n (pc := 74) cx 0 dX11_readYarn_74 rfl rfl ?_
      refine wa_getR (pc := 75) cx fl_X11_22 lk_38 rfl (cx.bl 38 rfl) dX11_readYarn_75 ?_
      refine wa_iconst (pc := 78) (v := 3) cx dX11_readYarn_78 (by decide) ?_
      obtain ⟨g16, hf⟩ := gd_some hf
      refine wa_iald (pc := 79) cx lk_43 (cx.bl 43 rfl) g16 dX11_readYarn_79 ?_
      refine wa_imul (pc := 80) cx dX11_readYarn_80 ?_
      refine wa_iadd (pc := 81) cx dX11_readYarn_81 ?_
      refine wa_istore (pc := 82) cx 4 [some (.ref (eA E 38)), some (.int v1), some (.int q9.1), some (.int q11.1), some (.int (14 + (7 * ga q13 43 3)))] dX11_readYarn_82 (by decide) rfl rfl ?_
      refine wa_aload_n (pc := 84) cx 0 dX11_readYarn_84 rfl rfl ?_
      refine wa_getR (pc := 85) cx fl_X11_22 lk_38 rfl (cx.bl 38 rfl) dX11_readYarn_85 ?_
      refine wa_iload (pc := 88) cx 4 dX11_readYarn_88 rfl ?_
      refine wa_iload_n (pc := 90) cx 1 dX11_readYarn_90 rfl rfl ?_
      obtain ⟨g17, hf⟩ := gd_some hf
      refine wa_iast (pc := 91) cx lk_43 (cx.bl 43 rfl) g17 dX11_readYarn_91 ?_
      refine wa_aload_n (pc := 92) cx 0 dX11_readYarn_92 rfl rfl ?_
      refine wa_getR (pc := 93) cx fl_X11_22 lk_38 rfl (cx.bl 38 rfl) dX11_readYarn_93 ?_
      refine wa_iload (pc := 96) cx 4 dX11_readYarn_96 rfl ?_
      refine wa_iconst (pc := 98) (v := 1) cx dX11_readYarn_98 (by decide) ?_
      refine wa_iadd (pc := 99) cx dX11_readYarn_99 ?_
      refine wa_iload_n (pc := 100) cx 2 dX11_readYarn_100 rfl rfl ?_
      obtain ⟨g18, hf⟩ := gd_some hf
      refine wa_iast (pc := 101) cx lk_43 (cx.bl 43 rfl) g18 dX11_readYarn_101 ?_
      refine wa_aload_n (pc := 102) cx 0 dX11_readYarn_102 rfl rfl ?_
      refine wa_getR (pc := 103) cx fl_X11_22 lk_38 rfl (cx.bl 38 rfl) dX11_readYarn_103 ?_
      refine wa_iload (pc := 106) cx 4 dX11_readYarn_106 rfl ?_
      refine wa_iconst (pc := 108) (v := 2) cx dX11_readYarn_108 (by decide) ?_
      refine wa_iadd (pc := 109) cx dX11_readYarn_109 ?_
      refine wa_iload_n (pc := 110) cx 3 dX11_readYarn_110 rfl rfl ?_
      obtain ⟨g19, hf⟩ := gd_some hf
      refine wa_iast (pc := 111) cx lk_43 (cx.bl 43 rfl) g19 dX11_readYarn_111 ?_
      refine wa_aload_n (pc := 112) cx 0 dX11_readYarn_112 rfl rfl ?_
      refine wa_getR (pc := 113) cx fl_X11_22 lk_38 rfl (cx.bl 38 rfl) dX11_readYarn_113 ?_
      refine wa_iload (pc := 116) cx 4 dX11_readYarn_116 rfl ?_
      refine wa_iconst (pc := 118) (v := 3) cx dX11_readYarn_118 (by decide) ?_
      refine wa_iadd (pc := 119) cx dX11_readYarn_119 ?_
      refine wa_iconst (pc := 120) (v := (-1)) cx dX11_readYarn_120 (by decide) ?_
      obtain ⟨g20, hf⟩ := gd_some hf
      refine wa_iast (pc := 121) cx lk_43 (cx.bl 43 rfl) g20 dX11_readYarn_121 ?_
      refine wa_aload_n (pc := 122) cx 0 dX11_readYarn_122 rfl rfl ?_
      refine wa_getR (pc := 123) cx fl_X11_22 lk_38 rfl (cx.bl 38 rfl) dX11_readYarn_123 ?_
      refine wa_iconst (pc := 126) (v := 3) cx dX11_readYarn_126 (by decide) ?_
      refine wa_dup2 (pc := 127) cx dX11_readYarn_127 rfl rfl ?_
      obtain ⟨g21, hf⟩ := gd_some hf
      refine wa_iald (pc := 128) cx lk_43 (cx.bl 43 rfl) g21 dX11_readYarn_128 ?_
      refine wa_iconst (pc := 129) (v := 1) cx dX11_readYarn_129 (by decide) ?_
      refine wa_iadd (pc := 130) cx dX11_readYarn_130 ?_
      obtain ⟨g22, hf⟩ := gd_some hf
      refine wa_iast (pc := 131) cx lk_43 (cx.bl 43 rfl) g22 dX11_readYarn_131 ?_
      obtain rfl := Option.some.inj hf
      exact wa_vret (pc := 132) cx dX11_readYarn_132
  have j34 : ∀ (v1 : Int32) (t1 : Int32) (σ : Sg), fX11_readYarn_J34 v1 t1 σ = some q → WA p l e (rmd 4) s m args below meth c 5 E 0 0 (MQ below (Qcq E s.heap.size (none) q) args s 0 0 (AE E s.heap.size)) 34 [some (.ref (eA E 38)), some (.int v1), none, none, none] [.int t1, .ref (eA E 38)] σ := by
    intro v1 t1 σ hf
    unfold fX11_readYarn_J34 at hf
    obtain ⟨q24, h25, hf⟩ := bd_some hf
    refine wa_callVv (pc := 34) cx [.int t1] (ct_X11_must l E _ _ _ h25) mi_X11_must tw_1009 lk_38 rfl (cx.bl 38 rfl) rfl rfl (Nat.le_of_ble_eq_true rfl) ⟨Nat.le_of_ble_eq_true rfl, Nat.le_of_ble_eq_true rfl⟩ ⟨Nat.zero_le _, Nat.zero_le _⟩ dX11_readYarn_34 ?_
    exact j37 _ _ hf
  refine wa_aload_n (pc := 0) cx 0 dX11_readYarn_0 rfl rfl ?_
  refine wa_iconst (pc := 1) (v := 3) cx dX11_readYarn_1 (by decide) ?_
  refine wa_bipush (pc := 2) (v := 9) cx dX11_readYarn_2 (by decide) ?_
  obtain ⟨q1, h2, hf⟩ := bd_some hf
  refine wa_callVv (pc := 4) cx [.int 3, .int 9] (ct_X11_begins l E _ _ _ _ h2) mi_X11_begins tw_1034 lk_38 rfl (cx.bl 38 rfl) rfl rfl (Nat.le_of_ble_eq_true rfl) ⟨Nat.le_of_ble_eq_true rfl, Nat.le_of_ble_eq_true rfl⟩ ⟨Nat.zero_le _, Nat.zero_le _⟩ dX11_readYarn_4 ?_
  refine wa_aload_n (pc := 7) cx 0 dX11_readYarn_7 rfl rfl ?_
  obtain ⟨q3, h4, hf⟩ := bd_some hf
  refine wa_callVl (pc := 8) cx [] (ct_X11_name l E _  _ h4) mi_X11_name tw_1004 lk_38 rfl (cx.bl 38 rfl) rfl rfl (Nat.le_of_ble_eq_true rfl) ⟨Nat.le_of_ble_eq_true rfl, Nat.le_of_ble_eq_true rfl⟩ ⟨Nat.zero_le _, Nat.zero_le _⟩ dX11_readYarn_8 ?_
  obtain ⟨q5, h6, hf⟩ := bd_some hf
  refine wa_callSi (pc := 11) cx [.long q3] (ct_X11_kindBy l E _ _ _ h6) ms_X11_kindBy tw_1043 rfl rfl (Nat.le_of_ble_eq_true rfl) ⟨Nat.le_of_ble_eq_true rfl, Nat.le_of_ble_eq_true rfl⟩ ⟨Nat.zero_le _, Nat.zero_le _⟩ dX11_readYarn_11 ?_
  refine wa_istore_n (pc := 14) cx 1 [some (.ref (eA E 38)), some (.int q5), none, none, none] dX11_readYarn_14 rfl (by decide) rfl rfl ?_
  refine wa_aload_n (pc := 15) cx 0 dX11_readYarn_15 rfl rfl ?_
  refine wa_getI (pc := 16) cx fl_X11_108 lk_38 rfl (cx.bl 38 rfl) dX11_readYarn_16 ?_
  refine wa_if_ne (pc := 19) cx 37 dX11_readYarn_19 rfl (fun c7 => ?_) (fun c7 => ?_)
  · have hf := (if_neg c7).symm.trans hf
    exact j37 _ _ hf
  · have hf := (if_pos c7).symm.trans hf
    refine wa_aload_n (pc := 22) cx 0 dX11_readYarn_22 rfl rfl ?_
    refine wa_iload_n (pc := 23) cx 1 dX11_readYarn_23 rfl rfl ?_
    refine wa_ldc (pc := 24) (v := (-1000000)) cx dX11_readYarn_24 tw_997 ?_
    refine wa_icmp_eq (pc := 26) cx 33 dX11_readYarn_26 rfl (fun c23 => ?_) (fun c23 => ?_)
    · have hf := (if_pos c23).symm.trans hf
      refine wa_iconst (pc := 33) (v := 0) cx dX11_readYarn_33 (by decide) ?_
      exact j34 _ _ _ hf
    · have hf := (if_neg c23).symm.trans hf
      refine wa_iconst (pc := 29) (v := 1) cx dX11_readYarn_29 (by decide) ?_
      refine wa_goto (pc := 30) cx 34 dX11_readYarn_30 rfl ?_
      exact j34 _ _ _ hf
def fX11_walk_B11  (v1 : Int32) (σ : Sg) : Option ((Int32 × Sg) ⊕ (Sg)) :=
  if (77 : Int32) ≤ v1 then (some (.inr σ)) else (gd (inb v1 77) (
  some (.inl ((v1 + 1), sa σ 43 v1 0))))
def fX11_walk_B80   (σ : Sg) : Option ((Sg) ⊕ (Sg)) :=
  (fX11_name  σ).bind (fun q19 =>
  if lg_cmp q19 32493203050161522 = 0 then ((fX11_readSpeaker  σ).bind (fun q22 =>
  some (.inl q22))) else (some (.inr σ)))
def fX11_walk_B98   (σ : Sg) : Option ((Sg) ⊕ (Sg)) :=
  (fX11_name  σ).bind (fun q25 =>
  if lg_cmp q25 2036429422 = 0 then ((fX11_readYarn  σ).bind (fun q28 =>
  some (.inl q28))) else (some (.inr σ)))
def fX11_walk_B171  (v1 : Int32) (σ : Sg) : Option ((Int32 × Sg) ⊕ (Sg)) :=
  if (77 : Int32) ≤ v1 then (some (.inr σ)) else (gd (inb v1 77) (
  gd (inb v1 77) (
  some (.inl ((v1 + 1), sa σ 42 v1 (ga σ 43 v1))))))
def fX11_walk_J136  (σ : Sg) : Option (Int32 × Sg) :=
  if gf σ 38 18 ≤ 0 then ((lpO (fun w => fX11_walk_B171  w.1 w.2) FUEL (0, sup (sup σ 38 7 1) 38 9 0)).bind (fun o36 =>
  gd (inb 3 77) (
  some (ga o36 42 3, o36)))) else (some (((-1000100) - gf (sup σ 38 12 (gf σ 38 18)) 38 19), sup σ 38 12 (gf σ 38 18)))
def fX11_walk_J47 (t1 : Int32) (σ : Sg) : Option (Int32 × Sg) :=
  (fX11_must t1 σ).bind (fun q9 =>
  (fX11_number 1 50 q9).bind (fun q11 =>
  gd (inb 0 77) (
  (fX11_number 0 20 (sa q11.2 43 0 q11.1)).bind (fun q14 =>
  gd (inb 1 77) (
  (fX11_mustEnd  (sa q14.2 43 1 q14.1)).bind (fun q17 =>
  (lpO (fun w => fX11_walk_B80   w) FUEL q17).bind (fun o24 =>
  (lpO (fun w => fX11_walk_B98   w) FUEL o24).bind (fun o30 =>
  if gf o30 38 18 = 0 then (if gf o30 38 15 = 1 then (fX11_walk_J136  o30) else ((fX11_bad 1 o30).bind (fun q40 =>
  fX11_walk_J136  q40))) else (fX11_walk_J136  o30)))))))))
def fX11_walk  (σ : Sg) : Option (Int32 × Sg) :=
  (fX11_begin  (sup σ 38 0 0)).bind (fun q1 =>
  (lpO (fun w => fX11_walk_B11  w.1 w.2) FUEL (0, q1)).bind (fun o5 =>
  (fX11_name  o5).bind (fun q6 =>
  if lg_cmp q6 7102839 = 0 then (fX11_walk_J47 1 o5) else (fX11_walk_J47 0 o5))))
set_option maxHeartbeats 4000000 in
set_option maxRecDepth 100000 in
theorem ct_X11_walk (l : Launch) (E : En) (σ : Sg)  (q : Int32 × Sg) (hf : fX11_walk  σ = some q) : CT l yX11_walk cX11_walk 2 (some .int) 5 E σ [.ref (eA E 38)] (some (.int q.1)) q.2 := by
  refine CT.of RX11 [some (.ref (eA E 38)), none] rfl (by decide +kernel) (Nat.le_of_ble_eq_true rfl) rfl ?_
  intro p e s m args below meth c cx
  unfold fX11_walk at hf
  have l11 : ∀  (y : Int32 × Sg) (o : Sg), lpO (fun w => fX11_walk_B11  w.1 w.2) FUEL y = some o → (WA p l e (rmd 5) s m args below meth c 2 E 0 0 (MQ below (Qcq E s.heap.size (some (.int q.1)) q.2) args s 0 0 (AE E s.heap.size)) 30 [some (.ref (eA E 38)), none] [] o) → WA p l e (rmd 5) s m args below meth c 2 E 0 0 (MQ below (Qcq E s.heap.size (some (.int q.1)) q.2) args s 0 0 (AE E s.heap.size)) 11 [some (.ref (eA E 38)), some (.int y.1)] [] y.2 := by
    intro  y o hf hk
    refine lp_rule (P := fun y => WA p l e (rmd 5) s m args below meth c 2 E 0 0 (MQ below (Qcq E s.heap.size (some (.int q.1)) q.2) args s 0 0 (AE E s.heap.size)) 11 [some (.ref (eA E 38)), some (.int y.1)] [] y.2) (K := fun o => WA p l e (rmd 5) s m args below meth c 2 E 0 0 (MQ below (Qcq E s.heap.size (some (.int q.1)) q.2) args s 0 0 (AE E s.heap.size)) 30 [some (.ref (eA E 38)), none] [] o) ?_ FUEL y o hf hk
    intro y0 r1 hf hk1
    obtain ⟨v1, σ⟩ := y0
    have hf : fX11_walk_B11  v1 σ = some r1 := hf
    unfold fX11_walk_B11 at hf
    refine wa_iload_n (pc := 11) cx 1 dX11_walk_11 rfl rfl ?_
    refine wa_bipush (pc := 12) (v := 77) cx dX11_walk_12 (by decide) ?_
    refine wa_icmp_ge (pc := 14) cx 30 dX11_walk_14 rfl (fun c3 => ?_) (fun c3 => ?_)
    · have hf := (if_pos c3).symm.trans hf
      obtain rfl := Option.some.inj hf
      refine wa_forget [true, false] [some (.ref (eA E 38)), none] rfl ?_
      exact hk1
    · have hf := (if_neg c3).symm.trans hf
      refine wa_aload_n (pc := 17) cx 0 dX11_walk_17 rfl rfl ?_
      refine wa_getR (pc := 18) cx fl_X11_22 lk_38 rfl (cx.bl 38 rfl) dX11_walk_18 ?_
      refine wa_iload_n (pc := 21) cx 1 dX11_walk_21 rfl rfl ?_
      refine wa_iconst (pc := 22) (v := 0) cx dX11_walk_22 (by decide) ?_
      obtain ⟨g4, hf⟩ := gd_some hf
      refine wa_iast (pc := 23) cx lk_43 (cx.bl 43 rfl) g4 dX11_walk_23 ?_
      refine wa_iinc (pc := 24) (v := 1) cx 1 [some (.ref (eA E 38)), some (.int (v1 + 1))] dX11_walk_24 (by decide) rfl (by decide) rfl rfl ?_
      refine wa_goto (pc := 27) cx 11 dX11_walk_27 rfl ?_
      obtain rfl := Option.some.inj hf
      refine wa_forget [true, true] [some (.ref (eA E 38)), some (.int (v1 + 1))] rfl ?_
      exact hk1
  have l80 : ∀  (y : Sg) (o : Sg), lpO (fun w => fX11_walk_B80   w) FUEL y = some o → (WA p l e (rmd 5) s m args below meth c 2 E 0 0 (MQ below (Qcq E s.heap.size (some (.int q.1)) q.2) args s 0 0 (AE E s.heap.size)) 98 [some (.ref (eA E 38)), none] [] o) → WA p l e (rmd 5) s m args below meth c 2 E 0 0 (MQ below (Qcq E s.heap.size (some (.int q.1)) q.2) args s 0 0 (AE E s.heap.size)) 80 [some (.ref (eA E 38)), none] [] y := by
    intro  y o hf hk
    refine lp_rule (P := fun y => WA p l e (rmd 5) s m args below meth c 2 E 0 0 (MQ below (Qcq E s.heap.size (some (.int q.1)) q.2) args s 0 0 (AE E s.heap.size)) 80 [some (.ref (eA E 38)), none] [] y) (K := fun o => WA p l e (rmd 5) s m args below meth c 2 E 0 0 (MQ below (Qcq E s.heap.size (some (.int q.1)) q.2) args s 0 0 (AE E s.heap.size)) 98 [some (.ref (eA E 38)), none] [] o) ?_ FUEL y o hf hk
    intro σ r1 hf hk1
    have hf : fX11_walk_B80   σ = some r1 := hf
    unfold fX11_walk_B80 at hf
    refine wa_aload_n (pc := 80) cx 0 dX11_walk_80 rfl rfl ?_
    obtain ⟨q19, h20, hf⟩ := bd_some hf
    refine wa_callVl (pc := 81) cx [] (ct_X11_name l E _  _ h20) mi_X11_name tw_1004 lk_38 rfl (cx.bl 38 rfl) rfl rfl (Nat.le_of_ble_eq_true rfl) ⟨Nat.le_of_ble_eq_true rfl, Nat.le_of_ble_eq_true rfl⟩ ⟨Nat.zero_le _, Nat.zero_le _⟩ dX11_walk_81 ?_
    refine wa_ldc2 (pc := 84) (v := 32493203050161522) cx dX11_walk_84 tw_1029 ?_
    refine wa_lcmp (pc := 87) cx dX11_walk_87 ?_
    refine wa_if_ne (pc := 88) cx 98 dX11_walk_88 rfl (fun c21 => ?_) (fun c21 => ?_)
    · have hf := (if_neg c21).symm.trans hf
      obtain rfl := Option.some.inj hf
      refine wa_forget [true, false] [some (.ref (eA E 38)), none] rfl ?_
      exact hk1
    · have hf := (if_pos c21).symm.trans hf
      refine wa_aload_n (pc := 91) cx 0 dX11_walk_91 rfl rfl ?_
      obtain ⟨q22, h23, hf⟩ := bd_some hf
      refine wa_callVv (pc := 92) cx [] (ct_X11_readSpeaker l E _  _ h23) mi_X11_readSpeaker tw_1030 lk_38 rfl (cx.bl 38 rfl) rfl rfl (Nat.le_of_ble_eq_true rfl) ⟨Nat.le_of_ble_eq_true rfl, Nat.le_of_ble_eq_true rfl⟩ ⟨Nat.zero_le _, Nat.zero_le _⟩ dX11_walk_92 ?_
      refine wa_goto (pc := 95) cx 80 dX11_walk_95 rfl ?_
      obtain rfl := Option.some.inj hf
      refine wa_forget [true, false] [some (.ref (eA E 38)), none] rfl ?_
      exact hk1
  have l98 : ∀  (y : Sg) (o : Sg), lpO (fun w => fX11_walk_B98   w) FUEL y = some o → (WA p l e (rmd 5) s m args below meth c 2 E 0 0 (MQ below (Qcq E s.heap.size (some (.int q.1)) q.2) args s 0 0 (AE E s.heap.size)) 116 [some (.ref (eA E 38)), none] [] o) → WA p l e (rmd 5) s m args below meth c 2 E 0 0 (MQ below (Qcq E s.heap.size (some (.int q.1)) q.2) args s 0 0 (AE E s.heap.size)) 98 [some (.ref (eA E 38)), none] [] y := by
    intro  y o hf hk
    refine lp_rule (P := fun y => WA p l e (rmd 5) s m args below meth c 2 E 0 0 (MQ below (Qcq E s.heap.size (some (.int q.1)) q.2) args s 0 0 (AE E s.heap.size)) 98 [some (.ref (eA E 38)), none] [] y) (K := fun o => WA p l e (rmd 5) s m args below meth c 2 E 0 0 (MQ below (Qcq E s.heap.size (some (.int q.1)) q.2) args s 0 0 (AE E s.heap.size)) 116 [some (.ref (eA E 38)), none] [] o) ?_ FUEL y o hf hk
    intro σ r1 hf hk1
    have hf : fX11_walk_B98   σ = some r1 := hf
    unfold fX11_walk_B98 at hf
    refine wa_aload_n (pc := 98) cx 0 dX11_walk_98 rfl rfl ?_
    obtain ⟨q25, h26, hf⟩ := bd_some hf
    refine wa_callVl (pc := 99) cx [] (ct_X11_name l E _  _ h26) mi_X11_name tw_1004 lk_38 rfl (cx.bl 38 rfl) rfl rfl (Nat.le_of_ble_eq_true rfl) ⟨Nat.le_of_ble_eq_true rfl, Nat.le_of_ble_eq_true rfl⟩ ⟨Nat.zero_le _, Nat.zero_le _⟩ dX11_walk_99 ?_
    refine wa_ldc2 (pc := 102) (v := 2036429422) cx dX11_walk_102 tw_1038 ?_
    refine wa_lcmp (pc := 105) cx dX11_walk_105 ?_
    refine wa_if_ne (pc := 106) cx 116 dX11_walk_106 rfl (fun c27 => ?_) (fun c27 => ?_)
    · have hf := (if_neg c27).symm.trans hf
      obtain rfl := Option.some.inj hf
      refine wa_forget [true, false] [some (.ref (eA E 38)), none] rfl ?_
      exact hk1
    · have hf := (if_pos c27).symm.trans hf
      refine wa_aload_n (pc := 109) cx 0 dX11_walk_109 rfl rfl ?_
      obtain ⟨q28, h29, hf⟩ := bd_some hf
      refine wa_callVv (pc := 110) cx [] (ct_X11_readYarn l E _  _ h29) mi_X11_readYarn tw_1039 lk_38 rfl (cx.bl 38 rfl) rfl rfl (Nat.le_of_ble_eq_true rfl) ⟨Nat.le_of_ble_eq_true rfl, Nat.le_of_ble_eq_true rfl⟩ ⟨Nat.zero_le _, Nat.zero_le _⟩ dX11_walk_110 ?_
      refine wa_goto (pc := 113) cx 98 dX11_walk_113 rfl ?_
      obtain rfl := Option.some.inj hf
      refine wa_forget [true, false] [some (.ref (eA E 38)), none] rfl ?_
      exact hk1
  have l171 : ∀  (y : Int32 × Sg) (o : Sg), lpO (fun w => fX11_walk_B171  w.1 w.2) FUEL y = some o → (WA p l e (rmd 5) s m args below meth c 2 E 0 0 (MQ below (Qcq E s.heap.size (some (.int q.1)) q.2) args s 0 0 (AE E s.heap.size)) 195 [some (.ref (eA E 38)), none] [] o) → WA p l e (rmd 5) s m args below meth c 2 E 0 0 (MQ below (Qcq E s.heap.size (some (.int q.1)) q.2) args s 0 0 (AE E s.heap.size)) 171 [some (.ref (eA E 38)), some (.int y.1)] [] y.2 := by
    intro  y o hf hk
    refine lp_rule (P := fun y => WA p l e (rmd 5) s m args below meth c 2 E 0 0 (MQ below (Qcq E s.heap.size (some (.int q.1)) q.2) args s 0 0 (AE E s.heap.size)) 171 [some (.ref (eA E 38)), some (.int y.1)] [] y.2) (K := fun o => WA p l e (rmd 5) s m args below meth c 2 E 0 0 (MQ below (Qcq E s.heap.size (some (.int q.1)) q.2) args s 0 0 (AE E s.heap.size)) 195 [some (.ref (eA E 38)), none] [] o) ?_ FUEL y o hf hk
    intro y0 r1 hf hk1
    obtain ⟨v1, σ⟩ := y0
    have hf : fX11_walk_B171  v1 σ = some r1 := hf
    unfold fX11_walk_B171 at hf
    refine wa_iload_n (pc := 171) cx 1 dX11_walk_171 rfl rfl ?_
    refine wa_bipush (pc := 172) (v := 77) cx dX11_walk_172 (by decide) ?_
    refine wa_icmp_ge (pc := 174) cx 195 dX11_walk_174 rfl (fun c33 => ?_) (fun c33 => ?_)
    · have hf := (if_pos c33).symm.trans hf
      obtain rfl := Option.some.inj hf
      refine wa_forget [true, false] [some (.ref (eA E 38)), none] rfl ?_
      exact hk1
    · have hf := (if_neg c33).symm.trans hf
      refine wa_aload_n (pc := 177) cx 0 dX11_walk_177 rfl rfl ?_
      refine wa_getR (pc := 178) cx fl_X11_19 lk_38 rfl (cx.bl 38 rfl) dX11_walk_178 ?_
      refine wa_iload_n (pc := 181) cx 1 dX11_walk_181 rfl rfl ?_
      refine wa_aload_n (pc := 182) cx 0 dX11_walk_182 rfl rfl ?_
      refine wa_getR (pc := 183) cx fl_X11_22 lk_38 rfl (cx.bl 38 rfl) dX11_walk_183 ?_
      refine wa_iload_n (pc := 186) cx 1 dX11_walk_186 rfl rfl ?_
      obtain ⟨g34, hf⟩ := gd_some hf
      refine wa_iald (pc := 187) cx lk_43 (cx.bl 43 rfl) g34 dX11_walk_187 ?_
      obtain ⟨g35, hf⟩ := gd_some hf
      refine wa_iast (pc := 188) cx lk_42 (cx.bl 42 rfl) g35 dX11_walk_188 ?_
      refine wa_iinc (pc := 189) (v := 1) cx 1 [some (.ref (eA E 38)), some (.int (v1 + 1))] dX11_walk_189 (by decide) rfl (by decide) rfl rfl ?_
      refine wa_goto (pc := 192) cx 171 dX11_walk_192 rfl ?_
      obtain rfl := Option.some.inj hf
      refine wa_forget [true, true] [some (.ref (eA E 38)), some (.int (v1 + 1))] rfl ?_
      exact hk1
  have j136 : ∀  (σ : Sg), fX11_walk_J136  σ = some q → WA p l e (rmd 5) s m args below meth c 2 E 0 0 (MQ below (Qcq E s.heap.size (some (.int q.1)) q.2) args s 0 0 (AE E s.heap.size)) 136 [some (.ref (eA E 38)), none] [] σ := by
    intro  σ hf
    unfold fX11_walk_J136 at hf
    refine wa_aload_n (pc := 136) cx 0 dX11_walk_136 rfl rfl ?_
    refine wa_getI (pc := 137) cx fl_X11_108 lk_38 rfl (cx.bl 38 rfl) dX11_walk_137 ?_
    refine wa_if_le (pc := 140) cx 159 dX11_walk_140 rfl (fun c32 => ?_) (fun c32 => ?_)
    · have hf := (if_pos c32).symm.trans hf
      refine wa_aload_n (pc := 159) cx 0 dX11_walk_159 rfl rfl ?_
      refine wa_iconst (pc := 160) (v := 1) cx dX11_walk_160 (by decide) ?_
      refine wa_putZ (pc := 161) cx fp_X11_177 lk_38 rfl (cx.bl 38 rfl) rfl dX11_walk_161 ?_
      refine wa_aload_n (pc := 164) cx 0 dX11_walk_164 rfl rfl ?_
      refine wa_iconst (pc := 165) (v := 0) cx dX11_walk_165 (by decide) ?_
      refine wa_putI (pc := 166) cx fp_X11_181 lk_38 rfl (cx.bl 38 rfl) dX11_walk_166 ?_
      refine wa_iconst (pc := 169) (v := 0) cx dX11_walk_169 (by decide) ?_
      refine wa_istore_n (pc := 170) cx 1 [some (.ref (eA E 38)), some (.int 0)] dX11_walk_170 rfl (by decide) rfl rfl ?_
      obtain ⟨o36, h38, hf⟩ := bd_some hf
      refine l171  _ _ h38 ?_
      refine wa_aload_n (pc := 195) cx 0 dX11_walk_195 rfl rfl ?_
      refine wa_getR (pc := 196) cx fl_X11_19 lk_38 rfl (cx.bl 38 rfl) dX11_walk_196 ?_
      refine wa_iconst (pc := 199) (v := 3) cx dX11_walk_199 (by decide) ?_
      obtain ⟨g37, hf⟩ := gd_some hf
      refine wa_iald (pc := 200) cx lk_42 (cx.bl 42 rfl) g37 dX11_walk_200 ?_
      obtain rfl := Option.some.inj hf
      exact wa_iret (pc := 201) cx dX11_walk_201
    · have hf := (if_neg c32).symm.trans hf
      refine wa_aload_n (pc := 143) cx 0 dX11_walk_143 rfl rfl ?_
      refine wa_aload_n (pc := 144) cx 0 dX11_walk_144 rfl rfl ?_
      refine wa_getI (pc := 145) cx fl_X11_108 lk_38 rfl (cx.bl 38 rfl) dX11_walk_145 ?_
      refine wa_putI (pc := 148) cx fp_X11_173 lk_38 rfl (cx.bl 38 rfl) dX11_walk_148 ?_
      refine wa_ldc (pc := 151) (v := (-1000100)) cx dX11_walk_151 tw_1051 ?_
      refine wa_aload_n (pc := 153) cx 0 dX11_walk_153 rfl rfl ?_
      refine wa_getI (pc := 154) cx fl_X11_114 lk_38 rfl (cx.bl 38 rfl) dX11_walk_154 ?_
      refine wa_isub (pc := 157) cx dX11_walk_157 ?_
      obtain rfl := Option.some.inj hf
      exact wa_iret (pc := 158) cx dX11_walk_158
  have j47 : ∀ (t1 : Int32) (σ : Sg), fX11_walk_J47 t1 σ = some q → WA p l e (rmd 5) s m args below meth c 2 E 0 0 (MQ below (Qcq E s.heap.size (some (.int q.1)) q.2) args s 0 0 (AE E s.heap.size)) 47 [some (.ref (eA E 38)), none] [.int t1, .ref (eA E 38)] σ := by
    intro t1 σ hf
    unfold fX11_walk_J47 at hf
    obtain ⟨q9, h10, hf⟩ := bd_some hf
    refine wa_callVv (pc := 47) cx [.int t1] (ct_X11_must l E _ _ _ h10) mi_X11_must tw_1009 lk_38 rfl (cx.bl 38 rfl) rfl rfl (Nat.le_of_ble_eq_true rfl) ⟨Nat.le_of_ble_eq_true rfl, Nat.le_of_ble_eq_true rfl⟩ ⟨Nat.zero_le _, Nat.zero_le _⟩ dX11_walk_47 ?_
    refine wa_aload_n (pc := 50) cx 0 dX11_walk_50 rfl rfl ?_
    refine wa_getR (pc := 51) cx fl_X11_22 lk_38 rfl (cx.bl 38 rfl) dX11_walk_51 ?_
    refine wa_iconst (pc := 54) (v := 0) cx dX11_walk_54 (by decide) ?_
    refine wa_aload_n (pc := 55) cx 0 dX11_walk_55 rfl rfl ?_
    refine wa_iconst (pc := 56) (v := 1) cx dX11_walk_56 (by decide) ?_
    refine wa_bipush (pc := 57) (v := 50) cx dX11_walk_57 (by decide) ?_
    obtain ⟨q11, h12, hf⟩ := bd_some hf
    refine wa_callVi (pc := 59) cx [.int 1, .int 50] (ct_X11_number l E _ _ _ _ h12) mi_X11_number tw_1017 lk_38 rfl (cx.bl 38 rfl) rfl rfl (Nat.le_of_ble_eq_true rfl) ⟨Nat.le_of_ble_eq_true rfl, Nat.le_of_ble_eq_true rfl⟩ ⟨Nat.zero_le _, Nat.zero_le _⟩ dX11_walk_59 ?_
    obtain ⟨g13, hf⟩ := gd_some hf
    refine wa_iast (pc := 62) cx lk_43 (cx.bl 43 rfl) g13 dX11_walk_62 ?_
    refine wa_aload_n (pc := 63) cx 0 dX11_walk_63 rfl rfl ?_
    refine wa_getR (pc := 64) cx fl_X11_22 lk_38 rfl (cx.bl 38 rfl) dX11_walk_64 ?_
    refine wa_iconst (pc := 67) (v := 1) cx dX11_walk_67 (by decide) ?_
    refine wa_aload_n (pc := 68) cx 0 dX11_walk_68 rfl rfl ?_
    refine wa_iconst (pc := 69) (v := 0) cx dX11_walk_69 (by decide) ?_
    refine wa_bipush (pc := 70) (v := 20) cx dX11_walk_70 (by decide) ?_
    obtain ⟨q14, h15, hf⟩ := bd_some hf
    refine wa_callVi (pc := 72) cx [.int 0, .int 20] (ct_X11_number l E _ _ _ _ h15) mi_X11_number tw_1017 lk_38 rfl (cx.bl 38 rfl) rfl rfl (Nat.le_of_ble_eq_true rfl) ⟨Nat.le_of_ble_eq_true rfl, Nat.le_of_ble_eq_true rfl⟩ ⟨Nat.zero_le _, Nat.zero_le _⟩ dX11_walk_72 ?_
    obtain ⟨g16, hf⟩ := gd_some hf
    refine wa_iast (pc := 75) cx lk_43 (cx.bl 43 rfl) g16 dX11_walk_75 ?_
    refine wa_aload_n (pc := 76) cx 0 dX11_walk_76 rfl rfl ?_
    obtain ⟨q17, h18, hf⟩ := bd_some hf
    refine wa_callVv (pc := 77) cx [] (ct_X11_mustEnd l E _  _ h18) mi_X11_mustEnd tw_1025 lk_38 rfl (cx.bl 38 rfl) rfl rfl (Nat.le_of_ble_eq_true rfl) ⟨Nat.le_of_ble_eq_true rfl, Nat.le_of_ble_eq_true rfl⟩ ⟨Nat.zero_le _, Nat.zero_le _⟩ dX11_walk_77 ?_
    obtain ⟨o24, h43, hf⟩ := bd_some hf
    refine l80  _ _ h43 ?_
    obtain ⟨o30, h42, hf⟩ := bd_some hf
    refine l98  _ _ h42 ?_
    refine wa_aload_n (pc := 116) cx 0 dX11_walk_116 rfl rfl ?_
    refine wa_getI (pc := 117) cx fl_X11_108 lk_38 rfl (cx.bl 38 rfl) dX11_walk_117 ?_
    refine wa_if_ne (pc := 120) cx 136 dX11_walk_120 rfl (fun c31 => ?_) (fun c31 => ?_)
    · have hf := (if_neg c31).symm.trans hf
      exact j136  _ hf
    · have hf := (if_pos c31).symm.trans hf
      refine wa_aload_n (pc := 123) cx 0 dX11_walk_123 rfl rfl ?_
      refine wa_getI (pc := 124) cx fl_X11_96 lk_38 rfl (cx.bl 38 rfl) dX11_walk_124 ?_
      refine wa_iconst (pc := 127) (v := 1) cx dX11_walk_127 (by decide) ?_
      refine wa_icmp_eq (pc := 128) cx 136 dX11_walk_128 rfl (fun c39 => ?_) (fun c39 => ?_)
      · have hf := (if_pos c39).symm.trans hf
        exact j136  _ hf
      · have hf := (if_neg c39).symm.trans hf
        refine wa_aload_n (pc := 131) cx 0 dX11_walk_131 rfl rfl ?_
        refine wa_iconst (pc := 132) (v := 1) cx dX11_walk_132 (by decide) ?_
        obtain ⟨q40, h41, hf⟩ := bd_some hf
        refine wa_callVv (pc := 133) cx [.int 1] (ct_X11_bad l E _ _ _ h41) mi_X11_bad tw_1013 lk_38 rfl (cx.bl 38 rfl) rfl rfl (Nat.le_of_ble_eq_true rfl) ⟨Nat.le_of_ble_eq_true rfl, Nat.le_of_ble_eq_true rfl⟩ ⟨Nat.zero_le _, Nat.zero_le _⟩ dX11_walk_133 ?_
        exact j136  _ hf
  refine wa_aload_n (pc := 0) cx 0 dX11_walk_0 rfl rfl ?_
  refine wa_iconst (pc := 1) (v := 0) cx dX11_walk_1 (by decide) ?_
  refine wa_putI (pc := 2) cx fp_X11_50 lk_38 rfl (cx.bl 38 rfl) dX11_walk_2 ?_
  refine wa_aload_n (pc := 5) cx 0 dX11_walk_5 rfl rfl ?_
  obtain ⟨q1, h2, hf⟩ := bd_some hf
  refine wa_callVv (pc := 6) cx [] (ct_X11_begin l E _  _ h2) mi_X11_begin tw_985 lk_38 rfl (cx.bl 38 rfl) rfl rfl (Nat.le_of_ble_eq_true rfl) ⟨Nat.le_of_ble_eq_true rfl, Nat.le_of_ble_eq_true rfl⟩ ⟨Nat.zero_le _, Nat.zero_le _⟩ dX11_walk_6 ?_
  refine wa_iconst (pc := 9) (v := 0) cx dX11_walk_9 (by decide) ?_
  refine wa_istore_n (pc := 10) cx 1 [some (.ref (eA E 38)), some (.int 0)] dX11_walk_10 rfl (by decide) rfl rfl ?_
  obtain ⟨o5, h44, hf⟩ := bd_some hf
  refine l11  _ _ h44 ?_
  refine wa_aload_n (pc := 30) cx 0 dX11_walk_30 rfl rfl ?_
  refine wa_aload_n (pc := 31) cx 0 dX11_walk_31 rfl rfl ?_
  obtain ⟨q6, h7, hf⟩ := bd_some hf
  refine wa_callVl (pc := 32) cx [] (ct_X11_name l E _  _ h7) mi_X11_name tw_1004 lk_38 rfl (cx.bl 38 rfl) rfl rfl (Nat.le_of_ble_eq_true rfl) ⟨Nat.le_of_ble_eq_true rfl, Nat.le_of_ble_eq_true rfl⟩ ⟨Nat.zero_le _, Nat.zero_le _⟩ dX11_walk_32 ?_
  refine wa_ldc2 (pc := 35) (v := 7102839) cx dX11_walk_35 tw_1008 ?_
  refine wa_lcmp (pc := 38) cx dX11_walk_38 ?_
  refine wa_if_ne (pc := 39) cx 46 dX11_walk_39 rfl (fun c8 => ?_) (fun c8 => ?_)
  · have hf := (if_neg c8).symm.trans hf
    refine wa_iconst (pc := 46) (v := 0) cx dX11_walk_46 (by decide) ?_
    exact j47 _ _ hf
  · have hf := (if_pos c8).symm.trans hf
    refine wa_iconst (pc := 42) (v := 1) cx dX11_walk_42 (by decide) ?_
    refine wa_goto (pc := 43) cx 47 dX11_walk_43 rfl ?_
    exact j47 _ _ hf
def fX11_fault  (σ : Sg) : Option (Int32 × Sg) :=
  some (gf (sup σ 38 0 0) 38 12, sup σ 38 0 0)
set_option maxHeartbeats 4000000 in
set_option maxRecDepth 100000 in
theorem ct_X11_fault (l : Launch) (E : En) (σ : Sg)  (q : Int32 × Sg) (hf : fX11_fault  σ = some q) : CT l yX11_fault cX11_fault 1 (some .int) 0 E σ [.ref (eA E 38)] (some (.int q.1)) q.2 := by
  refine CT.of RX11 [some (.ref (eA E 38))] rfl (by decide +kernel) (Nat.le_of_ble_eq_true rfl) rfl ?_
  intro p e s m args below meth c cx
  unfold fX11_fault at hf
  refine wa_aload_n (pc := 0) cx 0 dX11_fault_0 rfl rfl ?_
  refine wa_iconst (pc := 1) (v := 0) cx dX11_fault_1 (by decide) ?_
  refine wa_putI (pc := 2) cx fp_X11_50 lk_38 rfl (cx.bl 38 rfl) dX11_fault_2 ?_
  refine wa_aload_n (pc := 5) cx 0 dX11_fault_5 rfl rfl ?_
  refine wa_getI (pc := 6) cx fl_X11_173 lk_38 rfl (cx.bl 38 rfl) dX11_fault_6 ?_
  obtain rfl := Option.some.inj hf
  exact wa_iret (pc := 9) cx dX11_fault_9
def fX11_isYarn (a1 : Int32) (σ : Sg) : Option (Int32) :=
  gd (inb 3 77) (
  (fX11_in ((a1).toInt64) 0 (((ga σ 42 3 - 1)).toInt64) σ).bind (fun q2 =>
  gd (isz q2) (
  some q2)))
set_option maxHeartbeats 4000000 in
set_option maxRecDepth 100000 in
theorem ct_X11_isYarn (l : Launch) (E : En) (σ : Sg) (a1 : Int32) (q : Int32) (hf : fX11_isYarn a1 σ = some q) : CT l yX11_isYarn cX11_isYarn 2 (some .boolean) 1 E σ [.ref (eA E 38), .int a1] (some (.int q)) σ := by
  refine CT.of RX11 [some (.ref (eA E 38)), some (.int a1)] rfl (by decide +kernel) (Nat.le_of_ble_eq_true rfl) rfl ?_
  intro p e s m args below meth c cx
  unfold fX11_isYarn at hf
  refine wa_iload_n (pc := 0) cx 1 dX11_isYarn_0 rfl rfl ?_
  refine wa_i2l (pc := 1) cx dX11_isYarn_1 ?_
  refine wa_lconst (pc := 2) (v := 0) cx dX11_isYarn_2 (by decide) ?_
  refine wa_aload_n (pc := 3) cx 0 dX11_isYarn_3 rfl rfl ?_
  refine wa_getR (pc := 4) cx fl_X11_19 lk_38 rfl (cx.bl 38 rfl) dX11_isYarn_4 ?_
  refine wa_iconst (pc := 7) (v := 3) cx dX11_isYarn_7 (by decide) ?_
  obtain ⟨g1, hf⟩ := gd_some hf
  refine wa_iald (pc := 8) cx lk_42 (cx.bl 42 rfl) g1 dX11_isYarn_8 ?_
  refine wa_iconst (pc := 9) (v := 1) cx dX11_isYarn_9 (by decide) ?_
  refine wa_isub (pc := 10) cx dX11_isYarn_10 ?_
  refine wa_i2l (pc := 11) cx dX11_isYarn_11 ?_
  obtain ⟨q2, h3, hf⟩ := bd_some hf
  refine wa_callSi (pc := 12) cx [.long ((a1).toInt64), .long 0, .long (((ga σ 42 3 - 1)).toInt64)] (ct_X11_in l E _ _ _ _ _ h3) ms_X11_in tw_952 rfl rfl (Nat.le_of_ble_eq_true rfl) ⟨Nat.le_of_ble_eq_true rfl, Nat.le_of_ble_eq_true rfl⟩ ⟨Nat.zero_le _, Nat.zero_le _⟩ dX11_isYarn_12 ?_
  obtain ⟨g4, hf⟩ := gd_some hf
  obtain rfl := Option.some.inj hf
  exact wa_zret (pc := 15) cx g4 dX11_isYarn_15
def fX11_keep_B51  (v1 : Int32) (σ : Sg) : Option ((Int32 × Sg) ⊕ (Sg)) :=
  if (77 : Int32) ≤ v1 then (some (.inr σ)) else (gd (inb v1 77) (
  gd (inb ((77 * gf σ 38 9) + v1) 1848) (
  some (.inl ((v1 + 1), sa σ 44 ((77 * gf σ 38 9) + v1) (ga σ 42 v1))))))
def fX11_keep_J49  (σ : Sg) : Option (Sg) :=
  (lpO (fun w => fX11_keep_B51  w.1 w.2) FUEL (0, σ)).bind (fun o5 =>
  some (sup o5 38 9 (gf o5 38 9 + 1)))
def fX11_keep_B11  (v1 : Int32) (σ : Sg) : Option ((Int32 × Sg) ⊕ (Sg)) :=
  if (1771 : Int32) ≤ v1 then (some (.inr σ)) else (gd (inb (v1 + 77) 1848) (
  gd (inb v1 1848) (
  some (.inl ((v1 + 1), sa σ 44 v1 (ga σ 44 (v1 + 77)))))))
def fX11_keep  (σ : Sg) : Option (Sg) :=
  if gf σ 38 9 = 24 then ((lpO (fun w => fX11_keep_B11  w.1 w.2) FUEL (0, σ)).bind (fun o10 =>
  fX11_keep_J49  (sup o10 38 9 (gf o10 38 9 - 1)))) else (fX11_keep_J49  σ)
set_option maxHeartbeats 4000000 in
set_option maxRecDepth 100000 in
theorem ct_X11_keep (l : Launch) (E : En) (σ : Sg)  (q : Sg) (hf : fX11_keep  σ = some q) : CT l yX11_keep cX11_keep 2 none 0 E σ [.ref (eA E 38)] none q := by
  refine CT.of RX11 [some (.ref (eA E 38)), none] rfl (by decide +kernel) (Nat.le_of_ble_eq_true rfl) rfl ?_
  intro p e s m args below meth c cx
  unfold fX11_keep at hf
  have l51 : ∀  (y : Int32 × Sg) (o : Sg), lpO (fun w => fX11_keep_B51  w.1 w.2) FUEL y = some o → (WA p l e (rmd 0) s m args below meth c 2 E 0 0 (MQ below (Qcq E s.heap.size (none) q) args s 0 0 (AE E s.heap.size)) 83 [some (.ref (eA E 38)), none] [] o) → WA p l e (rmd 0) s m args below meth c 2 E 0 0 (MQ below (Qcq E s.heap.size (none) q) args s 0 0 (AE E s.heap.size)) 51 [some (.ref (eA E 38)), some (.int y.1)] [] y.2 := by
    intro  y o hf hk
    refine lp_rule (P := fun y => WA p l e (rmd 0) s m args below meth c 2 E 0 0 (MQ below (Qcq E s.heap.size (none) q) args s 0 0 (AE E s.heap.size)) 51 [some (.ref (eA E 38)), some (.int y.1)] [] y.2) (K := fun o => WA p l e (rmd 0) s m args below meth c 2 E 0 0 (MQ below (Qcq E s.heap.size (none) q) args s 0 0 (AE E s.heap.size)) 83 [some (.ref (eA E 38)), none] [] o) ?_ FUEL y o hf hk
    intro y0 r1 hf hk1
    obtain ⟨v1, σ⟩ := y0
    have hf : fX11_keep_B51  v1 σ = some r1 := hf
    unfold fX11_keep_B51 at hf
    refine wa_iload_n (pc := 51) cx 1 dX11_keep_51 rfl rfl ?_
    refine wa_bipush (pc := 52) (v := 77) cx dX11_keep_52 (by decide) ?_
    refine wa_icmp_ge (pc := 54) cx 83 dX11_keep_54 rfl (fun c2 => ?_) (fun c2 => ?_)
    · have hf := (if_pos c2).symm.trans hf
      obtain rfl := Option.some.inj hf
      refine wa_forget [true, false] [some (.ref (eA E 38)), none] rfl ?_
      exact hk1
    · have hf := (if_neg c2).symm.trans hf
      refine wa_aload_n (pc := 57) cx 0 dX11_keep_57 rfl rfl ?_
      refine wa_getR (pc := 58) cx fl_X11_25 lk_38 rfl (cx.bl 38 rfl) dX11_keep_58 ?_
      refine wa_bipush (pc := 61) (v := 77) cx dX11_keep_61 (by decide) ?_
      refine wa_aload_n (pc := 63) cx 0 dX11_keep_63 rfl rfl ?_
      refine wa_getI (pc := 64) cx fl_X11_181 lk_38 rfl (cx.bl 38 rfl) dX11_keep_64 ?_
      refine wa_imul (pc := 67) cx dX11_keep_67 ?_
      refine wa_iload_n (pc := 68) cx 1 dX11_keep_68 rfl rfl ?_
      refine wa_iadd (pc := 69) cx dX11_keep_69 ?_
      refine wa_aload_n (pc := 70) cx 0 dX11_keep_70 rfl rfl ?_
      refine wa_getR (pc := 71) cx fl_X11_19 lk_38 rfl (cx.bl 38 rfl) dX11_keep_71 ?_
      refine wa_iload_n (pc := 74) cx 1 dX11_keep_74 rfl rfl ?_
      obtain ⟨g3, hf⟩ := gd_some hf
      refine wa_iald (pc := 75) cx lk_42 (cx.bl 42 rfl) g3 dX11_keep_75 ?_
      obtain ⟨g4, hf⟩ := gd_some hf
      refine wa_iast (pc := 76) cx lk_44 (cx.bl 44 rfl) g4 dX11_keep_76 ?_
      refine wa_iinc (pc := 77) (v := 1) cx 1 [some (.ref (eA E 38)), some (.int (v1 + 1))] dX11_keep_77 (by decide) rfl (by decide) rfl rfl ?_
      refine wa_goto (pc := 80) cx 51 dX11_keep_80 rfl ?_
      obtain rfl := Option.some.inj hf
      refine wa_forget [true, true] [some (.ref (eA E 38)), some (.int (v1 + 1))] rfl ?_
      exact hk1
  have j49 : ∀  (σ : Sg), fX11_keep_J49  σ = some q → WA p l e (rmd 0) s m args below meth c 2 E 0 0 (MQ below (Qcq E s.heap.size (none) q) args s 0 0 (AE E s.heap.size)) 49 [some (.ref (eA E 38)), none] [] σ := by
    intro  σ hf
    unfold fX11_keep_J49 at hf
    refine wa_iconst (pc := 49) (v := 0) cx dX11_keep_49 (by decide) ?_
    refine wa_istore_n (pc := 50) cx 1 [some (.ref (eA E 38)), some (.int 0)] dX11_keep_50 rfl (by decide) rfl rfl ?_
    obtain ⟨o5, h6, hf⟩ := bd_some hf
    refine l51  _ _ h6 ?_
    refine wa_aload_n (pc := 83) cx 0 dX11_keep_83 rfl rfl ?_
    refine wa_dup (pc := 84) cx dX11_keep_84 rfl ?_
    refine wa_getI (pc := 85) cx fl_X11_181 lk_38 rfl (cx.bl 38 rfl) dX11_keep_85 ?_
    refine wa_iconst (pc := 88) (v := 1) cx dX11_keep_88 (by decide) ?_
    refine wa_iadd (pc := 89) cx dX11_keep_89 ?_
    refine wa_putI (pc := 90) cx fp_X11_181 lk_38 rfl (cx.bl 38 rfl) dX11_keep_90 ?_
    obtain rfl := Option.some.inj hf
    exact wa_vret (pc := 93) cx dX11_keep_93
  have l11 : ∀  (y : Int32 × Sg) (o : Sg), lpO (fun w => fX11_keep_B11  w.1 w.2) FUEL y = some o → (WA p l e (rmd 0) s m args below meth c 2 E 0 0 (MQ below (Qcq E s.heap.size (none) q) args s 0 0 (AE E s.heap.size)) 39 [some (.ref (eA E 38)), none] [] o) → WA p l e (rmd 0) s m args below meth c 2 E 0 0 (MQ below (Qcq E s.heap.size (none) q) args s 0 0 (AE E s.heap.size)) 11 [some (.ref (eA E 38)), some (.int y.1)] [] y.2 := by
    intro  y o hf hk
    refine lp_rule (P := fun y => WA p l e (rmd 0) s m args below meth c 2 E 0 0 (MQ below (Qcq E s.heap.size (none) q) args s 0 0 (AE E s.heap.size)) 11 [some (.ref (eA E 38)), some (.int y.1)] [] y.2) (K := fun o => WA p l e (rmd 0) s m args below meth c 2 E 0 0 (MQ below (Qcq E s.heap.size (none) q) args s 0 0 (AE E s.heap.size)) 39 [some (.ref (eA E 38)), none] [] o) ?_ FUEL y o hf hk
    intro y0 r1 hf hk1
    obtain ⟨v1, σ⟩ := y0
    have hf : fX11_keep_B11  v1 σ = some r1 := hf
    unfold fX11_keep_B11 at hf
    refine wa_iload_n (pc := 11) cx 1 dX11_keep_11 rfl rfl ?_
    refine wa_sipush (pc := 12) (v := 1771) cx dX11_keep_12 (by decide) ?_
    refine wa_icmp_ge (pc := 15) cx 39 dX11_keep_15 rfl (fun c7 => ?_) (fun c7 => ?_)
    · have hf := (if_pos c7).symm.trans hf
      obtain rfl := Option.some.inj hf
      refine wa_forget [true, false] [some (.ref (eA E 38)), none] rfl ?_
      exact hk1
    · have hf := (if_neg c7).symm.trans hf
      refine wa_aload_n (pc := 18) cx 0 dX11_keep_18 rfl rfl ?_
      refine wa_getR (pc := 19) cx fl_X11_25 lk_38 rfl (cx.bl 38 rfl) dX11_keep_19 ?_
      refine wa_iload_n (pc := 22) cx 1 dX11_keep_22 rfl rfl ?_
      refine wa_aload_n (pc := 23) cx 0 dX11_keep_23 rfl rfl ?_
      refine wa_getR (pc := 24) cx fl_X11_25 lk_38 rfl (cx.bl 38 rfl) dX11_keep_24 ?_
      refine wa_iload_n (pc := 27) cx 1 dX11_keep_27 rfl rfl ?_
      refine wa_bipush (pc := 28) (v := 77) cx dX11_keep_28 (by decide) ?_
      refine wa_iadd (pc := 30) cx dX11_keep_30 ?_
      obtain ⟨g8, hf⟩ := gd_some hf
      refine wa_iald (pc := 31) cx lk_44 (cx.bl 44 rfl) g8 dX11_keep_31 ?_
      obtain ⟨g9, hf⟩ := gd_some hf
      refine wa_iast (pc := 32) cx lk_44 (cx.bl 44 rfl) g9 dX11_keep_32 ?_
      refine wa_iinc (pc := 33) (v := 1) cx 1 [some (.ref (eA E 38)), some (.int (v1 + 1))] dX11_keep_33 (by decide) rfl (by decide) rfl rfl ?_
      refine wa_goto (pc := 36) cx 11 dX11_keep_36 rfl ?_
      obtain rfl := Option.some.inj hf
      refine wa_forget [true, true] [some (.ref (eA E 38)), some (.int (v1 + 1))] rfl ?_
      exact hk1
  refine wa_aload_n (pc := 0) cx 0 dX11_keep_0 rfl rfl ?_
  refine wa_getI (pc := 1) cx fl_X11_181 lk_38 rfl (cx.bl 38 rfl) dX11_keep_1 ?_
  refine wa_bipush (pc := 4) (v := 24) cx dX11_keep_4 (by decide) ?_
  refine wa_icmp_ne (pc := 6) cx 49 dX11_keep_6 rfl (fun c1 => ?_) (fun c1 => ?_)
  · have hf := (if_neg c1).symm.trans hf
    exact j49  _ hf
  · have hf := (if_pos c1).symm.trans hf
    refine wa_iconst (pc := 9) (v := 0) cx dX11_keep_9 (by decide) ?_
    refine wa_istore_n (pc := 10) cx 1 [some (.ref (eA E 38)), some (.int 0)] dX11_keep_10 rfl (by decide) rfl rfl ?_
    obtain ⟨o10, h11, hf⟩ := bd_some hf
    refine l11  _ _ h11 ?_
    refine wa_aload_n (pc := 39) cx 0 dX11_keep_39 rfl rfl ?_
    refine wa_dup (pc := 40) cx dX11_keep_40 rfl ?_
    refine wa_getI (pc := 41) cx fl_X11_181 lk_38 rfl (cx.bl 38 rfl) dX11_keep_41 ?_
    refine wa_iconst (pc := 44) (v := 1) cx dX11_keep_44 (by decide) ?_
    refine wa_isub (pc := 45) cx dX11_keep_45 ?_
    refine wa_putI (pc := 46) cx fp_X11_181 lk_38 rfl (cx.bl 38 rfl) dX11_keep_46 ?_
    exact j49  _ hf
def fX11_of (a1 : Int32) (a2 : Int32) (σ : Sg) : Option (Int32) :=
  gd (inb ((14 + (7 * a1)) + a2) 77) (
  some (ga σ 42 ((14 + (7 * a1)) + a2)))
set_option maxHeartbeats 4000000 in
set_option maxRecDepth 100000 in
theorem ct_X11_of (l : Launch) (E : En) (σ : Sg) (a1 : Int32) (a2 : Int32) (q : Int32) (hf : fX11_of a1 a2 σ = some q) : CT l yX11_of cX11_of 3 (some .int) 0 E σ [.ref (eA E 38), .int a1, .int a2] (some (.int q)) σ := by
  refine CT.of RX11 [some (.ref (eA E 38)), some (.int a1), some (.int a2)] rfl (by decide +kernel) (Nat.le_of_ble_eq_true rfl) rfl ?_
  intro p e s m args below meth c cx
  unfold fX11_of at hf
  refine wa_aload_n (pc := 0) cx 0 dX11_of_0 rfl rfl ?_
  refine wa_getR (pc := 1) cx fl_X11_19 lk_38 rfl (cx.bl 38 rfl) dX11_of_1 ?_
  refine wa_bipush (pc := 4) (v := 14) cx dX11_of_4 (by decide) ?_
  refine wa_bipush (pc := 6) (v := 7) cx dX11_of_6 (by decide) ?_
  refine wa_iload_n (pc := 8) cx 1 dX11_of_8 rfl rfl ?_
  refine wa_imul (pc := 9) cx dX11_of_9 ?_
  refine wa_iadd (pc := 10) cx dX11_of_10 ?_
  refine wa_iload_n (pc := 11) cx 2 dX11_of_11 rfl rfl ?_
  refine wa_iadd (pc := 12) cx dX11_of_12 ?_
  obtain ⟨g1, hf⟩ := gd_some hf
  refine wa_iald (pc := 13) cx lk_42 (cx.bl 42 rfl) g1 dX11_of_13 ?_
  obtain rfl := Option.some.inj hf
  exact wa_iret (pc := 14) cx dX11_of_14
def fX11_becomes (a1 : Int32) (a2 : Int32) (a3 : Int32) (σ : Sg) : Option (Sg) :=
  gd (inb ((14 + (7 * a1)) + a2) 77) (
  some (sa σ 42 ((14 + (7 * a1)) + a2) a3))
set_option maxHeartbeats 4000000 in
set_option maxRecDepth 100000 in
theorem ct_X11_becomes (l : Launch) (E : En) (σ : Sg) (a1 : Int32) (a2 : Int32) (a3 : Int32) (q : Sg) (hf : fX11_becomes a1 a2 a3 σ = some q) : CT l yX11_becomes cX11_becomes 4 none 0 E σ [.ref (eA E 38), .int a1, .int a2, .int a3] none q := by
  refine CT.of RX11 [some (.ref (eA E 38)), some (.int a1), some (.int a2), some (.int a3)] rfl (by decide +kernel) (Nat.le_of_ble_eq_true rfl) rfl ?_
  intro p e s m args below meth c cx
  unfold fX11_becomes at hf
  refine wa_aload_n (pc := 0) cx 0 dX11_becomes_0 rfl rfl ?_
  refine wa_getR (pc := 1) cx fl_X11_19 lk_38 rfl (cx.bl 38 rfl) dX11_becomes_1 ?_
  refine wa_bipush (pc := 4) (v := 14) cx dX11_becomes_4 (by decide) ?_
  refine wa_bipush (pc := 6) (v := 7) cx dX11_becomes_6 (by decide) ?_
  refine wa_iload_n (pc := 8) cx 1 dX11_becomes_8 rfl rfl ?_
  refine wa_imul (pc := 9) cx dX11_becomes_9 ?_
  refine wa_iadd (pc := 10) cx dX11_becomes_10 ?_
  refine wa_iload_n (pc := 11) cx 2 dX11_becomes_11 rfl rfl ?_
  refine wa_iadd (pc := 12) cx dX11_becomes_12 ?_
  refine wa_iload_n (pc := 13) cx 3 dX11_becomes_13 rfl rfl ?_
  obtain ⟨g1, hf⟩ := gd_some hf
  refine wa_iast (pc := 14) cx lk_42 (cx.bl 42 rfl) g1 dX11_becomes_14 ?_
  obtain rfl := Option.some.inj hf
  exact wa_vret (pc := 15) cx dX11_becomes_15
def fX11_lay_J27  (σ : Sg) : Option (Int32 × Sg) :=
  some ((-1000001), σ)
def fX11_lay (a1 : Int32) (a2 : Int32) (σ : Sg) : Option (Int32 × Sg) :=
  (fX11_isYarn a1 (sup σ 38 0 0)).bind (fun q1 =>
  if q1 = 0 then (fX11_lay_J27  (sup σ 38 0 0)) else ((fX11_in ((a2).toInt64) (-1) 2 (sup σ 38 0 0)).bind (fun q4 =>
  if q4 = 0 then (fX11_lay_J27  (sup σ 38 0 0)) else ((fX11_keep  (sup σ 38 0 0)).bind (fun q7 =>
  (fX11_of a1 3 q7).bind (fun q9 =>
  (fX11_becomes a1 3 a2 q7).bind (fun q11 =>
  some (q9, q11))))))))
set_option maxHeartbeats 4000000 in
set_option maxRecDepth 100000 in
theorem ct_X11_lay (l : Launch) (E : En) (σ : Sg) (a1 : Int32) (a2 : Int32) (q : Int32 × Sg) (hf : fX11_lay a1 a2 σ = some q) : CT l yX11_lay cX11_lay 4 (some .int) 2 E σ [.ref (eA E 38), .int a1, .int a2] (some (.int q.1)) q.2 := by
  refine CT.of RX11 [some (.ref (eA E 38)), some (.int a1), some (.int a2), none] rfl (by decide +kernel) (Nat.le_of_ble_eq_true rfl) rfl ?_
  intro p e s m args below meth c cx
  unfold fX11_lay at hf
  have j27 : ∀  (σ : Sg), fX11_lay_J27  σ = some q → WA p l e (rmd 2) s m args below meth c 4 E 0 0 (MQ below (Qcq E s.heap.size (some (.int q.1)) q.2) args s 0 0 (AE E s.heap.size)) 27 [none, none, none, none] [] σ := by
    intro  σ hf
    unfold fX11_lay_J27 at hf
    refine wa_ldc (pc := 27) (v := (-1000001)) cx dX11_lay_27 tw_956 ?_
    obtain rfl := Option.some.inj hf
    exact wa_iret (pc := 29) cx dX11_lay_29
  refine wa_aload_n (pc := 0) cx 0 dX11_lay_0 rfl rfl ?_
  refine wa_iconst (pc := 1) (v := 0) cx dX11_lay_1 (by decide) ?_
  refine wa_putI (pc := 2) cx fp_X11_50 lk_38 rfl (cx.bl 38 rfl) dX11_lay_2 ?_
  refine wa_aload_n (pc := 5) cx 0 dX11_lay_5 rfl rfl ?_
  refine wa_iload_n (pc := 6) cx 1 dX11_lay_6 rfl rfl ?_
  obtain ⟨q1, h2, hf⟩ := bd_some hf
  refine wa_callVi (pc := 7) cx [.int a1] (ct_X11_isYarn l E _ _ _ h2) mi_X11_isYarn tw_1060 lk_38 rfl (cx.bl 38 rfl) rfl rfl (Nat.le_of_ble_eq_true rfl) ⟨Nat.le_of_ble_eq_true rfl, Nat.le_of_ble_eq_true rfl⟩ ⟨Nat.zero_le _, Nat.zero_le _⟩ dX11_lay_7 ?_
  refine wa_if_eq (pc := 10) cx 27 dX11_lay_10 rfl (fun c3 => ?_) (fun c3 => ?_)
  · have hf := (if_pos c3).symm.trans hf
    refine wa_forget [false, false, false, false] [none, none, none, none] rfl ?_
    exact j27  _ hf
  · have hf := (if_neg c3).symm.trans hf
    refine wa_iload_n (pc := 13) cx 2 dX11_lay_13 rfl rfl ?_
    refine wa_i2l (pc := 14) cx dX11_lay_14 ?_
    refine wa_ldc2 (pc := 15) (v := (-1)) cx dX11_lay_15 tw_1064 ?_
    refine wa_ldc2 (pc := 18) (v := 2) cx dX11_lay_18 tw_955 ?_
    obtain ⟨q4, h5, hf⟩ := bd_some hf
    refine wa_callSi (pc := 21) cx [.long ((a2).toInt64), .long (-1), .long 2] (ct_X11_in l E _ _ _ _ _ h5) ms_X11_in tw_952 rfl rfl (Nat.le_of_ble_eq_true rfl) ⟨Nat.le_of_ble_eq_true rfl, Nat.le_of_ble_eq_true rfl⟩ ⟨Nat.zero_le _, Nat.zero_le _⟩ dX11_lay_21 ?_
    refine wa_if_ne (pc := 24) cx 30 dX11_lay_24 rfl (fun c6 => ?_) (fun c6 => ?_)
    · have hf := (if_neg c6).symm.trans hf
      refine wa_aload_n (pc := 30) cx 0 dX11_lay_30 rfl rfl ?_
      obtain ⟨q7, h8, hf⟩ := bd_some hf
      refine wa_callVv (pc := 31) cx [] (ct_X11_keep l E _  _ h8) mi_X11_keep tw_1065 lk_38 rfl (cx.bl 38 rfl) rfl rfl (Nat.le_of_ble_eq_true rfl) ⟨Nat.le_of_ble_eq_true rfl, Nat.le_of_ble_eq_true rfl⟩ ⟨Nat.zero_le _, Nat.zero_le _⟩ dX11_lay_31 ?_
      refine wa_aload_n (pc := 34) cx 0 dX11_lay_34 rfl rfl ?_
      refine wa_iload_n (pc := 35) cx 1 dX11_lay_35 rfl rfl ?_
      refine wa_iconst (pc := 36) (v := 3) cx dX11_lay_36 (by decide) ?_
      obtain ⟨q9, h10, hf⟩ := bd_some hf
      refine wa_callVi (pc := 37) cx [.int a1, .int 3] (ct_X11_of l E _ _ _ _ h10) mi_X11_of tw_1069 lk_38 rfl (cx.bl 38 rfl) rfl rfl (Nat.le_of_ble_eq_true rfl) ⟨Nat.le_of_ble_eq_true rfl, Nat.le_of_ble_eq_true rfl⟩ ⟨Nat.zero_le _, Nat.zero_le _⟩ dX11_lay_37 ?_
      refine wa_istore_n (pc := 40) cx 3 [some (.ref (eA E 38)), some (.int a1), some (.int a2), some (.int q9)] dX11_lay_40 rfl (by decide) rfl rfl ?_
      refine wa_aload_n (pc := 41) cx 0 dX11_lay_41 rfl rfl ?_
      refine wa_iload_n (pc := 42) cx 1 dX11_lay_42 rfl rfl ?_
      refine wa_iconst (pc := 43) (v := 3) cx dX11_lay_43 (by decide) ?_
      refine wa_iload_n (pc := 44) cx 2 dX11_lay_44 rfl rfl ?_
      obtain ⟨q11, h12, hf⟩ := bd_some hf
      refine wa_callVv (pc := 45) cx [.int a1, .int 3, .int a2] (ct_X11_becomes l E _ _ _ _ _ h12) mi_X11_becomes tw_1073 lk_38 rfl (cx.bl 38 rfl) rfl rfl (Nat.le_of_ble_eq_true rfl) ⟨Nat.le_of_ble_eq_true rfl, Nat.le_of_ble_eq_true rfl⟩ ⟨Nat.zero_le _, Nat.zero_le _⟩ dX11_lay_45 ?_
      refine wa_iload_n (pc := 48) cx 3 dX11_lay_48 rfl rfl ?_
      obtain rfl := Option.some.inj hf
      exact wa_iret (pc := 49) cx dX11_lay_49
    · have hf := (if_pos c6).symm.trans hf
      refine wa_forget [false, false, false, false] [none, none, none, none] rfl ?_
      exact j27  _ hf
def fX11_priceOf (a1 : Int32) (σ : Sg) : Option (Int32) :=
  (fX11_of a1 1 σ).bind (fun q1 =>
  gd (inb ((4 + (2 * q1)) + 1) 77) (
  some (ga σ 42 ((4 + (2 * q1)) + 1))))
set_option maxHeartbeats 4000000 in
set_option maxRecDepth 100000 in
theorem ct_X11_priceOf (l : Launch) (E : En) (σ : Sg) (a1 : Int32) (q : Int32) (hf : fX11_priceOf a1 σ = some q) : CT l yX11_priceOf cX11_priceOf 2 (some .int) 1 E σ [.ref (eA E 38), .int a1] (some (.int q)) σ := by
  refine CT.of RX11 [some (.ref (eA E 38)), some (.int a1)] rfl (by decide +kernel) (Nat.le_of_ble_eq_true rfl) rfl ?_
  intro p e s m args below meth c cx
  unfold fX11_priceOf at hf
  refine wa_aload_n (pc := 0) cx 0 dX11_priceOf_0 rfl rfl ?_
  refine wa_getR (pc := 1) cx fl_X11_19 lk_38 rfl (cx.bl 38 rfl) dX11_priceOf_1 ?_
  refine wa_iconst (pc := 4) (v := 4) cx dX11_priceOf_4 (by decide) ?_
  refine wa_iconst (pc := 5) (v := 2) cx dX11_priceOf_5 (by decide) ?_
  refine wa_aload_n (pc := 6) cx 0 dX11_priceOf_6 rfl rfl ?_
  refine wa_iload_n (pc := 7) cx 1 dX11_priceOf_7 rfl rfl ?_
  refine wa_iconst (pc := 8) (v := 1) cx dX11_priceOf_8 (by decide) ?_
  obtain ⟨q1, h2, hf⟩ := bd_some hf
  refine wa_callVi (pc := 9) cx [.int a1, .int 1] (ct_X11_of l E _ _ _ _ h2) mi_X11_of tw_1069 lk_38 rfl (cx.bl 38 rfl) rfl rfl (Nat.le_of_ble_eq_true rfl) ⟨Nat.le_of_ble_eq_true rfl, Nat.le_of_ble_eq_true rfl⟩ ⟨Nat.zero_le _, Nat.zero_le _⟩ dX11_priceOf_9 ?_
  refine wa_imul (pc := 12) cx dX11_priceOf_12 ?_
  refine wa_iadd (pc := 13) cx dX11_priceOf_13 ?_
  refine wa_iconst (pc := 14) (v := 1) cx dX11_priceOf_14 (by decide) ?_
  refine wa_iadd (pc := 15) cx dX11_priceOf_15 ?_
  obtain ⟨g3, hf⟩ := gd_some hf
  refine wa_iald (pc := 16) cx lk_42 (cx.bl 42 rfl) g3 dX11_priceOf_16 ?_
  obtain rfl := Option.some.inj hf
  exact wa_iret (pc := 17) cx dX11_priceOf_17
def fX11_strengthBy_J146 (v2 : Int32) (t0 : Int32) (σ : Sg) : Option (Int32) :=
  if v2 = 2 then (some 0) else (some t0)
def fX11_strengthBy_J120 (v1 : Int32) (v2 : Int32) (t0 : Int32) (σ : Sg) : Option (Int32) :=
  (fX11_of v1 5 σ).bind (fun q12 =>
  if q12 ≤ t0 then ((fX11_of v1 5 σ).bind (fun q15 =>
  fX11_strengthBy_J146 v2 (t0 - q15) σ)) else (fX11_strengthBy_J146 v2 0 σ))
def fX11_strengthBy_J100 (v1 : Int32) (v2 : Int32) (t1 : Int32) (t0 : Int32) (σ : Sg) : Option (Int32) :=
  if v2 = 1 then (fX11_strengthBy_J120 v1 v2 ((t0 + t1) + ((t0 + t1) / 2)) σ) else (fX11_strengthBy_J120 v1 v2 (t0 + t1) σ)
def fX11_strengthBy_J74 (v1 : Int32) (v2 : Int32) (t1 : Int32) (t0 : Int32) (σ : Sg) : Option (Int32) :=
  (fX11_of v1 6 σ).bind (fun q8 =>
  if q8 = 1 then (gd (inb 1 77) (
  fX11_strengthBy_J100 v1 v2 (ga σ 42 1) (t0 + t1) σ)) else (fX11_strengthBy_J100 v1 v2 0 (t0 + t1) σ))
def fX11_strengthBy_J56 (v1 : Int32) (v2 : Int32) (v3 : Int32) (t0 : Int32) (σ : Sg) : Option (Int32) :=
  if v3 = 3 then ((fX11_priceOf v1 σ).bind (fun q19 =>
  fX11_strengthBy_J74 v1 v2 q19 t0 σ)) else (fX11_strengthBy_J74 v1 v2 0 t0 σ)
def fX11_strengthBy_J32 (v1 : Int32) (v2 : Int32) (v3 : Int32) (v4 : Int32) (σ : Sg) : Option (Int32) :=
  fX11_strengthBy_J56 v1 v2 v3 (v4 + (v4 / 2)) σ
def fX11_strengthBy (a1 : Int32) (a2 : Int32) (σ : Sg) : Option (Int32) :=
  (fX11_of a1 0 σ).bind (fun q1 =>
  gd (inb 0 77) (
  (fX11_of a1 2 σ).bind (fun q4 =>
  if q1 = 2 then (fX11_strengthBy_J32 a1 a2 q1 (ga σ 42 0 * q4) σ) else (if q1 = 3 then (fX11_strengthBy_J32 a1 a2 q1 (ga σ 42 0 * q4) σ) else (if q1 = 1 then (fX11_strengthBy_J56 a1 a2 q1 (ga σ 42 0 * q4) σ) else (fX11_strengthBy_J56 a1 a2 q1 ((ga σ 42 0 * q4) / 2) σ))))))
set_option maxHeartbeats 4000000 in
set_option maxRecDepth 100000 in
theorem ct_X11_strengthBy (l : Launch) (E : En) (σ : Sg) (a1 : Int32) (a2 : Int32) (q : Int32) (hf : fX11_strengthBy a1 a2 σ = some q) : CT l yX11_strengthBy cX11_strengthBy 5 (some .int) 2 E σ [.ref (eA E 38), .int a1, .int a2] (some (.int q)) σ := by
  refine CT.of RX11 [some (.ref (eA E 38)), some (.int a1), some (.int a2), none, none] rfl (by decide +kernel) (Nat.le_of_ble_eq_true rfl) rfl ?_
  intro p e s m args below meth c cx
  unfold fX11_strengthBy at hf
  have j146 : ∀ (v2 : Int32) (t0 : Int32) (σ : Sg), fX11_strengthBy_J146 v2 t0 σ = some q → WA p l e (rmd 2) s m args below meth c 5 E 0 0 (MQ below (Qcq E s.heap.size (some (.int q)) σ) args s 0 0 (AE E s.heap.size)) 146 [none, none, some (.int v2), none, none] [.int t0] σ := by
    intro v2 t0 σ hf
    unfold fX11_strengthBy_J146 at hf
    refine wa_istore (pc := 146) cx 4 [none, none, some (.int v2), none, some (.int t0)] dX11_strengthBy_146 (by decide) rfl rfl ?_
    refine wa_iload_n (pc := 148) cx 2 dX11_strengthBy_148 rfl rfl ?_
    refine wa_iconst (pc := 149) (v := 2) cx dX11_strengthBy_149 (by decide) ?_
    refine wa_icmp_ne (pc := 150) cx 157 dX11_strengthBy_150 rfl (fun c17 => ?_) (fun c17 => ?_)
    · have hf := (if_neg c17).symm.trans hf
      refine wa_iload (pc := 157) cx 4 dX11_strengthBy_157 rfl ?_
      obtain rfl := Option.some.inj hf
      exact wa_iret (pc := 159) cx dX11_strengthBy_159
    · have hf := (if_pos c17).symm.trans hf
      refine wa_iconst (pc := 153) (v := 0) cx dX11_strengthBy_153 (by decide) ?_
      refine wa_goto (pc := 154) cx 159 dX11_strengthBy_154 rfl ?_
      obtain rfl := Option.some.inj hf
      exact wa_iret (pc := 159) cx dX11_strengthBy_159
  have j120 : ∀ (v1 : Int32) (v2 : Int32) (t0 : Int32) (σ : Sg), fX11_strengthBy_J120 v1 v2 t0 σ = some q → WA p l e (rmd 2) s m args below meth c 5 E 0 0 (MQ below (Qcq E s.heap.size (some (.int q)) σ) args s 0 0 (AE E s.heap.size)) 120 [some (.ref (eA E 38)), some (.int v1), some (.int v2), none, none] [.int t0] σ := by
    intro v1 v2 t0 σ hf
    unfold fX11_strengthBy_J120 at hf
    refine wa_istore (pc := 120) cx 4 [some (.ref (eA E 38)), some (.int v1), some (.int v2), none, some (.int t0)] dX11_strengthBy_120 (by decide) rfl rfl ?_
    refine wa_iload (pc := 122) cx 4 dX11_strengthBy_122 rfl ?_
    refine wa_aload_n (pc := 124) cx 0 dX11_strengthBy_124 rfl rfl ?_
    refine wa_iload_n (pc := 125) cx 1 dX11_strengthBy_125 rfl rfl ?_
    refine wa_iconst (pc := 126) (v := 5) cx dX11_strengthBy_126 (by decide) ?_
    obtain ⟨q12, h13, hf⟩ := bd_some hf
    refine wa_callVi (pc := 127) cx [.int v1, .int 5] (ct_X11_of l E _ _ _ _ h13) mi_X11_of tw_1069 lk_38 rfl (cx.bl 38 rfl) rfl rfl (Nat.le_of_ble_eq_true rfl) ⟨Nat.le_of_ble_eq_true rfl, Nat.le_of_ble_eq_true rfl⟩ ⟨Nat.zero_le _, Nat.zero_le _⟩ dX11_strengthBy_127 ?_
    refine wa_icmp_ge (pc := 130) cx 137 dX11_strengthBy_130 rfl (fun c14 => ?_) (fun c14 => ?_)
    · have hf := (if_pos c14).symm.trans hf
      refine wa_iload (pc := 137) cx 4 dX11_strengthBy_137 rfl ?_
      refine wa_aload_n (pc := 139) cx 0 dX11_strengthBy_139 rfl rfl ?_
      refine wa_iload_n (pc := 140) cx 1 dX11_strengthBy_140 rfl rfl ?_
      refine wa_iconst (pc := 141) (v := 5) cx dX11_strengthBy_141 (by decide) ?_
      obtain ⟨q15, h16, hf⟩ := bd_some hf
      refine wa_callVi (pc := 142) cx [.int v1, .int 5] (ct_X11_of l E _ _ _ _ h16) mi_X11_of tw_1069 lk_38 rfl (cx.bl 38 rfl) rfl rfl (Nat.le_of_ble_eq_true rfl) ⟨Nat.le_of_ble_eq_true rfl, Nat.le_of_ble_eq_true rfl⟩ ⟨Nat.zero_le _, Nat.zero_le _⟩ dX11_strengthBy_142 ?_
      refine wa_isub (pc := 145) cx dX11_strengthBy_145 ?_
      refine wa_forget [false, false, true, false, false] [none, none, some (.int v2), none, none] rfl ?_
      exact j146 _ _ _ hf
    · have hf := (if_neg c14).symm.trans hf
      refine wa_iconst (pc := 133) (v := 0) cx dX11_strengthBy_133 (by decide) ?_
      refine wa_goto (pc := 134) cx 146 dX11_strengthBy_134 rfl ?_
      refine wa_forget [false, false, true, false, false] [none, none, some (.int v2), none, none] rfl ?_
      exact j146 _ _ _ hf
  have j100 : ∀ (v1 : Int32) (v2 : Int32) (t1 : Int32) (t0 : Int32) (σ : Sg), fX11_strengthBy_J100 v1 v2 t1 t0 σ = some q → WA p l e (rmd 2) s m args below meth c 5 E 0 0 (MQ below (Qcq E s.heap.size (some (.int q)) σ) args s 0 0 (AE E s.heap.size)) 100 [some (.ref (eA E 38)), some (.int v1), some (.int v2), none, none] [.int t1, .int t0] σ := by
    intro v1 v2 t1 t0 σ hf
    unfold fX11_strengthBy_J100 at hf
    refine wa_iadd (pc := 100) cx dX11_strengthBy_100 ?_
    refine wa_istore (pc := 101) cx 4 [some (.ref (eA E 38)), some (.int v1), some (.int v2), none, some (.int (t0 + t1))] dX11_strengthBy_101 (by decide) rfl rfl ?_
    refine wa_iload_n (pc := 103) cx 2 dX11_strengthBy_103 rfl rfl ?_
    refine wa_iconst (pc := 104) (v := 1) cx dX11_strengthBy_104 (by decide) ?_
    refine wa_icmp_ne (pc := 105) cx 118 dX11_strengthBy_105 rfl (fun c11 => ?_) (fun c11 => ?_)
    · have hf := (if_neg c11).symm.trans hf
      refine wa_iload (pc := 118) cx 4 dX11_strengthBy_118 rfl ?_
      refine wa_forget [true, true, true, false, false] [some (.ref (eA E 38)), some (.int v1), some (.int v2), none, none] rfl ?_
      exact j120 _ _ _ _ hf
    · have hf := (if_pos c11).symm.trans hf
      refine wa_iload (pc := 108) cx 4 dX11_strengthBy_108 rfl ?_
      refine wa_iload (pc := 110) cx 4 dX11_strengthBy_110 rfl ?_
      refine wa_iconst (pc := 112) (v := 2) cx dX11_strengthBy_112 (by decide) ?_
      refine wa_idiv (pc := 113) cx dX11_strengthBy_113 (by decide) ?_
      refine wa_iadd (pc := 114) cx dX11_strengthBy_114 ?_
      refine wa_goto (pc := 115) cx 120 dX11_strengthBy_115 rfl ?_
      refine wa_forget [true, true, true, false, false] [some (.ref (eA E 38)), some (.int v1), some (.int v2), none, none] rfl ?_
      exact j120 _ _ _ _ hf
  have j74 : ∀ (v1 : Int32) (v2 : Int32) (t1 : Int32) (t0 : Int32) (σ : Sg), fX11_strengthBy_J74 v1 v2 t1 t0 σ = some q → WA p l e (rmd 2) s m args below meth c 5 E 0 0 (MQ below (Qcq E s.heap.size (some (.int q)) σ) args s 0 0 (AE E s.heap.size)) 74 [some (.ref (eA E 38)), some (.int v1), some (.int v2), none, none] [.int t1, .int t0] σ := by
    intro v1 v2 t1 t0 σ hf
    unfold fX11_strengthBy_J74 at hf
    refine wa_iadd (pc := 74) cx dX11_strengthBy_74 ?_
    refine wa_istore (pc := 75) cx 4 [some (.ref (eA E 38)), some (.int v1), some (.int v2), none, some (.int (t0 + t1))] dX11_strengthBy_75 (by decide) rfl rfl ?_
    refine wa_iload (pc := 77) cx 4 dX11_strengthBy_77 rfl ?_
    refine wa_aload_n (pc := 79) cx 0 dX11_strengthBy_79 rfl rfl ?_
    refine wa_iload_n (pc := 80) cx 1 dX11_strengthBy_80 rfl rfl ?_
    refine wa_bipush (pc := 81) (v := 6) cx dX11_strengthBy_81 (by decide) ?_
    obtain ⟨q8, h9, hf⟩ := bd_some hf
    refine wa_callVi (pc := 83) cx [.int v1, .int 6] (ct_X11_of l E _ _ _ _ h9) mi_X11_of tw_1069 lk_38 rfl (cx.bl 38 rfl) rfl rfl (Nat.le_of_ble_eq_true rfl) ⟨Nat.le_of_ble_eq_true rfl, Nat.le_of_ble_eq_true rfl⟩ ⟨Nat.zero_le _, Nat.zero_le _⟩ dX11_strengthBy_83 ?_
    refine wa_iconst (pc := 86) (v := 1) cx dX11_strengthBy_86 (by decide) ?_
    refine wa_icmp_ne (pc := 87) cx 99 dX11_strengthBy_87 rfl (fun c10 => ?_) (fun c10 => ?_)
    · have hf := (if_neg c10).symm.trans hf
      refine wa_iconst (pc := 99) (v := 0) cx dX11_strengthBy_99 (by decide) ?_
      refine wa_forget [true, true, true, false, false] [some (.ref (eA E 38)), some (.int v1), some (.int v2), none, none] rfl ?_
      exact j100 _ _ _ _ _ hf
    · have hf := (if_pos c10).symm.trans hf
      refine wa_aload_n (pc := 90) cx 0 dX11_strengthBy_90 rfl rfl ?_
      refine wa_getR (pc := 91) cx fl_X11_19 lk_38 rfl (cx.bl 38 rfl) dX11_strengthBy_91 ?_
      refine wa_iconst (pc := 94) (v := 1) cx dX11_strengthBy_94 (by decide) ?_
      obtain ⟨g18, hf⟩ := gd_some hf
      refine wa_iald (pc := 95) cx lk_42 (cx.bl 42 rfl) g18 dX11_strengthBy_95 ?_
      refine wa_goto (pc := 96) cx 100 dX11_strengthBy_96 rfl ?_
      refine wa_forget [true, true, true, false, false] [some (.ref (eA E 38)), some (.int v1), some (.int v2), none, none] rfl ?_
      exact j100 _ _ _ _ _ hf
  have j56 : ∀ (v1 : Int32) (v2 : Int32) (v3 : Int32) (t0 : Int32) (σ : Sg), fX11_strengthBy_J56 v1 v2 v3 t0 σ = some q → WA p l e (rmd 2) s m args below meth c 5 E 0 0 (MQ below (Qcq E s.heap.size (some (.int q)) σ) args s 0 0 (AE E s.heap.size)) 56 [some (.ref (eA E 38)), some (.int v1), some (.int v2), some (.int v3), none] [.int t0] σ := by
    intro v1 v2 v3 t0 σ hf
    unfold fX11_strengthBy_J56 at hf
    refine wa_istore (pc := 56) cx 4 [some (.ref (eA E 38)), some (.int v1), some (.int v2), some (.int v3), some (.int t0)] dX11_strengthBy_56 (by decide) rfl rfl ?_
    refine wa_iload (pc := 58) cx 4 dX11_strengthBy_58 rfl ?_
    refine wa_iload_n (pc := 60) cx 3 dX11_strengthBy_60 rfl rfl ?_
    refine wa_iconst (pc := 61) (v := 3) cx dX11_strengthBy_61 (by decide) ?_
    refine wa_icmp_ne (pc := 62) cx 73 dX11_strengthBy_62 rfl (fun c7 => ?_) (fun c7 => ?_)
    · have hf := (if_neg c7).symm.trans hf
      refine wa_iconst (pc := 73) (v := 0) cx dX11_strengthBy_73 (by decide) ?_
      refine wa_forget [true, true, true, false, false] [some (.ref (eA E 38)), some (.int v1), some (.int v2), none, none] rfl ?_
      exact j74 _ _ _ _ _ hf
    · have hf := (if_pos c7).symm.trans hf
      refine wa_aload_n (pc := 65) cx 0 dX11_strengthBy_65 rfl rfl ?_
      refine wa_iload_n (pc := 66) cx 1 dX11_strengthBy_66 rfl rfl ?_
      obtain ⟨q19, h20, hf⟩ := bd_some hf
      refine wa_callVi (pc := 67) cx [.int v1] (ct_X11_priceOf l E _ _ _ h20) mi_X11_priceOf tw_1090 lk_38 rfl (cx.bl 38 rfl) rfl rfl (Nat.le_of_ble_eq_true rfl) ⟨Nat.le_of_ble_eq_true rfl, Nat.le_of_ble_eq_true rfl⟩ ⟨Nat.zero_le _, Nat.zero_le _⟩ dX11_strengthBy_67 ?_
      refine wa_goto (pc := 70) cx 74 dX11_strengthBy_70 rfl ?_
      refine wa_forget [true, true, true, false, false] [some (.ref (eA E 38)), some (.int v1), some (.int v2), none, none] rfl ?_
      exact j74 _ _ _ _ _ hf
  have j32 : ∀ (v1 : Int32) (v2 : Int32) (v3 : Int32) (v4 : Int32) (σ : Sg), fX11_strengthBy_J32 v1 v2 v3 v4 σ = some q → WA p l e (rmd 2) s m args below meth c 5 E 0 0 (MQ below (Qcq E s.heap.size (some (.int q)) σ) args s 0 0 (AE E s.heap.size)) 32 [some (.ref (eA E 38)), some (.int v1), some (.int v2), some (.int v3), some (.int v4)] [] σ := by
    intro v1 v2 v3 v4 σ hf
    unfold fX11_strengthBy_J32 at hf
    refine wa_iload (pc := 32) cx 4 dX11_strengthBy_32 rfl ?_
    refine wa_iload (pc := 34) cx 4 dX11_strengthBy_34 rfl ?_
    refine wa_iconst (pc := 36) (v := 2) cx dX11_strengthBy_36 (by decide) ?_
    refine wa_idiv (pc := 37) cx dX11_strengthBy_37 (by decide) ?_
    refine wa_iadd (pc := 38) cx dX11_strengthBy_38 ?_
    refine wa_goto (pc := 39) cx 56 dX11_strengthBy_39 rfl ?_
    refine wa_forget [true, true, true, true, false] [some (.ref (eA E 38)), some (.int v1), some (.int v2), some (.int v3), none] rfl ?_
    exact j56 _ _ _ _ _ hf
  refine wa_aload_n (pc := 0) cx 0 dX11_strengthBy_0 rfl rfl ?_
  refine wa_iload_n (pc := 1) cx 1 dX11_strengthBy_1 rfl rfl ?_
  refine wa_iconst (pc := 2) (v := 0) cx dX11_strengthBy_2 (by decide) ?_
  obtain ⟨q1, h2, hf⟩ := bd_some hf
  refine wa_callVi (pc := 3) cx [.int a1, .int 0] (ct_X11_of l E _ _ _ _ h2) mi_X11_of tw_1069 lk_38 rfl (cx.bl 38 rfl) rfl rfl (Nat.le_of_ble_eq_true rfl) ⟨Nat.le_of_ble_eq_true rfl, Nat.le_of_ble_eq_true rfl⟩ ⟨Nat.zero_le _, Nat.zero_le _⟩ dX11_strengthBy_3 ?_
  refine wa_istore_n (pc := 6) cx 3 [some (.ref (eA E 38)), some (.int a1), some (.int a2), some (.int q1), none] dX11_strengthBy_6 rfl (by decide) rfl rfl ?_
  refine wa_aload_n (pc := 7) cx 0 dX11_strengthBy_7 rfl rfl ?_
  refine wa_getR (pc := 8) cx fl_X11_19 lk_38 rfl (cx.bl 38 rfl) dX11_strengthBy_8 ?_
  refine wa_iconst (pc := 11) (v := 0) cx dX11_strengthBy_11 (by decide) ?_
  obtain ⟨g3, hf⟩ := gd_some hf
  refine wa_iald (pc := 12) cx lk_42 (cx.bl 42 rfl) g3 dX11_strengthBy_12 ?_
  refine wa_aload_n (pc := 13) cx 0 dX11_strengthBy_13 rfl rfl ?_
  refine wa_iload_n (pc := 14) cx 1 dX11_strengthBy_14 rfl rfl ?_
  refine wa_iconst (pc := 15) (v := 2) cx dX11_strengthBy_15 (by decide) ?_
  obtain ⟨q4, h5, hf⟩ := bd_some hf
  refine wa_callVi (pc := 16) cx [.int a1, .int 2] (ct_X11_of l E _ _ _ _ h5) mi_X11_of tw_1069 lk_38 rfl (cx.bl 38 rfl) rfl rfl (Nat.le_of_ble_eq_true rfl) ⟨Nat.le_of_ble_eq_true rfl, Nat.le_of_ble_eq_true rfl⟩ ⟨Nat.zero_le _, Nat.zero_le _⟩ dX11_strengthBy_16 ?_
  refine wa_imul (pc := 19) cx dX11_strengthBy_19 ?_
  refine wa_istore (pc := 20) cx 4 [some (.ref (eA E 38)), some (.int a1), some (.int a2), some (.int q1), some (.int (ga σ 42 0 * q4))] dX11_strengthBy_20 (by decide) rfl rfl ?_
  refine wa_iload_n (pc := 22) cx 3 dX11_strengthBy_22 rfl rfl ?_
  refine wa_iconst (pc := 23) (v := 2) cx dX11_strengthBy_23 (by decide) ?_
  refine wa_icmp_eq (pc := 24) cx 32 dX11_strengthBy_24 rfl (fun c6 => ?_) (fun c6 => ?_)
  · have hf := (if_pos c6).symm.trans hf
    exact j32 _ _ _ _ _ hf
  · have hf := (if_neg c6).symm.trans hf
    refine wa_iload_n (pc := 27) cx 3 dX11_strengthBy_27 rfl rfl ?_
    refine wa_iconst (pc := 28) (v := 3) cx dX11_strengthBy_28 (by decide) ?_
    refine wa_icmp_ne (pc := 29) cx 42 dX11_strengthBy_29 rfl (fun c21 => ?_) (fun c21 => ?_)
    · have hf := (if_neg c21).symm.trans hf
      refine wa_iload_n (pc := 42) cx 3 dX11_strengthBy_42 rfl rfl ?_
      refine wa_iconst (pc := 43) (v := 1) cx dX11_strengthBy_43 (by decide) ?_
      refine wa_icmp_ne (pc := 44) cx 52 dX11_strengthBy_44 rfl (fun c22 => ?_) (fun c22 => ?_)
      · have hf := (if_neg c22).symm.trans hf
        refine wa_iload (pc := 52) cx 4 dX11_strengthBy_52 rfl ?_
        refine wa_iconst (pc := 54) (v := 2) cx dX11_strengthBy_54 (by decide) ?_
        refine wa_idiv (pc := 55) cx dX11_strengthBy_55 (by decide) ?_
        refine wa_forget [true, true, true, true, false] [some (.ref (eA E 38)), some (.int a1), some (.int a2), some (.int q1), none] rfl ?_
        exact j56 _ _ _ _ _ hf
      · have hf := (if_pos c22).symm.trans hf
        refine wa_iload (pc := 47) cx 4 dX11_strengthBy_47 rfl ?_
        refine wa_goto (pc := 49) cx 56 dX11_strengthBy_49 rfl ?_
        refine wa_forget [true, true, true, true, false] [some (.ref (eA E 38)), some (.int a1), some (.int a2), some (.int q1), none] rfl ?_
        exact j56 _ _ _ _ _ hf
    · have hf := (if_pos c21).symm.trans hf
      exact j32 _ _ _ _ _ hf
def fX11_strength (a1 : Int32) (σ : Sg) : Option (Int32) :=
  (fX11_of a1 4 σ).bind (fun q1 =>
  (fX11_strengthBy a1 q1 σ).bind (fun q3 =>
  some q3))
set_option maxHeartbeats 4000000 in
set_option maxRecDepth 100000 in
theorem ct_X11_strength (l : Launch) (E : En) (σ : Sg) (a1 : Int32) (q : Int32) (hf : fX11_strength a1 σ = some q) : CT l yX11_strength cX11_strength 2 (some .int) 3 E σ [.ref (eA E 38), .int a1] (some (.int q)) σ := by
  refine CT.of RX11 [some (.ref (eA E 38)), some (.int a1)] rfl (by decide +kernel) (Nat.le_of_ble_eq_true rfl) rfl ?_
  intro p e s m args below meth c cx
  unfold fX11_strength at hf
  refine wa_aload_n (pc := 0) cx 0 dX11_strength_0 rfl rfl ?_
  refine wa_iload_n (pc := 1) cx 1 dX11_strength_1 rfl rfl ?_
  refine wa_aload_n (pc := 2) cx 0 dX11_strength_2 rfl rfl ?_
  refine wa_iload_n (pc := 3) cx 1 dX11_strength_3 rfl rfl ?_
  refine wa_iconst (pc := 4) (v := 4) cx dX11_strength_4 (by decide) ?_
  obtain ⟨q1, h2, hf⟩ := bd_some hf
  refine wa_callVi (pc := 5) cx [.int a1, .int 4] (ct_X11_of l E _ _ _ _ h2) mi_X11_of tw_1069 lk_38 rfl (cx.bl 38 rfl) rfl rfl (Nat.le_of_ble_eq_true rfl) ⟨Nat.le_of_ble_eq_true rfl, Nat.le_of_ble_eq_true rfl⟩ ⟨Nat.zero_le _, Nat.zero_le _⟩ dX11_strength_5 ?_
  obtain ⟨q3, h4, hf⟩ := bd_some hf
  refine wa_callVi (pc := 8) cx [.int a1, .int q1] (ct_X11_strengthBy l E _ _ _ _ h4) mi_X11_strengthBy tw_1086 lk_38 rfl (cx.bl 38 rfl) rfl rfl (Nat.le_of_ble_eq_true rfl) ⟨Nat.le_of_ble_eq_true rfl, Nat.le_of_ble_eq_true rfl⟩ ⟨Nat.zero_le _, Nat.zero_le _⟩ dX11_strength_8 ?_
  obtain rfl := Option.some.inj hf
  exact wa_iret (pc := 11) cx dX11_strength_11
def fX11_pitch (a1 : Int32) (σ : Sg) : Option (Int32 × Sg) :=
  (fX11_isYarn a1 (sup σ 38 0 0)).bind (fun q1 =>
  if q1 = 0 then (some ((-1000001), sup σ 38 0 0)) else ((fX11_of a1 6 (sup σ 38 0 0)).bind (fun q4 =>
  if q4 = 1 then (some ((-1000002), sup σ 38 0 0)) else ((fX11_keep  (sup σ 38 0 0)).bind (fun q7 =>
  (fX11_becomes a1 6 1 q7).bind (fun q9 =>
  (fX11_strength a1 q9).bind (fun q11 =>
  some (q11, q9))))))))
set_option maxHeartbeats 4000000 in
set_option maxRecDepth 100000 in
theorem ct_X11_pitch (l : Launch) (E : En) (σ : Sg) (a1 : Int32) (q : Int32 × Sg) (hf : fX11_pitch a1 σ = some q) : CT l yX11_pitch cX11_pitch 2 (some .int) 4 E σ [.ref (eA E 38), .int a1] (some (.int q.1)) q.2 := by
  refine CT.of RX11 [some (.ref (eA E 38)), some (.int a1)] rfl (by decide +kernel) (Nat.le_of_ble_eq_true rfl) rfl ?_
  intro p e s m args below meth c cx
  unfold fX11_pitch at hf
  refine wa_aload_n (pc := 0) cx 0 dX11_pitch_0 rfl rfl ?_
  refine wa_iconst (pc := 1) (v := 0) cx dX11_pitch_1 (by decide) ?_
  refine wa_putI (pc := 2) cx fp_X11_50 lk_38 rfl (cx.bl 38 rfl) dX11_pitch_2 ?_
  refine wa_aload_n (pc := 5) cx 0 dX11_pitch_5 rfl rfl ?_
  refine wa_iload_n (pc := 6) cx 1 dX11_pitch_6 rfl rfl ?_
  obtain ⟨q1, h2, hf⟩ := bd_some hf
  refine wa_callVi (pc := 7) cx [.int a1] (ct_X11_isYarn l E _ _ _ h2) mi_X11_isYarn tw_1060 lk_38 rfl (cx.bl 38 rfl) rfl rfl (Nat.le_of_ble_eq_true rfl) ⟨Nat.le_of_ble_eq_true rfl, Nat.le_of_ble_eq_true rfl⟩ ⟨Nat.zero_le _, Nat.zero_le _⟩ dX11_pitch_7 ?_
  refine wa_if_ne (pc := 10) cx 16 dX11_pitch_10 rfl (fun c3 => ?_) (fun c3 => ?_)
  · have hf := (if_neg c3).symm.trans hf
    refine wa_aload_n (pc := 16) cx 0 dX11_pitch_16 rfl rfl ?_
    refine wa_iload_n (pc := 17) cx 1 dX11_pitch_17 rfl rfl ?_
    refine wa_bipush (pc := 18) (v := 6) cx dX11_pitch_18 (by decide) ?_
    obtain ⟨q4, h5, hf⟩ := bd_some hf
    refine wa_callVi (pc := 20) cx [.int a1, .int 6] (ct_X11_of l E _ _ _ _ h5) mi_X11_of tw_1069 lk_38 rfl (cx.bl 38 rfl) rfl rfl (Nat.le_of_ble_eq_true rfl) ⟨Nat.le_of_ble_eq_true rfl, Nat.le_of_ble_eq_true rfl⟩ ⟨Nat.zero_le _, Nat.zero_le _⟩ dX11_pitch_20 ?_
    refine wa_iconst (pc := 23) (v := 1) cx dX11_pitch_23 (by decide) ?_
    refine wa_icmp_ne (pc := 24) cx 30 dX11_pitch_24 rfl (fun c6 => ?_) (fun c6 => ?_)
    · have hf := (if_neg c6).symm.trans hf
      refine wa_aload_n (pc := 30) cx 0 dX11_pitch_30 rfl rfl ?_
      obtain ⟨q7, h8, hf⟩ := bd_some hf
      refine wa_callVv (pc := 31) cx [] (ct_X11_keep l E _  _ h8) mi_X11_keep tw_1065 lk_38 rfl (cx.bl 38 rfl) rfl rfl (Nat.le_of_ble_eq_true rfl) ⟨Nat.le_of_ble_eq_true rfl, Nat.le_of_ble_eq_true rfl⟩ ⟨Nat.zero_le _, Nat.zero_le _⟩ dX11_pitch_31 ?_
      refine wa_aload_n (pc := 34) cx 0 dX11_pitch_34 rfl rfl ?_
      refine wa_iload_n (pc := 35) cx 1 dX11_pitch_35 rfl rfl ?_
      refine wa_bipush (pc := 36) (v := 6) cx dX11_pitch_36 (by decide) ?_
      refine wa_iconst (pc := 38) (v := 1) cx dX11_pitch_38 (by decide) ?_
      obtain ⟨q9, h10, hf⟩ := bd_some hf
      refine wa_callVv (pc := 39) cx [.int a1, .int 6, .int 1] (ct_X11_becomes l E _ _ _ _ _ h10) mi_X11_becomes tw_1073 lk_38 rfl (cx.bl 38 rfl) rfl rfl (Nat.le_of_ble_eq_true rfl) ⟨Nat.le_of_ble_eq_true rfl, Nat.le_of_ble_eq_true rfl⟩ ⟨Nat.zero_le _, Nat.zero_le _⟩ dX11_pitch_39 ?_
      refine wa_aload_n (pc := 42) cx 0 dX11_pitch_42 rfl rfl ?_
      refine wa_iload_n (pc := 43) cx 1 dX11_pitch_43 rfl rfl ?_
      obtain ⟨q11, h12, hf⟩ := bd_some hf
      refine wa_callVi (pc := 44) cx [.int a1] (ct_X11_strength l E _ _ _ h12) mi_X11_strength tw_1082 lk_38 rfl (cx.bl 38 rfl) rfl rfl (Nat.le_of_ble_eq_true rfl) ⟨Nat.le_of_ble_eq_true rfl, Nat.le_of_ble_eq_true rfl⟩ ⟨Nat.zero_le _, Nat.zero_le _⟩ dX11_pitch_44 ?_
      obtain rfl := Option.some.inj hf
      exact wa_iret (pc := 47) cx dX11_pitch_47
    · have hf := (if_pos c6).symm.trans hf
      refine wa_ldc (pc := 27) (v := (-1000002)) cx dX11_pitch_27 tw_1081 ?_
      obtain rfl := Option.some.inj hf
      exact wa_iret (pc := 29) cx dX11_pitch_29
  · have hf := (if_pos c3).symm.trans hf
    refine wa_ldc (pc := 13) (v := (-1000001)) cx dX11_pitch_13 tw_956 ?_
    obtain rfl := Option.some.inj hf
    exact wa_iret (pc := 15) cx dX11_pitch_15
