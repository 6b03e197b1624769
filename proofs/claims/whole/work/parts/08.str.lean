section WArows
variable {p : Program} {l : Launch} {e : Env} {R : Room} {s : State} {m : MethodId} {args : Array Value} {below : List Frame} {meth : Method} {c : Code} {cc : ByteArray} {own : String} {nL : Nat} {ret : Option FieldType} {E : En} {Q : State → Prop} {nc ns pc : Nat} {L : List (Option Value)} {st : List Value} {σ : Sg}
theorem wa_ldcS (cx : CX p s m args meth c cc RX6 nL ret E) {idx : Nat} (i : Nat) (hi : i < 8) (hd : decode cc pc = .ok (.ldc idx, 2)) (hx : kix i = idx) (k : WA p l e R s m args below meth c nL E nc ns Q (pc + 2) L (.ref (eK E i) :: st) σ) : WA p l e R s m args below meth c nL E nc ns Q (pc) L (st) σ := by
  subst hx
  exact fun H locs ls hP hD hS hl => va_ldcS cx.1 cx.2.1 cx.2.2.2.1 (cx.2.2.2.2.2.2.2.2.1.2.2.2.2 i hi) hd (k H locs ls hP hD hS hl)
theorem wa_getKV (cx : CX p s m args meth c cc own nL ret E) {idx i : Nat} (hi : i < 8) (hw : Cond.fieldLink own idx "java/lang/String" "value" "[B" ∈ gw) (hd : decode cc pc = .ok (.getfield idx, 3)) (k : WA p l e R s m args below meth c nL E nc ns Q (pc + 3) L (.ref (eV E i) :: st) σ) : WA p l e R s m args below meth c nL E nc ns Q (pc) L (.ref (eK E i) :: st) σ := fun H locs ls hP hD hS hl => vk_getf cx.1 cx.2.1 (cx.2.2.2.2.2.2.2.2.1.2.2.2.1.1 i hi).2.2.1 hS cx.2.2.2.1 (cx.2.2.2.2.1 _ hw) (fun _ h => h) hd (k H locs ls hP hD hS hl)
theorem wa_getKC (cx : CX p s m args meth c cc own nL ret E) {idx i : Nat} (hi : i < 8) (hw : Cond.fieldLink own idx "java/lang/String" "coder" "B" ∈ gw) (hd : decode cc pc = .ok (.getfield idx, 3)) (k : WA p l e R s m args below meth c nL E nc ns Q (pc + 3) L (.int 0 :: st) σ) : WA p l e R s m args below meth c nL E nc ns Q (pc) L (.ref (eK E i) :: st) σ := fun H locs ls hP hD hS hl => vk_getf cx.1 cx.2.1 (cx.2.2.2.2.2.2.2.2.1.2.2.2.1.1 i hi).2.1 hS cx.2.2.2.1 (cx.2.2.2.2.1 _ hw) (fun _ h => h) hd (k H locs ls hP hD hS hl)
theorem wa_lenV (cx : CX p s m args meth c cc own nL ret E) {i : Nat} (hi : i < 8) (hd : decode cc pc = .ok (.arraylength, 1)) (k : WA p l e R s m args below meth c nL E nc ns Q (pc + 1) L (.int (Int32.ofNat (klen.getD i 0)) :: st) σ) : WA p l e R s m args below meth c nL E nc ns Q (pc) L (.ref (eV E i) :: st) σ := fun H locs ls hP hD hS hl => va_tlen cx.1 cx.2.1 (cx.2.2.2.2.2.2.2.2.1.2.2.2.1.1 i hi).2.2.2 hS rfl hd (k H locs ls hP hD hS hl)
theorem wa_baldV (cx : CX p s m args meth c cc own nL ret E) {i : Nat} {j : Int32} (hi : i < 8) (hin : inb j (klen.getD i 0) = true) (hd : decode cc pc = .ok (.baload, 1)) (k : WA p l e R s m args below meth c nL E nc ns Q (pc + 1) L (.int ((kbyt.getD i []).getD j.toNatClampNeg 0) :: st) σ) : WA p l e R s m args below meth c nL E nc ns Q (pc) L (.int j :: .ref (eV E i) :: st) σ := fun H locs ls hP hD hS hl => va_tb cx.1 cx.2.1 (cx.2.2.2.2.2.2.2.2.1.2.2.2.1.1 i hi).2.2.2 hS (inb_vp hin) rfl hd (k H locs ls hP hD hS hl)
theorem wa_getsC (cx : CX p s m args meth c cc own nL ret E) {idx : Nat} (hw : Cond.fieldLink own idx RJ0 "COMPACT_STRINGS" "Z" ∈ gw) (hd : decode cc pc = .ok (.getstatic idx, 3)) (k : WA p l e R s m args below meth c nL E nc ns Q (pc + 3) L (.int 1 :: st) σ) : WA p l e R s m args below meth c nL E nc ns Q (pc) L (st) σ := fun H locs ls hP hD hS hl => va_gets cx.1 cx.2.1 cx.2.2.2.2.2.2.2.2.1.2.1 hS cx.2.2.2.1 (cx.2.2.2.2.1 _ hw) (fun _ h => h) hd (k H locs ls hP hD hS hl)
theorem wa_getsQ (cx : CX p s m args meth c cc own nL ret E) {idx : Nat} (hw : Cond.fieldLink own idx RJ3 "SIOOBE_FORMATTER" "Ljava/util/function/BiFunction;" ∈ gw) (hd : decode cc pc = .ok (.getstatic idx, 3)) (k : ∀ v : Value, (v = .null ∨ ∃ t, v = .ref t) → WA p l e R s m args below meth c nL E nc ns Q (pc + 3) L (v :: st) σ) : WA p l e R s m args below meth c nL E nc ns Q (pc) L (st) σ := by
  intro H locs ls hP hD hS hl
  rcases cx.2.2.2.2.2.2.2.2.1.2.2.1 with h | ⟨t, h⟩
  · exact va_gets cx.1 cx.2.1 h hS cx.2.2.2.1 (cx.2.2.2.2.1 _ hw) (fun _ h => h) hd (k _ (Or.inl rfl) H locs ls hP hD hS hl)
  · exact va_gets cx.1 cx.2.1 h hS cx.2.2.2.1 (cx.2.2.2.2.1 _ hw) (fun _ h => h) hd (k _ (Or.inr ⟨t, rfl⟩) H locs ls hP hD hS hl)
theorem wa_nret {ty : FieldType} (cx : CX p s m args meth c cc own nL (some ty) E) {v : Int32} (hn : narrow ty (.int v) = .int v) (hd : decode cc pc = .ok (.ireturn, 1)) : WA p l e R s m args below meth c nL E nc ns (MQ below (Qcq E s.heap.size (some (.int v)) σ) args s nc ns (AE E s.heap.size)) pc L [.int v] σ := fun H locs ls hP hD hS hl => W.zret cx.1 cx.2.1 cx.2.2.2.2.2.2.1 hn (fun t ht hW => ⟨rfl, by rw [ht]; exact hP, hS.F ht⟩) hS.2.2 hd cx.2.2.2.2.2.2.2.1
theorem wa_callK (cx : CX p s m args meth c cc own nL ret E) {y : MethodName} {cy : ByteArray} {mL n idx i d : Nat} {rt : Option FieldType} {rest : List Value} {x : Int32} {τ : Sg} (As : List Value) (hi8 : i < 8) (hC : CT l y cy mL rt d E σ (.ref (eK E i) :: As) (some (.int x)) τ) (hmi : MI y cy mL rt n) (hlk : Cond.methodLink own idx y ∈ gw) (hcls : y.cls = "java/lang/String") (hn : As.length = n) (hst : st = As.reverse ++ .ref (eK E i) :: rest) (hrs : (rest.map fun v => v.category).sum ≤ 8) (hR : d + 1 ≤ R.frames ∧ 8 + (mL + 11) + 48 * d ≤ R.locals) (hf : nc ≤ R.cells ∧ ns ≤ R.slots) (hd : decode cc pc = .ok (.invokevirtual idx, 3)) (k : WA p l e R s m args below meth c nL E nc ns Q (pc + 3) L (.int x :: rest) τ) : WA p l e R s m args below meth c nL E nc ns Q (pc) L (st) σ := by
  intro H locs ls hP hD hS hl
  subst hst
  obtain ⟨hi1, hi2, hi3, hi4, hi5⟩ := hmi
  have ht := cx.2.2.2.2.1
  have hws : ∀ w ∈ wsV own idx y.cls y (Cond.code y cy mL rt :: gw), w ∈ gw := by
    intro w hw
    unfold wsV at hw
    rcases List.mem_append.mp hw with h | h
    · simp only [List.mem_cons, List.not_mem_nil, or_false] at h
      rcases h with rfl | rfl | rfl | rfl
      · exact hlk
      · exact hi1
      · exact hi2
      · exact hi3
    · rcases List.mem_cons.mp h with rfl | h
      · exact hi4
      · exact h
  have hrec := vk_recv cx.2.2.2.2.2.2.2.2.1.2.2.2.1 hi8 hS
  rw [← hcls] at hrec
  refine wa_run cx (va_runV (As := As) (rest := rest) (C := y.cls) ⟨cx.1, cx.2.1, cx.2.2.1, cx.2.2.2.1, ht⟩ (hC H.size) (cwV n ht (gi_of hws) rfl rfl rfl ⟨rfl, hi5⟩ hR) ⟨Pcq_blind, hrec, fun U hU hW => ⟨rfl, by rw [hU], by rw [hU]; exact hP, va_K.moved hW.alike cx.2.2.2.2.2.1, hD.weaken (fun _ _ _ _ => trivial), cx.2.2.2.2.2.2.2.2.1.move hS hU hW, cx.2.2.2.2.2.2.2.2.2⟩⟩ rfl hn hl.1 rfl (lv_room hrs) hd hf) hS (AE_up hS.1) (fun H1 locs1 hP1 hS1 => k H1 locs1 ls hP1 (wl_D hD) hS1 hl)
end WArows
theorem mi_J0_length_8abf5 : MI yJ0_length_8abf5 cJ0_length_8abf5 1 (some .int) 0 := ⟨tw_470, tw_471, tw_70, tw_472, by decide +kernel, by decide +kernel, by decide +kernel⟩
theorem mi_J0_coder_7d493 : MI yJ0_coder_7d493 cJ0_coder_7d493 1 (some .byte) 0 := ⟨tw_474, tw_475, tw_70, tw_476, by decide +kernel, by decide +kernel, by decide +kernel⟩
theorem mi_J0_charAt_5068e : MI yJ0_charAt_5068e cJ0_charAt_5068e 2 (some .char) 1 := ⟨tw_480, tw_481, tw_70, tw_482, by decide +kernel, by decide +kernel, by decide +kernel⟩
theorem mi_J0_isLatin1_aae02 : MI yJ0_isLatin1_aae02 cJ0_isLatin1_aae02 1 (some .boolean) 0 := ⟨tw_484, tw_485, tw_70, tw_486, by decide +kernel, by decide +kernel, by decide +kernel⟩
theorem ms_J1_charAt_3b067 : MS yJ1_charAt_3b067 cJ1_charAt_3b067 2 (some .char) 2 := ⟨tw_488, tw_71, tw_489, by decide +kernel, by decide +kernel, by decide +kernel⟩
theorem ms_J0_checkIndex_df160 : MS yJ0_checkIndex_df160 cJ0_checkIndex_df160 2 none 2 := ⟨tw_491, tw_70, tw_492, by decide +kernel, by decide +kernel, by decide +kernel⟩
theorem ms_J3_checkIndex_8e157 : MS yJ3_checkIndex_8e157 cJ3_checkIndex_8e157 3 (some .int) 3 := ⟨tw_496, tw_72, tw_497, by decide +kernel, by decide +kernel, by decide +kernel⟩
set_option maxHeartbeats 4000000 in
set_option maxRecDepth 100000 in
theorem ct_coder (l : Launch) (E : En) (σ : Sg) (i : Nat) (hi : i < 8) : CT l yJ0_coder_7d493 cJ0_coder_7d493 1 (some .byte) 0 E σ [.ref (eK E i)] (some (.int 0)) σ := by
  refine CT.of RJ0 [some (.ref (eK E i))] rfl (by decide +kernel) (Nat.le_of_ble_eq_true rfl) rfl ?_
  intro p e s m args below meth c cx
  refine wa_getsC (pc := 0) cx tw_477 dJ0_coder_7d493_0 ?_
  refine wa_if_eq (pc := 3) cx 13 dJ0_coder_7d493_3 rfl (fun h => absurd h (by decide)) (fun _ => ?_)
  refine wa_aload_n (pc := 6) cx 0 dJ0_coder_7d493_6 rfl rfl ?_
  refine wa_getKC (pc := 7) cx hi tw_1273 dJ0_coder_7d493_7 ?_
  refine wa_goto (pc := 10) cx 14 dJ0_coder_7d493_10 rfl ?_
  exact wa_nret (pc := 14) cx (by decide) dJ0_coder_7d493_14
set_option maxHeartbeats 4000000 in
set_option maxRecDepth 100000 in
theorem ct_isLatin1 (l : Launch) (E : En) (σ : Sg) (i : Nat) (hi : i < 8) : CT l yJ0_isLatin1_aae02 cJ0_isLatin1_aae02 1 (some .boolean) 0 E σ [.ref (eK E i)] (some (.int 1)) σ := by
  refine CT.of RJ0 [some (.ref (eK E i))] rfl (by decide +kernel) (Nat.le_of_ble_eq_true rfl) rfl ?_
  intro p e s m args below meth c cx
  refine wa_getsC (pc := 0) cx tw_477 dJ0_isLatin1_aae02_0 ?_
  refine wa_if_eq (pc := 3) cx 17 dJ0_isLatin1_aae02_3 rfl (fun h => absurd h (by decide)) (fun _ => ?_)
  refine wa_aload_n (pc := 6) cx 0 dJ0_isLatin1_aae02_6 rfl rfl ?_
  refine wa_getKC (pc := 7) cx hi tw_1273 dJ0_isLatin1_aae02_7 ?_
  refine wa_if_ne (pc := 10) cx 17 dJ0_isLatin1_aae02_10 rfl (fun h => absurd rfl h) (fun _ => ?_)
  refine wa_iconst (pc := 13) (v := 1) cx dJ0_isLatin1_aae02_13 (by decide) ?_
  refine wa_goto (pc := 14) cx 18 dJ0_isLatin1_aae02_14 rfl ?_
  exact wa_zret (pc := 18) cx rfl dJ0_isLatin1_aae02_18
set_option maxHeartbeats 4000000 in
set_option maxRecDepth 100000 in
theorem ct_length (l : Launch) (E : En) (σ : Sg) (i : Nat) (hi : i < 8) : CT l yJ0_length_8abf5 cJ0_length_8abf5 1 (some .int) 1 E σ [.ref (eK E i)] (some (.int (jshr (Int32.ofNat (klen.getD i 0)) 0))) σ := by
  refine CT.of RJ0 [some (.ref (eK E i))] rfl (by decide +kernel) (Nat.le_of_ble_eq_true rfl) rfl ?_
  intro p e s m args below meth c cx
  refine wa_aload_n (pc := 0) cx 0 dJ0_length_8abf5_0 rfl rfl ?_
  refine wa_getKV (pc := 1) cx hi tw_1272 dJ0_length_8abf5_1 ?_
  refine wa_lenV (pc := 4) cx hi dJ0_length_8abf5_4 ?_
  refine wa_aload_n (pc := 5) cx 0 dJ0_length_8abf5_5 rfl rfl ?_
  refine wa_callK (pc := 6) cx [] hi (ct_coder l E _ i hi) mi_J0_coder_7d493 tw_473 rfl rfl rfl (Nat.le_of_ble_eq_true rfl) ⟨Nat.le_of_ble_eq_true rfl, Nat.le_of_ble_eq_true rfl⟩ ⟨Nat.zero_le _, Nat.zero_le _⟩ dJ0_length_8abf5_6 ?_
  refine wa_ishr (pc := 9) cx dJ0_length_8abf5_9 ?_
  exact wa_iret (pc := 10) cx dJ0_length_8abf5_10
set_option maxHeartbeats 4000000 in
set_option maxRecDepth 100000 in
theorem ct_checkIndex3 (l : Launch) (E : En) (σ : Sg) (i n : Int32) (v : Value) (hv : v = .null ∨ ∃ t, v = .ref t) (h0 : ¬ i < 0) (hn : i < n) : CT l yJ3_checkIndex_8e157 cJ3_checkIndex_8e157 3 (some .int) 0 E σ [.int i, .int n, v] (some (.int i)) σ := by
  rcases hv with rfl | ⟨t, rfl⟩
  · refine CT.of RJ3 [some (.int i), some (.int n), some (.null)] rfl (by decide +kernel) (Nat.le_of_ble_eq_true rfl) rfl ?_
    intro p e s m args below meth c cx
    refine wa_iload_n (pc := 0) cx 0 dJ3_checkIndex_8e157_0 rfl rfl ?_
    refine wa_if_lt (pc := 1) cx 9 dJ3_checkIndex_8e157_1 rfl (fun h => absurd h h0) (fun _ => ?_)
    refine wa_iload_n (pc := 4) cx 0 dJ3_checkIndex_8e157_4 rfl rfl ?_
    refine wa_iload_n (pc := 5) cx 1 dJ3_checkIndex_8e157_5 rfl rfl ?_
    refine wa_icmp_lt (pc := 6) cx 16 dJ3_checkIndex_8e157_6 rfl (fun _ => ?_) (fun h => absurd hn h)
    refine wa_iload_n (pc := 16) cx 0 dJ3_checkIndex_8e157_16 rfl rfl ?_
    exact wa_iret (pc := 17) cx dJ3_checkIndex_8e157_17
  · refine CT.of RJ3 [some (.int i), some (.int n), some (.ref t)] rfl (by decide +kernel) (Nat.le_of_ble_eq_true rfl) rfl ?_
    intro p e s m args below meth c cx
    refine wa_iload_n (pc := 0) cx 0 dJ3_checkIndex_8e157_0 rfl rfl ?_
    refine wa_if_lt (pc := 1) cx 9 dJ3_checkIndex_8e157_1 rfl (fun h => absurd h h0) (fun _ => ?_)
    refine wa_iload_n (pc := 4) cx 0 dJ3_checkIndex_8e157_4 rfl rfl ?_
    refine wa_iload_n (pc := 5) cx 1 dJ3_checkIndex_8e157_5 rfl rfl ?_
    refine wa_icmp_lt (pc := 6) cx 16 dJ3_checkIndex_8e157_6 rfl (fun _ => ?_) (fun h => absurd hn h)
    refine wa_iload_n (pc := 16) cx 0 dJ3_checkIndex_8e157_16 rfl rfl ?_
    exact wa_iret (pc := 17) cx dJ3_checkIndex_8e157_17
set_option maxHeartbeats 4000000 in
set_option maxRecDepth 100000 in
theorem ct_checkIndex0 (l : Launch) (E : En) (σ : Sg) (i n : Int32) (h0 : ¬ i < 0) (hn : i < n) : CT l yJ0_checkIndex_df160 cJ0_checkIndex_df160 2 none 1 E σ [.int i, .int n] none σ := by
  refine CT.of RJ0 [some (.int i), some (.int n)] rfl (by decide +kernel) (Nat.le_of_ble_eq_true rfl) rfl ?_
  intro p e s m args below meth c cx
  refine wa_iload_n (pc := 0) cx 0 dJ0_checkIndex_df160_0 rfl rfl ?_
  refine wa_iload_n (pc := 1) cx 1 dJ0_checkIndex_df160_1 rfl rfl ?_
  refine wa_getsQ (pc := 2) cx tw_493 dJ0_checkIndex_df160_2 (fun v hv => ?_)
  refine wa_callSi (pc := 5) cx [.int i, .int n, v] (ct_checkIndex3 l E _ i n v hv h0 hn) ms_J3_checkIndex_8e157 tw_495 rfl rfl (Nat.le_of_ble_eq_true rfl) ⟨Nat.le_of_ble_eq_true rfl, Nat.le_of_ble_eq_true rfl⟩ ⟨Nat.zero_le _, Nat.zero_le _⟩ dJ0_checkIndex_df160_5 ?_
  refine wa_pop (pc := 8) cx dJ0_checkIndex_df160_8 rfl ?_
  exact wa_vret (pc := 9) cx dJ0_checkIndex_df160_9
/-- what charAt answers -/
def kch (i : Nat) (j : Int32) : Int32 := i2c (((kbyt.getD i []).getD j.toNatClampNeg 0) &&& 255)
theorem inb_lt {j : Int32} {n : Nat} (hn : n < 2 ^ 31) (h : inb j n = true) : ¬ j < 0 ∧ j < Int32.ofNat n := by
  obtain ⟨k, hk, rfl⟩ := vp_in_of (inb_vp h) hn
  exact ⟨nI_pos (by omega), nI_lt hk hn⟩
theorem klen_small : ∀ i, i < 8 → klen.getD i 0 < 2 ^ 31 := by decide +kernel
set_option maxHeartbeats 4000000 in
set_option maxRecDepth 100000 in
theorem ct_charAt1 (l : Launch) (E : En) (σ : Sg) (i : Nat) (hi : i < 8) (j : Int32) (hj : inb j (klen.getD i 0) = true) : CT l yJ1_charAt_3b067 cJ1_charAt_3b067 2 (some .char) 2 E σ [.ref (eV E i), .int j] (some (.int (kch i j))) σ := by
  refine CT.of RJ1 [some (.ref (eV E i)), some (.int j)] rfl (by decide +kernel) (Nat.le_of_ble_eq_true rfl) rfl ?_
  intro p e s m args below meth c cx
  have hb := inb_lt (klen_small i hi) hj
  refine wa_iload_n (pc := 0) cx 1 dJ1_charAt_3b067_0 rfl rfl ?_
  refine wa_aload_n (pc := 1) cx 0 dJ1_charAt_3b067_1 rfl rfl ?_
  refine wa_lenV (pc := 2) cx hi dJ1_charAt_3b067_2 ?_
  refine wa_callSv (pc := 3) cx [.int j, .int (Int32.ofNat (klen.getD i 0))] (ct_checkIndex0 l E _ j _ hb.1 hb.2) ms_J0_checkIndex_df160 tw_490 rfl rfl (Nat.le_of_ble_eq_true rfl) ⟨Nat.le_of_ble_eq_true rfl, Nat.le_of_ble_eq_true rfl⟩ ⟨Nat.zero_le _, Nat.zero_le _⟩ dJ1_charAt_3b067_3 ?_
  refine wa_aload_n (pc := 6) cx 0 dJ1_charAt_3b067_6 rfl rfl ?_
  refine wa_iload_n (pc := 7) cx 1 dJ1_charAt_3b067_7 rfl rfl ?_
  refine wa_baldV (pc := 8) cx hi hj dJ1_charAt_3b067_8 ?_
  refine wa_sipush (pc := 9) (v := 255) cx dJ1_charAt_3b067_9 (by decide) ?_
  refine wa_iand (pc := 12) cx dJ1_charAt_3b067_12 ?_
  refine wa_i2c (pc := 13) cx dJ1_charAt_3b067_13 ?_
  exact wa_nret (pc := 14) cx (pk_nc _) dJ1_charAt_3b067_14
set_option maxHeartbeats 4000000 in
set_option maxRecDepth 100000 in
theorem ct_charAt (l : Launch) (E : En) (σ : Sg) (i : Nat) (hi : i < 8) (j : Int32) (hj : inb j (klen.getD i 0) = true) : CT l yJ0_charAt_5068e cJ0_charAt_5068e 2 (some .char) 3 E σ [.ref (eK E i), .int j] (some (.int (kch i j))) σ := by
  refine CT.of RJ0 [some (.ref (eK E i)), some (.int j)] rfl (by decide +kernel) (Nat.le_of_ble_eq_true rfl) rfl ?_
  intro p e s m args below meth c cx
  refine wa_aload_n (pc := 0) cx 0 dJ0_charAt_5068e_0 rfl rfl ?_
  refine wa_callK (pc := 1) cx [] hi (ct_isLatin1 l E _ i hi) mi_J0_isLatin1_aae02 tw_483 rfl rfl rfl (Nat.le_of_ble_eq_true rfl) ⟨Nat.le_of_ble_eq_true rfl, Nat.le_of_ble_eq_true rfl⟩ ⟨Nat.zero_le _, Nat.zero_le _⟩ dJ0_charAt_5068e_1 ?_
  refine wa_if_eq (pc := 4) cx 16 dJ0_charAt_5068e_4 rfl (fun h => absurd h (by decide)) (fun _ => ?_)
  refine wa_aload_n (pc := 7) cx 0 dJ0_charAt_5068e_7 rfl rfl ?_
  refine wa_getKV (pc := 8) cx hi tw_1272 dJ0_charAt_5068e_8 ?_
  refine wa_iload_n (pc := 11) cx 1 dJ0_charAt_5068e_11 rfl rfl ?_
  refine wa_callSi (pc := 12) cx [.ref (eV E i), .int j] (ct_charAt1 l E _ i hi j hj) ms_J1_charAt_3b067 tw_487 rfl rfl (Nat.le_of_ble_eq_true rfl) ⟨Nat.le_of_ble_eq_true rfl, Nat.le_of_ble_eq_true rfl⟩ ⟨Nat.zero_le _, Nat.zero_le _⟩ dJ0_charAt_5068e_12 ?_
  exact wa_nret (pc := 15) cx (pk_nc _) dJ0_charAt_5068e_15
