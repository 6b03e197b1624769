def fX10_yarn (a1 : Int32) (a2 : Int32) (σ : Sg) : Option (Int32) :=
  (fX9_hasYarn a1 σ).bind (fun q1 =>
  if q1 = 0 then (some (-1000001)) else (if a2 = 0 then (gd (inb a1 9) (
  some (ga σ 12 a1))) else (if a2 = 1 then (gd (inb a1 9) (
  some (ga σ 13 a1))) else (if a2 = 2 then ((fX9_strength a1 σ).bind (fun q9 =>
  some q9)) else (if a2 = 3 then (gd (inb (0 + a1) 36) (
  some (ga σ 14 (0 + a1)))) else (if a2 = 4 then (gd (inb (9 + a1) 36) (
  some (ga σ 14 (9 + a1)))) else (if a2 = 5 then (gd (inb (18 + a1) 36) (
  some (ga σ 14 (18 + a1)))) else (if a2 = 6 then (gd (inb (27 + a1) 36) (
  some (ga σ 14 (27 + a1)))) else (some (-1000001))))))))))
set_option maxHeartbeats 4000000 in
set_option maxRecDepth 100000 in
theorem ct_X10_yarn (l : Launch) (E : En) (σ : Sg) (a1 : Int32) (a2 : Int32) (q : Int32) (hf : fX10_yarn a1 a2 σ = some q) : CT l yX10_yarn cX10_yarn 3 (some .int) 3 E σ [.ref (eA E 0), .int a1, .int a2] (some (.int q)) σ := by
  refine CT.of RX10 [some (.ref (eA E 0)), some (.int a1), some (.int a2)] rfl (by decide +kernel) (Nat.le_of_ble_eq_true rfl) rfl ?_
  intro p e s m args below meth c cx
  unfold fX10_yarn at hf
  refine wa_aload_n (pc := 0) cx 0 dX10_yarn_0 rfl rfl ?_
  refine wa_getR (pc := 1) cx fl_X10_26 lk_0 rfl (cx.bl 0 rfl) dX10_yarn_1 ?_
  refine wa_iload_n (pc := 4) cx 1 dX10_yarn_4 rfl rfl ?_
  obtain ⟨q1, h2, hf⟩ := bd_some hf
  refine wa_callVi (pc := 5) cx [.int a1] (ct_X9_hasYarn l E _ _ _ h2) mi_X9_hasYarn tw_563 lk_8 rfl (cx.bl 8 rfl) rfl rfl (Nat.le_of_ble_eq_true rfl) ⟨Nat.le_of_ble_eq_true rfl, Nat.le_of_ble_eq_true rfl⟩ ⟨Nat.zero_le _, Nat.zero_le _⟩ dX10_yarn_5 ?_
  refine wa_if_ne (pc := 8) cx 14 dX10_yarn_8 rfl (fun c3 => ?_) (fun c3 => ?_)
  · have hf := (if_neg c3).symm.trans hf
    refine wa_iload_n (pc := 14) cx 2 dX10_yarn_14 rfl rfl ?_
    by_cases c4 : a2 = 0
    · have hf := (if_pos c4).symm.trans hf
      refine wa_tabIn (pc := 15) cx 56 dX10_yarn_15 (by rw [c4]; decide) (by rw [c4]; decide) (by rw [c4]; rfl) rfl ?_
      refine wa_aload_n (pc := 56) cx 0 dX10_yarn_56 rfl rfl ?_
      refine wa_getR (pc := 57) cx fl_X10_26 lk_0 rfl (cx.bl 0 rfl) dX10_yarn_57 ?_
      refine wa_getR (pc := 60) cx fl_X10_214 lk_8 rfl (cx.bl 8 rfl) dX10_yarn_60 ?_
      refine wa_iload_n (pc := 63) cx 1 dX10_yarn_63 rfl rfl ?_
      obtain ⟨g5, hf⟩ := gd_some hf
      refine wa_iald (pc := 64) cx lk_12 (cx.bl 12 rfl) g5 dX10_yarn_64 ?_
      obtain rfl := Option.some.inj hf
      exact wa_iret (pc := 65) cx dX10_yarn_65
    · have hf := (if_neg c4).symm.trans hf
      by_cases c6 : a2 = 1
      · have hf := (if_pos c6).symm.trans hf
        refine wa_tabIn (pc := 15) cx 66 dX10_yarn_15 (by rw [c6]; decide) (by rw [c6]; decide) (by rw [c6]; rfl) rfl ?_
        refine wa_aload_n (pc := 66) cx 0 dX10_yarn_66 rfl rfl ?_
        refine wa_getR (pc := 67) cx fl_X10_26 lk_0 rfl (cx.bl 0 rfl) dX10_yarn_67 ?_
        refine wa_getR (pc := 70) cx fl_X10_217 lk_8 rfl (cx.bl 8 rfl) dX10_yarn_70 ?_
        refine wa_iload_n (pc := 73) cx 1 dX10_yarn_73 rfl rfl ?_
        obtain ⟨g7, hf⟩ := gd_some hf
        refine wa_iald (pc := 74) cx lk_13 (cx.bl 13 rfl) g7 dX10_yarn_74 ?_
        obtain rfl := Option.some.inj hf
        exact wa_iret (pc := 75) cx dX10_yarn_75
      · have hf := (if_neg c6).symm.trans hf
        by_cases c8 : a2 = 2
        · have hf := (if_pos c8).symm.trans hf
          refine wa_tabIn (pc := 15) cx 76 dX10_yarn_15 (by rw [c8]; decide) (by rw [c8]; decide) (by rw [c8]; rfl) rfl ?_
          refine wa_aload_n (pc := 76) cx 0 dX10_yarn_76 rfl rfl ?_
          refine wa_getR (pc := 77) cx fl_X10_26 lk_0 rfl (cx.bl 0 rfl) dX10_yarn_77 ?_
          refine wa_iload_n (pc := 80) cx 1 dX10_yarn_80 rfl rfl ?_
          obtain ⟨q9, h10, hf⟩ := bd_some hf
          refine wa_callVi (pc := 81) cx [.int a1] (ct_X9_strength l E _ _ _ h10) mi_X9_strength tw_580 lk_8 rfl (cx.bl 8 rfl) rfl rfl (Nat.le_of_ble_eq_true rfl) ⟨Nat.le_of_ble_eq_true rfl, Nat.le_of_ble_eq_true rfl⟩ ⟨Nat.zero_le _, Nat.zero_le _⟩ dX10_yarn_81 ?_
          obtain rfl := Option.some.inj hf
          exact wa_iret (pc := 84) cx dX10_yarn_84
        · have hf := (if_neg c8).symm.trans hf
          by_cases c11 : a2 = 3
          · have hf := (if_pos c11).symm.trans hf
            refine wa_tabIn (pc := 15) cx 85 dX10_yarn_15 (by rw [c11]; decide) (by rw [c11]; decide) (by rw [c11]; rfl) rfl ?_
            refine wa_aload_n (pc := 85) cx 0 dX10_yarn_85 rfl rfl ?_
            refine wa_getR (pc := 86) cx fl_X10_26 lk_0 rfl (cx.bl 0 rfl) dX10_yarn_86 ?_
            refine wa_getR (pc := 89) cx fl_X10_162 lk_8 rfl (cx.bl 8 rfl) dX10_yarn_89 ?_
            refine wa_iconst (pc := 92) (v := 0) cx dX10_yarn_92 (by decide) ?_
            refine wa_iload_n (pc := 93) cx 1 dX10_yarn_93 rfl rfl ?_
            refine wa_iadd (pc := 94) cx dX10_yarn_94 ?_
            obtain ⟨g12, hf⟩ := gd_some hf
            refine wa_iald (pc := 95) cx lk_14 (cx.bl 14 rfl) g12 dX10_yarn_95 ?_
            obtain rfl := Option.some.inj hf
            exact wa_iret (pc := 96) cx dX10_yarn_96
          · have hf := (if_neg c11).symm.trans hf
            by_cases c13 : a2 = 4
            · have hf := (if_pos c13).symm.trans hf
              refine wa_tabIn (pc := 15) cx 97 dX10_yarn_15 (by rw [c13]; decide) (by rw [c13]; decide) (by rw [c13]; rfl) rfl ?_
              refine wa_aload_n (pc := 97) cx 0 dX10_yarn_97 rfl rfl ?_
              refine wa_getR (pc := 98) cx fl_X10_26 lk_0 rfl (cx.bl 0 rfl) dX10_yarn_98 ?_
              refine wa_getR (pc := 101) cx fl_X10_162 lk_8 rfl (cx.bl 8 rfl) dX10_yarn_101 ?_
              refine wa_bipush (pc := 104) (v := 9) cx dX10_yarn_104 (by decide) ?_
              refine wa_iload_n (pc := 106) cx 1 dX10_yarn_106 rfl rfl ?_
              refine wa_iadd (pc := 107) cx dX10_yarn_107 ?_
              obtain ⟨g14, hf⟩ := gd_some hf
              refine wa_iald (pc := 108) cx lk_14 (cx.bl 14 rfl) g14 dX10_yarn_108 ?_
              obtain rfl := Option.some.inj hf
              exact wa_iret (pc := 109) cx dX10_yarn_109
            · have hf := (if_neg c13).symm.trans hf
              by_cases c15 : a2 = 5
              · have hf := (if_pos c15).symm.trans hf
                refine wa_tabIn (pc := 15) cx 110 dX10_yarn_15 (by rw [c15]; decide) (by rw [c15]; decide) (by rw [c15]; rfl) rfl ?_
                refine wa_aload_n (pc := 110) cx 0 dX10_yarn_110 rfl rfl ?_
                refine wa_getR (pc := 111) cx fl_X10_26 lk_0 rfl (cx.bl 0 rfl) dX10_yarn_111 ?_
                refine wa_getR (pc := 114) cx fl_X10_162 lk_8 rfl (cx.bl 8 rfl) dX10_yarn_114 ?_
                refine wa_bipush (pc := 117) (v := 18) cx dX10_yarn_117 (by decide) ?_
                refine wa_iload_n (pc := 119) cx 1 dX10_yarn_119 rfl rfl ?_
                refine wa_iadd (pc := 120) cx dX10_yarn_120 ?_
                obtain ⟨g16, hf⟩ := gd_some hf
                refine wa_iald (pc := 121) cx lk_14 (cx.bl 14 rfl) g16 dX10_yarn_121 ?_
                obtain rfl := Option.some.inj hf
                exact wa_iret (pc := 122) cx dX10_yarn_122
              · have hf := (if_neg c15).symm.trans hf
                by_cases c17 : a2 = 6
                · have hf := (if_pos c17).symm.trans hf
                  refine wa_tabIn (pc := 15) cx 123 dX10_yarn_15 (by rw [c17]; decide) (by rw [c17]; decide) (by rw [c17]; rfl) rfl ?_
                  refine wa_aload_n (pc := 123) cx 0 dX10_yarn_123 rfl rfl ?_
                  refine wa_getR (pc := 124) cx fl_X10_26 lk_0 rfl (cx.bl 0 rfl) dX10_yarn_124 ?_
                  refine wa_getR (pc := 127) cx fl_X10_162 lk_8 rfl (cx.bl 8 rfl) dX10_yarn_127 ?_
                  refine wa_bipush (pc := 130) (v := 27) cx dX10_yarn_130 (by decide) ?_
                  refine wa_iload_n (pc := 132) cx 1 dX10_yarn_132 rfl rfl ?_
                  refine wa_iadd (pc := 133) cx dX10_yarn_133 ?_
                  obtain ⟨g18, hf⟩ := gd_some hf
                  refine wa_iald (pc := 134) cx lk_14 (cx.bl 14 rfl) g18 dX10_yarn_134 ?_
                  obtain rfl := Option.some.inj hf
                  exact wa_iret (pc := 135) cx dX10_yarn_135
                · have hf := (if_neg c17).symm.trans hf
                  have ec4 : (a2).toInt ≠ 0 := fun z => c4 (Int32.toInt_inj.mp (z.trans (by decide)))
                  have ec6 : (a2).toInt ≠ 1 := fun z => c6 (Int32.toInt_inj.mp (z.trans (by decide)))
                  have ec8 : (a2).toInt ≠ 2 := fun z => c8 (Int32.toInt_inj.mp (z.trans (by decide)))
                  have ec11 : (a2).toInt ≠ 3 := fun z => c11 (Int32.toInt_inj.mp (z.trans (by decide)))
                  have ec13 : (a2).toInt ≠ 4 := fun z => c13 (Int32.toInt_inj.mp (z.trans (by decide)))
                  have ec15 : (a2).toInt ≠ 5 := fun z => c15 (Int32.toInt_inj.mp (z.trans (by decide)))
                  have ec17 : (a2).toInt ≠ 6 := fun z => c17 (Int32.toInt_inj.mp (z.trans (by decide)))
                  refine wa_tabOut (pc := 15) cx 136 dX10_yarn_15 (by omega) rfl ?_
                  refine wa_ldc (pc := 136) (v := (-1000001)) cx dX10_yarn_136 tw_353 ?_
                  obtain rfl := Option.some.inj hf
                  exact wa_iret (pc := 138) cx dX10_yarn_138
  · have hf := (if_pos c3).symm.trans hf
    refine wa_ldc (pc := 11) (v := (-1000001)) cx dX10_yarn_11 tw_353 ?_
    obtain rfl := Option.some.inj hf
    exact wa_iret (pc := 13) cx dX10_yarn_13
def fX10_bears_J22  (σ : Sg) : Option (Int32) :=
  some (-1000001)
def fX10_bears (a1 : Int32) (σ : Sg) : Option (Int32) :=
  if gf σ 8 0 = 0 then (some (-1000002)) else (if a1 < 0 then (fX10_bears_J22  σ) else (if a1 ≤ 3 then (if a1 = 3 then ((fX9_ropeBears  σ).bind (fun q7 =>
  some q7)) else ((fX9_strandBears a1 σ).bind (fun q5 =>
  some q5))) else (fX10_bears_J22  σ)))
set_option maxHeartbeats 4000000 in
set_option maxRecDepth 100000 in
theorem ct_X10_bears (l : Launch) (E : En) (σ : Sg) (a1 : Int32) (q : Int32) (hf : fX10_bears a1 σ = some q) : CT l yX10_bears cX10_bears 2 (some .int) 6 E σ [.ref (eA E 0), .int a1] (some (.int q)) σ := by
  refine CT.of RX10 [some (.ref (eA E 0)), some (.int a1)] rfl (by decide +kernel) (Nat.le_of_ble_eq_true rfl) rfl ?_
  intro p e s m args below meth c cx
  unfold fX10_bears at hf
  have j22 : ∀  (σ : Sg), fX10_bears_J22  σ = some q → WA p l e (rmd 6) s m args below meth c 2 E 0 0 (MQ below (Qcq E s.heap.size (some (.int q)) σ) args s 0 0 (AE E s.heap.size)) 22 [none, none] [] σ := by
    intro  σ hf
    unfold fX10_bears_J22 at hf
    refine wa_ldc (pc := 22) (v := (-1000001)) cx dX10_bears_22 tw_353 ?_
    obtain rfl := Option.some.inj hf
    exact wa_iret (pc := 24) cx dX10_bears_24
  refine wa_aload_n (pc := 0) cx 0 dX10_bears_0 rfl rfl ?_
  refine wa_getR (pc := 1) cx fl_X10_26 lk_0 rfl (cx.bl 0 rfl) dX10_bears_1 ?_
  refine wa_getI (pc := 4) cx fl_X10_170 lk_8 rfl (cx.bl 8 rfl) dX10_bears_4 ?_
  refine wa_if_ne (pc := 7) cx 13 dX10_bears_7 rfl (fun c1 => ?_) (fun c1 => ?_)
  · have hf := (if_neg c1).symm.trans hf
    refine wa_iload_n (pc := 13) cx 1 dX10_bears_13 rfl rfl ?_
    refine wa_if_lt (pc := 14) cx 22 dX10_bears_14 rfl (fun c2 => ?_) (fun c2 => ?_)
    · have hf := (if_pos c2).symm.trans hf
      refine wa_forget [false, false] [none, none] rfl ?_
      exact j22  _ hf
    · have hf := (if_neg c2).symm.trans hf
      refine wa_iload_n (pc := 17) cx 1 dX10_bears_17 rfl rfl ?_
      refine wa_iconst (pc := 18) (v := 3) cx dX10_bears_18 (by decide) ?_
      refine wa_icmp_le (pc := 19) cx 25 dX10_bears_19 rfl (fun c3 => ?_) (fun c3 => ?_)
      · have hf := (if_pos c3).symm.trans hf
        refine wa_iload_n (pc := 25) cx 1 dX10_bears_25 rfl rfl ?_
        refine wa_iconst (pc := 26) (v := 3) cx dX10_bears_26 (by decide) ?_
        refine wa_icmp_ne (pc := 27) cx 40 dX10_bears_27 rfl (fun c4 => ?_) (fun c4 => ?_)
        · have hf := (if_neg c4).symm.trans hf
          refine wa_aload_n (pc := 40) cx 0 dX10_bears_40 rfl rfl ?_
          refine wa_getR (pc := 41) cx fl_X10_26 lk_0 rfl (cx.bl 0 rfl) dX10_bears_41 ?_
          refine wa_iload_n (pc := 44) cx 1 dX10_bears_44 rfl rfl ?_
          obtain ⟨q5, h6, hf⟩ := bd_some hf
          refine wa_callVi (pc := 45) cx [.int a1] (ct_X9_strandBears l E _ _ _ h6) mi_X9_strandBears tw_678 lk_8 rfl (cx.bl 8 rfl) rfl rfl (Nat.le_of_ble_eq_true rfl) ⟨Nat.le_of_ble_eq_true rfl, Nat.le_of_ble_eq_true rfl⟩ ⟨Nat.zero_le _, Nat.zero_le _⟩ dX10_bears_45 ?_
          obtain rfl := Option.some.inj hf
          exact wa_iret (pc := 48) cx dX10_bears_48
        · have hf := (if_pos c4).symm.trans hf
          refine wa_aload_n (pc := 30) cx 0 dX10_bears_30 rfl rfl ?_
          refine wa_getR (pc := 31) cx fl_X10_26 lk_0 rfl (cx.bl 0 rfl) dX10_bears_31 ?_
          obtain ⟨q7, h8, hf⟩ := bd_some hf
          refine wa_callVi (pc := 34) cx [] (ct_X9_ropeBears l E _  _ h8) mi_X9_ropeBears tw_615 lk_8 rfl (cx.bl 8 rfl) rfl rfl (Nat.le_of_ble_eq_true rfl) ⟨Nat.le_of_ble_eq_true rfl, Nat.le_of_ble_eq_true rfl⟩ ⟨Nat.zero_le _, Nat.zero_le _⟩ dX10_bears_34 ?_
          refine wa_goto (pc := 37) cx 48 dX10_bears_37 rfl ?_
          obtain rfl := Option.some.inj hf
          exact wa_iret (pc := 48) cx dX10_bears_48
      · have hf := (if_neg c3).symm.trans hf
        refine wa_forget [false, false] [none, none] rfl ?_
        exact j22  _ hf
  · have hf := (if_pos c1).symm.trans hf
    refine wa_ldc (pc := 10) (v := (-1000002)) cx dX10_bears_10 tw_579 ?_
    obtain rfl := Option.some.inj hf
    exact wa_iret (pc := 12) cx dX10_bears_12
def fX10_best_J32 (v1 : Int32) (σ : Sg) : Option (Int32 × Sg) :=
  (fX2_search  σ).bind (fun q3 =>
  if v1 = (-1) then (some ((3 * gf q3 25 6), q3)) else (gd (inb v1 9) (
  some (ga q3 30 v1, q3))))
def fX10_best (a1 : Int32) (σ : Sg) : Option (Int32 × Sg) :=
  if gf σ 8 0 = 0 then (some ((-1000002), σ)) else (if a1 = (-1) then (fX10_best_J32 a1 σ) else ((fX9_hasYarn a1 σ).bind (fun q7 =>
  if q7 = 0 then (some ((-1000001), σ)) else (fX10_best_J32 a1 σ))))
set_option maxHeartbeats 4000000 in
set_option maxRecDepth 100000 in
theorem ct_X10_best (l : Launch) (E : En) (σ : Sg) (a1 : Int32) (q : Int32 × Sg) (hf : fX10_best a1 σ = some q) : CT l yX10_best cX10_best 2 (some .int) 15 E σ [.ref (eA E 0), .int a1] (some (.int q.1)) q.2 := by
  refine CT.of RX10 [some (.ref (eA E 0)), some (.int a1)] rfl (by decide +kernel) (Nat.le_of_ble_eq_true rfl) rfl ?_
  intro p e s m args below meth c cx
  unfold fX10_best at hf
  have j32 : ∀ (v1 : Int32) (σ : Sg), fX10_best_J32 v1 σ = some q → WA p l e (rmd 15) s m args below meth c 2 E 0 0 (MQ below (Qcq E s.heap.size (some (.int q.1)) q.2) args s 0 0 (AE E s.heap.size)) 32 [some (.ref (eA E 0)), some (.int v1)] [] σ := by
    intro v1 σ hf
    unfold fX10_best_J32 at hf
    refine wa_aload_n (pc := 32) cx 0 dX10_best_32 rfl rfl ?_
    refine wa_getR (pc := 33) cx fl_X10_47 lk_0 rfl (cx.bl 0 rfl) dX10_best_33 ?_
    refine wa_aload_n (pc := 36) cx 0 dX10_best_36 rfl rfl ?_
    refine wa_getR (pc := 37) cx fl_X10_26 lk_0 rfl (cx.bl 0 rfl) dX10_best_37 ?_
    obtain ⟨q3, h4, hf⟩ := bd_some hf
    refine wa_callVv (pc := 40) cx [.ref (eA E 8)] (ct_X2_search l E _  _ h4) mi_X2_search tw_683 lk_25 rfl (cx.bl 25 rfl) rfl rfl (Nat.le_of_ble_eq_true rfl) ⟨Nat.le_of_ble_eq_true rfl, Nat.le_of_ble_eq_true rfl⟩ ⟨Nat.zero_le _, Nat.zero_le _⟩ dX10_best_40 ?_
    refine wa_iload_n (pc := 43) cx 1 dX10_best_43 rfl rfl ?_
    refine wa_iconst (pc := 44) (v := (-1)) cx dX10_best_44 (by decide) ?_
    refine wa_icmp_ne (pc := 45) cx 60 dX10_best_45 rfl (fun c5 => ?_) (fun c5 => ?_)
    · have hf := (if_neg c5).symm.trans hf
      refine wa_aload_n (pc := 60) cx 0 dX10_best_60 rfl rfl ?_
      refine wa_getR (pc := 61) cx fl_X10_47 lk_0 rfl (cx.bl 0 rfl) dX10_best_61 ?_
      refine wa_getR (pc := 64) cx fl_X10_229 lk_25 rfl (cx.bl 25 rfl) dX10_best_64 ?_
      refine wa_iload_n (pc := 67) cx 1 dX10_best_67 rfl rfl ?_
      obtain ⟨g6, hf⟩ := gd_some hf
      refine wa_iald (pc := 68) cx lk_30 (cx.bl 30 rfl) g6 dX10_best_68 ?_
      obtain rfl := Option.some.inj hf
      exact wa_iret (pc := 69) cx dX10_best_69
    · have hf := (if_pos c5).symm.trans hf
      refine wa_iconst (pc := 48) (v := 3) cx dX10_best_48 (by decide) ?_
      refine wa_aload_n (pc := 49) cx 0 dX10_best_49 rfl rfl ?_
      refine wa_getR (pc := 50) cx fl_X10_47 lk_0 rfl (cx.bl 0 rfl) dX10_best_50 ?_
      refine wa_getI (pc := 53) cx fl_X10_226 lk_25 rfl (cx.bl 25 rfl) dX10_best_53 ?_
      refine wa_imul (pc := 56) cx dX10_best_56 ?_
      refine wa_goto (pc := 57) cx 69 dX10_best_57 rfl ?_
      obtain rfl := Option.some.inj hf
      exact wa_iret (pc := 69) cx dX10_best_69
  refine wa_aload_n (pc := 0) cx 0 dX10_best_0 rfl rfl ?_
  refine wa_getR (pc := 1) cx fl_X10_26 lk_0 rfl (cx.bl 0 rfl) dX10_best_1 ?_
  refine wa_getI (pc := 4) cx fl_X10_170 lk_8 rfl (cx.bl 8 rfl) dX10_best_4 ?_
  refine wa_if_ne (pc := 7) cx 13 dX10_best_7 rfl (fun c1 => ?_) (fun c1 => ?_)
  · have hf := (if_neg c1).symm.trans hf
    refine wa_iload_n (pc := 13) cx 1 dX10_best_13 rfl rfl ?_
    refine wa_iconst (pc := 14) (v := (-1)) cx dX10_best_14 (by decide) ?_
    refine wa_icmp_eq (pc := 15) cx 32 dX10_best_15 rfl (fun c2 => ?_) (fun c2 => ?_)
    · have hf := (if_pos c2).symm.trans hf
      exact j32 _ _ hf
    · have hf := (if_neg c2).symm.trans hf
      refine wa_aload_n (pc := 18) cx 0 dX10_best_18 rfl rfl ?_
      refine wa_getR (pc := 19) cx fl_X10_26 lk_0 rfl (cx.bl 0 rfl) dX10_best_19 ?_
      refine wa_iload_n (pc := 22) cx 1 dX10_best_22 rfl rfl ?_
      obtain ⟨q7, h8, hf⟩ := bd_some hf
      refine wa_callVi (pc := 23) cx [.int a1] (ct_X9_hasYarn l E _ _ _ h8) mi_X9_hasYarn tw_563 lk_8 rfl (cx.bl 8 rfl) rfl rfl (Nat.le_of_ble_eq_true rfl) ⟨Nat.le_of_ble_eq_true rfl, Nat.le_of_ble_eq_true rfl⟩ ⟨Nat.zero_le _, Nat.zero_le _⟩ dX10_best_23 ?_
      refine wa_if_ne (pc := 26) cx 32 dX10_best_26 rfl (fun c9 => ?_) (fun c9 => ?_)
      · have hf := (if_neg c9).symm.trans hf
        exact j32 _ _ hf
      · have hf := (if_pos c9).symm.trans hf
        refine wa_ldc (pc := 29) (v := (-1000001)) cx dX10_best_29 tw_353 ?_
        obtain rfl := Option.some.inj hf
        exact wa_iret (pc := 31) cx dX10_best_31
  · have hf := (if_pos c1).symm.trans hf
    refine wa_ldc (pc := 10) (v := (-1000002)) cx dX10_best_10 tw_579 ?_
    obtain rfl := Option.some.inj hf
    exact wa_iret (pc := 12) cx dX10_best_12
def fX10_cheapest_J29  (σ : Sg) : Option (Int32 × Sg) :=
  some ((-1000001), σ)
def fX10_cheapest (a1 : Int32) (a2 : Int32) (σ : Sg) : Option (Int32 × Sg) :=
  if gf σ 8 0 = 0 then (some ((-1000002), σ)) else ((fX10_isLoad a1 σ).bind (fun q2 =>
  if q2 = 0 then (fX10_cheapest_J29  σ) else (if a2 < 0 then (fX10_cheapest_J29  σ) else (if a2 ≤ 1 then ((fX3_search a1 σ).bind (fun q7 =>
  if (0 : Int32) ≤ q7.1 then (if a2 = 0 then ((fX9_priceOf q7.1 q7.2).bind (fun q11 =>
  some (q11, q7.2))) else (some (q7.1, q7.2))) else (some ((-1000000), q7.2)))) else (fX10_cheapest_J29  σ)))))
set_option maxHeartbeats 4000000 in
set_option maxRecDepth 100000 in
theorem ct_X10_cheapest (l : Launch) (E : En) (σ : Sg) (a1 : Int32) (a2 : Int32) (q : Int32 × Sg) (hf : fX10_cheapest a1 a2 σ = some q) : CT l yX10_cheapest cX10_cheapest 4 (some .int) 4 E σ [.ref (eA E 0), .int a1, .int a2] (some (.int q.1)) q.2 := by
  refine CT.of RX10 [some (.ref (eA E 0)), some (.int a1), some (.int a2), none] rfl (by decide +kernel) (Nat.le_of_ble_eq_true rfl) rfl ?_
  intro p e s m args below meth c cx
  unfold fX10_cheapest at hf
  have j29 : ∀  (σ : Sg), fX10_cheapest_J29  σ = some q → WA p l e (rmd 4) s m args below meth c 4 E 0 0 (MQ below (Qcq E s.heap.size (some (.int q.1)) q.2) args s 0 0 (AE E s.heap.size)) 29 [none, none, none, none] [] σ := by
    intro  σ hf
    unfold fX10_cheapest_J29 at hf
    refine wa_ldc (pc := 29) (v := (-1000001)) cx dX10_cheapest_29 tw_353 ?_
    obtain rfl := Option.some.inj hf
    exact wa_iret (pc := 31) cx dX10_cheapest_31
  refine wa_aload_n (pc := 0) cx 0 dX10_cheapest_0 rfl rfl ?_
  refine wa_getR (pc := 1) cx fl_X10_26 lk_0 rfl (cx.bl 0 rfl) dX10_cheapest_1 ?_
  refine wa_getI (pc := 4) cx fl_X10_170 lk_8 rfl (cx.bl 8 rfl) dX10_cheapest_4 ?_
  refine wa_if_ne (pc := 7) cx 13 dX10_cheapest_7 rfl (fun c1 => ?_) (fun c1 => ?_)
  · have hf := (if_neg c1).symm.trans hf
    refine wa_iload_n (pc := 13) cx 1 dX10_cheapest_13 rfl rfl ?_
    obtain ⟨q2, h3, hf⟩ := bd_some hf
    refine wa_callSi (pc := 14) cx [.int a1] (ct_X10_isLoad l E _ _ _ h3) ms_X10_isLoad tw_603 rfl rfl (Nat.le_of_ble_eq_true rfl) ⟨Nat.le_of_ble_eq_true rfl, Nat.le_of_ble_eq_true rfl⟩ ⟨Nat.zero_le _, Nat.zero_le _⟩ dX10_cheapest_14 ?_
    refine wa_if_eq (pc := 17) cx 29 dX10_cheapest_17 rfl (fun c4 => ?_) (fun c4 => ?_)
    · have hf := (if_pos c4).symm.trans hf
      refine wa_forget [false, false, false, false] [none, none, none, none] rfl ?_
      exact j29  _ hf
    · have hf := (if_neg c4).symm.trans hf
      refine wa_iload_n (pc := 20) cx 2 dX10_cheapest_20 rfl rfl ?_
      refine wa_if_lt (pc := 21) cx 29 dX10_cheapest_21 rfl (fun c5 => ?_) (fun c5 => ?_)
      · have hf := (if_pos c5).symm.trans hf
        refine wa_forget [false, false, false, false] [none, none, none, none] rfl ?_
        exact j29  _ hf
      · have hf := (if_neg c5).symm.trans hf
        refine wa_iload_n (pc := 24) cx 2 dX10_cheapest_24 rfl rfl ?_
        refine wa_iconst (pc := 25) (v := 1) cx dX10_cheapest_25 (by decide) ?_
        refine wa_icmp_le (pc := 26) cx 32 dX10_cheapest_26 rfl (fun c6 => ?_) (fun c6 => ?_)
        · have hf := (if_pos c6).symm.trans hf
          refine wa_aload_n (pc := 32) cx 0 dX10_cheapest_32 rfl rfl ?_
          refine wa_getR (pc := 33) cx fl_X10_54 lk_0 rfl (cx.bl 0 rfl) dX10_cheapest_33 ?_
          refine wa_aload_n (pc := 36) cx 0 dX10_cheapest_36 rfl rfl ?_
          refine wa_getR (pc := 37) cx fl_X10_26 lk_0 rfl (cx.bl 0 rfl) dX10_cheapest_37 ?_
          refine wa_iload_n (pc := 40) cx 1 dX10_cheapest_40 rfl rfl ?_
          obtain ⟨q7, h8, hf⟩ := bd_some hf
          refine wa_callVi (pc := 41) cx [.ref (eA E 8), .int a1] (ct_X3_search l E _ _ _ h8) mi_X3_search tw_703 lk_31 rfl (cx.bl 31 rfl) rfl rfl (Nat.le_of_ble_eq_true rfl) ⟨Nat.le_of_ble_eq_true rfl, Nat.le_of_ble_eq_true rfl⟩ ⟨Nat.zero_le _, Nat.zero_le _⟩ dX10_cheapest_41 ?_
          refine wa_istore_n (pc := 44) cx 3 [some (.ref (eA E 0)), some (.int a1), some (.int a2), some (.int q7.1)] dX10_cheapest_44 rfl (by decide) rfl rfl ?_
          refine wa_iload_n (pc := 45) cx 3 dX10_cheapest_45 rfl rfl ?_
          refine wa_if_ge (pc := 46) cx 52 dX10_cheapest_46 rfl (fun c9 => ?_) (fun c9 => ?_)
          · have hf := (if_pos c9).symm.trans hf
            refine wa_iload_n (pc := 52) cx 2 dX10_cheapest_52 rfl rfl ?_
            refine wa_if_ne (pc := 53) cx 67 dX10_cheapest_53 rfl (fun c10 => ?_) (fun c10 => ?_)
            · have hf := (if_neg c10).symm.trans hf
              refine wa_iload_n (pc := 67) cx 3 dX10_cheapest_67 rfl rfl ?_
              obtain rfl := Option.some.inj hf
              exact wa_iret (pc := 68) cx dX10_cheapest_68
            · have hf := (if_pos c10).symm.trans hf
              refine wa_aload_n (pc := 56) cx 0 dX10_cheapest_56 rfl rfl ?_
              refine wa_getR (pc := 57) cx fl_X10_26 lk_0 rfl (cx.bl 0 rfl) dX10_cheapest_57 ?_
              refine wa_iload_n (pc := 60) cx 3 dX10_cheapest_60 rfl rfl ?_
              obtain ⟨q11, h12, hf⟩ := bd_some hf
              refine wa_callVi (pc := 61) cx [.int q7.1] (ct_X9_priceOf l E _ _ _ h12) mi_X9_priceOf tw_719 lk_8 rfl (cx.bl 8 rfl) rfl rfl (Nat.le_of_ble_eq_true rfl) ⟨Nat.le_of_ble_eq_true rfl, Nat.le_of_ble_eq_true rfl⟩ ⟨Nat.zero_le _, Nat.zero_le _⟩ dX10_cheapest_61 ?_
              refine wa_goto (pc := 64) cx 68 dX10_cheapest_64 rfl ?_
              obtain rfl := Option.some.inj hf
              exact wa_iret (pc := 68) cx dX10_cheapest_68
          · have hf := (if_neg c9).symm.trans hf
            refine wa_ldc (pc := 49) (v := (-1000000)) cx dX10_cheapest_49 tw_649 ?_
            obtain rfl := Option.some.inj hf
            exact wa_iret (pc := 51) cx dX10_cheapest_51
        · have hf := (if_neg c6).symm.trans hf
          refine wa_forget [false, false, false, false] [none, none, none, none] rfl ?_
          exact j29  _ hf
  · have hf := (if_pos c1).symm.trans hf
    refine wa_ldc (pc := 10) (v := (-1000002)) cx dX10_cheapest_10 tw_579 ?_
    obtain rfl := Option.some.inj hf
    exact wa_iret (pc := 12) cx dX10_cheapest_12
def fX10_odds_J29  (σ : Sg) : Option (Int32 × Sg) :=
  some ((-1000001), σ)
def fX10_odds (a1 : Int32) (a2 : Int32) (σ : Sg) : Option (Int32 × Sg) :=
  if gf σ 8 0 = 0 then (some ((-1000002), σ)) else ((fX10_isLoad a1 σ).bind (fun q2 =>
  if q2 = 0 then (fX10_odds_J29  σ) else (if a2 < 0 then (fX10_odds_J29  σ) else (if a2 ≤ 1 then ((fX5_reckon a1 σ).bind (fun q7 =>
  if a2 = 0 then (some (gf q7 34 2, q7)) else (some (gf q7 34 3, q7)))) else (fX10_odds_J29  σ)))))
set_option maxHeartbeats 4000000 in
set_option maxRecDepth 100000 in
theorem ct_X10_odds (l : Launch) (E : En) (σ : Sg) (a1 : Int32) (a2 : Int32) (q : Int32 × Sg) (hf : fX10_odds a1 a2 σ = some q) : CT l yX10_odds cX10_odds 3 (some .int) 15 E σ [.ref (eA E 0), .int a1, .int a2] (some (.int q.1)) q.2 := by
  refine CT.of RX10 [some (.ref (eA E 0)), some (.int a1), some (.int a2)] rfl (by decide +kernel) (Nat.le_of_ble_eq_true rfl) rfl ?_
  intro p e s m args below meth c cx
  unfold fX10_odds at hf
  have j29 : ∀  (σ : Sg), fX10_odds_J29  σ = some q → WA p l e (rmd 15) s m args below meth c 3 E 0 0 (MQ below (Qcq E s.heap.size (some (.int q.1)) q.2) args s 0 0 (AE E s.heap.size)) 29 [none, none, none] [] σ := by
    intro  σ hf
    unfold fX10_odds_J29 at hf
    refine wa_ldc (pc := 29) (v := (-1000001)) cx dX10_odds_29 tw_353 ?_
    obtain rfl := Option.some.inj hf
    exact wa_iret (pc := 31) cx dX10_odds_31
  refine wa_aload_n (pc := 0) cx 0 dX10_odds_0 rfl rfl ?_
  refine wa_getR (pc := 1) cx fl_X10_26 lk_0 rfl (cx.bl 0 rfl) dX10_odds_1 ?_
  refine wa_getI (pc := 4) cx fl_X10_170 lk_8 rfl (cx.bl 8 rfl) dX10_odds_4 ?_
  refine wa_if_ne (pc := 7) cx 13 dX10_odds_7 rfl (fun c1 => ?_) (fun c1 => ?_)
  · have hf := (if_neg c1).symm.trans hf
    refine wa_iload_n (pc := 13) cx 1 dX10_odds_13 rfl rfl ?_
    obtain ⟨q2, h3, hf⟩ := bd_some hf
    refine wa_callSi (pc := 14) cx [.int a1] (ct_X10_isLoad l E _ _ _ h3) ms_X10_isLoad tw_603 rfl rfl (Nat.le_of_ble_eq_true rfl) ⟨Nat.le_of_ble_eq_true rfl, Nat.le_of_ble_eq_true rfl⟩ ⟨Nat.zero_le _, Nat.zero_le _⟩ dX10_odds_14 ?_
    refine wa_if_eq (pc := 17) cx 29 dX10_odds_17 rfl (fun c4 => ?_) (fun c4 => ?_)
    · have hf := (if_pos c4).symm.trans hf
      refine wa_forget [false, false, false] [none, none, none] rfl ?_
      exact j29  _ hf
    · have hf := (if_neg c4).symm.trans hf
      refine wa_iload_n (pc := 20) cx 2 dX10_odds_20 rfl rfl ?_
      refine wa_if_lt (pc := 21) cx 29 dX10_odds_21 rfl (fun c5 => ?_) (fun c5 => ?_)
      · have hf := (if_pos c5).symm.trans hf
        refine wa_forget [false, false, false] [none, none, none] rfl ?_
        exact j29  _ hf
      · have hf := (if_neg c5).symm.trans hf
        refine wa_iload_n (pc := 24) cx 2 dX10_odds_24 rfl rfl ?_
        refine wa_iconst (pc := 25) (v := 1) cx dX10_odds_25 (by decide) ?_
        refine wa_icmp_le (pc := 26) cx 32 dX10_odds_26 rfl (fun c6 => ?_) (fun c6 => ?_)
        · have hf := (if_pos c6).symm.trans hf
          refine wa_aload_n (pc := 32) cx 0 dX10_odds_32 rfl rfl ?_
          refine wa_getR (pc := 33) cx fl_X10_61 lk_0 rfl (cx.bl 0 rfl) dX10_odds_33 ?_
          refine wa_aload_n (pc := 36) cx 0 dX10_odds_36 rfl rfl ?_
          refine wa_getR (pc := 37) cx fl_X10_26 lk_0 rfl (cx.bl 0 rfl) dX10_odds_37 ?_
          refine wa_iload_n (pc := 40) cx 1 dX10_odds_40 rfl rfl ?_
          obtain ⟨q7, h8, hf⟩ := bd_some hf
          refine wa_callVv (pc := 41) cx [.ref (eA E 8), .int a1] (ct_X5_reckon l E _ _ _ h8) mi_X5_reckon tw_724 lk_34 rfl (cx.bl 34 rfl) rfl rfl (Nat.le_of_ble_eq_true rfl) ⟨Nat.le_of_ble_eq_true rfl, Nat.le_of_ble_eq_true rfl⟩ ⟨Nat.zero_le _, Nat.zero_le _⟩ dX10_odds_41 ?_
          refine wa_iload_n (pc := 44) cx 2 dX10_odds_44 rfl rfl ?_
          refine wa_if_ne (pc := 45) cx 58 dX10_odds_45 rfl (fun c9 => ?_) (fun c9 => ?_)
          · have hf := (if_neg c9).symm.trans hf
            refine wa_aload_n (pc := 58) cx 0 dX10_odds_58 rfl rfl ?_
            refine wa_getR (pc := 59) cx fl_X10_61 lk_0 rfl (cx.bl 0 rfl) dX10_odds_59 ?_
            refine wa_getI (pc := 62) cx fl_X10_245 lk_34 rfl (cx.bl 34 rfl) dX10_odds_62 ?_
            obtain rfl := Option.some.inj hf
            exact wa_iret (pc := 65) cx dX10_odds_65
          · have hf := (if_pos c9).symm.trans hf
            refine wa_aload_n (pc := 48) cx 0 dX10_odds_48 rfl rfl ?_
            refine wa_getR (pc := 49) cx fl_X10_61 lk_0 rfl (cx.bl 0 rfl) dX10_odds_49 ?_
            refine wa_getI (pc := 52) cx fl_X10_242 lk_34 rfl (cx.bl 34 rfl) dX10_odds_52 ?_
            refine wa_goto (pc := 55) cx 65 dX10_odds_55 rfl ?_
            obtain rfl := Option.some.inj hf
            exact wa_iret (pc := 65) cx dX10_odds_65
        · have hf := (if_neg c6).symm.trans hf
          refine wa_forget [false, false, false] [none, none, none] rfl ?_
          exact j29  _ hf
  · have hf := (if_pos c1).symm.trans hf
    refine wa_ldc (pc := 10) (v := (-1000002)) cx dX10_odds_10 tw_579 ?_
    obtain rfl := Option.some.inj hf
    exact wa_iret (pc := 12) cx dX10_odds_12
def fX10_risk_J35  (σ : Sg) : Option (Int32 × Sg) :=
  some ((-1000001), σ)
def fX10_risk (a1 : Int32) (a2 : Int32) (a3 : Int32) (σ : Sg) : Option (Int32 × Sg) :=
  if gf σ 8 0 = 0 then (some ((-1000002), σ)) else ((fX7_isNumber a1 σ).bind (fun q2 =>
  if q2 = 0 then (fX10_risk_J35  σ) else (if a3 < 1 then (fX10_risk_J35  σ) else (if a3 ≤ 40 then ((fX7_isMissing a1 σ).bind (fun q7 =>
  if q7 = 0 then ((fX7_hasPlaces a1 a2 a3 σ).bind (fun q10 =>
  if q10 = 0 then ((fX10_found 2 σ).bind (fun q22 =>
  some (q22.1, q22.2))) else ((fX7_hasBelowZero a1 a2 a3 σ).bind (fun q13 =>
  if q13 = 0 then ((fX9_ropeBears  σ).bind (fun q16 =>
  (fX7_countUpTo a1 a2 a3 q16 σ).bind (fun q18 =>
  (fX10_foundNothing q18 σ).bind (fun q20 =>
  some (q20.1, q20.2))))) else (some ((-1000001), σ)))))) else ((fX10_found 1 σ).bind (fun q24 =>
  some (q24.1, q24.2))))) else (fX10_risk_J35  σ)))))
set_option maxHeartbeats 4000000 in
set_option maxRecDepth 100000 in
theorem ct_X10_risk (l : Launch) (E : En) (σ : Sg) (a1 : Int32) (a2 : Int32) (a3 : Int32) (q : Int32 × Sg) (hf : fX10_risk a1 a2 a3 σ = some q) : CT l yX10_risk cX10_risk 4 (some .int) 6 E σ [.ref (eA E 0), .int a1, .int a2, .int a3] (some (.int q.1)) q.2 := by
  refine CT.of RX10 [some (.ref (eA E 0)), some (.int a1), some (.int a2), some (.int a3)] rfl (by decide +kernel) (Nat.le_of_ble_eq_true rfl) rfl ?_
  intro p e s m args below meth c cx
  unfold fX10_risk at hf
  have j35 : ∀  (σ : Sg), fX10_risk_J35  σ = some q → WA p l e (rmd 6) s m args below meth c 4 E 0 0 (MQ below (Qcq E s.heap.size (some (.int q.1)) q.2) args s 0 0 (AE E s.heap.size)) 35 [none, none, none, none] [] σ := by
    intro  σ hf
    unfold fX10_risk_J35 at hf
    refine wa_ldc (pc := 35) (v := (-1000001)) cx dX10_risk_35 tw_353 ?_
    obtain rfl := Option.some.inj hf
    exact wa_iret (pc := 37) cx dX10_risk_37
  refine wa_aload_n (pc := 0) cx 0 dX10_risk_0 rfl rfl ?_
  refine wa_getR (pc := 1) cx fl_X10_26 lk_0 rfl (cx.bl 0 rfl) dX10_risk_1 ?_
  refine wa_getI (pc := 4) cx fl_X10_170 lk_8 rfl (cx.bl 8 rfl) dX10_risk_4 ?_
  refine wa_if_ne (pc := 7) cx 13 dX10_risk_7 rfl (fun c1 => ?_) (fun c1 => ?_)
  · have hf := (if_neg c1).symm.trans hf
    refine wa_aload_n (pc := 13) cx 0 dX10_risk_13 rfl rfl ?_
    refine wa_getR (pc := 14) cx fl_X10_10 lk_0 rfl (cx.bl 0 rfl) dX10_risk_14 ?_
    refine wa_iload_n (pc := 17) cx 1 dX10_risk_17 rfl rfl ?_
    obtain ⟨q2, h3, hf⟩ := bd_some hf
    refine wa_callVi (pc := 18) cx [.int a1] (ct_X7_isNumber l E _ _ _ h3) mi_X7_isNumber tw_349 lk_1 rfl (cx.bl 1 rfl) rfl rfl (Nat.le_of_ble_eq_true rfl) ⟨Nat.le_of_ble_eq_true rfl, Nat.le_of_ble_eq_true rfl⟩ ⟨Nat.zero_le _, Nat.zero_le _⟩ dX10_risk_18 ?_
    refine wa_if_eq (pc := 21) cx 35 dX10_risk_21 rfl (fun c4 => ?_) (fun c4 => ?_)
    · have hf := (if_pos c4).symm.trans hf
      refine wa_forget [false, false, false, false] [none, none, none, none] rfl ?_
      exact j35  _ hf
    · have hf := (if_neg c4).symm.trans hf
      refine wa_iload_n (pc := 24) cx 3 dX10_risk_24 rfl rfl ?_
      refine wa_iconst (pc := 25) (v := 1) cx dX10_risk_25 (by decide) ?_
      refine wa_icmp_lt (pc := 26) cx 35 dX10_risk_26 rfl (fun c5 => ?_) (fun c5 => ?_)
      · have hf := (if_pos c5).symm.trans hf
        refine wa_forget [false, false, false, false] [none, none, none, none] rfl ?_
        exact j35  _ hf
      · have hf := (if_neg c5).symm.trans hf
        refine wa_iload_n (pc := 29) cx 3 dX10_risk_29 rfl rfl ?_
        refine wa_bipush (pc := 30) (v := 40) cx dX10_risk_30 (by decide) ?_
        refine wa_icmp_le (pc := 32) cx 38 dX10_risk_32 rfl (fun c6 => ?_) (fun c6 => ?_)
        · have hf := (if_pos c6).symm.trans hf
          refine wa_aload_n (pc := 38) cx 0 dX10_risk_38 rfl rfl ?_
          refine wa_getR (pc := 39) cx fl_X10_10 lk_0 rfl (cx.bl 0 rfl) dX10_risk_39 ?_
          refine wa_iload_n (pc := 42) cx 1 dX10_risk_42 rfl rfl ?_
          obtain ⟨q7, h8, hf⟩ := bd_some hf
          refine wa_callVi (pc := 43) cx [.int a1] (ct_X7_isMissing l E _ _ _ h8) mi_X7_isMissing tw_371 lk_1 rfl (cx.bl 1 rfl) rfl rfl (Nat.le_of_ble_eq_true rfl) ⟨Nat.le_of_ble_eq_true rfl, Nat.le_of_ble_eq_true rfl⟩ ⟨Nat.zero_le _, Nat.zero_le _⟩ dX10_risk_43 ?_
          refine wa_if_eq (pc := 46) cx 55 dX10_risk_46 rfl (fun c9 => ?_) (fun c9 => ?_)
          · have hf := (if_pos c9).symm.trans hf
            refine wa_aload_n (pc := 55) cx 0 dX10_risk_55 rfl rfl ?_
            refine wa_getR (pc := 56) cx fl_X10_10 lk_0 rfl (cx.bl 0 rfl) dX10_risk_56 ?_
            refine wa_iload_n (pc := 59) cx 1 dX10_risk_59 rfl rfl ?_
            refine wa_iload_n (pc := 60) cx 2 dX10_risk_60 rfl rfl ?_
            refine wa_iload_n (pc := 61) cx 3 dX10_risk_61 rfl rfl ?_
            obtain ⟨q10, h11, hf⟩ := bd_some hf
            refine wa_callVi (pc := 62) cx [.int a1, .int a2, .int a3] (ct_X7_hasPlaces l E _ _ _ _ _ h11) mi_X7_hasPlaces tw_375 lk_1 rfl (cx.bl 1 rfl) rfl rfl (Nat.le_of_ble_eq_true rfl) ⟨Nat.le_of_ble_eq_true rfl, Nat.le_of_ble_eq_true rfl⟩ ⟨Nat.zero_le _, Nat.zero_le _⟩ dX10_risk_62 ?_
            refine wa_if_ne (pc := 65) cx 74 dX10_risk_65 rfl (fun c12 => ?_) (fun c12 => ?_)
            · have hf := (if_neg c12).symm.trans hf
              refine wa_aload_n (pc := 74) cx 0 dX10_risk_74 rfl rfl ?_
              refine wa_getR (pc := 75) cx fl_X10_10 lk_0 rfl (cx.bl 0 rfl) dX10_risk_75 ?_
              refine wa_iload_n (pc := 78) cx 1 dX10_risk_78 rfl rfl ?_
              refine wa_iload_n (pc := 79) cx 2 dX10_risk_79 rfl rfl ?_
              refine wa_iload_n (pc := 80) cx 3 dX10_risk_80 rfl rfl ?_
              obtain ⟨q13, h14, hf⟩ := bd_some hf
              refine wa_callVi (pc := 81) cx [.int a1, .int a2, .int a3] (ct_X7_hasBelowZero l E _ _ _ _ _ h14) mi_X7_hasBelowZero tw_746 lk_1 rfl (cx.bl 1 rfl) rfl rfl (Nat.le_of_ble_eq_true rfl) ⟨Nat.le_of_ble_eq_true rfl, Nat.le_of_ble_eq_true rfl⟩ ⟨Nat.zero_le _, Nat.zero_le _⟩ dX10_risk_81 ?_
              refine wa_if_eq (pc := 84) cx 90 dX10_risk_84 rfl (fun c15 => ?_) (fun c15 => ?_)
              · have hf := (if_pos c15).symm.trans hf
                refine wa_aload_n (pc := 90) cx 0 dX10_risk_90 rfl rfl ?_
                refine wa_aload_n (pc := 91) cx 0 dX10_risk_91 rfl rfl ?_
                refine wa_getR (pc := 92) cx fl_X10_10 lk_0 rfl (cx.bl 0 rfl) dX10_risk_92 ?_
                refine wa_iload_n (pc := 95) cx 1 dX10_risk_95 rfl rfl ?_
                refine wa_iload_n (pc := 96) cx 2 dX10_risk_96 rfl rfl ?_
                refine wa_iload_n (pc := 97) cx 3 dX10_risk_97 rfl rfl ?_
                refine wa_aload_n (pc := 98) cx 0 dX10_risk_98 rfl rfl ?_
                refine wa_getR (pc := 99) cx fl_X10_26 lk_0 rfl (cx.bl 0 rfl) dX10_risk_99 ?_
                obtain ⟨q16, h17, hf⟩ := bd_some hf
                refine wa_callVi (pc := 102) cx [] (ct_X9_ropeBears l E _  _ h17) mi_X9_ropeBears tw_615 lk_8 rfl (cx.bl 8 rfl) rfl rfl (Nat.le_of_ble_eq_true rfl) ⟨Nat.le_of_ble_eq_true rfl, Nat.le_of_ble_eq_true rfl⟩ ⟨Nat.zero_le _, Nat.zero_le _⟩ dX10_risk_102 ?_
                obtain ⟨q18, h19, hf⟩ := bd_some hf
                refine wa_callVi (pc := 105) cx [.int a1, .int a2, .int a3, .int q16] (ct_X7_countUpTo l E _ _ _ _ _ _ h19) mi_X7_countUpTo tw_750 lk_1 rfl (cx.bl 1 rfl) rfl rfl (Nat.le_of_ble_eq_true rfl) ⟨Nat.le_of_ble_eq_true rfl, Nat.le_of_ble_eq_true rfl⟩ ⟨Nat.zero_le _, Nat.zero_le _⟩ dX10_risk_105 ?_
                obtain ⟨q20, h21, hf⟩ := bd_some hf
                refine wa_callVi (pc := 108) cx [.int q18] (ct_X10_foundNothing l E _ _ _ h21) mi_X10_foundNothing tw_363 lk_0 rfl (cx.bl 0 rfl) rfl rfl (Nat.le_of_ble_eq_true rfl) ⟨Nat.le_of_ble_eq_true rfl, Nat.le_of_ble_eq_true rfl⟩ ⟨Nat.zero_le _, Nat.zero_le _⟩ dX10_risk_108 ?_
                obtain rfl := Option.some.inj hf
                exact wa_iret (pc := 111) cx dX10_risk_111
              · have hf := (if_neg c15).symm.trans hf
                refine wa_ldc (pc := 87) (v := (-1000001)) cx dX10_risk_87 tw_353 ?_
                obtain rfl := Option.some.inj hf
                exact wa_iret (pc := 89) cx dX10_risk_89
            · have hf := (if_pos c12).symm.trans hf
              refine wa_aload_n (pc := 68) cx 0 dX10_risk_68 rfl rfl ?_
              refine wa_iconst (pc := 69) (v := 2) cx dX10_risk_69 (by decide) ?_
              obtain ⟨q22, h23, hf⟩ := bd_some hf
              refine wa_callVi (pc := 70) cx [.int 2] (ct_X10_found l E _ _ _ h23) mi_X10_found tw_354 lk_0 rfl (cx.bl 0 rfl) rfl rfl (Nat.le_of_ble_eq_true rfl) ⟨Nat.le_of_ble_eq_true rfl, Nat.le_of_ble_eq_true rfl⟩ ⟨Nat.zero_le _, Nat.zero_le _⟩ dX10_risk_70 ?_
              obtain rfl := Option.some.inj hf
              exact wa_iret (pc := 73) cx dX10_risk_73
          · have hf := (if_neg c9).symm.trans hf
            refine wa_aload_n (pc := 49) cx 0 dX10_risk_49 rfl rfl ?_
            refine wa_iconst (pc := 50) (v := 1) cx dX10_risk_50 (by decide) ?_
            obtain ⟨q24, h25, hf⟩ := bd_some hf
            refine wa_callVi (pc := 51) cx [.int 1] (ct_X10_found l E _ _ _ h25) mi_X10_found tw_354 lk_0 rfl (cx.bl 0 rfl) rfl rfl (Nat.le_of_ble_eq_true rfl) ⟨Nat.le_of_ble_eq_true rfl, Nat.le_of_ble_eq_true rfl⟩ ⟨Nat.zero_le _, Nat.zero_le _⟩ dX10_risk_51 ?_
            obtain rfl := Option.some.inj hf
            exact wa_iret (pc := 54) cx dX10_risk_54
        · have hf := (if_neg c6).symm.trans hf
          refine wa_forget [false, false, false, false] [none, none, none, none] rfl ?_
          exact j35  _ hf
  · have hf := (if_pos c1).symm.trans hf
    refine wa_ldc (pc := 10) (v := (-1000002)) cx dX10_risk_10 tw_579 ?_
    obtain rfl := Option.some.inj hf
    exact wa_iret (pc := 12) cx dX10_risk_12
def fX10_whose_J32  (σ : Sg) : Option (Int32) :=
  some (-1000001)
def fX10_whose_J115 (v1 : Int32) (v2 : Int32) (v3 : Int32) (v4 : Int32) (σ : Sg) : Option ((Int32 × Int32) ⊕ (Int32)) :=
  some (.inl (v3, (v4 + 1)))
def fX10_whose_J113 (v1 : Int32) (v2 : Int32) (v4 : Int32) (t1 : Int32) (t0 : Int32) (σ : Sg) : Option ((Int32 × Int32) ⊕ (Int32)) :=
  fX10_whose_J115 v1 v2 (t0 ||| t1) v4 σ
def fX10_whose_J112 (v1 : Int32) (v2 : Int32) (v4 : Int32) (t0 : Int32) (σ : Sg) : Option ((Int32 × Int32) ⊕ (Int32)) :=
  fX10_whose_J113 v1 v2 v4 0 t0 σ
def fX10_whose_B40 (v1 : Int32) (v2 : Int32) (v3 : Int32) (v4 : Int32) (σ : Sg) : Option ((Int32 × Int32) ⊕ (Int32)) :=
  if gf σ 8 4 ≤ v4 then (some (.inr v3)) else ((fX9_isLaid v4 σ).bind (fun q10 =>
  if q10 = 0 then (fX10_whose_J115 v1 v2 v3 v4 σ) else (gd (inb (9 + v4) 36) (
  if ga σ 14 (9 + v4) = 2 then (fX10_whose_J115 v1 v2 v3 v4 σ) else ((fX9_ropeBearsWithout v4 σ).bind (fun q15 =>
  if q15 < v1 then (fX10_whose_J112 v1 v2 v4 v3 σ) else (if v2 ≤ q15 then (fX10_whose_J112 v1 v2 v4 v3 σ) else (fX10_whose_J113 v1 v2 v4 (jshl 1 v4) v3 σ))))))))
def fX10_whose (a1 : Int32) (a2 : Int32) (σ : Sg) : Option (Int32) :=
  if gf σ 8 0 = 0 then (some (-1000002)) else ((fX10_isLoad a1 σ).bind (fun q2 =>
  if q2 = 0 then (fX10_whose_J32  σ) else ((fX10_isLoad a2 σ).bind (fun q5 =>
  if q5 = 0 then (fX10_whose_J32  σ) else (if a1 < a2 then ((lpO (fun w => fX10_whose_B40 a1 a2 w.1 w.2 σ) FUEL (0, 0)).bind (fun o19 =>
  some o19)) else (fX10_whose_J32  σ))))))
set_option maxHeartbeats 4000000 in
set_option maxRecDepth 100000 in
theorem ct_X10_whose (l : Launch) (E : En) (σ : Sg) (a1 : Int32) (a2 : Int32) (q : Int32) (hf : fX10_whose a1 a2 σ = some q) : CT l yX10_whose cX10_whose 6 (some .int) 5 E σ [.ref (eA E 0), .int a1, .int a2] (some (.int q)) σ := by
  refine CT.of RX10 [some (.ref (eA E 0)), some (.int a1), some (.int a2), none, none, none] rfl (by decide +kernel) (Nat.le_of_ble_eq_true rfl) rfl ?_
  intro p e s m args below meth c cx
  unfold fX10_whose at hf
  have j32 : ∀  (σ : Sg), fX10_whose_J32  σ = some q → WA p l e (rmd 5) s m args below meth c 6 E 0 0 (MQ below (Qcq E s.heap.size (some (.int q)) σ) args s 0 0 (AE E s.heap.size)) 32 [none, none, none, none, none, none] [] σ := by
    intro  σ hf
    unfold fX10_whose_J32 at hf
    refine wa_ldc (pc := 32) (v := (-1000001)) cx dX10_whose_32 tw_353 ?_
    obtain rfl := Option.some.inj hf
    exact wa_iret (pc := 34) cx dX10_whose_34
  have l40 : ∀ (v1 : Int32) (v2 : Int32) (σ : Sg) (y : Int32 × Int32) (o : Int32), lpO (fun w => fX10_whose_B40 v1 v2 w.1 w.2 σ) FUEL y = some o → (WA p l e (rmd 5) s m args below meth c 6 E 0 0 (MQ below (Qcq E s.heap.size (some (.int q)) σ) args s 0 0 (AE E s.heap.size)) 121 [none, none, none, some (.int o), none, none] [] σ) → WA p l e (rmd 5) s m args below meth c 6 E 0 0 (MQ below (Qcq E s.heap.size (some (.int q)) σ) args s 0 0 (AE E s.heap.size)) 40 [some (.ref (eA E 0)), some (.int v1), some (.int v2), some (.int y.1), some (.int y.2), none] [] σ := by
    intro v1 v2 σ y o hf hk
    refine lp_rule (P := fun y => WA p l e (rmd 5) s m args below meth c 6 E 0 0 (MQ below (Qcq E s.heap.size (some (.int q)) σ) args s 0 0 (AE E s.heap.size)) 40 [some (.ref (eA E 0)), some (.int v1), some (.int v2), some (.int y.1), some (.int y.2), none] [] σ) (K := fun o => WA p l e (rmd 5) s m args below meth c 6 E 0 0 (MQ below (Qcq E s.heap.size (some (.int q)) σ) args s 0 0 (AE E s.heap.size)) 121 [none, none, none, some (.int o), none, none] [] σ) ?_ FUEL y o hf hk
    have j115 : ∀ (v1 : Int32) (v2 : Int32) (v3 : Int32) (v4 : Int32) (σ : Sg) (r1 : (Int32 × Int32) ⊕ (Int32)), fX10_whose_J115 v1 v2 v3 v4 σ = some r1 → (sel (fun y1 => WA p l e (rmd 5) s m args below meth c 6 E 0 0 (MQ below (Qcq E s.heap.size (some (.int q)) σ) args s 0 0 (AE E s.heap.size)) 40 [some (.ref (eA E 0)), some (.int v1), some (.int v2), some (.int y1.1), some (.int y1.2), none] [] σ) (fun y1 => WA p l e (rmd 5) s m args below meth c 6 E 0 0 (MQ below (Qcq E s.heap.size (some (.int q)) σ) args s 0 0 (AE E s.heap.size)) 121 [none, none, none, some (.int y1), none, none] [] σ) r1) → WA p l e (rmd 5) s m args below meth c 6 E 0 0 (MQ below (Qcq E s.heap.size (some (.int q)) σ) args s 0 0 (AE E s.heap.size)) 115 [some (.ref (eA E 0)), some (.int v1), some (.int v2), some (.int v3), some (.int v4), none] [] σ := by
      intro v1 v2 v3 v4 σ r1 hf hk1
      unfold fX10_whose_J115 at hf
      refine wa_iinc (pc := 115) (v := 1) cx 4 [some (.ref (eA E 0)), some (.int v1), some (.int v2), some (.int v3), some (.int (v4 + 1)), none] dX10_whose_115 (by decide) rfl (by decide) rfl rfl ?_
      refine wa_goto (pc := 118) cx 40 dX10_whose_118 rfl ?_
      obtain rfl := Option.some.inj hf
      refine wa_forget [true, true, true, true, true, false] [some (.ref (eA E 0)), some (.int v1), some (.int v2), some (.int v3), some (.int (v4 + 1)), none] rfl ?_
      exact hk1
    have j113 : ∀ (v1 : Int32) (v2 : Int32) (v4 : Int32) (t1 : Int32) (t0 : Int32) (σ : Sg) (r1 : (Int32 × Int32) ⊕ (Int32)), fX10_whose_J113 v1 v2 v4 t1 t0 σ = some r1 → (sel (fun y1 => WA p l e (rmd 5) s m args below meth c 6 E 0 0 (MQ below (Qcq E s.heap.size (some (.int q)) σ) args s 0 0 (AE E s.heap.size)) 40 [some (.ref (eA E 0)), some (.int v1), some (.int v2), some (.int y1.1), some (.int y1.2), none] [] σ) (fun y1 => WA p l e (rmd 5) s m args below meth c 6 E 0 0 (MQ below (Qcq E s.heap.size (some (.int q)) σ) args s 0 0 (AE E s.heap.size)) 121 [none, none, none, some (.int y1), none, none] [] σ) r1) → WA p l e (rmd 5) s m args below meth c 6 E 0 0 (MQ below (Qcq E s.heap.size (some (.int q)) σ) args s 0 0 (AE E s.heap.size)) 113 [some (.ref (eA E 0)), some (.int v1), some (.int v2), none, some (.int v4), none] [.int t1, .int t0] σ := by
      intro v1 v2 v4 t1 t0 σ r1 hf hk1
      unfold fX10_whose_J113 at hf
      refine wa_ior (pc := 113) cx dX10_whose_113 ?_
      refine wa_istore_n (pc := 114) cx 3 [some (.ref (eA E 0)), some (.int v1), some (.int v2), some (.int (t0 ||| t1)), some (.int v4), none] dX10_whose_114 rfl (by decide) rfl rfl ?_
      exact j115 _ _ _ _ _ _ hf hk1
    have j112 : ∀ (v1 : Int32) (v2 : Int32) (v4 : Int32) (t0 : Int32) (σ : Sg) (r1 : (Int32 × Int32) ⊕ (Int32)), fX10_whose_J112 v1 v2 v4 t0 σ = some r1 → (sel (fun y1 => WA p l e (rmd 5) s m args below meth c 6 E 0 0 (MQ below (Qcq E s.heap.size (some (.int q)) σ) args s 0 0 (AE E s.heap.size)) 40 [some (.ref (eA E 0)), some (.int v1), some (.int v2), some (.int y1.1), some (.int y1.2), none] [] σ) (fun y1 => WA p l e (rmd 5) s m args below meth c 6 E 0 0 (MQ below (Qcq E s.heap.size (some (.int q)) σ) args s 0 0 (AE E s.heap.size)) 121 [none, none, none, some (.int y1), none, none] [] σ) r1) → WA p l e (rmd 5) s m args below meth c 6 E 0 0 (MQ below (Qcq E s.heap.size (some (.int q)) σ) args s 0 0 (AE E s.heap.size)) 112 [some (.ref (eA E 0)), some (.int v1), some (.int v2), none, some (.int v4), none] [.int t0] σ := by
      intro v1 v2 v4 t0 σ r1 hf hk1
      unfold fX10_whose_J112 at hf
      refine wa_iconst (pc := 112) (v := 0) cx dX10_whose_112 (by decide) ?_
      exact j113 _ _ _ _ _ _ _ hf hk1
    intro y0 r1 hf hk1
    obtain ⟨v3, v4⟩ := y0
    have hf : fX10_whose_B40 v1 v2 v3 v4 σ = some r1 := hf
    unfold fX10_whose_B40 at hf
    refine wa_iload (pc := 40) cx 4 dX10_whose_40 rfl ?_
    refine wa_aload_n (pc := 42) cx 0 dX10_whose_42 rfl rfl ?_
    refine wa_getR (pc := 43) cx fl_X10_26 lk_0 rfl (cx.bl 0 rfl) dX10_whose_43 ?_
    refine wa_getI (pc := 46) cx fl_X10_153 lk_8 rfl (cx.bl 8 rfl) dX10_whose_46 ?_
    refine wa_icmp_ge (pc := 49) cx 121 dX10_whose_49 rfl (fun c9 => ?_) (fun c9 => ?_)
    · have hf := (if_pos c9).symm.trans hf
      obtain rfl := Option.some.inj hf
      refine wa_forget [false, false, false, true, false, false] [none, none, none, some (.int v3), none, none] rfl ?_
      exact hk1
    · have hf := (if_neg c9).symm.trans hf
      refine wa_aload_n (pc := 52) cx 0 dX10_whose_52 rfl rfl ?_
      refine wa_getR (pc := 53) cx fl_X10_26 lk_0 rfl (cx.bl 0 rfl) dX10_whose_53 ?_
      refine wa_iload (pc := 56) cx 4 dX10_whose_56 rfl ?_
      obtain ⟨q10, h11, hf⟩ := bd_some hf
      refine wa_callVi (pc := 58) cx [.int v4] (ct_X9_isLaid l E _ _ _ h11) mi_X9_isLaid tw_758 lk_8 rfl (cx.bl 8 rfl) rfl rfl (Nat.le_of_ble_eq_true rfl) ⟨Nat.le_of_ble_eq_true rfl, Nat.le_of_ble_eq_true rfl⟩ ⟨Nat.zero_le _, Nat.zero_le _⟩ dX10_whose_58 ?_
      refine wa_if_eq (pc := 61) cx 115 dX10_whose_61 rfl (fun c12 => ?_) (fun c12 => ?_)
      · have hf := (if_pos c12).symm.trans hf
        exact j115 _ _ _ _ _ _ hf hk1
      · have hf := (if_neg c12).symm.trans hf
        refine wa_aload_n (pc := 64) cx 0 dX10_whose_64 rfl rfl ?_
        refine wa_getR (pc := 65) cx fl_X10_26 lk_0 rfl (cx.bl 0 rfl) dX10_whose_65 ?_
        refine wa_getR (pc := 68) cx fl_X10_162 lk_8 rfl (cx.bl 8 rfl) dX10_whose_68 ?_
        refine wa_bipush (pc := 71) (v := 9) cx dX10_whose_71 (by decide) ?_
        refine wa_iload (pc := 73) cx 4 dX10_whose_73 rfl ?_
        refine wa_iadd (pc := 75) cx dX10_whose_75 ?_
        obtain ⟨g13, hf⟩ := gd_some hf
        refine wa_iald (pc := 76) cx lk_14 (cx.bl 14 rfl) g13 dX10_whose_76 ?_
        refine wa_iconst (pc := 77) (v := 2) cx dX10_whose_77 (by decide) ?_
        refine wa_icmp_eq (pc := 78) cx 115 dX10_whose_78 rfl (fun c14 => ?_) (fun c14 => ?_)
        · have hf := (if_pos c14).symm.trans hf
          exact j115 _ _ _ _ _ _ hf hk1
        · have hf := (if_neg c14).symm.trans hf
          refine wa_aload_n (pc := 81) cx 0 dX10_whose_81 rfl rfl ?_
          refine wa_getR (pc := 82) cx fl_X10_26 lk_0 rfl (cx.bl 0 rfl) dX10_whose_82 ?_
          refine wa_iload (pc := 85) cx 4 dX10_whose_85 rfl ?_
          obtain ⟨q15, h16, hf⟩ := bd_some hf
          refine wa_callVi (pc := 87) cx [.int v4] (ct_X9_ropeBearsWithout l E _ _ _ h16) mi_X9_ropeBearsWithout tw_759 lk_8 rfl (cx.bl 8 rfl) rfl rfl (Nat.le_of_ble_eq_true rfl) ⟨Nat.le_of_ble_eq_true rfl, Nat.le_of_ble_eq_true rfl⟩ ⟨Nat.zero_le _, Nat.zero_le _⟩ dX10_whose_87 ?_
          refine wa_istore (pc := 90) cx 5 [some (.ref (eA E 0)), some (.int v1), some (.int v2), some (.int v3), some (.int v4), some (.int q15)] dX10_whose_90 (by decide) rfl rfl ?_
          refine wa_iload_n (pc := 92) cx 3 dX10_whose_92 rfl rfl ?_
          refine wa_iload (pc := 93) cx 5 dX10_whose_93 rfl ?_
          refine wa_iload_n (pc := 95) cx 1 dX10_whose_95 rfl rfl ?_
          refine wa_icmp_lt (pc := 96) cx 112 dX10_whose_96 rfl (fun c17 => ?_) (fun c17 => ?_)
          · have hf := (if_pos c17).symm.trans hf
            refine wa_forget [true, true, true, false, true, false] [some (.ref (eA E 0)), some (.int v1), some (.int v2), none, some (.int v4), none] rfl ?_
            exact j112 _ _ _ _ _ _ hf hk1
          · have hf := (if_neg c17).symm.trans hf
            refine wa_iload (pc := 99) cx 5 dX10_whose_99 rfl ?_
            refine wa_iload_n (pc := 101) cx 2 dX10_whose_101 rfl rfl ?_
            refine wa_icmp_ge (pc := 102) cx 112 dX10_whose_102 rfl (fun c18 => ?_) (fun c18 => ?_)
            · have hf := (if_pos c18).symm.trans hf
              refine wa_forget [true, true, true, false, true, false] [some (.ref (eA E 0)), some (.int v1), some (.int v2), none, some (.int v4), none] rfl ?_
              exact j112 _ _ _ _ _ _ hf hk1
            · have hf := (if_neg c18).symm.trans hf
              refine wa_iconst (pc := 105) (v := 1) cx dX10_whose_105 (by decide) ?_
              refine wa_iload (pc := 106) cx 4 dX10_whose_106 rfl ?_
              refine wa_ishl (pc := 108) cx dX10_whose_108 ?_
              refine wa_goto (pc := 109) cx 113 dX10_whose_109 rfl ?_
              refine wa_forget [true, true, true, false, true, false] [some (.ref (eA E 0)), some (.int v1), some (.int v2), none, some (.int v4), none] rfl ?_
              exact j113 _ _ _ _ _ _ _ hf hk1
  refine wa_aload_n (pc := 0) cx 0 dX10_whose_0 rfl rfl ?_
  refine wa_getR (pc := 1) cx fl_X10_26 lk_0 rfl (cx.bl 0 rfl) dX10_whose_1 ?_
  refine wa_getI (pc := 4) cx fl_X10_170 lk_8 rfl (cx.bl 8 rfl) dX10_whose_4 ?_
  refine wa_if_ne (pc := 7) cx 13 dX10_whose_7 rfl (fun c1 => ?_) (fun c1 => ?_)
  · have hf := (if_neg c1).symm.trans hf
    refine wa_iload_n (pc := 13) cx 1 dX10_whose_13 rfl rfl ?_
    obtain ⟨q2, h3, hf⟩ := bd_some hf
    refine wa_callSi (pc := 14) cx [.int a1] (ct_X10_isLoad l E _ _ _ h3) ms_X10_isLoad tw_603 rfl rfl (Nat.le_of_ble_eq_true rfl) ⟨Nat.le_of_ble_eq_true rfl, Nat.le_of_ble_eq_true rfl⟩ ⟨Nat.zero_le _, Nat.zero_le _⟩ dX10_whose_14 ?_
    refine wa_if_eq (pc := 17) cx 32 dX10_whose_17 rfl (fun c4 => ?_) (fun c4 => ?_)
    · have hf := (if_pos c4).symm.trans hf
      refine wa_forget [false, false, false, false, false, false] [none, none, none, none, none, none] rfl ?_
      exact j32  _ hf
    · have hf := (if_neg c4).symm.trans hf
      refine wa_iload_n (pc := 20) cx 2 dX10_whose_20 rfl rfl ?_
      obtain ⟨q5, h6, hf⟩ := bd_some hf
      refine wa_callSi (pc := 21) cx [.int a2] (ct_X10_isLoad l E _ _ _ h6) ms_X10_isLoad tw_603 rfl rfl (Nat.le_of_ble_eq_true rfl) ⟨Nat.le_of_ble_eq_true rfl, Nat.le_of_ble_eq_true rfl⟩ ⟨Nat.zero_le _, Nat.zero_le _⟩ dX10_whose_21 ?_
      refine wa_if_eq (pc := 24) cx 32 dX10_whose_24 rfl (fun c7 => ?_) (fun c7 => ?_)
      · have hf := (if_pos c7).symm.trans hf
        refine wa_forget [false, false, false, false, false, false] [none, none, none, none, none, none] rfl ?_
        exact j32  _ hf
      · have hf := (if_neg c7).symm.trans hf
        refine wa_iload_n (pc := 27) cx 2 dX10_whose_27 rfl rfl ?_
        refine wa_iload_n (pc := 28) cx 1 dX10_whose_28 rfl rfl ?_
        refine wa_icmp_gt (pc := 29) cx 35 dX10_whose_29 rfl (fun c8 => ?_) (fun c8 => ?_)
        · have hf := (if_pos c8).symm.trans hf
          refine wa_iconst (pc := 35) (v := 0) cx dX10_whose_35 (by decide) ?_
          refine wa_istore_n (pc := 36) cx 3 [some (.ref (eA E 0)), some (.int a1), some (.int a2), some (.int 0), none, none] dX10_whose_36 rfl (by decide) rfl rfl ?_
          refine wa_iconst (pc := 37) (v := 0) cx dX10_whose_37 (by decide) ?_
          refine wa_istore (pc := 38) cx 4 [some (.ref (eA E 0)), some (.int a1), some (.int a2), some (.int 0), some (.int 0), none] dX10_whose_38 (by decide) rfl rfl ?_
          obtain ⟨o19, h20, hf⟩ := bd_some hf
          refine l40 _ _ _ _ _ h20 ?_
          refine wa_iload_n (pc := 121) cx 3 dX10_whose_121 rfl rfl ?_
          obtain rfl := Option.some.inj hf
          exact wa_iret (pc := 122) cx dX10_whose_122
        · have hf := (if_neg c8).symm.trans hf
          refine wa_forget [false, false, false, false, false, false] [none, none, none, none, none, none] rfl ?_
          exact j32  _ hf
  · have hf := (if_pos c1).symm.trans hf
    refine wa_ldc (pc := 10) (v := (-1000002)) cx dX10_whose_10 tw_579 ?_
    obtain rfl := Option.some.inj hf
    exact wa_iret (pc := 12) cx dX10_whose_12
def fX10_geese_J30  (σ : Sg) : Option (Int32) :=
  some (-1000001)
def fX10_geese_B35 (v1 : Int32) (v2 : Int32) (σ : Sg) : Option ((Int32) ⊕ (Int32)) :=
  if (9 : Int32) ≤ v2 then (some (.inr v2)) else ((fJ6_bitCount_0f7a4 v1 σ).bind (fun q5 =>
  if q5 ≤ jshl 1 v2 then (some (.inr v2)) else (some (.inl (v2 + 1)))))
def fX10_geese (a1 : Int32) (σ : Sg) : Option (Int32) :=
  if gf σ 8 0 = 0 then (some (-1000002)) else (if a1 ≤ 0 then (fX10_geese_J30  σ) else (if a1 < jshl 1 (gf σ 8 4) then ((lpO (fun w => fX10_geese_B35 a1 w σ) FUEL 0).bind (fun o8 =>
  some o8)) else (fX10_geese_J30  σ)))
set_option maxHeartbeats 4000000 in
set_option maxRecDepth 100000 in
theorem ct_X10_geese (l : Launch) (E : En) (σ : Sg) (a1 : Int32) (q : Int32) (hf : fX10_geese a1 σ = some q) : CT l yX10_geese cX10_geese 3 (some .int) 1 E σ [.ref (eA E 0), .int a1] (some (.int q)) σ := by
  refine CT.of RX10 [some (.ref (eA E 0)), some (.int a1), none] rfl (by decide +kernel) (Nat.le_of_ble_eq_true rfl) rfl ?_
  intro p e s m args below meth c cx
  unfold fX10_geese at hf
  have j30 : ∀  (σ : Sg), fX10_geese_J30  σ = some q → WA p l e (rmd 1) s m args below meth c 3 E 0 0 (MQ below (Qcq E s.heap.size (some (.int q)) σ) args s 0 0 (AE E s.heap.size)) 30 [none, none, none] [] σ := by
    intro  σ hf
    unfold fX10_geese_J30 at hf
    refine wa_ldc (pc := 30) (v := (-1000001)) cx dX10_geese_30 tw_353 ?_
    obtain rfl := Option.some.inj hf
    exact wa_iret (pc := 32) cx dX10_geese_32
  have l35 : ∀ (v1 : Int32) (σ : Sg) (y : Int32) (o : Int32), lpO (fun w => fX10_geese_B35 v1 w σ) FUEL y = some o → (WA p l e (rmd 1) s m args below meth c 3 E 0 0 (MQ below (Qcq E s.heap.size (some (.int q)) σ) args s 0 0 (AE E s.heap.size)) 57 [none, none, some (.int o)] [] σ) → WA p l e (rmd 1) s m args below meth c 3 E 0 0 (MQ below (Qcq E s.heap.size (some (.int q)) σ) args s 0 0 (AE E s.heap.size)) 35 [none, some (.int v1), some (.int y)] [] σ := by
    intro v1 σ y o hf hk
    refine lp_rule (P := fun y => WA p l e (rmd 1) s m args below meth c 3 E 0 0 (MQ below (Qcq E s.heap.size (some (.int q)) σ) args s 0 0 (AE E s.heap.size)) 35 [none, some (.int v1), some (.int y)] [] σ) (K := fun o => WA p l e (rmd 1) s m args below meth c 3 E 0 0 (MQ below (Qcq E s.heap.size (some (.int q)) σ) args s 0 0 (AE E s.heap.size)) 57 [none, none, some (.int o)] [] σ) ?_ FUEL y o hf hk
    intro v2 r1 hf hk1
    have hf : fX10_geese_B35 v1 v2 σ = some r1 := hf
    unfold fX10_geese_B35 at hf
    refine wa_iload_n (pc := 35) cx 2 dX10_geese_35 rfl rfl ?_
    refine wa_bipush (pc := 36) (v := 9) cx dX10_geese_36 (by decide) ?_
    refine wa_icmp_ge (pc := 38) cx 57 dX10_geese_38 rfl (fun c4 => ?_) (fun c4 => ?_)
    · have hf := (if_pos c4).symm.trans hf
      obtain rfl := Option.some.inj hf
      refine wa_forget [false, false, true] [none, none, some (.int v2)] rfl ?_
      exact hk1
    · have hf := (if_neg c4).symm.trans hf
      refine wa_iconst (pc := 41) (v := 1) cx dX10_geese_41 (by decide) ?_
      refine wa_iload_n (pc := 42) cx 2 dX10_geese_42 rfl rfl ?_
      refine wa_ishl (pc := 43) cx dX10_geese_43 ?_
      refine wa_iload_n (pc := 44) cx 1 dX10_geese_44 rfl rfl ?_
      obtain ⟨q5, h6, hf⟩ := bd_some hf
      refine wa_callSi (pc := 45) cx [.int v1] (ct_J6_bitCount_0f7a4 l E _ _ _ h6) ms_J6_bitCount_0f7a4 tw_764 rfl rfl (Nat.le_of_ble_eq_true rfl) ⟨Nat.le_of_ble_eq_true rfl, Nat.le_of_ble_eq_true rfl⟩ ⟨Nat.zero_le _, Nat.zero_le _⟩ dX10_geese_45 ?_
      refine wa_icmp_ge (pc := 48) cx 57 dX10_geese_48 rfl (fun c7 => ?_) (fun c7 => ?_)
      · have hf := (if_pos c7).symm.trans hf
        obtain rfl := Option.some.inj hf
        refine wa_forget [false, false, true] [none, none, some (.int v2)] rfl ?_
        exact hk1
      · have hf := (if_neg c7).symm.trans hf
        refine wa_iinc (pc := 51) (v := 1) cx 2 [none, some (.int v1), some (.int (v2 + 1))] dX10_geese_51 (by decide) rfl (by decide) rfl rfl ?_
        refine wa_goto (pc := 54) cx 35 dX10_geese_54 rfl ?_
        obtain rfl := Option.some.inj hf
        refine wa_forget [false, true, true] [none, some (.int v1), some (.int (v2 + 1))] rfl ?_
        exact hk1
  refine wa_aload_n (pc := 0) cx 0 dX10_geese_0 rfl rfl ?_
  refine wa_getR (pc := 1) cx fl_X10_26 lk_0 rfl (cx.bl 0 rfl) dX10_geese_1 ?_
  refine wa_getI (pc := 4) cx fl_X10_170 lk_8 rfl (cx.bl 8 rfl) dX10_geese_4 ?_
  refine wa_if_ne (pc := 7) cx 13 dX10_geese_7 rfl (fun c1 => ?_) (fun c1 => ?_)
  · have hf := (if_neg c1).symm.trans hf
    refine wa_iload_n (pc := 13) cx 1 dX10_geese_13 rfl rfl ?_
    refine wa_if_le (pc := 14) cx 30 dX10_geese_14 rfl (fun c2 => ?_) (fun c2 => ?_)
    · have hf := (if_pos c2).symm.trans hf
      refine wa_forget [false, false, false] [none, none, none] rfl ?_
      exact j30  _ hf
    · have hf := (if_neg c2).symm.trans hf
      refine wa_iload_n (pc := 17) cx 1 dX10_geese_17 rfl rfl ?_
      refine wa_iconst (pc := 18) (v := 1) cx dX10_geese_18 (by decide) ?_
      refine wa_aload_n (pc := 19) cx 0 dX10_geese_19 rfl rfl ?_
      refine wa_getR (pc := 20) cx fl_X10_26 lk_0 rfl (cx.bl 0 rfl) dX10_geese_20 ?_
      refine wa_getI (pc := 23) cx fl_X10_153 lk_8 rfl (cx.bl 8 rfl) dX10_geese_23 ?_
      refine wa_ishl (pc := 26) cx dX10_geese_26 ?_
      refine wa_icmp_lt (pc := 27) cx 33 dX10_geese_27 rfl (fun c3 => ?_) (fun c3 => ?_)
      · have hf := (if_pos c3).symm.trans hf
        refine wa_iconst (pc := 33) (v := 0) cx dX10_geese_33 (by decide) ?_
        refine wa_istore_n (pc := 34) cx 2 [some (.ref (eA E 0)), some (.int a1), some (.int 0)] dX10_geese_34 rfl (by decide) rfl rfl ?_
        refine wa_forget [false, true, true] [none, some (.int a1), some (.int 0)] rfl ?_
        obtain ⟨o8, h9, hf⟩ := bd_some hf
        refine l35 _ _ _ _ h9 ?_
        refine wa_iload_n (pc := 57) cx 2 dX10_geese_57 rfl rfl ?_
        obtain rfl := Option.some.inj hf
        exact wa_iret (pc := 58) cx dX10_geese_58
      · have hf := (if_neg c3).symm.trans hf
        refine wa_forget [false, false, false] [none, none, none] rfl ?_
        exact j30  _ hf
  · have hf := (if_pos c1).symm.trans hf
    refine wa_ldc (pc := 10) (v := (-1000002)) cx dX10_geese_10 tw_579 ?_
    obtain rfl := Option.some.inj hf
    exact wa_iret (pc := 12) cx dX10_geese_12
def fX10_fathoms_J15  (σ : Sg) : Option (Int32) :=
  some (-1000001)
def fX10_fathoms_J74 (v1 : Int32) (v2 : Int32) (v3 : Int32) (σ : Sg) : Option ((Int32 × Int32) ⊕ (Int32)) :=
  some (.inl (v2, (v3 + 1)))
def fX10_fathoms_B22 (v1 : Int32) (v2 : Int32) (v3 : Int32) (σ : Sg) : Option ((Int32 × Int32) ⊕ (Int32)) :=
  if gf σ 8 4 ≤ v3 then (some (.inr v2)) else (gd (inb v3 9) (
  if ga σ 12 v3 = v1 then (gd (inb (9 + v3) 36) (
  if ga σ 14 (9 + v3) = 1 then (gd (inb v3 9) (
  fX10_fathoms_J74 v1 (v2 + ga σ 13 v3) v3 σ)) else (fX10_fathoms_J74 v1 v2 v3 σ))) else (fX10_fathoms_J74 v1 v2 v3 σ)))
def fX10_fathoms (a1 : Int32) (σ : Sg) : Option (Int32) :=
  if a1 < 0 then (fX10_fathoms_J15  σ) else (if a1 < gf σ 8 3 then ((lpO (fun w => fX10_fathoms_B22 a1 w.1 w.2 σ) FUEL (0, 0)).bind (fun o9 =>
  some o9)) else (fX10_fathoms_J15  σ))
set_option maxHeartbeats 4000000 in
set_option maxRecDepth 100000 in
theorem ct_X10_fathoms (l : Launch) (E : En) (σ : Sg) (a1 : Int32) (q : Int32) (hf : fX10_fathoms a1 σ = some q) : CT l yX10_fathoms cX10_fathoms 4 (some .int) 0 E σ [.ref (eA E 0), .int a1] (some (.int q)) σ := by
  refine CT.of RX10 [some (.ref (eA E 0)), some (.int a1), none, none] rfl (by decide +kernel) (Nat.le_of_ble_eq_true rfl) rfl ?_
  intro p e s m args below meth c cx
  unfold fX10_fathoms at hf
  have j15 : ∀  (σ : Sg), fX10_fathoms_J15  σ = some q → WA p l e (rmd 0) s m args below meth c 4 E 0 0 (MQ below (Qcq E s.heap.size (some (.int q)) σ) args s 0 0 (AE E s.heap.size)) 15 [none, none, none, none] [] σ := by
    intro  σ hf
    unfold fX10_fathoms_J15 at hf
    refine wa_ldc (pc := 15) (v := (-1000001)) cx dX10_fathoms_15 tw_353 ?_
    obtain rfl := Option.some.inj hf
    exact wa_iret (pc := 17) cx dX10_fathoms_17
  have l22 : ∀ (v1 : Int32) (σ : Sg) (y : Int32 × Int32) (o : Int32), lpO (fun w => fX10_fathoms_B22 v1 w.1 w.2 σ) FUEL y = some o → (WA p l e (rmd 0) s m args below meth c 4 E 0 0 (MQ below (Qcq E s.heap.size (some (.int q)) σ) args s 0 0 (AE E s.heap.size)) 80 [none, none, some (.int o), none] [] σ) → WA p l e (rmd 0) s m args below meth c 4 E 0 0 (MQ below (Qcq E s.heap.size (some (.int q)) σ) args s 0 0 (AE E s.heap.size)) 22 [some (.ref (eA E 0)), some (.int v1), some (.int y.1), some (.int y.2)] [] σ := by
    intro v1 σ y o hf hk
    refine lp_rule (P := fun y => WA p l e (rmd 0) s m args below meth c 4 E 0 0 (MQ below (Qcq E s.heap.size (some (.int q)) σ) args s 0 0 (AE E s.heap.size)) 22 [some (.ref (eA E 0)), some (.int v1), some (.int y.1), some (.int y.2)] [] σ) (K := fun o => WA p l e (rmd 0) s m args below meth c 4 E 0 0 (MQ below (Qcq E s.heap.size (some (.int q)) σ) args s 0 0 (AE E s.heap.size)) 80 [none, none, some (.int o), none] [] σ) ?_ FUEL y o hf hk
    have j74 : ∀ (v1 : Int32) (v2 : Int32) (v3 : Int32) (σ : Sg) (r1 : (Int32 × Int32) ⊕ (Int32)), fX10_fathoms_J74 v1 v2 v3 σ = some r1 → (sel (fun y1 => WA p l e (rmd 0) s m args below meth c 4 E 0 0 (MQ below (Qcq E s.heap.size (some (.int q)) σ) args s 0 0 (AE E s.heap.size)) 22 [some (.ref (eA E 0)), some (.int v1), some (.int y1.1), some (.int y1.2)] [] σ) (fun y1 => WA p l e (rmd 0) s m args below meth c 4 E 0 0 (MQ below (Qcq E s.heap.size (some (.int q)) σ) args s 0 0 (AE E s.heap.size)) 80 [none, none, some (.int y1), none] [] σ) r1) → WA p l e (rmd 0) s m args below meth c 4 E 0 0 (MQ below (Qcq E s.heap.size (some (.int q)) σ) args s 0 0 (AE E s.heap.size)) 74 [some (.ref (eA E 0)), some (.int v1), some (.int v2), some (.int v3)] [] σ := by
      intro v1 v2 v3 σ r1 hf hk1
      unfold fX10_fathoms_J74 at hf
      refine wa_iinc (pc := 74) (v := 1) cx 3 [some (.ref (eA E 0)), some (.int v1), some (.int v2), some (.int (v3 + 1))] dX10_fathoms_74 (by decide) rfl (by decide) rfl rfl ?_
      refine wa_goto (pc := 77) cx 22 dX10_fathoms_77 rfl ?_
      obtain rfl := Option.some.inj hf
      refine wa_forget [true, true, true, true] [some (.ref (eA E 0)), some (.int v1), some (.int v2), some (.int (v3 + 1))] rfl ?_
      exact hk1
    intro y0 r1 hf hk1
    obtain ⟨v2, v3⟩ := y0
    have hf : fX10_fathoms_B22 v1 v2 v3 σ = some r1 := hf
    unfold fX10_fathoms_B22 at hf
    refine wa_iload_n (pc := 22) cx 3 dX10_fathoms_22 rfl rfl ?_
    refine wa_aload_n (pc := 23) cx 0 dX10_fathoms_23 rfl rfl ?_
    refine wa_getR (pc := 24) cx fl_X10_26 lk_0 rfl (cx.bl 0 rfl) dX10_fathoms_24 ?_
    refine wa_getI (pc := 27) cx fl_X10_153 lk_8 rfl (cx.bl 8 rfl) dX10_fathoms_27 ?_
    refine wa_icmp_ge (pc := 30) cx 80 dX10_fathoms_30 rfl (fun c3 => ?_) (fun c3 => ?_)
    · have hf := (if_pos c3).symm.trans hf
      obtain rfl := Option.some.inj hf
      refine wa_forget [false, false, true, false] [none, none, some (.int v2), none] rfl ?_
      exact hk1
    · have hf := (if_neg c3).symm.trans hf
      refine wa_aload_n (pc := 33) cx 0 dX10_fathoms_33 rfl rfl ?_
      refine wa_getR (pc := 34) cx fl_X10_26 lk_0 rfl (cx.bl 0 rfl) dX10_fathoms_34 ?_
      refine wa_getR (pc := 37) cx fl_X10_214 lk_8 rfl (cx.bl 8 rfl) dX10_fathoms_37 ?_
      refine wa_iload_n (pc := 40) cx 3 dX10_fathoms_40 rfl rfl ?_
      obtain ⟨g4, hf⟩ := gd_some hf
      refine wa_iald (pc := 41) cx lk_12 (cx.bl 12 rfl) g4 dX10_fathoms_41 ?_
      refine wa_iload_n (pc := 42) cx 1 dX10_fathoms_42 rfl rfl ?_
      refine wa_icmp_ne (pc := 43) cx 74 dX10_fathoms_43 rfl (fun c5 => ?_) (fun c5 => ?_)
      · have hf := (if_neg c5).symm.trans hf
        exact j74 _ _ _ _ _ hf hk1
      · have hf := (if_pos c5).symm.trans hf
        refine wa_aload_n (pc := 46) cx 0 dX10_fathoms_46 rfl rfl ?_
        refine wa_getR (pc := 47) cx fl_X10_26 lk_0 rfl (cx.bl 0 rfl) dX10_fathoms_47 ?_
        refine wa_getR (pc := 50) cx fl_X10_162 lk_8 rfl (cx.bl 8 rfl) dX10_fathoms_50 ?_
        refine wa_bipush (pc := 53) (v := 9) cx dX10_fathoms_53 (by decide) ?_
        refine wa_iload_n (pc := 55) cx 3 dX10_fathoms_55 rfl rfl ?_
        refine wa_iadd (pc := 56) cx dX10_fathoms_56 ?_
        obtain ⟨g6, hf⟩ := gd_some hf
        refine wa_iald (pc := 57) cx lk_14 (cx.bl 14 rfl) g6 dX10_fathoms_57 ?_
        refine wa_iconst (pc := 58) (v := 1) cx dX10_fathoms_58 (by decide) ?_
        refine wa_icmp_ne (pc := 59) cx 74 dX10_fathoms_59 rfl (fun c7 => ?_) (fun c7 => ?_)
        · have hf := (if_neg c7).symm.trans hf
          exact j74 _ _ _ _ _ hf hk1
        · have hf := (if_pos c7).symm.trans hf
          refine wa_iload_n (pc := 62) cx 2 dX10_fathoms_62 rfl rfl ?_
          refine wa_aload_n (pc := 63) cx 0 dX10_fathoms_63 rfl rfl ?_
          refine wa_getR (pc := 64) cx fl_X10_26 lk_0 rfl (cx.bl 0 rfl) dX10_fathoms_64 ?_
          refine wa_getR (pc := 67) cx fl_X10_217 lk_8 rfl (cx.bl 8 rfl) dX10_fathoms_67 ?_
          refine wa_iload_n (pc := 70) cx 3 dX10_fathoms_70 rfl rfl ?_
          obtain ⟨g8, hf⟩ := gd_some hf
          refine wa_iald (pc := 71) cx lk_13 (cx.bl 13 rfl) g8 dX10_fathoms_71 ?_
          refine wa_iadd (pc := 72) cx dX10_fathoms_72 ?_
          refine wa_istore_n (pc := 73) cx 2 [some (.ref (eA E 0)), some (.int v1), some (.int (v2 + ga σ 13 v3)), some (.int v3)] dX10_fathoms_73 rfl (by decide) rfl rfl ?_
          exact j74 _ _ _ _ _ hf hk1
  refine wa_iload_n (pc := 0) cx 1 dX10_fathoms_0 rfl rfl ?_
  refine wa_if_lt (pc := 1) cx 15 dX10_fathoms_1 rfl (fun c1 => ?_) (fun c1 => ?_)
  · have hf := (if_pos c1).symm.trans hf
    refine wa_forget [false, false, false, false] [none, none, none, none] rfl ?_
    exact j15  _ hf
  · have hf := (if_neg c1).symm.trans hf
    refine wa_iload_n (pc := 4) cx 1 dX10_fathoms_4 rfl rfl ?_
    refine wa_aload_n (pc := 5) cx 0 dX10_fathoms_5 rfl rfl ?_
    refine wa_getR (pc := 6) cx fl_X10_26 lk_0 rfl (cx.bl 0 rfl) dX10_fathoms_6 ?_
    refine wa_getI (pc := 9) cx fl_X10_266 lk_8 rfl (cx.bl 8 rfl) dX10_fathoms_9 ?_
    refine wa_icmp_lt (pc := 12) cx 18 dX10_fathoms_12 rfl (fun c2 => ?_) (fun c2 => ?_)
    · have hf := (if_pos c2).symm.trans hf
      refine wa_iconst (pc := 18) (v := 0) cx dX10_fathoms_18 (by decide) ?_
      refine wa_istore_n (pc := 19) cx 2 [some (.ref (eA E 0)), some (.int a1), some (.int 0), none] dX10_fathoms_19 rfl (by decide) rfl rfl ?_
      refine wa_iconst (pc := 20) (v := 0) cx dX10_fathoms_20 (by decide) ?_
      refine wa_istore_n (pc := 21) cx 3 [some (.ref (eA E 0)), some (.int a1), some (.int 0), some (.int 0)] dX10_fathoms_21 rfl (by decide) rfl rfl ?_
      obtain ⟨o9, h10, hf⟩ := bd_some hf
      refine l22 _ _ _ _ h10 ?_
      refine wa_iload_n (pc := 80) cx 2 dX10_fathoms_80 rfl rfl ?_
      obtain rfl := Option.some.inj hf
      exact wa_iret (pc := 81) cx dX10_fathoms_81
    · have hf := (if_neg c2).symm.trans hf
      refine wa_forget [false, false, false, false] [none, none, none, none] rfl ?_
      exact j15  _ hf
def fX10_kind (a1 : Int32) (σ : Sg) : Option (Int32) :=
  (fX9_hasYarn a1 σ).bind (fun q1 =>
  if q1 = 0 then (some (-1000001)) else (gd (inb a1 9) (
  some (ga σ 11 a1))))
set_option maxHeartbeats 4000000 in
set_option maxRecDepth 100000 in
theorem ct_X10_kind (l : Launch) (E : En) (σ : Sg) (a1 : Int32) (q : Int32) (hf : fX10_kind a1 σ = some q) : CT l yX10_kind cX10_kind 2 (some .int) 1 E σ [.ref (eA E 0), .int a1] (some (.int q)) σ := by
  refine CT.of RX10 [some (.ref (eA E 0)), some (.int a1)] rfl (by decide +kernel) (Nat.le_of_ble_eq_true rfl) rfl ?_
  intro p e s m args below meth c cx
  unfold fX10_kind at hf
  refine wa_aload_n (pc := 0) cx 0 dX10_kind_0 rfl rfl ?_
  refine wa_getR (pc := 1) cx fl_X10_26 lk_0 rfl (cx.bl 0 rfl) dX10_kind_1 ?_
  refine wa_iload_n (pc := 4) cx 1 dX10_kind_4 rfl rfl ?_
  obtain ⟨q1, h2, hf⟩ := bd_some hf
  refine wa_callVi (pc := 5) cx [.int a1] (ct_X9_hasYarn l E _ _ _ h2) mi_X9_hasYarn tw_563 lk_8 rfl (cx.bl 8 rfl) rfl rfl (Nat.le_of_ble_eq_true rfl) ⟨Nat.le_of_ble_eq_true rfl, Nat.le_of_ble_eq_true rfl⟩ ⟨Nat.zero_le _, Nat.zero_le _⟩ dX10_kind_5 ?_
  refine wa_if_eq (pc := 8) cx 23 dX10_kind_8 rfl (fun c3 => ?_) (fun c3 => ?_)
  · have hf := (if_pos c3).symm.trans hf
    refine wa_ldc (pc := 23) (v := (-1000001)) cx dX10_kind_23 tw_353 ?_
    obtain rfl := Option.some.inj hf
    exact wa_iret (pc := 25) cx dX10_kind_25
  · have hf := (if_neg c3).symm.trans hf
    refine wa_aload_n (pc := 11) cx 0 dX10_kind_11 rfl rfl ?_
    refine wa_getR (pc := 12) cx fl_X10_26 lk_0 rfl (cx.bl 0 rfl) dX10_kind_12 ?_
    refine wa_getR (pc := 15) cx fl_X10_197 lk_8 rfl (cx.bl 8 rfl) dX10_kind_15 ?_
    refine wa_iload_n (pc := 18) cx 1 dX10_kind_18 rfl rfl ?_
    obtain ⟨g4, hf⟩ := gd_some hf
    refine wa_iald (pc := 19) cx lk_11 (cx.bl 11 rfl) g4 dX10_kind_19 ?_
    refine wa_goto (pc := 20) cx 25 dX10_kind_20 rfl ?_
    obtain rfl := Option.some.inj hf
    exact wa_iret (pc := 25) cx dX10_kind_25
def fX10_as_J20  (σ : Sg) : Option (Int32 × Sg) :=
  some ((-1000001), σ)
def fX10_as (a1 : Int32) (a2 : Int32) (σ : Sg) : Option (Int32 × Sg) :=
  (fX9_hasYarn a1 σ).bind (fun q1 =>
  if q1 = 0 then (fX10_as_J20  σ) else (if a2 < 0 then (fX10_as_J20  σ) else (if a2 ≤ 5 then (gd (inb a1 9) (
  (fX4_isOne (ga σ 11 a1) a2 σ).bind (fun q7 =>
  if q7 = 0 then ((fX10_found 3 σ).bind (fun q10 =>
  some (q10.1, q10.2))) else ((fX10_foundNothing a1 σ).bind (fun q12 =>
  some (q12.1, q12.2)))))) else (fX10_as_J20  σ))))
set_option maxHeartbeats 4000000 in
set_option maxRecDepth 100000 in
theorem ct_X10_as (l : Launch) (E : En) (σ : Sg) (a1 : Int32) (a2 : Int32) (q : Int32 × Sg) (hf : fX10_as a1 a2 σ = some q) : CT l yX10_as cX10_as 3 (some .int) 1 E σ [.ref (eA E 0), .int a1, .int a2] (some (.int q.1)) q.2 := by
  refine CT.of RX10 [some (.ref (eA E 0)), some (.int a1), some (.int a2)] rfl (by decide +kernel) (Nat.le_of_ble_eq_true rfl) rfl ?_
  intro p e s m args below meth c cx
  unfold fX10_as at hf
  have j20 : ∀  (σ : Sg), fX10_as_J20  σ = some q → WA p l e (rmd 1) s m args below meth c 3 E 0 0 (MQ below (Qcq E s.heap.size (some (.int q.1)) q.2) args s 0 0 (AE E s.heap.size)) 20 [none, none, none] [] σ := by
    intro  σ hf
    unfold fX10_as_J20 at hf
    refine wa_ldc (pc := 20) (v := (-1000001)) cx dX10_as_20 tw_353 ?_
    obtain rfl := Option.some.inj hf
    exact wa_iret (pc := 22) cx dX10_as_22
  refine wa_aload_n (pc := 0) cx 0 dX10_as_0 rfl rfl ?_
  refine wa_getR (pc := 1) cx fl_X10_26 lk_0 rfl (cx.bl 0 rfl) dX10_as_1 ?_
  refine wa_iload_n (pc := 4) cx 1 dX10_as_4 rfl rfl ?_
  obtain ⟨q1, h2, hf⟩ := bd_some hf
  refine wa_callVi (pc := 5) cx [.int a1] (ct_X9_hasYarn l E _ _ _ h2) mi_X9_hasYarn tw_563 lk_8 rfl (cx.bl 8 rfl) rfl rfl (Nat.le_of_ble_eq_true rfl) ⟨Nat.le_of_ble_eq_true rfl, Nat.le_of_ble_eq_true rfl⟩ ⟨Nat.zero_le _, Nat.zero_le _⟩ dX10_as_5 ?_
  refine wa_if_eq (pc := 8) cx 20 dX10_as_8 rfl (fun c3 => ?_) (fun c3 => ?_)
  · have hf := (if_pos c3).symm.trans hf
    refine wa_forget [false, false, false] [none, none, none] rfl ?_
    exact j20  _ hf
  · have hf := (if_neg c3).symm.trans hf
    refine wa_iload_n (pc := 11) cx 2 dX10_as_11 rfl rfl ?_
    refine wa_if_lt (pc := 12) cx 20 dX10_as_12 rfl (fun c4 => ?_) (fun c4 => ?_)
    · have hf := (if_pos c4).symm.trans hf
      refine wa_forget [false, false, false] [none, none, none] rfl ?_
      exact j20  _ hf
    · have hf := (if_neg c4).symm.trans hf
      refine wa_iload_n (pc := 15) cx 2 dX10_as_15 rfl rfl ?_
      refine wa_iconst (pc := 16) (v := 5) cx dX10_as_16 (by decide) ?_
      refine wa_icmp_le (pc := 17) cx 23 dX10_as_17 rfl (fun c5 => ?_) (fun c5 => ?_)
      · have hf := (if_pos c5).symm.trans hf
        refine wa_aload_n (pc := 23) cx 0 dX10_as_23 rfl rfl ?_
        refine wa_getR (pc := 24) cx fl_X10_26 lk_0 rfl (cx.bl 0 rfl) dX10_as_24 ?_
        refine wa_getR (pc := 27) cx fl_X10_197 lk_8 rfl (cx.bl 8 rfl) dX10_as_27 ?_
        refine wa_iload_n (pc := 30) cx 1 dX10_as_30 rfl rfl ?_
        obtain ⟨g6, hf⟩ := gd_some hf
        refine wa_iald (pc := 31) cx lk_11 (cx.bl 11 rfl) g6 dX10_as_31 ?_
        refine wa_iload_n (pc := 32) cx 2 dX10_as_32 rfl rfl ?_
        obtain ⟨q7, h8, hf⟩ := bd_some hf
        refine wa_callSi (pc := 33) cx [.int (ga σ 11 a1), .int a2] (ct_X4_isOne l E _ _ _ _ h8) ms_X4_isOne tw_790 rfl rfl (Nat.le_of_ble_eq_true rfl) ⟨Nat.le_of_ble_eq_true rfl, Nat.le_of_ble_eq_true rfl⟩ ⟨Nat.zero_le _, Nat.zero_le _⟩ dX10_as_33 ?_
        refine wa_if_eq (pc := 36) cx 47 dX10_as_36 rfl (fun c9 => ?_) (fun c9 => ?_)
        · have hf := (if_pos c9).symm.trans hf
          refine wa_aload_n (pc := 47) cx 0 dX10_as_47 rfl rfl ?_
          refine wa_iconst (pc := 48) (v := 3) cx dX10_as_48 (by decide) ?_
          obtain ⟨q10, h11, hf⟩ := bd_some hf
          refine wa_callVi (pc := 49) cx [.int 3] (ct_X10_found l E _ _ _ h11) mi_X10_found tw_354 lk_0 rfl (cx.bl 0 rfl) rfl rfl (Nat.le_of_ble_eq_true rfl) ⟨Nat.le_of_ble_eq_true rfl, Nat.le_of_ble_eq_true rfl⟩ ⟨Nat.zero_le _, Nat.zero_le _⟩ dX10_as_49 ?_
          obtain rfl := Option.some.inj hf
          exact wa_iret (pc := 52) cx dX10_as_52
        · have hf := (if_neg c9).symm.trans hf
          refine wa_aload_n (pc := 39) cx 0 dX10_as_39 rfl rfl ?_
          refine wa_iload_n (pc := 40) cx 1 dX10_as_40 rfl rfl ?_
          obtain ⟨q12, h13, hf⟩ := bd_some hf
          refine wa_callVi (pc := 41) cx [.int a1] (ct_X10_foundNothing l E _ _ _ h13) mi_X10_foundNothing tw_363 lk_0 rfl (cx.bl 0 rfl) rfl rfl (Nat.le_of_ble_eq_true rfl) ⟨Nat.le_of_ble_eq_true rfl, Nat.le_of_ble_eq_true rfl⟩ ⟨Nat.zero_le _, Nat.zero_le _⟩ dX10_as_41 ?_
          refine wa_goto (pc := 44) cx 52 dX10_as_44 rfl ?_
          obtain rfl := Option.some.inj hf
          exact wa_iret (pc := 52) cx dX10_as_52
      · have hf := (if_neg c5).symm.trans hf
        refine wa_forget [false, false, false] [none, none, none] rfl ?_
        exact j20  _ hf
def fX10_ask_J20  (σ : Sg) : Option (Int32 × Sg) :=
  some ((-1000001), σ)
def fX10_ask (a1 : Int32) (a2 : Int32) (σ : Sg) : Option (Int32 × Sg) :=
  (fX9_hasYarn a1 σ).bind (fun q1 =>
  if q1 = 0 then (fX10_ask_J20  σ) else (if a2 < 0 then (fX10_ask_J20  σ) else (if a2 ≤ 1 then ((fX1_answer a1 a2 σ).bind (fun q6 =>
  some (q6.1, q6.2))) else (fX10_ask_J20  σ))))
set_option maxHeartbeats 4000000 in
set_option maxRecDepth 100000 in
theorem ct_X10_ask (l : Launch) (E : En) (σ : Sg) (a1 : Int32) (a2 : Int32) (q : Int32 × Sg) (hf : fX10_ask a1 a2 σ = some q) : CT l yX10_ask cX10_ask 3 (some .int) 33 E σ [.ref (eA E 0), .int a1, .int a2] (some (.int q.1)) q.2 := by
  refine CT.of RX10 [some (.ref (eA E 0)), some (.int a1), some (.int a2)] rfl (by decide +kernel) (Nat.le_of_ble_eq_true rfl) rfl ?_
  intro p e s m args below meth c cx
  unfold fX10_ask at hf
  have j20 : ∀  (σ : Sg), fX10_ask_J20  σ = some q → WA p l e (rmd 33) s m args below meth c 3 E 0 0 (MQ below (Qcq E s.heap.size (some (.int q.1)) q.2) args s 0 0 (AE E s.heap.size)) 20 [none, none, none] [] σ := by
    intro  σ hf
    unfold fX10_ask_J20 at hf
    refine wa_ldc (pc := 20) (v := (-1000001)) cx dX10_ask_20 tw_353 ?_
    obtain rfl := Option.some.inj hf
    exact wa_iret (pc := 22) cx dX10_ask_22
  refine wa_aload_n (pc := 0) cx 0 dX10_ask_0 rfl rfl ?_
  refine wa_getR (pc := 1) cx fl_X10_26 lk_0 rfl (cx.bl 0 rfl) dX10_ask_1 ?_
  refine wa_iload_n (pc := 4) cx 1 dX10_ask_4 rfl rfl ?_
  obtain ⟨q1, h2, hf⟩ := bd_some hf
  refine wa_callVi (pc := 5) cx [.int a1] (ct_X9_hasYarn l E _ _ _ h2) mi_X9_hasYarn tw_563 lk_8 rfl (cx.bl 8 rfl) rfl rfl (Nat.le_of_ble_eq_true rfl) ⟨Nat.le_of_ble_eq_true rfl, Nat.le_of_ble_eq_true rfl⟩ ⟨Nat.zero_le _, Nat.zero_le _⟩ dX10_ask_5 ?_
  refine wa_if_eq (pc := 8) cx 20 dX10_ask_8 rfl (fun c3 => ?_) (fun c3 => ?_)
  · have hf := (if_pos c3).symm.trans hf
    refine wa_forget [false, false, false] [none, none, none] rfl ?_
    exact j20  _ hf
  · have hf := (if_neg c3).symm.trans hf
    refine wa_iload_n (pc := 11) cx 2 dX10_ask_11 rfl rfl ?_
    refine wa_if_lt (pc := 12) cx 20 dX10_ask_12 rfl (fun c4 => ?_) (fun c4 => ?_)
    · have hf := (if_pos c4).symm.trans hf
      refine wa_forget [false, false, false] [none, none, none] rfl ?_
      exact j20  _ hf
    · have hf := (if_neg c4).symm.trans hf
      refine wa_iload_n (pc := 15) cx 2 dX10_ask_15 rfl rfl ?_
      refine wa_iconst (pc := 16) (v := 1) cx dX10_ask_16 (by decide) ?_
      refine wa_icmp_le (pc := 17) cx 23 dX10_ask_17 rfl (fun c5 => ?_) (fun c5 => ?_)
      · have hf := (if_pos c5).symm.trans hf
        refine wa_aload_n (pc := 23) cx 0 dX10_ask_23 rfl rfl ?_
        refine wa_getR (pc := 24) cx fl_X10_68 lk_0 rfl (cx.bl 0 rfl) dX10_ask_24 ?_
        refine wa_aload_n (pc := 27) cx 0 dX10_ask_27 rfl rfl ?_
        refine wa_getR (pc := 28) cx fl_X10_26 lk_0 rfl (cx.bl 0 rfl) dX10_ask_28 ?_
        refine wa_iload_n (pc := 31) cx 1 dX10_ask_31 rfl rfl ?_
        refine wa_iload_n (pc := 32) cx 2 dX10_ask_32 rfl rfl ?_
        obtain ⟨q6, h7, hf⟩ := bd_some hf
        refine wa_callVi (pc := 33) cx [.ref (eA E 8), .int a1, .int a2] (ct_X1_answer l E _ _ _ _ h7) mi_X1_answer tw_799 lk_36 rfl (cx.bl 36 rfl) rfl rfl (Nat.le_of_ble_eq_true rfl) ⟨Nat.le_of_ble_eq_true rfl, Nat.le_of_ble_eq_true rfl⟩ ⟨Nat.zero_le _, Nat.zero_le _⟩ dX10_ask_33 ?_
        obtain rfl := Option.some.inj hf
        exact wa_iret (pc := 36) cx dX10_ask_36
      · have hf := (if_neg c5).symm.trans hf
        refine wa_forget [false, false, false] [none, none, none] rfl ?_
        exact j20  _ hf
def fX10_trace_J27  (σ : Sg) : Option (Int32) :=
  some (-1000000)
def fX10_trace (a1 : Int32) (σ : Sg) : Option (Int32) :=
  if a1 < 0 then (fX10_trace_J27  σ) else (if gf σ 36 1 ≤ a1 then (fX10_trace_J27  σ) else (gd (inb a1 16) (
  some (ga σ 37 a1))))
set_option maxHeartbeats 4000000 in
set_option maxRecDepth 100000 in
theorem ct_X10_trace (l : Launch) (E : En) (σ : Sg) (a1 : Int32) (q : Int32) (hf : fX10_trace a1 σ = some q) : CT l yX10_trace cX10_trace 2 (some .int) 0 E σ [.ref (eA E 0), .int a1] (some (.int q)) σ := by
  refine CT.of RX10 [some (.ref (eA E 0)), some (.int a1)] rfl (by decide +kernel) (Nat.le_of_ble_eq_true rfl) rfl ?_
  intro p e s m args below meth c cx
  unfold fX10_trace at hf
  have j27 : ∀  (σ : Sg), fX10_trace_J27  σ = some q → WA p l e (rmd 0) s m args below meth c 2 E 0 0 (MQ below (Qcq E s.heap.size (some (.int q)) σ) args s 0 0 (AE E s.heap.size)) 27 [none, none] [] σ := by
    intro  σ hf
    unfold fX10_trace_J27 at hf
    refine wa_ldc (pc := 27) (v := (-1000000)) cx dX10_trace_27 tw_649 ?_
    obtain rfl := Option.some.inj hf
    exact wa_iret (pc := 29) cx dX10_trace_29
  refine wa_iload_n (pc := 0) cx 1 dX10_trace_0 rfl rfl ?_
  refine wa_if_lt (pc := 1) cx 27 dX10_trace_1 rfl (fun c1 => ?_) (fun c1 => ?_)
  · have hf := (if_pos c1).symm.trans hf
    refine wa_forget [false, false] [none, none] rfl ?_
    exact j27  _ hf
  · have hf := (if_neg c1).symm.trans hf
    refine wa_iload_n (pc := 4) cx 1 dX10_trace_4 rfl rfl ?_
    refine wa_aload_n (pc := 5) cx 0 dX10_trace_5 rfl rfl ?_
    refine wa_getR (pc := 6) cx fl_X10_68 lk_0 rfl (cx.bl 0 rfl) dX10_trace_6 ?_
    refine wa_getI (pc := 9) cx fl_X10_277 lk_36 rfl (cx.bl 36 rfl) dX10_trace_9 ?_
    refine wa_icmp_ge (pc := 12) cx 27 dX10_trace_12 rfl (fun c2 => ?_) (fun c2 => ?_)
    · have hf := (if_pos c2).symm.trans hf
      refine wa_forget [false, false] [none, none] rfl ?_
      exact j27  _ hf
    · have hf := (if_neg c2).symm.trans hf
      refine wa_aload_n (pc := 15) cx 0 dX10_trace_15 rfl rfl ?_
      refine wa_getR (pc := 16) cx fl_X10_68 lk_0 rfl (cx.bl 0 rfl) dX10_trace_16 ?_
      refine wa_getR (pc := 19) cx fl_X10_280 lk_36 rfl (cx.bl 36 rfl) dX10_trace_19 ?_
      refine wa_iload_n (pc := 22) cx 1 dX10_trace_22 rfl rfl ?_
      obtain ⟨g3, hf⟩ := gd_some hf
      refine wa_iald (pc := 23) cx lk_37 (cx.bl 37 rfl) g3 dX10_trace_23 ?_
      refine wa_goto (pc := 24) cx 29 dX10_trace_24 rfl ?_
      obtain rfl := Option.some.inj hf
      exact wa_iret (pc := 29) cx dX10_trace_29
def fX10_count (a1 : Int32) (σ : Sg) : Option (Int32) :=
  if a1 = 0 then ((fX7_howMany  σ).bind (fun q2 =>
  some q2)) else (if a1 = 1 then (some (gf σ 8 3)) else (if a1 = 2 then (some (gf σ 8 4)) else (if a1 = 3 then ((fX9_laidYarns  σ).bind (fun q7 =>
  some q7)) else (if a1 = 4 then (some (gf σ 23 2)) else (if a1 = 5 then ((fX9_brokenVows  σ).bind (fun q11 =>
  some q11)) else (if a1 = 6 then (some (gf σ 6 1)) else (some (-1000001))))))))
set_option maxHeartbeats 4000000 in
set_option maxRecDepth 100000 in
theorem ct_X10_count (l : Launch) (E : En) (σ : Sg) (a1 : Int32) (q : Int32) (hf : fX10_count a1 σ = some q) : CT l yX10_count cX10_count 2 (some .int) 2 E σ [.ref (eA E 0), .int a1] (some (.int q)) σ := by
  refine CT.of RX10 [some (.ref (eA E 0)), some (.int a1)] rfl (by decide +kernel) (Nat.le_of_ble_eq_true rfl) rfl ?_
  intro p e s m args below meth c cx
  unfold fX10_count at hf
  refine wa_iload_n (pc := 0) cx 1 dX10_count_0 rfl rfl ?_
  by_cases c1 : a1 = 0
  · have hf := (if_pos c1).symm.trans hf
    refine wa_tabIn (pc := 1) cx 44 dX10_count_1 (by rw [c1]; decide) (by rw [c1]; decide) (by rw [c1]; rfl) rfl ?_
    refine wa_aload_n (pc := 44) cx 0 dX10_count_44 rfl rfl ?_
    refine wa_getR (pc := 45) cx fl_X10_10 lk_0 rfl (cx.bl 0 rfl) dX10_count_45 ?_
    obtain ⟨q2, h3, hf⟩ := bd_some hf
    refine wa_callVi (pc := 48) cx [] (ct_X7_howMany l E _  _ h3) mi_X7_howMany tw_832 lk_1 rfl (cx.bl 1 rfl) rfl rfl (Nat.le_of_ble_eq_true rfl) ⟨Nat.le_of_ble_eq_true rfl, Nat.le_of_ble_eq_true rfl⟩ ⟨Nat.zero_le _, Nat.zero_le _⟩ dX10_count_48 ?_
    obtain rfl := Option.some.inj hf
    exact wa_iret (pc := 51) cx dX10_count_51
  · have hf := (if_neg c1).symm.trans hf
    by_cases c4 : a1 = 1
    · have hf := (if_pos c4).symm.trans hf
      refine wa_tabIn (pc := 1) cx 52 dX10_count_1 (by rw [c4]; decide) (by rw [c4]; decide) (by rw [c4]; rfl) rfl ?_
      refine wa_aload_n (pc := 52) cx 0 dX10_count_52 rfl rfl ?_
      refine wa_getR (pc := 53) cx fl_X10_26 lk_0 rfl (cx.bl 0 rfl) dX10_count_53 ?_
      refine wa_getI (pc := 56) cx fl_X10_266 lk_8 rfl (cx.bl 8 rfl) dX10_count_56 ?_
      obtain rfl := Option.some.inj hf
      exact wa_iret (pc := 59) cx dX10_count_59
    · have hf := (if_neg c4).symm.trans hf
      by_cases c5 : a1 = 2
      · have hf := (if_pos c5).symm.trans hf
        refine wa_tabIn (pc := 1) cx 60 dX10_count_1 (by rw [c5]; decide) (by rw [c5]; decide) (by rw [c5]; rfl) rfl ?_
        refine wa_aload_n (pc := 60) cx 0 dX10_count_60 rfl rfl ?_
        refine wa_getR (pc := 61) cx fl_X10_26 lk_0 rfl (cx.bl 0 rfl) dX10_count_61 ?_
        refine wa_getI (pc := 64) cx fl_X10_153 lk_8 rfl (cx.bl 8 rfl) dX10_count_64 ?_
        obtain rfl := Option.some.inj hf
        exact wa_iret (pc := 67) cx dX10_count_67
      · have hf := (if_neg c5).symm.trans hf
        by_cases c6 : a1 = 3
        · have hf := (if_pos c6).symm.trans hf
          refine wa_tabIn (pc := 1) cx 68 dX10_count_1 (by rw [c6]; decide) (by rw [c6]; decide) (by rw [c6]; rfl) rfl ?_
          refine wa_aload_n (pc := 68) cx 0 dX10_count_68 rfl rfl ?_
          refine wa_getR (pc := 69) cx fl_X10_26 lk_0 rfl (cx.bl 0 rfl) dX10_count_69 ?_
          obtain ⟨q7, h8, hf⟩ := bd_some hf
          refine wa_callVi (pc := 72) cx [] (ct_X9_laidYarns l E _  _ h8) mi_X9_laidYarns tw_837 lk_8 rfl (cx.bl 8 rfl) rfl rfl (Nat.le_of_ble_eq_true rfl) ⟨Nat.le_of_ble_eq_true rfl, Nat.le_of_ble_eq_true rfl⟩ ⟨Nat.zero_le _, Nat.zero_le _⟩ dX10_count_72 ?_
          obtain rfl := Option.some.inj hf
          exact wa_iret (pc := 75) cx dX10_count_75
        · have hf := (if_neg c6).symm.trans hf
          by_cases c9 : a1 = 4
          · have hf := (if_pos c9).symm.trans hf
            refine wa_tabIn (pc := 1) cx 76 dX10_count_1 (by rw [c9]; decide) (by rw [c9]; decide) (by rw [c9]; rfl) rfl ?_
            refine wa_aload_n (pc := 76) cx 0 dX10_count_76 rfl rfl ?_
            refine wa_getR (pc := 77) cx fl_X10_40 lk_0 rfl (cx.bl 0 rfl) dX10_count_77 ?_
            refine wa_getI (pc := 80) cx fl_X10_208 lk_23 rfl (cx.bl 23 rfl) dX10_count_80 ?_
            obtain rfl := Option.some.inj hf
            exact wa_iret (pc := 83) cx dX10_count_83
          · have hf := (if_neg c9).symm.trans hf
            by_cases c10 : a1 = 5
            · have hf := (if_pos c10).symm.trans hf
              refine wa_tabIn (pc := 1) cx 84 dX10_count_1 (by rw [c10]; decide) (by rw [c10]; decide) (by rw [c10]; rfl) rfl ?_
              refine wa_aload_n (pc := 84) cx 0 dX10_count_84 rfl rfl ?_
              refine wa_getR (pc := 85) cx fl_X10_26 lk_0 rfl (cx.bl 0 rfl) dX10_count_85 ?_
              obtain ⟨q11, h12, hf⟩ := bd_some hf
              refine wa_callVi (pc := 88) cx [] (ct_X9_brokenVows l E _  _ h12) mi_X9_brokenVows tw_841 lk_8 rfl (cx.bl 8 rfl) rfl rfl (Nat.le_of_ble_eq_true rfl) ⟨Nat.le_of_ble_eq_true rfl, Nat.le_of_ble_eq_true rfl⟩ ⟨Nat.zero_le _, Nat.zero_le _⟩ dX10_count_88 ?_
              obtain rfl := Option.some.inj hf
              exact wa_iret (pc := 91) cx dX10_count_91
            · have hf := (if_neg c10).symm.trans hf
              by_cases c13 : a1 = 6
              · have hf := (if_pos c13).symm.trans hf
                refine wa_tabIn (pc := 1) cx 92 dX10_count_1 (by rw [c13]; decide) (by rw [c13]; decide) (by rw [c13]; rfl) rfl ?_
                refine wa_aload_n (pc := 92) cx 0 dX10_count_92 rfl rfl ?_
                refine wa_getR (pc := 93) cx fl_X10_19 lk_0 rfl (cx.bl 0 rfl) dX10_count_93 ?_
                refine wa_getR (pc := 96) cx fl_X10_120 lk_5 rfl (cx.bl 5 rfl) dX10_count_96 ?_
                refine wa_getI (pc := 99) cx fl_X10_134 lk_6 rfl (cx.bl 6 rfl) dX10_count_99 ?_
                obtain rfl := Option.some.inj hf
                exact wa_iret (pc := 102) cx dX10_count_102
              · have hf := (if_neg c13).symm.trans hf
                have ec1 : (a1).toInt ≠ 0 := fun z => c1 (Int32.toInt_inj.mp (z.trans (by decide)))
                have ec4 : (a1).toInt ≠ 1 := fun z => c4 (Int32.toInt_inj.mp (z.trans (by decide)))
                have ec5 : (a1).toInt ≠ 2 := fun z => c5 (Int32.toInt_inj.mp (z.trans (by decide)))
                have ec6 : (a1).toInt ≠ 3 := fun z => c6 (Int32.toInt_inj.mp (z.trans (by decide)))
                have ec9 : (a1).toInt ≠ 4 := fun z => c9 (Int32.toInt_inj.mp (z.trans (by decide)))
                have ec10 : (a1).toInt ≠ 5 := fun z => c10 (Int32.toInt_inj.mp (z.trans (by decide)))
                have ec13 : (a1).toInt ≠ 6 := fun z => c13 (Int32.toInt_inj.mp (z.trans (by decide)))
                refine wa_tabOut (pc := 1) cx 103 dX10_count_1 (by omega) rfl ?_
                refine wa_ldc (pc := 103) (v := (-1000001)) cx dX10_count_103 tw_353 ?_
                obtain rfl := Option.some.inj hf
                exact wa_iret (pc := 105) cx dX10_count_105
def fX10_status  (σ : Sg) : Option (Int32) :=
  some (gf σ 0 11)
set_option maxHeartbeats 4000000 in
set_option maxRecDepth 100000 in
theorem ct_X10_status (l : Launch) (E : En) (σ : Sg)  (q : Int32) (hf : fX10_status  σ = some q) : CT l yX10_status cX10_status 1 (some .int) 0 E σ [.ref (eA E 0)] (some (.int q)) σ := by
  refine CT.of RX10 [some (.ref (eA E 0))] rfl (by decide +kernel) (Nat.le_of_ble_eq_true rfl) rfl ?_
  intro p e s m args below meth c cx
  unfold fX10_status at hf
  refine wa_aload_n (pc := 0) cx 0 dX10_status_0 rfl rfl ?_
  refine wa_getI (pc := 1) cx fl_X10_76 lk_0 rfl (cx.bl 0 rfl) dX10_status_1 ?_
  obtain rfl := Option.some.inj hf
  exact wa_iret (pc := 4) cx dX10_status_4
