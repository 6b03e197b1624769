def fX1_leave (a1 : Int32) (σ : Sg) : Option (Sg) :=
  if (16 : Int32) ≤ gf σ 36 1 then (some σ) else (gd (inb (gf σ 36 1) 16) (
  some (sup (sa σ 37 (gf σ 36 1) a1) 36 1 (gf (sa σ 37 (gf σ 36 1) a1) 36 1 + 1))))
set_option maxHeartbeats 4000000 in
set_option maxRecDepth 100000 in
theorem ct_X1_leave (l : Launch) (E : En) (σ : Sg) (a1 : Int32) (q : Sg) (hf : fX1_leave a1 σ = some q) : CT l yX1_leave cX1_leave 2 none 0 E σ [.ref (eA E 36), .int a1] none q := by
  refine CT.of RX1 [some (.ref (eA E 36)), some (.int a1)] rfl (by decide +kernel) (Nat.le_of_ble_eq_true rfl) rfl ?_
  intro p e s m args below meth c cx
  unfold fX1_leave at hf
  refine wa_aload_n (pc := 0) cx 0 dX1_leave_0 rfl rfl ?_
  refine wa_getI (pc := 1) cx fl_X1_13 lk_36 rfl (cx.bl 36 rfl) dX1_leave_1 ?_
  refine wa_bipush (pc := 4) (v := 16) cx dX1_leave_4 (by decide) ?_
  refine wa_icmp_ge (pc := 6) cx 29 dX1_leave_6 rfl (fun c1 => ?_) (fun c1 => ?_)
  · have hf := (if_pos c1).symm.trans hf
    obtain rfl := Option.some.inj hf
    exact wa_vret (pc := 29) cx dX1_leave_29
  · have hf := (if_neg c1).symm.trans hf
    refine wa_aload_n (pc := 9) cx 0 dX1_leave_9 rfl rfl ?_
    refine wa_getR (pc := 10) cx fl_X1_9 lk_36 rfl (cx.bl 36 rfl) dX1_leave_10 ?_
    refine wa_aload_n (pc := 13) cx 0 dX1_leave_13 rfl rfl ?_
    refine wa_getI (pc := 14) cx fl_X1_13 lk_36 rfl (cx.bl 36 rfl) dX1_leave_14 ?_
    refine wa_iload_n (pc := 17) cx 1 dX1_leave_17 rfl rfl ?_
    obtain ⟨g2, hf⟩ := gd_some hf
    refine wa_iast (pc := 18) cx lk_37 (cx.bl 37 rfl) g2 dX1_leave_18 ?_
    refine wa_aload_n (pc := 19) cx 0 dX1_leave_19 rfl rfl ?_
    refine wa_dup (pc := 20) cx dX1_leave_20 rfl ?_
    refine wa_getI (pc := 21) cx fl_X1_13 lk_36 rfl (cx.bl 36 rfl) dX1_leave_21 ?_
    refine wa_iconst (pc := 24) (v := 1) cx dX1_leave_24 (by decide) ?_
    refine wa_iadd (pc := 25) cx dX1_leave_25 ?_
    refine wa_putI (pc := 26) cx fp_X1_13 lk_36 rfl (cx.bl 36 rfl) dX1_leave_26 ?_
    obtain rfl := Option.some.inj hf
    exact wa_vret (pc := 29) cx dX1_leave_29
def fX1_give_J248  (σ : Sg) : Option (Int32 × Sg) :=
  some (0, σ)
def fX1_give_R (rc : Int32 → Int32 → Int32 → Sg → Option (Int32 × Sg)) (a2 : Int32) (a3 : Int32) (a4 : Int32) (σ : Sg) : Option (Int32 × Sg) :=
  if a4 ≤ 20 then ((fX1_leave a3 σ).bind (fun q2 =>
  gd (inb a2 9) (
  if a3 = 10 then (gd (inb a2 9) (
  some (ga q2 13 a2, q2))) else (if a3 = 11 then ((rc a2 10 (a4 + 1) q2).bind (fun q8 =>
  (fX4_markBody (ga q2 11 a2) q8.2).bind (fun q10 =>
  (rc a2 q10 (a4 + 1) q8.2).bind (fun q12 =>
  some ((q8.1 + q12.1), q12.2))))) else (if a3 = 12 then ((rc a2 11 (a4 + 1) q2).bind (fun q15 =>
  some ((-q15.1), q15.2))) else (if a3 = 13 then ((rc a2 10 (a4 + 1) q2).bind (fun q18 =>
  some ((q18.1 - 100), q18.2))) else (if a3 = 14 then ((rc a2 13 (a4 + 1) q2).bind (fun q21 =>
  some ((q21.1 * 2), q21.2))) else (if a3 = 15 then (fX1_give_J248  q2) else (if a3 = 16 then (fX1_give_J248  q2) else (if a3 = 17 then (fX1_give_J248  q2) else (if a3 = 18 then (fX1_give_J248  q2) else (if a3 = 19 then (fX1_give_J248  q2) else (if a3 = 20 then (some (a2, q2)) else (if a3 = 21 then ((rc a2 20 (a4 + 1) q2).bind (fun q30 =>
  gd (inb a2 9) (
  some ((q30.1 + ga q30.2 12 a2), q30.2)))) else (if a3 = 22 then ((rc a2 21 (a4 + 1) q2).bind (fun q34 =>
  some ((q34.1 - 1000), q34.2))) else (if a3 = 23 then ((rc a2 20 (a4 + 1) q2).bind (fun q37 =>
  (fX4_sizeBody (ga q2 11 a2) q37.2).bind (fun q39 =>
  (rc a2 q39 (a4 + 1) q37.2).bind (fun q41 =>
  some ((q37.1 - q41.1), q41.2))))) else (if a3 = 24 then ((rc a2 22 (a4 + 1) q2).bind (fun q44 =>
  some ((q44.1 * 2), q44.2))) else (fX1_give_J248  q2)))))))))))))))))) else (some (0, σ))
def fX1_give : Nat → Int32 → Int32 → Int32 → Sg → Option (Int32 × Sg)
  | 0 => fun _ _ _ _ => none
  | n + 1 => fX1_give_R (fX1_give n)
set_option maxHeartbeats 4000000 in
set_option maxRecDepth 100000 in
theorem ct_X1_give (l : Launch) (E : En) : ∀ (n : Nat) (σ : Sg) (a2 : Int32) (a3 : Int32) (a4 : Int32) (q : Int32 × Sg), fX1_give n a2 a3 a4 σ = some q → CT l yX1_give cX1_give 7 (some .int) (1 + n) E σ [.ref (eA E 36), .ref (eA E 8), .int a2, .int a3, .int a4] (some (.int q.1)) q.2 := by
  intro n
  induction n with
  | zero => intro σ a2 a3 a4 q hf; cases hf
  | succ n hrec =>
    intro σ a2 a3 a4 q hf
    rw [show 1 + (n + 1) = 2 + n by omega]
    have hf : fX1_give_R (fX1_give n) a2 a3 a4 σ = some q := hf
    generalize fX1_give n = rc at hf hrec
    refine CT.of RX1 [some (.ref (eA E 36)), some (.ref (eA E 8)), some (.int a2), some (.int a3), some (.int a4), none, none] rfl (by decide +kernel) (Nat.le_of_ble_eq_true rfl) rfl ?_
    intro p e s m args below meth c cx
    unfold fX1_give_R at hf
    have j248 : ∀  (σ : Sg), fX1_give_J248  σ = some q → WA p l e (rmd (2 + n)) s m args below meth c 7 E 0 0 (MQ below (Qcq E s.heap.size (some (.int q.1)) q.2) args s 0 0 (AE E s.heap.size)) 248 [none, none, none, none, none, none, none] [] σ := by
      intro  σ hf
      unfold fX1_give_J248 at hf
      refine wa_iconst (pc := 248) (v := 0) cx dX1_give_248 (by decide) ?_
      obtain rfl := Option.some.inj hf
      exact wa_iret (pc := 249) cx dX1_give_249
    refine wa_iload (pc := 0) cx 4 dX1_give_0 rfl ?_
    refine wa_bipush (pc := 2) (v := 20) cx dX1_give_2 (by decide) ?_
    refine wa_icmp_le (pc := 4) cx 9 dX1_give_4 rfl (fun c1 => ?_) (fun c1 => ?_)
    · have hf := (if_pos c1).symm.trans hf
      refine wa_aload_n (pc := 9) cx 0 dX1_give_9 rfl rfl ?_
      refine wa_iload_n (pc := 10) cx 3 dX1_give_10 rfl rfl ?_
      obtain ⟨q2, h3, hf⟩ := bd_some hf
      refine wa_callVv (pc := 11) cx [.int a3] (ct_X1_leave l E _ _ _ h3) mi_X1_leave tw_820 lk_36 rfl (cx.bl 36 rfl) rfl rfl (Nat.le_of_ble_eq_true rfl) ⟨by show _ ≤ 2 + n; omega, by show _ ≤ 48 * (2 + n); omega⟩ ⟨Nat.zero_le _, Nat.zero_le _⟩ dX1_give_11 ?_
      refine wa_aload_n (pc := 14) cx 1 dX1_give_14 rfl rfl ?_
      refine wa_getR (pc := 15) cx fl_X1_17 lk_8 rfl (cx.bl 8 rfl) dX1_give_15 ?_
      refine wa_iload_n (pc := 18) cx 2 dX1_give_18 rfl rfl ?_
      obtain ⟨g4, hf⟩ := gd_some hf
      refine wa_iald (pc := 19) cx lk_11 (cx.bl 11 rfl) g4 dX1_give_19 ?_
      refine wa_istore (pc := 20) cx 5 [some (.ref (eA E 36)), some (.ref (eA E 8)), some (.int a2), some (.int a3), some (.int a4), some (.int (ga q2 11 a2)), none] dX1_give_20 (by decide) rfl rfl ?_
      refine wa_iload (pc := 22) cx 4 dX1_give_22 rfl ?_
      refine wa_iconst (pc := 24) (v := 1) cx dX1_give_24 (by decide) ?_
      refine wa_iadd (pc := 25) cx dX1_give_25 ?_
      refine wa_istore (pc := 26) cx 6 [some (.ref (eA E 36)), some (.ref (eA E 8)), some (.int a2), some (.int a3), some (.int a4), some (.int (ga q2 11 a2)), some (.int (a4 + 1))] dX1_give_26 (by decide) rfl rfl ?_
      refine wa_iload_n (pc := 28) cx 3 dX1_give_28 rfl rfl ?_
      by_cases c5 : a3 = 10
      · have hf := (if_pos c5).symm.trans hf
        refine wa_tabIn (pc := 29) cx 104 dX1_give_29 (by rw [c5]; decide) (by rw [c5]; decide) (by rw [c5]; rfl) rfl ?_
        refine wa_aload_n (pc := 104) cx 1 dX1_give_104 rfl rfl ?_
        refine wa_getR (pc := 105) cx fl_X1_39 lk_8 rfl (cx.bl 8 rfl) dX1_give_105 ?_
        refine wa_iload_n (pc := 108) cx 2 dX1_give_108 rfl rfl ?_
        obtain ⟨g6, hf⟩ := gd_some hf
        refine wa_iald (pc := 109) cx lk_13 (cx.bl 13 rfl) g6 dX1_give_109 ?_
        obtain rfl := Option.some.inj hf
        exact wa_iret (pc := 110) cx dX1_give_110
      · have hf := (if_neg c5).symm.trans hf
        by_cases c7 : a3 = 11
        · have hf := (if_pos c7).symm.trans hf
          refine wa_tabIn (pc := 29) cx 111 dX1_give_29 (by rw [c7]; decide) (by rw [c7]; decide) (by rw [c7]; rfl) rfl ?_
          refine wa_aload_n (pc := 111) cx 0 dX1_give_111 rfl rfl ?_
          refine wa_aload_n (pc := 112) cx 1 dX1_give_112 rfl rfl ?_
          refine wa_iload_n (pc := 113) cx 2 dX1_give_113 rfl rfl ?_
          refine wa_bipush (pc := 114) (v := 10) cx dX1_give_114 (by decide) ?_
          refine wa_iload (pc := 116) cx 6 dX1_give_116 rfl ?_
          obtain ⟨q8, h9, hf⟩ := bd_some hf
          refine wa_callVi (pc := 118) cx [.ref (eA E 8), .int a2, .int 10, .int (a4 + 1)] (hrec _ _ _ _ _ h9) mi_X1_give tw_816 lk_36 rfl (cx.bl 36 rfl) rfl rfl (Nat.le_of_ble_eq_true rfl) ⟨Nat.le_of_eq (by show _ = 2 + n; omega), by show _ ≤ 48 * (2 + n); omega⟩ ⟨Nat.zero_le _, Nat.zero_le _⟩ dX1_give_118 ?_
          refine wa_aload_n (pc := 121) cx 0 dX1_give_121 rfl rfl ?_
          refine wa_aload_n (pc := 122) cx 1 dX1_give_122 rfl rfl ?_
          refine wa_iload_n (pc := 123) cx 2 dX1_give_123 rfl rfl ?_
          refine wa_iload (pc := 124) cx 5 dX1_give_124 rfl ?_
          obtain ⟨q10, h11, hf⟩ := bd_some hf
          refine wa_callSi (pc := 126) cx [.int (ga q2 11 a2)] (ct_X4_markBody l E _ _ _ h11) ms_X4_markBody tw_811 rfl rfl (Nat.le_of_ble_eq_true rfl) ⟨by show _ ≤ 2 + n; omega, by show _ ≤ 48 * (2 + n); omega⟩ ⟨Nat.zero_le _, Nat.zero_le _⟩ dX1_give_126 ?_
          refine wa_iload (pc := 129) cx 6 dX1_give_129 rfl ?_
          obtain ⟨q12, h13, hf⟩ := bd_some hf
          refine wa_callVi (pc := 131) cx [.ref (eA E 8), .int a2, .int q10, .int (a4 + 1)] (hrec _ _ _ _ _ h13) mi_X1_give tw_816 lk_36 rfl (cx.bl 36 rfl) rfl rfl (Nat.le_of_ble_eq_true rfl) ⟨Nat.le_of_eq (by show _ = 2 + n; omega), by show _ ≤ 48 * (2 + n); omega⟩ ⟨Nat.zero_le _, Nat.zero_le _⟩ dX1_give_131 ?_
          refine wa_iadd (pc := 134) cx dX1_give_134 ?_
          obtain rfl := Option.some.inj hf
          exact wa_iret (pc := 135) cx dX1_give_135
        · have hf := (if_neg c7).symm.trans hf
          by_cases c14 : a3 = 12
          · have hf := (if_pos c14).symm.trans hf
            refine wa_tabIn (pc := 29) cx 136 dX1_give_29 (by rw [c14]; decide) (by rw [c14]; decide) (by rw [c14]; rfl) rfl ?_
            refine wa_aload_n (pc := 136) cx 0 dX1_give_136 rfl rfl ?_
            refine wa_aload_n (pc := 137) cx 1 dX1_give_137 rfl rfl ?_
            refine wa_iload_n (pc := 138) cx 2 dX1_give_138 rfl rfl ?_
            refine wa_bipush (pc := 139) (v := 11) cx dX1_give_139 (by decide) ?_
            refine wa_iload (pc := 141) cx 6 dX1_give_141 rfl ?_
            obtain ⟨q15, h16, hf⟩ := bd_some hf
            refine wa_callVi (pc := 143) cx [.ref (eA E 8), .int a2, .int 11, .int (a4 + 1)] (hrec _ _ _ _ _ h16) mi_X1_give tw_816 lk_36 rfl (cx.bl 36 rfl) rfl rfl (Nat.le_of_ble_eq_true rfl) ⟨Nat.le_of_eq (by show _ = 2 + n; omega), by show _ ≤ 48 * (2 + n); omega⟩ ⟨Nat.zero_le _, Nat.zero_le _⟩ dX1_give_143 ?_
            refine wa_ineg (pc := 146) cx dX1_give_146 ?_
            obtain rfl := Option.some.inj hf
            exact wa_iret (pc := 147) cx dX1_give_147
          · have hf := (if_neg c14).symm.trans hf
            by_cases c17 : a3 = 13
            · have hf := (if_pos c17).symm.trans hf
              refine wa_tabIn (pc := 29) cx 148 dX1_give_29 (by rw [c17]; decide) (by rw [c17]; decide) (by rw [c17]; rfl) rfl ?_
              refine wa_aload_n (pc := 148) cx 0 dX1_give_148 rfl rfl ?_
              refine wa_aload_n (pc := 149) cx 1 dX1_give_149 rfl rfl ?_
              refine wa_iload_n (pc := 150) cx 2 dX1_give_150 rfl rfl ?_
              refine wa_bipush (pc := 151) (v := 10) cx dX1_give_151 (by decide) ?_
              refine wa_iload (pc := 153) cx 6 dX1_give_153 rfl ?_
              obtain ⟨q18, h19, hf⟩ := bd_some hf
              refine wa_callVi (pc := 155) cx [.ref (eA E 8), .int a2, .int 10, .int (a4 + 1)] (hrec _ _ _ _ _ h19) mi_X1_give tw_816 lk_36 rfl (cx.bl 36 rfl) rfl rfl (Nat.le_of_ble_eq_true rfl) ⟨Nat.le_of_eq (by show _ = 2 + n; omega), by show _ ≤ 48 * (2 + n); omega⟩ ⟨Nat.zero_le _, Nat.zero_le _⟩ dX1_give_155 ?_
              refine wa_bipush (pc := 158) (v := 100) cx dX1_give_158 (by decide) ?_
              refine wa_isub (pc := 160) cx dX1_give_160 ?_
              obtain rfl := Option.some.inj hf
              exact wa_iret (pc := 161) cx dX1_give_161
            · have hf := (if_neg c17).symm.trans hf
              by_cases c20 : a3 = 14
              · have hf := (if_pos c20).symm.trans hf
                refine wa_tabIn (pc := 29) cx 162 dX1_give_29 (by rw [c20]; decide) (by rw [c20]; decide) (by rw [c20]; rfl) rfl ?_
                refine wa_aload_n (pc := 162) cx 0 dX1_give_162 rfl rfl ?_
                refine wa_aload_n (pc := 163) cx 1 dX1_give_163 rfl rfl ?_
                refine wa_iload_n (pc := 164) cx 2 dX1_give_164 rfl rfl ?_
                refine wa_bipush (pc := 165) (v := 13) cx dX1_give_165 (by decide) ?_
                refine wa_iload (pc := 167) cx 6 dX1_give_167 rfl ?_
                obtain ⟨q21, h22, hf⟩ := bd_some hf
                refine wa_callVi (pc := 169) cx [.ref (eA E 8), .int a2, .int 13, .int (a4 + 1)] (hrec _ _ _ _ _ h22) mi_X1_give tw_816 lk_36 rfl (cx.bl 36 rfl) rfl rfl (Nat.le_of_ble_eq_true rfl) ⟨Nat.le_of_eq (by show _ = 2 + n; omega), by show _ ≤ 48 * (2 + n); omega⟩ ⟨Nat.zero_le _, Nat.zero_le _⟩ dX1_give_169 ?_
                refine wa_iconst (pc := 172) (v := 2) cx dX1_give_172 (by decide) ?_
                refine wa_imul (pc := 173) cx dX1_give_173 ?_
                obtain rfl := Option.some.inj hf
                exact wa_iret (pc := 174) cx dX1_give_174
              · have hf := (if_neg c20).symm.trans hf
                by_cases c23 : a3 = 15
                · have hf := (if_pos c23).symm.trans hf
                  refine wa_tabIn (pc := 29) cx 248 dX1_give_29 (by rw [c23]; decide) (by rw [c23]; decide) (by rw [c23]; rfl) rfl ?_
                  refine wa_forget [false, false, false, false, false, false, false] [none, none, none, none, none, none, none] rfl ?_
                  exact j248  _ hf
                · have hf := (if_neg c23).symm.trans hf
                  by_cases c24 : a3 = 16
                  · have hf := (if_pos c24).symm.trans hf
                    refine wa_tabIn (pc := 29) cx 248 dX1_give_29 (by rw [c24]; decide) (by rw [c24]; decide) (by rw [c24]; rfl) rfl ?_
                    refine wa_forget [false, false, false, false, false, false, false] [none, none, none, none, none, none, none] rfl ?_
                    exact j248  _ hf
                  · have hf := (if_neg c24).symm.trans hf
                    by_cases c25 : a3 = 17
                    · have hf := (if_pos c25).symm.trans hf
                      refine wa_tabIn (pc := 29) cx 248 dX1_give_29 (by rw [c25]; decide) (by rw [c25]; decide) (by rw [c25]; rfl) rfl ?_
                      refine wa_forget [false, false, false, false, false, false, false] [none, none, none, none, none, none, none] rfl ?_
                      exact j248  _ hf
                    · have hf := (if_neg c25).symm.trans hf
                      by_cases c26 : a3 = 18
                      · have hf := (if_pos c26).symm.trans hf
                        refine wa_tabIn (pc := 29) cx 248 dX1_give_29 (by rw [c26]; decide) (by rw [c26]; decide) (by rw [c26]; rfl) rfl ?_
                        refine wa_forget [false, false, false, false, false, false, false] [none, none, none, none, none, none, none] rfl ?_
                        exact j248  _ hf
                      · have hf := (if_neg c26).symm.trans hf
                        by_cases c27 : a3 = 19
                        · have hf := (if_pos c27).symm.trans hf
                          refine wa_tabIn (pc := 29) cx 248 dX1_give_29 (by rw [c27]; decide) (by rw [c27]; decide) (by rw [c27]; rfl) rfl ?_
                          refine wa_forget [false, false, false, false, false, false, false] [none, none, none, none, none, none, none] rfl ?_
                          exact j248  _ hf
                        · have hf := (if_neg c27).symm.trans hf
                          by_cases c28 : a3 = 20
                          · have hf := (if_pos c28).symm.trans hf
                            refine wa_tabIn (pc := 29) cx 175 dX1_give_29 (by rw [c28]; decide) (by rw [c28]; decide) (by rw [c28]; rfl) rfl ?_
                            refine wa_iload_n (pc := 175) cx 2 dX1_give_175 rfl rfl ?_
                            obtain rfl := Option.some.inj hf
                            exact wa_iret (pc := 176) cx dX1_give_176
                          · have hf := (if_neg c28).symm.trans hf
                            by_cases c29 : a3 = 21
                            · have hf := (if_pos c29).symm.trans hf
                              refine wa_tabIn (pc := 29) cx 177 dX1_give_29 (by rw [c29]; decide) (by rw [c29]; decide) (by rw [c29]; rfl) rfl ?_
                              refine wa_aload_n (pc := 177) cx 0 dX1_give_177 rfl rfl ?_
                              refine wa_aload_n (pc := 178) cx 1 dX1_give_178 rfl rfl ?_
                              refine wa_iload_n (pc := 179) cx 2 dX1_give_179 rfl rfl ?_
                              refine wa_bipush (pc := 180) (v := 20) cx dX1_give_180 (by decide) ?_
                              refine wa_iload (pc := 182) cx 6 dX1_give_182 rfl ?_
                              obtain ⟨q30, h31, hf⟩ := bd_some hf
                              refine wa_callVi (pc := 184) cx [.ref (eA E 8), .int a2, .int 20, .int (a4 + 1)] (hrec _ _ _ _ _ h31) mi_X1_give tw_816 lk_36 rfl (cx.bl 36 rfl) rfl rfl (Nat.le_of_ble_eq_true rfl) ⟨Nat.le_of_eq (by show _ = 2 + n; omega), by show _ ≤ 48 * (2 + n); omega⟩ ⟨Nat.zero_le _, Nat.zero_le _⟩ dX1_give_184 ?_
                              refine wa_aload_n (pc := 187) cx 1 dX1_give_187 rfl rfl ?_
                              refine wa_getR (pc := 188) cx fl_X1_42 lk_8 rfl (cx.bl 8 rfl) dX1_give_188 ?_
                              refine wa_iload_n (pc := 191) cx 2 dX1_give_191 rfl rfl ?_
                              obtain ⟨g32, hf⟩ := gd_some hf
                              refine wa_iald (pc := 192) cx lk_12 (cx.bl 12 rfl) g32 dX1_give_192 ?_
                              refine wa_iadd (pc := 193) cx dX1_give_193 ?_
                              obtain rfl := Option.some.inj hf
                              exact wa_iret (pc := 194) cx dX1_give_194
                            · have hf := (if_neg c29).symm.trans hf
                              by_cases c33 : a3 = 22
                              · have hf := (if_pos c33).symm.trans hf
                                refine wa_tabIn (pc := 29) cx 195 dX1_give_29 (by rw [c33]; decide) (by rw [c33]; decide) (by rw [c33]; rfl) rfl ?_
                                refine wa_aload_n (pc := 195) cx 0 dX1_give_195 rfl rfl ?_
                                refine wa_aload_n (pc := 196) cx 1 dX1_give_196 rfl rfl ?_
                                refine wa_iload_n (pc := 197) cx 2 dX1_give_197 rfl rfl ?_
                                refine wa_bipush (pc := 198) (v := 21) cx dX1_give_198 (by decide) ?_
                                refine wa_iload (pc := 200) cx 6 dX1_give_200 rfl ?_
                                obtain ⟨q34, h35, hf⟩ := bd_some hf
                                refine wa_callVi (pc := 202) cx [.ref (eA E 8), .int a2, .int 21, .int (a4 + 1)] (hrec _ _ _ _ _ h35) mi_X1_give tw_816 lk_36 rfl (cx.bl 36 rfl) rfl rfl (Nat.le_of_ble_eq_true rfl) ⟨Nat.le_of_eq (by show _ = 2 + n; omega), by show _ ≤ 48 * (2 + n); omega⟩ ⟨Nat.zero_le _, Nat.zero_le _⟩ dX1_give_202 ?_
                                refine wa_sipush (pc := 205) (v := 1000) cx dX1_give_205 (by decide) ?_
                                refine wa_isub (pc := 208) cx dX1_give_208 ?_
                                obtain rfl := Option.some.inj hf
                                exact wa_iret (pc := 209) cx dX1_give_209
                              · have hf := (if_neg c33).symm.trans hf
                                by_cases c36 : a3 = 23
                                · have hf := (if_pos c36).symm.trans hf
                                  refine wa_tabIn (pc := 29) cx 210 dX1_give_29 (by rw [c36]; decide) (by rw [c36]; decide) (by rw [c36]; rfl) rfl ?_
                                  refine wa_aload_n (pc := 210) cx 0 dX1_give_210 rfl rfl ?_
                                  refine wa_aload_n (pc := 211) cx 1 dX1_give_211 rfl rfl ?_
                                  refine wa_iload_n (pc := 212) cx 2 dX1_give_212 rfl rfl ?_
                                  refine wa_bipush (pc := 213) (v := 20) cx dX1_give_213 (by decide) ?_
                                  refine wa_iload (pc := 215) cx 6 dX1_give_215 rfl ?_
                                  obtain ⟨q37, h38, hf⟩ := bd_some hf
                                  refine wa_callVi (pc := 217) cx [.ref (eA E 8), .int a2, .int 20, .int (a4 + 1)] (hrec _ _ _ _ _ h38) mi_X1_give tw_816 lk_36 rfl (cx.bl 36 rfl) rfl rfl (Nat.le_of_ble_eq_true rfl) ⟨Nat.le_of_eq (by show _ = 2 + n; omega), by show _ ≤ 48 * (2 + n); omega⟩ ⟨Nat.zero_le _, Nat.zero_le _⟩ dX1_give_217 ?_
                                  refine wa_aload_n (pc := 220) cx 0 dX1_give_220 rfl rfl ?_
                                  refine wa_aload_n (pc := 221) cx 1 dX1_give_221 rfl rfl ?_
                                  refine wa_iload_n (pc := 222) cx 2 dX1_give_222 rfl rfl ?_
                                  refine wa_iload (pc := 223) cx 5 dX1_give_223 rfl ?_
                                  obtain ⟨q39, h40, hf⟩ := bd_some hf
                                  refine wa_callSi (pc := 225) cx [.int (ga q2 11 a2)] (ct_X4_sizeBody l E _ _ _ h40) ms_X4_sizeBody tw_803 rfl rfl (Nat.le_of_ble_eq_true rfl) ⟨by show _ ≤ 2 + n; omega, by show _ ≤ 48 * (2 + n); omega⟩ ⟨Nat.zero_le _, Nat.zero_le _⟩ dX1_give_225 ?_
                                  refine wa_iload (pc := 228) cx 6 dX1_give_228 rfl ?_
                                  obtain ⟨q41, h42, hf⟩ := bd_some hf
                                  refine wa_callVi (pc := 230) cx [.ref (eA E 8), .int a2, .int q39, .int (a4 + 1)] (hrec _ _ _ _ _ h42) mi_X1_give tw_816 lk_36 rfl (cx.bl 36 rfl) rfl rfl (Nat.le_of_ble_eq_true rfl) ⟨Nat.le_of_eq (by show _ = 2 + n; omega), by show _ ≤ 48 * (2 + n); omega⟩ ⟨Nat.zero_le _, Nat.zero_le _⟩ dX1_give_230 ?_
                                  refine wa_isub (pc := 233) cx dX1_give_233 ?_
                                  obtain rfl := Option.some.inj hf
                                  exact wa_iret (pc := 234) cx dX1_give_234
                                · have hf := (if_neg c36).symm.trans hf
                                  by_cases c43 : a3 = 24
                                  · have hf := (if_pos c43).symm.trans hf
                                    refine wa_tabIn (pc := 29) cx 235 dX1_give_29 (by rw [c43]; decide) (by rw [c43]; decide) (by rw [c43]; rfl) rfl ?_
                                    refine wa_aload_n (pc := 235) cx 0 dX1_give_235 rfl rfl ?_
                                    refine wa_aload_n (pc := 236) cx 1 dX1_give_236 rfl rfl ?_
                                    refine wa_iload_n (pc := 237) cx 2 dX1_give_237 rfl rfl ?_
                                    refine wa_bipush (pc := 238) (v := 22) cx dX1_give_238 (by decide) ?_
                                    refine wa_iload (pc := 240) cx 6 dX1_give_240 rfl ?_
                                    obtain ⟨q44, h45, hf⟩ := bd_some hf
                                    refine wa_callVi (pc := 242) cx [.ref (eA E 8), .int a2, .int 22, .int (a4 + 1)] (hrec _ _ _ _ _ h45) mi_X1_give tw_816 lk_36 rfl (cx.bl 36 rfl) rfl rfl (Nat.le_of_ble_eq_true rfl) ⟨Nat.le_of_eq (by show _ = 2 + n; omega), by show _ ≤ 48 * (2 + n); omega⟩ ⟨Nat.zero_le _, Nat.zero_le _⟩ dX1_give_242 ?_
                                    refine wa_iconst (pc := 245) (v := 2) cx dX1_give_245 (by decide) ?_
                                    refine wa_imul (pc := 246) cx dX1_give_246 ?_
                                    obtain rfl := Option.some.inj hf
                                    exact wa_iret (pc := 247) cx dX1_give_247
                                  · have hf := (if_neg c43).symm.trans hf
                                    have ec5 : (a3).toInt ≠ 10 := fun z => c5 (Int32.toInt_inj.mp (z.trans (by decide)))
                                    have ec7 : (a3).toInt ≠ 11 := fun z => c7 (Int32.toInt_inj.mp (z.trans (by decide)))
                                    have ec14 : (a3).toInt ≠ 12 := fun z => c14 (Int32.toInt_inj.mp (z.trans (by decide)))
                                    have ec17 : (a3).toInt ≠ 13 := fun z => c17 (Int32.toInt_inj.mp (z.trans (by decide)))
                                    have ec20 : (a3).toInt ≠ 14 := fun z => c20 (Int32.toInt_inj.mp (z.trans (by decide)))
                                    have ec23 : (a3).toInt ≠ 15 := fun z => c23 (Int32.toInt_inj.mp (z.trans (by decide)))
                                    have ec24 : (a3).toInt ≠ 16 := fun z => c24 (Int32.toInt_inj.mp (z.trans (by decide)))
                                    have ec25 : (a3).toInt ≠ 17 := fun z => c25 (Int32.toInt_inj.mp (z.trans (by decide)))
                                    have ec26 : (a3).toInt ≠ 18 := fun z => c26 (Int32.toInt_inj.mp (z.trans (by decide)))
                                    have ec27 : (a3).toInt ≠ 19 := fun z => c27 (Int32.toInt_inj.mp (z.trans (by decide)))
                                    have ec28 : (a3).toInt ≠ 20 := fun z => c28 (Int32.toInt_inj.mp (z.trans (by decide)))
                                    have ec29 : (a3).toInt ≠ 21 := fun z => c29 (Int32.toInt_inj.mp (z.trans (by decide)))
                                    have ec33 : (a3).toInt ≠ 22 := fun z => c33 (Int32.toInt_inj.mp (z.trans (by decide)))
                                    have ec36 : (a3).toInt ≠ 23 := fun z => c36 (Int32.toInt_inj.mp (z.trans (by decide)))
                                    have ec43 : (a3).toInt ≠ 24 := fun z => c43 (Int32.toInt_inj.mp (z.trans (by decide)))
                                    refine wa_tabOut (pc := 29) cx 248 dX1_give_29 (by omega) rfl ?_
                                    refine wa_forget [false, false, false, false, false, false, false] [none, none, none, none, none, none, none] rfl ?_
                                    exact j248  _ hf
    · have hf := (if_neg c1).symm.trans hf
      refine wa_iconst (pc := 7) (v := 0) cx dX1_give_7 (by decide) ?_
      obtain rfl := Option.some.inj hf
      exact wa_iret (pc := 8) cx dX1_give_8
def fX1_answer_J33 (t3 : Int32) (t2 : Int32) (σ : Sg) : Option (Int32 × Sg) :=
  (fX1_give 30 t2 t3 0 σ).bind (fun q5 =>
  some (q5.1, q5.2))
def fX1_answer (a2 : Int32) (a3 : Int32) (σ : Sg) : Option (Int32 × Sg) :=
  gd (inb a2 9) (
  if a3 = 0 then ((fX4_sizeBody (ga (sup σ 36 1 0) 11 a2) (sup σ 36 1 0)).bind (fun q7 =>
  fX1_answer_J33 q7 a2 (sup σ 36 1 0))) else ((fX4_markBody (ga (sup σ 36 1 0) 11 a2) (sup σ 36 1 0)).bind (fun q3 =>
  fX1_answer_J33 q3 a2 (sup σ 36 1 0))))
set_option maxHeartbeats 4000000 in
set_option maxRecDepth 100000 in
theorem ct_X1_answer (l : Launch) (E : En) (σ : Sg) (a2 : Int32) (a3 : Int32) (q : Int32 × Sg) (hf : fX1_answer a2 a3 σ = some q) : CT l yX1_answer cX1_answer 5 (some .int) 32 E σ [.ref (eA E 36), .ref (eA E 8), .int a2, .int a3] (some (.int q.1)) q.2 := by
  refine CT.of RX1 [some (.ref (eA E 36)), some (.ref (eA E 8)), some (.int a2), some (.int a3), none] rfl (by decide +kernel) (Nat.le_of_ble_eq_true rfl) rfl ?_
  intro p e s m args below meth c cx
  unfold fX1_answer at hf
  have j33 : ∀ (t3 : Int32) (t2 : Int32) (σ : Sg), fX1_answer_J33 t3 t2 σ = some q → WA p l e (rmd 32) s m args below meth c 5 E 0 0 (MQ below (Qcq E s.heap.size (some (.int q.1)) q.2) args s 0 0 (AE E s.heap.size)) 33 [none, none, none, none, none] [.int t3, .int t2, .ref (eA E 8), .ref (eA E 36)] σ := by
    intro t3 t2 σ hf
    unfold fX1_answer_J33 at hf
    refine wa_iconst (pc := 33) (v := 0) cx dX1_answer_33 (by decide) ?_
    obtain ⟨q5, h6, hf⟩ := bd_some hf
    refine wa_callVi (pc := 34) cx [.ref (eA E 8), .int t2, .int t3, .int 0] (ct_X1_give l E 30 _ _ _ _ _ h6) mi_X1_give tw_816 lk_36 rfl (cx.bl 36 rfl) rfl rfl (Nat.le_of_ble_eq_true rfl) ⟨Nat.le_of_ble_eq_true rfl, Nat.le_of_ble_eq_true rfl⟩ ⟨Nat.zero_le _, Nat.zero_le _⟩ dX1_answer_34 ?_
    obtain rfl := Option.some.inj hf
    exact wa_iret (pc := 37) cx dX1_answer_37
  refine wa_aload_n (pc := 0) cx 0 dX1_answer_0 rfl rfl ?_
  refine wa_iconst (pc := 1) (v := 0) cx dX1_answer_1 (by decide) ?_
  refine wa_putI (pc := 2) cx fp_X1_13 lk_36 rfl (cx.bl 36 rfl) dX1_answer_2 ?_
  refine wa_aload_n (pc := 5) cx 1 dX1_answer_5 rfl rfl ?_
  refine wa_getR (pc := 6) cx fl_X1_17 lk_8 rfl (cx.bl 8 rfl) dX1_answer_6 ?_
  refine wa_iload_n (pc := 9) cx 2 dX1_answer_9 rfl rfl ?_
  obtain ⟨g1, hf⟩ := gd_some hf
  refine wa_iald (pc := 10) cx lk_11 (cx.bl 11 rfl) g1 dX1_answer_10 ?_
  refine wa_istore (pc := 11) cx 4 [some (.ref (eA E 36)), some (.ref (eA E 8)), some (.int a2), some (.int a3), some (.int (ga (sup σ 36 1 0) 11 a2))] dX1_answer_11 (by decide) rfl rfl ?_
  refine wa_aload_n (pc := 13) cx 0 dX1_answer_13 rfl rfl ?_
  refine wa_aload_n (pc := 14) cx 1 dX1_answer_14 rfl rfl ?_
  refine wa_iload_n (pc := 15) cx 2 dX1_answer_15 rfl rfl ?_
  refine wa_iload_n (pc := 16) cx 3 dX1_answer_16 rfl rfl ?_
  refine wa_if_ne (pc := 17) cx 28 dX1_answer_17 rfl (fun c2 => ?_) (fun c2 => ?_)
  · have hf := (if_neg c2).symm.trans hf
    refine wa_iload (pc := 28) cx 4 dX1_answer_28 rfl ?_
    obtain ⟨q3, h4, hf⟩ := bd_some hf
    refine wa_callSi (pc := 30) cx [.int (ga (sup σ 36 1 0) 11 a2)] (ct_X4_markBody l E _ _ _ h4) ms_X4_markBody tw_811 rfl rfl (Nat.le_of_ble_eq_true rfl) ⟨Nat.le_of_ble_eq_true rfl, Nat.le_of_ble_eq_true rfl⟩ ⟨Nat.zero_le _, Nat.zero_le _⟩ dX1_answer_30 ?_
    refine wa_forget [false, false, false, false, false] [none, none, none, none, none] rfl ?_
    exact j33 _ _ _ hf
  · have hf := (if_pos c2).symm.trans hf
    refine wa_iload (pc := 20) cx 4 dX1_answer_20 rfl ?_
    obtain ⟨q7, h8, hf⟩ := bd_some hf
    refine wa_callSi (pc := 22) cx [.int (ga (sup σ 36 1 0) 11 a2)] (ct_X4_sizeBody l E _ _ _ h8) ms_X4_sizeBody tw_803 rfl rfl (Nat.le_of_ble_eq_true rfl) ⟨Nat.le_of_ble_eq_true rfl, Nat.le_of_ble_eq_true rfl⟩ ⟨Nat.zero_le _, Nat.zero_le _⟩ dX1_answer_22 ?_
    refine wa_goto (pc := 25) cx 33 dX1_answer_25 rfl ?_
    refine wa_forget [false, false, false, false, false] [none, none, none, none, none] rfl ?_
    exact j33 _ _ _ hf
