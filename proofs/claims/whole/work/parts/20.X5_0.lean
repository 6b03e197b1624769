def fX5_yearsFrom_J166 (v5 : Int32) (σ : Sg) : Option (Int32 × Sg) :=
  some (v5, σ)
def fX5_yearsFrom_J115 (rc : Int32 → Sg → Option (Int32 × Sg)) (v2 : Int32) (v3 : Int32) (v4 : Int32) (v5 : Int32) (σ : Sg) : Option (Int32 × Sg) :=
  if v4 ≤ 0 then (fX5_yearsFrom_J166 v5 σ) else ((fX9_strengthIf v2 1 σ).bind (fun q8 =>
  gd (inb v3 3) (
  gd (inb v3 3) (
  (rc (v2 + 1) (sa σ 35 v3 (ga σ 35 v3 + q8))).bind (fun q12 =>
  gd (inb v3 3) (
  gd (inb v3 3) (
  fX5_yearsFrom_J166 (v5 + (v4 * q12.1)) (sa q12.2 35 v3 (ga q12.2 35 v3 - q8)))))))))
def fX5_yearsFrom_J51  (σ : Sg) : Option (Int32 × Sg) :=
  some (0, σ)
def fX5_yearsFrom_R (rc : Int32 → Sg → Option (Int32 × Sg)) (a2 : Int32) (σ : Sg) : Option (Int32 × Sg) :=
  if a2 < gf σ 8 4 then (gd (inb (0 + a2) 36) (
  if ga σ 14 (0 + a2) = (-1) then ((rc (a2 + 1) σ).bind (fun q18 =>
  some ((10 * q18.1), q18.2))) else ((fX9_keptInTen a2 σ).bind (fun q4 =>
  if (10 : Int32) ≤ q4 then (fX5_yearsFrom_J115 rc a2 (ga σ 14 (0 + a2)) q4 0 σ) else ((rc (a2 + 1) σ).bind (fun q16 =>
  fX5_yearsFrom_J115 rc a2 (ga σ 14 (0 + a2)) q4 (0 + ((10 - q4) * q16.1)) q16.2)))))) else (gd (inb 0 3) (
  if ga σ 35 0 < gf σ 34 1 then (fX5_yearsFrom_J51  σ) else (gd (inb 1 3) (
  if ga σ 35 1 < gf σ 34 1 then (fX5_yearsFrom_J51  σ) else (gd (inb 2 3) (
  if ga σ 35 2 < gf σ 34 1 then (fX5_yearsFrom_J51  σ) else (some (1, σ))))))))
def fX5_yearsFrom : Nat → Int32 → Sg → Option (Int32 × Sg)
  | 0 => fun _ _ => none
  | n + 1 => fX5_yearsFrom_R (fX5_yearsFrom n)
set_option maxHeartbeats 4000000 in
set_option maxRecDepth 100000 in
theorem ct_X5_yearsFrom (l : Launch) (E : En) : ∀ (n : Nat) (σ : Sg) (a2 : Int32) (q : Int32 × Sg), fX5_yearsFrom n a2 σ = some q → CT l yX5_yearsFrom cX5_yearsFrom 7 (some .int) (1 + n) E σ [.ref (eA E 34), .ref (eA E 8), .int a2] (some (.int q.1)) q.2 := by
  intro n
  induction n with
  | zero => intro σ a2 q hf; cases hf
  | succ n hrec =>
    intro σ a2 q hf
    rw [show 1 + (n + 1) = 2 + n by omega]
    have hf : fX5_yearsFrom_R (fX5_yearsFrom n) a2 σ = some q := hf
    generalize fX5_yearsFrom n = rc at hf hrec
    refine CT.of RX5 [some (.ref (eA E 34)), some (.ref (eA E 8)), some (.int a2), none, none, none, none] rfl (by decide +kernel) (Nat.le_of_ble_eq_true rfl) rfl ?_
    intro p e s m args below meth c cx
    unfold fX5_yearsFrom_R at hf
    have j166 : ∀ (v5 : Int32) (σ : Sg), fX5_yearsFrom_J166 v5 σ = some q → WA p l e (rmd (2 + n)) s m args below meth c 7 E 0 0 (MQ below (Qcq E s.heap.size (some (.int q.1)) q.2) args s 0 0 (AE E s.heap.size)) 166 [none, none, none, none, none, some (.int v5), none] [] σ := by
      intro v5 σ hf
      unfold fX5_yearsFrom_J166 at hf
      refine wa_iload (pc := 166) cx 5 dX5_yearsFrom_166 rfl ?_
      obtain rfl := Option.some.inj hf
      exact wa_iret (pc := 168) cx dX5_yearsFrom_168
    have j115 : ∀ (v2 : Int32) (v3 : Int32) (v4 : Int32) (v5 : Int32) (σ : Sg), fX5_yearsFrom_J115 rc v2 v3 v4 v5 σ = some q → WA p l e (rmd (2 + n)) s m args below meth c 7 E 0 0 (MQ below (Qcq E s.heap.size (some (.int q.1)) q.2) args s 0 0 (AE E s.heap.size)) 115 [some (.ref (eA E 34)), some (.ref (eA E 8)), some (.int v2), some (.int v3), some (.int v4), some (.int v5), none] [] σ := by
      intro v2 v3 v4 v5 σ hf
      unfold fX5_yearsFrom_J115 at hf
      refine wa_iload (pc := 115) cx 4 dX5_yearsFrom_115 rfl ?_
      refine wa_if_le (pc := 117) cx 166 dX5_yearsFrom_117 rfl (fun c7 => ?_) (fun c7 => ?_)
      · have hf := (if_pos c7).symm.trans hf
        refine wa_forget [false, false, false, false, false, true, false] [none, none, none, none, none, some (.int v5), none] rfl ?_
        exact j166 _ _ hf
      · have hf := (if_neg c7).symm.trans hf
        refine wa_aload_n (pc := 120) cx 1 dX5_yearsFrom_120 rfl rfl ?_
        refine wa_iload_n (pc := 121) cx 2 dX5_yearsFrom_121 rfl rfl ?_
        refine wa_iconst (pc := 122) (v := 1) cx dX5_yearsFrom_122 (by decide) ?_
        obtain ⟨q8, h9, hf⟩ := bd_some hf
        refine wa_callVi (pc := 123) cx [.int v2, .int 1] (ct_X9_strengthIf l E _ _ _ _ h9) mi_X9_strengthIf tw_733 lk_8 rfl (cx.bl 8 rfl) rfl rfl (Nat.le_of_ble_eq_true rfl) ⟨by show _ ≤ 2 + n; omega, by show _ ≤ 48 * (2 + n); omega⟩ ⟨Nat.zero_le _, Nat.zero_le _⟩ dX5_yearsFrom_123 ?_
        refine wa_istore (pc := 126) cx 6 [some (.ref (eA E 34)), some (.ref (eA E 8)), some (.int v2), some (.int v3), some (.int v4), some (.int v5), some (.int q8)] dX5_yearsFrom_126 (by decide) rfl rfl ?_
        refine wa_aload_n (pc := 128) cx 0 dX5_yearsFrom_128 rfl rfl ?_
        refine wa_getR (pc := 129) cx fl_X5_9 lk_34 rfl (cx.bl 34 rfl) dX5_yearsFrom_129 ?_
        refine wa_iload_n (pc := 132) cx 3 dX5_yearsFrom_132 rfl rfl ?_
        refine wa_dup2 (pc := 133) cx dX5_yearsFrom_133 rfl rfl ?_
        obtain ⟨g10, hf⟩ := gd_some hf
        refine wa_iald (pc := 134) cx lk_35 (cx.bl 35 rfl) g10 dX5_yearsFrom_134 ?_
        refine wa_iload (pc := 135) cx 6 dX5_yearsFrom_135 rfl ?_
        refine wa_iadd (pc := 137) cx dX5_yearsFrom_137 ?_
        obtain ⟨g11, hf⟩ := gd_some hf
        refine wa_iast (pc := 138) cx lk_35 (cx.bl 35 rfl) g11 dX5_yearsFrom_138 ?_
        refine wa_iload (pc := 139) cx 5 dX5_yearsFrom_139 rfl ?_
        refine wa_iload (pc := 141) cx 4 dX5_yearsFrom_141 rfl ?_
        refine wa_aload_n (pc := 143) cx 0 dX5_yearsFrom_143 rfl rfl ?_
        refine wa_aload_n (pc := 144) cx 1 dX5_yearsFrom_144 rfl rfl ?_
        refine wa_iload_n (pc := 145) cx 2 dX5_yearsFrom_145 rfl rfl ?_
        refine wa_iconst (pc := 146) (v := 1) cx dX5_yearsFrom_146 (by decide) ?_
        refine wa_iadd (pc := 147) cx dX5_yearsFrom_147 ?_
        obtain ⟨q12, h13, hf⟩ := bd_some hf
        refine wa_callVi (pc := 148) cx [.ref (eA E 8), .int (v2 + 1)] (hrec _ _ _ h13) mi_X5_yearsFrom tw_728 lk_34 rfl (cx.bl 34 rfl) rfl rfl (Nat.le_of_ble_eq_true rfl) ⟨Nat.le_of_eq (by show _ = 2 + n; omega), by show _ ≤ 48 * (2 + n); omega⟩ ⟨Nat.zero_le _, Nat.zero_le _⟩ dX5_yearsFrom_148 ?_
        refine wa_imul (pc := 151) cx dX5_yearsFrom_151 ?_
        refine wa_iadd (pc := 152) cx dX5_yearsFrom_152 ?_
        refine wa_istore (pc := 153) cx 5 [some (.ref (eA E 34)), some (.ref (eA E 8)), some (.int v2), some (.int v3), some (.int v4), some (.int (v5 + (v4 * q12.1))), some (.int q8)] dX5_yearsFrom_153 (by decide) rfl rfl ?_
        refine wa_aload_n (pc := 155) cx 0 dX5_yearsFrom_155 rfl rfl ?_
        refine wa_getR (pc := 156) cx fl_X5_9 lk_34 rfl (cx.bl 34 rfl) dX5_yearsFrom_156 ?_
        refine wa_iload_n (pc := 159) cx 3 dX5_yearsFrom_159 rfl rfl ?_
        refine wa_dup2 (pc := 160) cx dX5_yearsFrom_160 rfl rfl ?_
        obtain ⟨g14, hf⟩ := gd_some hf
        refine wa_iald (pc := 161) cx lk_35 (cx.bl 35 rfl) g14 dX5_yearsFrom_161 ?_
        refine wa_iload (pc := 162) cx 6 dX5_yearsFrom_162 rfl ?_
        refine wa_isub (pc := 164) cx dX5_yearsFrom_164 ?_
        obtain ⟨g15, hf⟩ := gd_some hf
        refine wa_iast (pc := 165) cx lk_35 (cx.bl 35 rfl) g15 dX5_yearsFrom_165 ?_
        refine wa_forget [false, false, false, false, false, true, false] [none, none, none, none, none, some (.int (v5 + (v4 * q12.1))), none] rfl ?_
        exact j166 _ _ hf
    have j51 : ∀  (σ : Sg), fX5_yearsFrom_J51  σ = some q → WA p l e (rmd (2 + n)) s m args below meth c 7 E 0 0 (MQ below (Qcq E s.heap.size (some (.int q.1)) q.2) args s 0 0 (AE E s.heap.size)) 51 [none, none, none, none, none, none, none] [] σ := by
      intro  σ hf
      unfold fX5_yearsFrom_J51 at hf
      refine wa_iconst (pc := 51) (v := 0) cx dX5_yearsFrom_51 (by decide) ?_
      obtain rfl := Option.some.inj hf
      exact wa_iret (pc := 52) cx dX5_yearsFrom_52
    refine wa_iload_n (pc := 0) cx 2 dX5_yearsFrom_0 rfl rfl ?_
    refine wa_aload_n (pc := 1) cx 1 dX5_yearsFrom_1 rfl rfl ?_
    refine wa_getI (pc := 2) cx fl_X5_29 lk_8 rfl (cx.bl 8 rfl) dX5_yearsFrom_2 ?_
    refine wa_icmp_lt (pc := 5) cx 53 dX5_yearsFrom_5 rfl (fun c1 => ?_) (fun c1 => ?_)
    · have hf := (if_pos c1).symm.trans hf
      refine wa_aload_n (pc := 53) cx 1 dX5_yearsFrom_53 rfl rfl ?_
      refine wa_getR (pc := 54) cx fl_X5_40 lk_8 rfl (cx.bl 8 rfl) dX5_yearsFrom_54 ?_
      refine wa_iconst (pc := 57) (v := 0) cx dX5_yearsFrom_57 (by decide) ?_
      refine wa_iload_n (pc := 58) cx 2 dX5_yearsFrom_58 rfl rfl ?_
      refine wa_iadd (pc := 59) cx dX5_yearsFrom_59 ?_
      obtain ⟨g2, hf⟩ := gd_some hf
      refine wa_iald (pc := 60) cx lk_14 (cx.bl 14 rfl) g2 dX5_yearsFrom_60 ?_
      refine wa_istore_n (pc := 61) cx 3 [some (.ref (eA E 34)), some (.ref (eA E 8)), some (.int a2), some (.int (ga σ 14 (0 + a2))), none, none, none] dX5_yearsFrom_61 rfl (by decide) rfl rfl ?_
      refine wa_iload_n (pc := 62) cx 3 dX5_yearsFrom_62 rfl rfl ?_
      refine wa_iconst (pc := 63) (v := (-1)) cx dX5_yearsFrom_63 (by decide) ?_
      refine wa_icmp_ne (pc := 64) cx 79 dX5_yearsFrom_64 rfl (fun c3 => ?_) (fun c3 => ?_)
      · have hf := (if_neg c3).symm.trans hf
        refine wa_aload_n (pc := 79) cx 1 dX5_yearsFrom_79 rfl rfl ?_
        refine wa_iload_n (pc := 80) cx 2 dX5_yearsFrom_80 rfl rfl ?_
        obtain ⟨q4, h5, hf⟩ := bd_some hf
        refine wa_callVi (pc := 81) cx [.int a2] (ct_X9_keptInTen l E _ _ _ h5) mi_X9_keptInTen tw_732 lk_8 rfl (cx.bl 8 rfl) rfl rfl (Nat.le_of_ble_eq_true rfl) ⟨by show _ ≤ 2 + n; omega, by show _ ≤ 48 * (2 + n); omega⟩ ⟨Nat.zero_le _, Nat.zero_le _⟩ dX5_yearsFrom_81 ?_
        refine wa_istore (pc := 84) cx 4 [some (.ref (eA E 34)), some (.ref (eA E 8)), some (.int a2), some (.int (ga σ 14 (0 + a2))), some (.int q4), none, none] dX5_yearsFrom_84 (by decide) rfl rfl ?_
        refine wa_iconst (pc := 86) (v := 0) cx dX5_yearsFrom_86 (by decide) ?_
        refine wa_istore (pc := 87) cx 5 [some (.ref (eA E 34)), some (.ref (eA E 8)), some (.int a2), some (.int (ga σ 14 (0 + a2))), some (.int q4), some (.int 0), none] dX5_yearsFrom_87 (by decide) rfl rfl ?_
        refine wa_iload (pc := 89) cx 4 dX5_yearsFrom_89 rfl ?_
        refine wa_bipush (pc := 91) (v := 10) cx dX5_yearsFrom_91 (by decide) ?_
        refine wa_icmp_ge (pc := 93) cx 115 dX5_yearsFrom_93 rfl (fun c6 => ?_) (fun c6 => ?_)
        · have hf := (if_pos c6).symm.trans hf
          exact j115 _ _ _ _ _ hf
        · have hf := (if_neg c6).symm.trans hf
          refine wa_iload (pc := 96) cx 5 dX5_yearsFrom_96 rfl ?_
          refine wa_bipush (pc := 98) (v := 10) cx dX5_yearsFrom_98 (by decide) ?_
          refine wa_iload (pc := 100) cx 4 dX5_yearsFrom_100 rfl ?_
          refine wa_isub (pc := 102) cx dX5_yearsFrom_102 ?_
          refine wa_aload_n (pc := 103) cx 0 dX5_yearsFrom_103 rfl rfl ?_
          refine wa_aload_n (pc := 104) cx 1 dX5_yearsFrom_104 rfl rfl ?_
          refine wa_iload_n (pc := 105) cx 2 dX5_yearsFrom_105 rfl rfl ?_
          refine wa_iconst (pc := 106) (v := 1) cx dX5_yearsFrom_106 (by decide) ?_
          refine wa_iadd (pc := 107) cx dX5_yearsFrom_107 ?_
          obtain ⟨q16, h17, hf⟩ := bd_some hf
          refine wa_callVi (pc := 108) cx [.ref (eA E 8), .int (a2 + 1)] (hrec _ _ _ h17) mi_X5_yearsFrom tw_728 lk_34 rfl (cx.bl 34 rfl) rfl rfl (Nat.le_of_ble_eq_true rfl) ⟨Nat.le_of_eq (by show _ = 2 + n; omega), by show _ ≤ 48 * (2 + n); omega⟩ ⟨Nat.zero_le _, Nat.zero_le _⟩ dX5_yearsFrom_108 ?_
          refine wa_imul (pc := 111) cx dX5_yearsFrom_111 ?_
          refine wa_iadd (pc := 112) cx dX5_yearsFrom_112 ?_
          refine wa_istore (pc := 113) cx 5 [some (.ref (eA E 34)), some (.ref (eA E 8)), some (.int a2), some (.int (ga σ 14 (0 + a2))), some (.int q4), some (.int (0 + ((10 - q4) * q16.1))), none] dX5_yearsFrom_113 (by decide) rfl rfl ?_
          exact j115 _ _ _ _ _ hf
      · have hf := (if_pos c3).symm.trans hf
        refine wa_bipush (pc := 67) (v := 10) cx dX5_yearsFrom_67 (by decide) ?_
        refine wa_aload_n (pc := 69) cx 0 dX5_yearsFrom_69 rfl rfl ?_
        refine wa_aload_n (pc := 70) cx 1 dX5_yearsFrom_70 rfl rfl ?_
        refine wa_iload_n (pc := 71) cx 2 dX5_yearsFrom_71 rfl rfl ?_
        refine wa_iconst (pc := 72) (v := 1) cx dX5_yearsFrom_72 (by decide) ?_
        refine wa_iadd (pc := 73) cx dX5_yearsFrom_73 ?_
        obtain ⟨q18, h19, hf⟩ := bd_some hf
        refine wa_callVi (pc := 74) cx [.ref (eA E 8), .int (a2 + 1)] (hrec _ _ _ h19) mi_X5_yearsFrom tw_728 lk_34 rfl (cx.bl 34 rfl) rfl rfl (Nat.le_of_ble_eq_true rfl) ⟨Nat.le_of_eq (by show _ = 2 + n; omega), by show _ ≤ 48 * (2 + n); omega⟩ ⟨Nat.zero_le _, Nat.zero_le _⟩ dX5_yearsFrom_74 ?_
        refine wa_imul (pc := 77) cx dX5_yearsFrom_77 ?_
        obtain rfl := Option.some.inj hf
        exact wa_iret (pc := 78) cx dX5_yearsFrom_78
    · have hf := (if_neg c1).symm.trans hf
      refine wa_aload_n (pc := 8) cx 0 dX5_yearsFrom_8 rfl rfl ?_
      refine wa_getR (pc := 9) cx fl_X5_9 lk_34 rfl (cx.bl 34 rfl) dX5_yearsFrom_9 ?_
      refine wa_iconst (pc := 12) (v := 0) cx dX5_yearsFrom_12 (by decide) ?_
      obtain ⟨g20, hf⟩ := gd_some hf
      refine wa_iald (pc := 13) cx lk_35 (cx.bl 35 rfl) g20 dX5_yearsFrom_13 ?_
      refine wa_aload_n (pc := 14) cx 0 dX5_yearsFrom_14 rfl rfl ?_
      refine wa_getI (pc := 15) cx fl_X5_15 lk_34 rfl (cx.bl 34 rfl) dX5_yearsFrom_15 ?_
      refine wa_icmp_lt (pc := 18) cx 51 dX5_yearsFrom_18 rfl (fun c21 => ?_) (fun c21 => ?_)
      · have hf := (if_pos c21).symm.trans hf
        refine wa_forget [false, false, false, false, false, false, false] [none, none, none, none, none, none, none] rfl ?_
        exact j51  _ hf
      · have hf := (if_neg c21).symm.trans hf
        refine wa_aload_n (pc := 21) cx 0 dX5_yearsFrom_21 rfl rfl ?_
        refine wa_getR (pc := 22) cx fl_X5_9 lk_34 rfl (cx.bl 34 rfl) dX5_yearsFrom_22 ?_
        refine wa_iconst (pc := 25) (v := 1) cx dX5_yearsFrom_25 (by decide) ?_
        obtain ⟨g22, hf⟩ := gd_some hf
        refine wa_iald (pc := 26) cx lk_35 (cx.bl 35 rfl) g22 dX5_yearsFrom_26 ?_
        refine wa_aload_n (pc := 27) cx 0 dX5_yearsFrom_27 rfl rfl ?_
        refine wa_getI (pc := 28) cx fl_X5_15 lk_34 rfl (cx.bl 34 rfl) dX5_yearsFrom_28 ?_
        refine wa_icmp_lt (pc := 31) cx 51 dX5_yearsFrom_31 rfl (fun c23 => ?_) (fun c23 => ?_)
        · have hf := (if_pos c23).symm.trans hf
          refine wa_forget [false, false, false, false, false, false, false] [none, none, none, none, none, none, none] rfl ?_
          exact j51  _ hf
        · have hf := (if_neg c23).symm.trans hf
          refine wa_aload_n (pc := 34) cx 0 dX5_yearsFrom_34 rfl rfl ?_
          refine wa_getR (pc := 35) cx fl_X5_9 lk_34 rfl (cx.bl 34 rfl) dX5_yearsFrom_35 ?_
          refine wa_iconst (pc := 38) (v := 2) cx dX5_yearsFrom_38 (by decide) ?_
          obtain ⟨g24, hf⟩ := gd_some hf
          refine wa_iald (pc := 39) cx lk_35 (cx.bl 35 rfl) g24 dX5_yearsFrom_39 ?_
          refine wa_aload_n (pc := 40) cx 0 dX5_yearsFrom_40 rfl rfl ?_
          refine wa_getI (pc := 41) cx fl_X5_15 lk_34 rfl (cx.bl 34 rfl) dX5_yearsFrom_41 ?_
          refine wa_icmp_lt (pc := 44) cx 51 dX5_yearsFrom_44 rfl (fun c25 => ?_) (fun c25 => ?_)
          · have hf := (if_pos c25).symm.trans hf
            refine wa_forget [false, false, false, false, false, false, false] [none, none, none, none, none, none, none] rfl ?_
            exact j51  _ hf
          · have hf := (if_neg c25).symm.trans hf
            refine wa_iconst (pc := 47) (v := 1) cx dX5_yearsFrom_47 (by decide) ?_
            refine wa_goto (pc := 48) cx 52 dX5_yearsFrom_48 rfl ?_
            obtain rfl := Option.some.inj hf
            exact wa_iret (pc := 52) cx dX5_yearsFrom_52
def fX5_divideByTwo  (σ : Sg) : Option (Sg) :=
  if irm (gf σ 34 2) 2 = 0 then (if irm (gf σ 34 3) 2 = 0 then (some (sup (sup σ 34 2 (gf σ 34 2 / 2)) 34 3 (gf (sup σ 34 2 (gf σ 34 2 / 2)) 34 3 / 2))) else (some σ)) else (some σ)
set_option maxHeartbeats 4000000 in
set_option maxRecDepth 100000 in
theorem ct_X5_divideByTwo (l : Launch) (E : En) (σ : Sg)  (q : Sg) (hf : fX5_divideByTwo  σ = some q) : CT l yX5_divideByTwo cX5_divideByTwo 1 none 0 E σ [.ref (eA E 34)] none q := by
  refine CT.of RX5 [some (.ref (eA E 34))] rfl (by decide +kernel) (Nat.le_of_ble_eq_true rfl) rfl ?_
  intro p e s m args below meth c cx
  unfold fX5_divideByTwo at hf
  refine wa_aload_n (pc := 0) cx 0 dX5_divideByTwo_0 rfl rfl ?_
  refine wa_getI (pc := 1) cx fl_X5_19 lk_34 rfl (cx.bl 34 rfl) dX5_divideByTwo_1 ?_
  refine wa_iconst (pc := 4) (v := 2) cx dX5_divideByTwo_4 (by decide) ?_
  refine wa_irem (pc := 5) cx dX5_divideByTwo_5 (by decide) ?_
  refine wa_if_ne (pc := 6) cx 38 dX5_divideByTwo_6 rfl (fun c1 => ?_) (fun c1 => ?_)
  · have hf := (if_neg c1).symm.trans hf
    obtain rfl := Option.some.inj hf
    exact wa_vret (pc := 38) cx dX5_divideByTwo_38
  · have hf := (if_pos c1).symm.trans hf
    refine wa_aload_n (pc := 9) cx 0 dX5_divideByTwo_9 rfl rfl ?_
    refine wa_getI (pc := 10) cx fl_X5_22 lk_34 rfl (cx.bl 34 rfl) dX5_divideByTwo_10 ?_
    refine wa_iconst (pc := 13) (v := 2) cx dX5_divideByTwo_13 (by decide) ?_
    refine wa_irem (pc := 14) cx dX5_divideByTwo_14 (by decide) ?_
    refine wa_if_ne (pc := 15) cx 38 dX5_divideByTwo_15 rfl (fun c2 => ?_) (fun c2 => ?_)
    · have hf := (if_neg c2).symm.trans hf
      obtain rfl := Option.some.inj hf
      exact wa_vret (pc := 38) cx dX5_divideByTwo_38
    · have hf := (if_pos c2).symm.trans hf
      refine wa_aload_n (pc := 18) cx 0 dX5_divideByTwo_18 rfl rfl ?_
      refine wa_dup (pc := 19) cx dX5_divideByTwo_19 rfl ?_
      refine wa_getI (pc := 20) cx fl_X5_19 lk_34 rfl (cx.bl 34 rfl) dX5_divideByTwo_20 ?_
      refine wa_iconst (pc := 23) (v := 2) cx dX5_divideByTwo_23 (by decide) ?_
      refine wa_idiv (pc := 24) cx dX5_divideByTwo_24 (by decide) ?_
      refine wa_putI (pc := 25) cx fp_X5_19 lk_34 rfl (cx.bl 34 rfl) dX5_divideByTwo_25 ?_
      refine wa_aload_n (pc := 28) cx 0 dX5_divideByTwo_28 rfl rfl ?_
      refine wa_dup (pc := 29) cx dX5_divideByTwo_29 rfl ?_
      refine wa_getI (pc := 30) cx fl_X5_22 lk_34 rfl (cx.bl 34 rfl) dX5_divideByTwo_30 ?_
      refine wa_iconst (pc := 33) (v := 2) cx dX5_divideByTwo_33 (by decide) ?_
      refine wa_idiv (pc := 34) cx dX5_divideByTwo_34 (by decide) ?_
      refine wa_putI (pc := 35) cx fp_X5_22 lk_34 rfl (cx.bl 34 rfl) dX5_divideByTwo_35 ?_
      obtain rfl := Option.some.inj hf
      exact wa_vret (pc := 38) cx dX5_divideByTwo_38
def fX5_divideByFive  (σ : Sg) : Option (Sg) :=
  if irm (gf σ 34 2) 5 = 0 then (if irm (gf σ 34 3) 5 = 0 then (some (sup (sup σ 34 2 (gf σ 34 2 / 5)) 34 3 (gf (sup σ 34 2 (gf σ 34 2 / 5)) 34 3 / 5))) else (some σ)) else (some σ)
set_option maxHeartbeats 4000000 in
set_option maxRecDepth 100000 in
theorem ct_X5_divideByFive (l : Launch) (E : En) (σ : Sg)  (q : Sg) (hf : fX5_divideByFive  σ = some q) : CT l yX5_divideByFive cX5_divideByFive 1 none 0 E σ [.ref (eA E 34)] none q := by
  refine CT.of RX5 [some (.ref (eA E 34))] rfl (by decide +kernel) (Nat.le_of_ble_eq_true rfl) rfl ?_
  intro p e s m args below meth c cx
  unfold fX5_divideByFive at hf
  refine wa_aload_n (pc := 0) cx 0 dX5_divideByFive_0 rfl rfl ?_
  refine wa_getI (pc := 1) cx fl_X5_19 lk_34 rfl (cx.bl 34 rfl) dX5_divideByFive_1 ?_
  refine wa_iconst (pc := 4) (v := 5) cx dX5_divideByFive_4 (by decide) ?_
  refine wa_irem (pc := 5) cx dX5_divideByFive_5 (by decide) ?_
  refine wa_if_ne (pc := 6) cx 38 dX5_divideByFive_6 rfl (fun c1 => ?_) (fun c1 => ?_)
  · have hf := (if_neg c1).symm.trans hf
    obtain rfl := Option.some.inj hf
    exact wa_vret (pc := 38) cx dX5_divideByFive_38
  · have hf := (if_pos c1).symm.trans hf
    refine wa_aload_n (pc := 9) cx 0 dX5_divideByFive_9 rfl rfl ?_
    refine wa_getI (pc := 10) cx fl_X5_22 lk_34 rfl (cx.bl 34 rfl) dX5_divideByFive_10 ?_
    refine wa_iconst (pc := 13) (v := 5) cx dX5_divideByFive_13 (by decide) ?_
    refine wa_irem (pc := 14) cx dX5_divideByFive_14 (by decide) ?_
    refine wa_if_ne (pc := 15) cx 38 dX5_divideByFive_15 rfl (fun c2 => ?_) (fun c2 => ?_)
    · have hf := (if_neg c2).symm.trans hf
      obtain rfl := Option.some.inj hf
      exact wa_vret (pc := 38) cx dX5_divideByFive_38
    · have hf := (if_pos c2).symm.trans hf
      refine wa_aload_n (pc := 18) cx 0 dX5_divideByFive_18 rfl rfl ?_
      refine wa_dup (pc := 19) cx dX5_divideByFive_19 rfl ?_
      refine wa_getI (pc := 20) cx fl_X5_19 lk_34 rfl (cx.bl 34 rfl) dX5_divideByFive_20 ?_
      refine wa_iconst (pc := 23) (v := 5) cx dX5_divideByFive_23 (by decide) ?_
      refine wa_idiv (pc := 24) cx dX5_divideByFive_24 (by decide) ?_
      refine wa_putI (pc := 25) cx fp_X5_19 lk_34 rfl (cx.bl 34 rfl) dX5_divideByFive_25 ?_
      refine wa_aload_n (pc := 28) cx 0 dX5_divideByFive_28 rfl rfl ?_
      refine wa_dup (pc := 29) cx dX5_divideByFive_29 rfl ?_
      refine wa_getI (pc := 30) cx fl_X5_22 lk_34 rfl (cx.bl 34 rfl) dX5_divideByFive_30 ?_
      refine wa_iconst (pc := 33) (v := 5) cx dX5_divideByFive_33 (by decide) ?_
      refine wa_idiv (pc := 34) cx dX5_divideByFive_34 (by decide) ?_
      refine wa_putI (pc := 35) cx fp_X5_22 lk_34 rfl (cx.bl 34 rfl) dX5_divideByFive_35 ?_
      obtain rfl := Option.some.inj hf
      exact wa_vret (pc := 38) cx dX5_divideByFive_38
def fX5_reckon_B13  (v3 : Int32) (σ : Sg) : Option ((Int32 × Sg) ⊕ (Sg)) :=
  if (3 : Int32) ≤ v3 then (some (.inr σ)) else (gd (inb v3 3) (
  some (.inl ((v3 + 1), sa σ 35 v3 0))))
def fX5_reckon_B48  (v3 : Int32) (σ : Sg) : Option ((Int32 × Sg) ⊕ (Sg)) :=
  if gf σ 8 4 ≤ v3 then (some (.inr σ)) else (some (.inl ((v3 + 1), sup σ 34 3 (gf σ 34 3 * 10))))
def fX5_reckon_B75  (v3 : Int32) (σ : Sg) : Option ((Int32 × Sg) ⊕ (Sg)) :=
  if gf σ 8 4 ≤ v3 then (some (.inr σ)) else ((fX5_divideByTwo  σ).bind (fun q9 =>
  (fX5_divideByFive  q9).bind (fun q11 =>
  some (.inl ((v3 + 1), q11)))))
def fX5_reckon (a2 : Int32) (σ : Sg) : Option (Sg) :=
  (lpO (fun w => fX5_reckon_B13  w.1 w.2) FUEL (0, sup σ 34 1 (((a2 + 3) - 1) / 3))).bind (fun o3 =>
  (fX5_yearsFrom 12 0 o3).bind (fun q4 =>
  (lpO (fun w => fX5_reckon_B48  w.1 w.2) FUEL (0, sup (sup q4.2 34 2 q4.1) 34 3 1)).bind (fun o7 =>
  (lpO (fun w => fX5_reckon_B75  w.1 w.2) FUEL (0, o7)).bind (fun o13 =>
  some o13))))
set_option maxHeartbeats 4000000 in
set_option maxRecDepth 100000 in
theorem ct_X5_reckon (l : Launch) (E : En) (σ : Sg) (a2 : Int32) (q : Sg) (hf : fX5_reckon a2 σ = some q) : CT l yX5_reckon cX5_reckon 4 none 14 E σ [.ref (eA E 34), .ref (eA E 8), .int a2] none q := by
  refine CT.of RX5 [some (.ref (eA E 34)), some (.ref (eA E 8)), some (.int a2), none] rfl (by decide +kernel) (Nat.le_of_ble_eq_true rfl) rfl ?_
  intro p e s m args below meth c cx
  unfold fX5_reckon at hf
  have l13 : ∀  (y : Int32 × Sg) (o : Sg), lpO (fun w => fX5_reckon_B13  w.1 w.2) FUEL y = some o → (WA p l e (rmd 14) s m args below meth c 4 E 0 0 (MQ below (Qcq E s.heap.size (none) q) args s 0 0 (AE E s.heap.size)) 31 [some (.ref (eA E 34)), some (.ref (eA E 8)), none, none] [] o) → WA p l e (rmd 14) s m args below meth c 4 E 0 0 (MQ below (Qcq E s.heap.size (none) q) args s 0 0 (AE E s.heap.size)) 13 [some (.ref (eA E 34)), some (.ref (eA E 8)), none, some (.int y.1)] [] y.2 := by
    intro  y o hf hk
    refine lp_rule (P := fun y => WA p l e (rmd 14) s m args below meth c 4 E 0 0 (MQ below (Qcq E s.heap.size (none) q) args s 0 0 (AE E s.heap.size)) 13 [some (.ref (eA E 34)), some (.ref (eA E 8)), none, some (.int y.1)] [] y.2) (K := fun o => WA p l e (rmd 14) s m args below meth c 4 E 0 0 (MQ below (Qcq E s.heap.size (none) q) args s 0 0 (AE E s.heap.size)) 31 [some (.ref (eA E 34)), some (.ref (eA E 8)), none, none] [] o) ?_ FUEL y o hf hk
    intro y0 r1 hf hk1
    obtain ⟨v3, σ⟩ := y0
    have hf : fX5_reckon_B13  v3 σ = some r1 := hf
    unfold fX5_reckon_B13 at hf
    refine wa_iload_n (pc := 13) cx 3 dX5_reckon_13 rfl rfl ?_
    refine wa_iconst (pc := 14) (v := 3) cx dX5_reckon_14 (by decide) ?_
    refine wa_icmp_ge (pc := 15) cx 31 dX5_reckon_15 rfl (fun c1 => ?_) (fun c1 => ?_)
    · have hf := (if_pos c1).symm.trans hf
      obtain rfl := Option.some.inj hf
      refine wa_forget [true, true, false, false] [some (.ref (eA E 34)), some (.ref (eA E 8)), none, none] rfl ?_
      exact hk1
    · have hf := (if_neg c1).symm.trans hf
      refine wa_aload_n (pc := 18) cx 0 dX5_reckon_18 rfl rfl ?_
      refine wa_getR (pc := 19) cx fl_X5_9 lk_34 rfl (cx.bl 34 rfl) dX5_reckon_19 ?_
      refine wa_iload_n (pc := 22) cx 3 dX5_reckon_22 rfl rfl ?_
      refine wa_iconst (pc := 23) (v := 0) cx dX5_reckon_23 (by decide) ?_
      obtain ⟨g2, hf⟩ := gd_some hf
      refine wa_iast (pc := 24) cx lk_35 (cx.bl 35 rfl) g2 dX5_reckon_24 ?_
      refine wa_iinc (pc := 25) (v := 1) cx 3 [some (.ref (eA E 34)), some (.ref (eA E 8)), none, some (.int (v3 + 1))] dX5_reckon_25 (by decide) rfl (by decide) rfl rfl ?_
      refine wa_goto (pc := 28) cx 13 dX5_reckon_28 rfl ?_
      obtain rfl := Option.some.inj hf
      refine wa_forget [true, true, false, true] [some (.ref (eA E 34)), some (.ref (eA E 8)), none, some (.int (v3 + 1))] rfl ?_
      exact hk1
  have l48 : ∀  (y : Int32 × Sg) (o : Sg), lpO (fun w => fX5_reckon_B48  w.1 w.2) FUEL y = some o → (WA p l e (rmd 14) s m args below meth c 4 E 0 0 (MQ below (Qcq E s.heap.size (none) q) args s 0 0 (AE E s.heap.size)) 73 [some (.ref (eA E 34)), some (.ref (eA E 8)), none, none] [] o) → WA p l e (rmd 14) s m args below meth c 4 E 0 0 (MQ below (Qcq E s.heap.size (none) q) args s 0 0 (AE E s.heap.size)) 48 [some (.ref (eA E 34)), some (.ref (eA E 8)), none, some (.int y.1)] [] y.2 := by
    intro  y o hf hk
    refine lp_rule (P := fun y => WA p l e (rmd 14) s m args below meth c 4 E 0 0 (MQ below (Qcq E s.heap.size (none) q) args s 0 0 (AE E s.heap.size)) 48 [some (.ref (eA E 34)), some (.ref (eA E 8)), none, some (.int y.1)] [] y.2) (K := fun o => WA p l e (rmd 14) s m args below meth c 4 E 0 0 (MQ below (Qcq E s.heap.size (none) q) args s 0 0 (AE E s.heap.size)) 73 [some (.ref (eA E 34)), some (.ref (eA E 8)), none, none] [] o) ?_ FUEL y o hf hk
    intro y0 r1 hf hk1
    obtain ⟨v3, σ⟩ := y0
    have hf : fX5_reckon_B48  v3 σ = some r1 := hf
    unfold fX5_reckon_B48 at hf
    refine wa_iload_n (pc := 48) cx 3 dX5_reckon_48 rfl rfl ?_
    refine wa_aload_n (pc := 49) cx 1 dX5_reckon_49 rfl rfl ?_
    refine wa_getI (pc := 50) cx fl_X5_29 lk_8 rfl (cx.bl 8 rfl) dX5_reckon_50 ?_
    refine wa_icmp_ge (pc := 53) cx 73 dX5_reckon_53 rfl (fun c6 => ?_) (fun c6 => ?_)
    · have hf := (if_pos c6).symm.trans hf
      obtain rfl := Option.some.inj hf
      refine wa_forget [true, true, false, false] [some (.ref (eA E 34)), some (.ref (eA E 8)), none, none] rfl ?_
      exact hk1
    · have hf := (if_neg c6).symm.trans hf
      refine wa_aload_n (pc := 56) cx 0 dX5_reckon_56 rfl rfl ?_
      refine wa_dup (pc := 57) cx dX5_reckon_57 rfl ?_
      refine wa_getI (pc := 58) cx fl_X5_22 lk_34 rfl (cx.bl 34 rfl) dX5_reckon_58 ?_
      refine wa_bipush (pc := 61) (v := 10) cx dX5_reckon_61 (by decide) ?_
      refine wa_imul (pc := 63) cx dX5_reckon_63 ?_
      refine wa_putI (pc := 64) cx fp_X5_22 lk_34 rfl (cx.bl 34 rfl) dX5_reckon_64 ?_
      refine wa_iinc (pc := 67) (v := 1) cx 3 [some (.ref (eA E 34)), some (.ref (eA E 8)), none, some (.int (v3 + 1))] dX5_reckon_67 (by decide) rfl (by decide) rfl rfl ?_
      refine wa_goto (pc := 70) cx 48 dX5_reckon_70 rfl ?_
      obtain rfl := Option.some.inj hf
      refine wa_forget [true, true, false, true] [some (.ref (eA E 34)), some (.ref (eA E 8)), none, some (.int (v3 + 1))] rfl ?_
      exact hk1
  have l75 : ∀  (y : Int32 × Sg) (o : Sg), lpO (fun w => fX5_reckon_B75  w.1 w.2) FUEL y = some o → (WA p l e (rmd 14) s m args below meth c 4 E 0 0 (MQ below (Qcq E s.heap.size (none) q) args s 0 0 (AE E s.heap.size)) 97 [none, none, none, none] [] o) → WA p l e (rmd 14) s m args below meth c 4 E 0 0 (MQ below (Qcq E s.heap.size (none) q) args s 0 0 (AE E s.heap.size)) 75 [some (.ref (eA E 34)), some (.ref (eA E 8)), none, some (.int y.1)] [] y.2 := by
    intro  y o hf hk
    refine lp_rule (P := fun y => WA p l e (rmd 14) s m args below meth c 4 E 0 0 (MQ below (Qcq E s.heap.size (none) q) args s 0 0 (AE E s.heap.size)) 75 [some (.ref (eA E 34)), some (.ref (eA E 8)), none, some (.int y.1)] [] y.2) (K := fun o => WA p l e (rmd 14) s m args below meth c 4 E 0 0 (MQ below (Qcq E s.heap.size (none) q) args s 0 0 (AE E s.heap.size)) 97 [none, none, none, none] [] o) ?_ FUEL y o hf hk
    intro y0 r1 hf hk1
    obtain ⟨v3, σ⟩ := y0
    have hf : fX5_reckon_B75  v3 σ = some r1 := hf
    unfold fX5_reckon_B75 at hf
    refine wa_iload_n (pc := 75) cx 3 dX5_reckon_75 rfl rfl ?_
    refine wa_aload_n (pc := 76) cx 1 dX5_reckon_76 rfl rfl ?_
    refine wa_getI (pc := 77) cx fl_X5_29 lk_8 rfl (cx.bl 8 rfl) dX5_reckon_77 ?_
    refine wa_icmp_ge (pc := 80) cx 97 dX5_reckon_80 rfl (fun c8 => ?_) (fun c8 => ?_)
    · have hf := (if_pos c8).symm.trans hf
      obtain rfl := Option.some.inj hf
      refine wa_forget [false, false, false, false] [none, none, none, none] rfl ?_
      exact hk1
    · have hf := (if_neg c8).symm.trans hf
      refine wa_aload_n (pc := 83) cx 0 dX5_reckon_83 rfl rfl ?_
      obtain ⟨q9, h10, hf⟩ := bd_some hf
      refine wa_callVv (pc := 84) cx [] (ct_X5_divideByTwo l E _  _ h10) mi_X5_divideByTwo tw_734 lk_34 rfl (cx.bl 34 rfl) rfl rfl (Nat.le_of_ble_eq_true rfl) ⟨Nat.le_of_ble_eq_true rfl, Nat.le_of_ble_eq_true rfl⟩ ⟨Nat.zero_le _, Nat.zero_le _⟩ dX5_reckon_84 ?_
      refine wa_aload_n (pc := 87) cx 0 dX5_reckon_87 rfl rfl ?_
      obtain ⟨q11, h12, hf⟩ := bd_some hf
      refine wa_callVv (pc := 88) cx [] (ct_X5_divideByFive l E _  _ h12) mi_X5_divideByFive tw_738 lk_34 rfl (cx.bl 34 rfl) rfl rfl (Nat.le_of_ble_eq_true rfl) ⟨Nat.le_of_ble_eq_true rfl, Nat.le_of_ble_eq_true rfl⟩ ⟨Nat.zero_le _, Nat.zero_le _⟩ dX5_reckon_88 ?_
      refine wa_iinc (pc := 91) (v := 1) cx 3 [some (.ref (eA E 34)), some (.ref (eA E 8)), none, some (.int (v3 + 1))] dX5_reckon_91 (by decide) rfl (by decide) rfl rfl ?_
      refine wa_goto (pc := 94) cx 75 dX5_reckon_94 rfl ?_
      obtain rfl := Option.some.inj hf
      refine wa_forget [true, true, false, true] [some (.ref (eA E 34)), some (.ref (eA E 8)), none, some (.int (v3 + 1))] rfl ?_
      exact hk1
  refine wa_aload_n (pc := 0) cx 0 dX5_reckon_0 rfl rfl ?_
  refine wa_iload_n (pc := 1) cx 2 dX5_reckon_1 rfl rfl ?_
  refine wa_iconst (pc := 2) (v := 3) cx dX5_reckon_2 (by decide) ?_
  refine wa_iadd (pc := 3) cx dX5_reckon_3 ?_
  refine wa_iconst (pc := 4) (v := 1) cx dX5_reckon_4 (by decide) ?_
  refine wa_isub (pc := 5) cx dX5_reckon_5 ?_
  refine wa_iconst (pc := 6) (v := 3) cx dX5_reckon_6 (by decide) ?_
  refine wa_idiv (pc := 7) cx dX5_reckon_7 (by decide) ?_
  refine wa_putI (pc := 8) cx fp_X5_15 lk_34 rfl (cx.bl 34 rfl) dX5_reckon_8 ?_
  refine wa_iconst (pc := 11) (v := 0) cx dX5_reckon_11 (by decide) ?_
  refine wa_istore_n (pc := 12) cx 3 [some (.ref (eA E 34)), some (.ref (eA E 8)), some (.int a2), some (.int 0)] dX5_reckon_12 rfl (by decide) rfl rfl ?_
  refine wa_forget [true, true, false, true] [some (.ref (eA E 34)), some (.ref (eA E 8)), none, some (.int 0)] rfl ?_
  obtain ⟨o3, h16, hf⟩ := bd_some hf
  refine l13  _ _ h16 ?_
  refine wa_aload_n (pc := 31) cx 0 dX5_reckon_31 rfl rfl ?_
  refine wa_aload_n (pc := 32) cx 0 dX5_reckon_32 rfl rfl ?_
  refine wa_aload_n (pc := 33) cx 1 dX5_reckon_33 rfl rfl ?_
  refine wa_iconst (pc := 34) (v := 0) cx dX5_reckon_34 (by decide) ?_
  obtain ⟨q4, h5, hf⟩ := bd_some hf
  refine wa_callVi (pc := 35) cx [.ref (eA E 8), .int 0] (ct_X5_yearsFrom l E 12 _ _ _ h5) mi_X5_yearsFrom tw_728 lk_34 rfl (cx.bl 34 rfl) rfl rfl (Nat.le_of_ble_eq_true rfl) ⟨Nat.le_of_ble_eq_true rfl, Nat.le_of_ble_eq_true rfl⟩ ⟨Nat.zero_le _, Nat.zero_le _⟩ dX5_reckon_35 ?_
  refine wa_putI (pc := 38) cx fp_X5_19 lk_34 rfl (cx.bl 34 rfl) dX5_reckon_38 ?_
  refine wa_aload_n (pc := 41) cx 0 dX5_reckon_41 rfl rfl ?_
  refine wa_iconst (pc := 42) (v := 1) cx dX5_reckon_42 (by decide) ?_
  refine wa_putI (pc := 43) cx fp_X5_22 lk_34 rfl (cx.bl 34 rfl) dX5_reckon_43 ?_
  refine wa_iconst (pc := 46) (v := 0) cx dX5_reckon_46 (by decide) ?_
  refine wa_istore_n (pc := 47) cx 3 [some (.ref (eA E 34)), some (.ref (eA E 8)), none, some (.int 0)] dX5_reckon_47 rfl (by decide) rfl rfl ?_
  obtain ⟨o7, h15, hf⟩ := bd_some hf
  refine l48  _ _ h15 ?_
  refine wa_iconst (pc := 73) (v := 0) cx dX5_reckon_73 (by decide) ?_
  refine wa_istore_n (pc := 74) cx 3 [some (.ref (eA E 34)), some (.ref (eA E 8)), none, some (.int 0)] dX5_reckon_74 rfl (by decide) rfl rfl ?_
  obtain ⟨o13, h14, hf⟩ := bd_some hf
  refine l75  _ _ h14 ?_
  obtain rfl := Option.some.inj hf
  exact wa_vret (pc := 97) cx dX5_reckon_97
