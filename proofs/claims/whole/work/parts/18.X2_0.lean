def fX2_missing_B4  (v1 : Int32) (v2 : Int32) (σ : Sg) : Option ((Int32 × Int32) ⊕ (Int32)) :=
  if (3 : Int32) ≤ v2 then (some (.inr v1)) else (gd (inb v2 3) (
  some (.inl ((v1 + jmax 0 ((gf σ 25 6 + 1) - ga σ 28 v2)), (v2 + 1)))))
def fX2_missing  (σ : Sg) : Option (Int32) :=
  (lpO (fun w => fX2_missing_B4  w.1 w.2 σ) FUEL (0, 0)).bind (fun o3 =>
  some o3)
set_option maxHeartbeats 4000000 in
set_option maxRecDepth 100000 in
theorem ct_X2_missing (l : Launch) (E : En) (σ : Sg)  (q : Int32) (hf : fX2_missing  σ = some q) : CT l yX2_missing cX2_missing 3 (some .int) 1 E σ [.ref (eA E 25)] (some (.int q)) σ := by
  refine CT.of RX2 [some (.ref (eA E 25)), none, none] rfl (by decide +kernel) (Nat.le_of_ble_eq_true rfl) rfl ?_
  intro p e s m args below meth c cx
  unfold fX2_missing at hf
  have l4 : ∀  (σ : Sg) (y : Int32 × Int32) (o : Int32), lpO (fun w => fX2_missing_B4  w.1 w.2 σ) FUEL y = some o → (WA p l e (rmd 1) s m args below meth c 3 E 0 0 (MQ below (Qcq E s.heap.size (some (.int q)) σ) args s 0 0 (AE E s.heap.size)) 35 [none, some (.int o), none] [] σ) → WA p l e (rmd 1) s m args below meth c 3 E 0 0 (MQ below (Qcq E s.heap.size (some (.int q)) σ) args s 0 0 (AE E s.heap.size)) 4 [some (.ref (eA E 25)), some (.int y.1), some (.int y.2)] [] σ := by
    intro  σ y o hf hk
    refine lp_rule (P := fun y => WA p l e (rmd 1) s m args below meth c 3 E 0 0 (MQ below (Qcq E s.heap.size (some (.int q)) σ) args s 0 0 (AE E s.heap.size)) 4 [some (.ref (eA E 25)), some (.int y.1), some (.int y.2)] [] σ) (K := fun o => WA p l e (rmd 1) s m args below meth c 3 E 0 0 (MQ below (Qcq E s.heap.size (some (.int q)) σ) args s 0 0 (AE E s.heap.size)) 35 [none, some (.int o), none] [] σ) ?_ FUEL y o hf hk
    intro y0 r1 hf hk1
    obtain ⟨v1, v2⟩ := y0
    have hf : fX2_missing_B4  v1 v2 σ = some r1 := hf
    unfold fX2_missing_B4 at hf
    refine wa_iload_n (pc := 4) cx 2 dX2_missing_4 rfl rfl ?_
    refine wa_iconst (pc := 5) (v := 3) cx dX2_missing_5 (by decide) ?_
    refine wa_icmp_ge (pc := 6) cx 35 dX2_missing_6 rfl (fun c1 => ?_) (fun c1 => ?_)
    · have hf := (if_pos c1).symm.trans hf
      obtain rfl := Option.some.inj hf
      refine wa_forget [false, true, false] [none, some (.int v1), none] rfl ?_
      exact hk1
    · have hf := (if_neg c1).symm.trans hf
      refine wa_iload_n (pc := 9) cx 1 dX2_missing_9 rfl rfl ?_
      refine wa_iconst (pc := 10) (v := 0) cx dX2_missing_10 (by decide) ?_
      refine wa_aload_n (pc := 11) cx 0 dX2_missing_11 rfl rfl ?_
      refine wa_getI (pc := 12) cx fl_X2_31 lk_25 rfl (cx.bl 25 rfl) dX2_missing_12 ?_
      refine wa_iconst (pc := 15) (v := 1) cx dX2_missing_15 (by decide) ?_
      refine wa_iadd (pc := 16) cx dX2_missing_16 ?_
      refine wa_aload_n (pc := 17) cx 0 dX2_missing_17 rfl rfl ?_
      refine wa_getR (pc := 18) cx fl_X2_18 lk_25 rfl (cx.bl 25 rfl) dX2_missing_18 ?_
      refine wa_iload_n (pc := 21) cx 2 dX2_missing_21 rfl rfl ?_
      obtain ⟨g2, hf⟩ := gd_some hf
      refine wa_iald (pc := 22) cx lk_28 (cx.bl 28 rfl) g2 dX2_missing_22 ?_
      refine wa_isub (pc := 23) cx dX2_missing_23 ?_
      refine wa_mmax (pc := 24) cx tw_696 (Nat.le_of_ble_eq_true rfl) (Nat.le_of_ble_eq_true rfl) ⟨Nat.zero_le _, Nat.zero_le _⟩ dX2_missing_24 ?_
      refine wa_iadd (pc := 27) cx dX2_missing_27 ?_
      refine wa_istore_n (pc := 28) cx 1 [some (.ref (eA E 25)), some (.int (v1 + jmax 0 ((gf σ 25 6 + 1) - ga σ 28 v2))), some (.int v2)] dX2_missing_28 rfl (by decide) rfl rfl ?_
      refine wa_iinc (pc := 29) (v := 1) cx 2 [some (.ref (eA E 25)), some (.int (v1 + jmax 0 ((gf σ 25 6 + 1) - ga σ 28 v2))), some (.int (v2 + 1))] dX2_missing_29 (by decide) rfl (by decide) rfl rfl ?_
      refine wa_goto (pc := 32) cx 4 dX2_missing_32 rfl ?_
      obtain rfl := Option.some.inj hf
      refine wa_forget [true, true, true] [some (.ref (eA E 25)), some (.int (v1 + jmax 0 ((gf σ 25 6 + 1) - ga σ 28 v2))), some (.int (v2 + 1))] rfl ?_
      exact hk1
  refine wa_iconst (pc := 0) (v := 0) cx dX2_missing_0 (by decide) ?_
  refine wa_istore_n (pc := 1) cx 1 [some (.ref (eA E 25)), some (.int 0), none] dX2_missing_1 rfl (by decide) rfl rfl ?_
  refine wa_iconst (pc := 2) (v := 0) cx dX2_missing_2 (by decide) ?_
  refine wa_istore_n (pc := 3) cx 2 [some (.ref (eA E 25)), some (.int 0), some (.int 0)] dX2_missing_3 rfl (by decide) rfl rfl ?_
  obtain ⟨o3, h4, hf⟩ := bd_some hf
  refine l4  _ _ _ h4 ?_
  refine wa_iload_n (pc := 35) cx 1 dX2_missing_35 rfl rfl ?_
  obtain rfl := Option.some.inj hf
  exact wa_iret (pc := 36) cx dX2_missing_36
def fX2_layFrom_J118 (rc : Int32 → Int32 → Sg → Option (Sg)) (v1 : Int32) (v2 : Int32) (v3 : Int32) (t2 : Int32) (t1 : Int32) (σ : Sg) : Option ((Int32 × Sg) ⊕ (Sg)) :=
  (rc t1 t2 σ).bind (fun q13 =>
  gd (inb v3 3) (
  gd (inb v1 9) (
  gd (inb v3 3) (
  some (.inl ((v3 + 1), sa q13 28 v3 (ga q13 28 v3 - ga q13 26 v1)))))))
def fX2_layFrom_B70 (rc : Int32 → Int32 → Sg → Option (Sg)) (v1 : Int32) (v2 : Int32) (v3 : Int32) (σ : Sg) : Option ((Int32 × Sg) ⊕ (Sg)) :=
  if v2 < v3 then (some (.inr σ)) else (if (3 : Int32) ≤ v3 then (some (.inr σ)) else (gd (inb v1 9) (
  gd (inb v3 3) (
  gd (inb v1 9) (
  gd (inb v3 3) (
  if v3 = v2 then (fX2_layFrom_J118 rc v1 v2 v3 (v2 + 1) (v1 + 1) (sa (sa σ 29 v1 v3) 28 v3 (ga (sa σ 29 v1 v3) 28 v3 + ga (sa σ 29 v1 v3) 26 v1))) else (fX2_layFrom_J118 rc v1 v2 v3 v2 (v1 + 1) (sa (sa σ 29 v1 v3) 28 v3 (ga (sa σ 29 v1 v3) 28 v3 + ga (sa σ 29 v1 v3) 26 v1)))))))))
def fX2_layFrom_R (rc : Int32 → Int32 → Sg → Option (Sg)) (a1 : Int32) (a2 : Int32) (σ : Sg) : Option (Sg) :=
  (fX2_missing  σ).bind (fun q1 =>
  gd (inb a1 10) (
  if q1 ≤ ga σ 27 a1 then (if a1 < gf σ 25 4 then ((lpO (fun w => fX2_layFrom_B70 rc a1 a2 w.1 w.2) FUEL (0, σ)).bind (fun o18 =>
  some o18)) else (gd (inb 0 3) (
  gd (inb 1 3) (
  gd (inb 2 3) (
  gd (cpk 0 0 (gf (sup σ 25 6 (jmin (ga σ 28 0) (jmin (ga σ 28 1) (ga σ 28 2)))) 25 4) 9 9) (
  some (scp (sup σ 25 6 (jmin (ga σ 28 0) (jmin (ga σ 28 1) (ga σ 28 2)))) 29 30 0 0 (gf (sup σ 25 6 (jmin (ga σ 28 0) (jmin (ga σ 28 1) (ga σ 28 2)))) 25 4)))))))) else (some σ)))
def fX2_layFrom : Nat → Int32 → Int32 → Sg → Option (Sg)
  | 0 => fun _ _ _ => none
  | n + 1 => fX2_layFrom_R (fX2_layFrom n)
set_option maxHeartbeats 4000000 in
set_option maxRecDepth 100000 in
theorem ct_X2_layFrom (l : Launch) (E : En) : ∀ (n : Nat) (σ : Sg) (a1 : Int32) (a2 : Int32) (q : Sg), fX2_layFrom n a1 a2 σ = some q → CT l yX2_layFrom cX2_layFrom 4 none (1 + n) E σ [.ref (eA E 25), .int a1, .int a2] none q := by
  intro n
  induction n with
  | zero => intro σ a1 a2 q hf; cases hf
  | succ n hrec =>
    intro σ a1 a2 q hf
    rw [show 1 + (n + 1) = 2 + n by omega]
    have hf : fX2_layFrom_R (fX2_layFrom n) a1 a2 σ = some q := hf
    generalize fX2_layFrom n = rc at hf hrec
    refine CT.of RX2 [some (.ref (eA E 25)), some (.int a1), some (.int a2), none] rfl (by decide +kernel) (Nat.le_of_ble_eq_true rfl) rfl ?_
    intro p e s m args below meth c cx
    unfold fX2_layFrom_R at hf
    have l70 : ∀ (v1 : Int32) (v2 : Int32) (y : Int32 × Sg) (o : Sg), lpO (fun w => fX2_layFrom_B70 rc v1 v2 w.1 w.2) FUEL y = some o → (WA p l e (rmd (2 + n)) s m args below meth c 4 E 0 0 (MQ below (Qcq E s.heap.size (none) q) args s 0 0 (AE E s.heap.size)) 142 [none, none, none, none] [] o) → WA p l e (rmd (2 + n)) s m args below meth c 4 E 0 0 (MQ below (Qcq E s.heap.size (none) q) args s 0 0 (AE E s.heap.size)) 70 [some (.ref (eA E 25)), some (.int v1), some (.int v2), some (.int y.1)] [] y.2 := by
      intro v1 v2 y o hf hk
      refine lp_rule (P := fun y => WA p l e (rmd (2 + n)) s m args below meth c 4 E 0 0 (MQ below (Qcq E s.heap.size (none) q) args s 0 0 (AE E s.heap.size)) 70 [some (.ref (eA E 25)), some (.int v1), some (.int v2), some (.int y.1)] [] y.2) (K := fun o => WA p l e (rmd (2 + n)) s m args below meth c 4 E 0 0 (MQ below (Qcq E s.heap.size (none) q) args s 0 0 (AE E s.heap.size)) 142 [none, none, none, none] [] o) ?_ FUEL y o hf hk
      have j118 : ∀ (v1 : Int32) (v2 : Int32) (v3 : Int32) (t2 : Int32) (t1 : Int32) (σ : Sg) (r1 : (Int32 × Sg) ⊕ (Sg)), fX2_layFrom_J118 rc v1 v2 v3 t2 t1 σ = some r1 → (sel (fun y1 => WA p l e (rmd (2 + n)) s m args below meth c 4 E 0 0 (MQ below (Qcq E s.heap.size (none) q) args s 0 0 (AE E s.heap.size)) 70 [some (.ref (eA E 25)), some (.int v1), some (.int v2), some (.int y1.1)] [] y1.2) (fun y1 => WA p l e (rmd (2 + n)) s m args below meth c 4 E 0 0 (MQ below (Qcq E s.heap.size (none) q) args s 0 0 (AE E s.heap.size)) 142 [none, none, none, none] [] y1) r1) → WA p l e (rmd (2 + n)) s m args below meth c 4 E 0 0 (MQ below (Qcq E s.heap.size (none) q) args s 0 0 (AE E s.heap.size)) 118 [some (.ref (eA E 25)), some (.int v1), some (.int v2), some (.int v3)] [.int t2, .int t1, .ref (eA E 25)] σ := by
        intro v1 v2 v3 t2 t1 σ r1 hf hk1
        unfold fX2_layFrom_J118 at hf
        obtain ⟨q13, h14, hf⟩ := bd_some hf
        refine wa_callVv (pc := 118) cx [.int t1, .int t2] (hrec _ _ _ _ h14) mi_X2_layFrom tw_688 lk_25 rfl (cx.bl 25 rfl) rfl rfl (Nat.le_of_ble_eq_true rfl) ⟨Nat.le_of_eq (by show _ = 2 + n; omega), by show _ ≤ 48 * (2 + n); omega⟩ ⟨Nat.zero_le _, Nat.zero_le _⟩ dX2_layFrom_118 ?_
        refine wa_aload_n (pc := 121) cx 0 dX2_layFrom_121 rfl rfl ?_
        refine wa_getR (pc := 122) cx fl_X2_18 lk_25 rfl (cx.bl 25 rfl) dX2_layFrom_122 ?_
        refine wa_iload_n (pc := 125) cx 3 dX2_layFrom_125 rfl rfl ?_
        refine wa_dup2 (pc := 126) cx dX2_layFrom_126 rfl rfl ?_
        obtain ⟨g15, hf⟩ := gd_some hf
        refine wa_iald (pc := 127) cx lk_28 (cx.bl 28 rfl) g15 dX2_layFrom_127 ?_
        refine wa_aload_n (pc := 128) cx 0 dX2_layFrom_128 rfl rfl ?_
        refine wa_getR (pc := 129) cx fl_X2_9 lk_25 rfl (cx.bl 25 rfl) dX2_layFrom_129 ?_
        refine wa_iload_n (pc := 132) cx 1 dX2_layFrom_132 rfl rfl ?_
        obtain ⟨g16, hf⟩ := gd_some hf
        refine wa_iald (pc := 133) cx lk_26 (cx.bl 26 rfl) g16 dX2_layFrom_133 ?_
        refine wa_isub (pc := 134) cx dX2_layFrom_134 ?_
        obtain ⟨g17, hf⟩ := gd_some hf
        refine wa_iast (pc := 135) cx lk_28 (cx.bl 28 rfl) g17 dX2_layFrom_135 ?_
        refine wa_iinc (pc := 136) (v := 1) cx 3 [some (.ref (eA E 25)), some (.int v1), some (.int v2), some (.int (v3 + 1))] dX2_layFrom_136 (by decide) rfl (by decide) rfl rfl ?_
        refine wa_goto (pc := 139) cx 70 dX2_layFrom_139 rfl ?_
        obtain rfl := Option.some.inj hf
        refine wa_forget [true, true, true, true] [some (.ref (eA E 25)), some (.int v1), some (.int v2), some (.int (v3 + 1))] rfl ?_
        exact hk1
      intro y0 r1 hf hk1
      obtain ⟨v3, σ⟩ := y0
      have hf : fX2_layFrom_B70 rc v1 v2 v3 σ = some r1 := hf
      unfold fX2_layFrom_B70 at hf
      refine wa_iload_n (pc := 70) cx 3 dX2_layFrom_70 rfl rfl ?_
      refine wa_iload_n (pc := 71) cx 2 dX2_layFrom_71 rfl rfl ?_
      refine wa_icmp_gt (pc := 72) cx 142 dX2_layFrom_72 rfl (fun c6 => ?_) (fun c6 => ?_)
      · have hf := (if_pos c6).symm.trans hf
        obtain rfl := Option.some.inj hf
        refine wa_forget [false, false, false, false] [none, none, none, none] rfl ?_
        exact hk1
      · have hf := (if_neg c6).symm.trans hf
        refine wa_iload_n (pc := 75) cx 3 dX2_layFrom_75 rfl rfl ?_
        refine wa_iconst (pc := 76) (v := 3) cx dX2_layFrom_76 (by decide) ?_
        refine wa_icmp_ge (pc := 77) cx 142 dX2_layFrom_77 rfl (fun c7 => ?_) (fun c7 => ?_)
        · have hf := (if_pos c7).symm.trans hf
          obtain rfl := Option.some.inj hf
          refine wa_forget [false, false, false, false] [none, none, none, none] rfl ?_
          exact hk1
        · have hf := (if_neg c7).symm.trans hf
          refine wa_aload_n (pc := 80) cx 0 dX2_layFrom_80 rfl rfl ?_
          refine wa_getR (pc := 81) cx fl_X2_21 lk_25 rfl (cx.bl 25 rfl) dX2_layFrom_81 ?_
          refine wa_iload_n (pc := 84) cx 1 dX2_layFrom_84 rfl rfl ?_
          refine wa_iload_n (pc := 85) cx 3 dX2_layFrom_85 rfl rfl ?_
          obtain ⟨g8, hf⟩ := gd_some hf
          refine wa_iast (pc := 86) cx lk_29 (cx.bl 29 rfl) g8 dX2_layFrom_86 ?_
          refine wa_aload_n (pc := 87) cx 0 dX2_layFrom_87 rfl rfl ?_
          refine wa_getR (pc := 88) cx fl_X2_18 lk_25 rfl (cx.bl 25 rfl) dX2_layFrom_88 ?_
          refine wa_iload_n (pc := 91) cx 3 dX2_layFrom_91 rfl rfl ?_
          refine wa_dup2 (pc := 92) cx dX2_layFrom_92 rfl rfl ?_
          obtain ⟨g9, hf⟩ := gd_some hf
          refine wa_iald (pc := 93) cx lk_28 (cx.bl 28 rfl) g9 dX2_layFrom_93 ?_
          refine wa_aload_n (pc := 94) cx 0 dX2_layFrom_94 rfl rfl ?_
          refine wa_getR (pc := 95) cx fl_X2_9 lk_25 rfl (cx.bl 25 rfl) dX2_layFrom_95 ?_
          refine wa_iload_n (pc := 98) cx 1 dX2_layFrom_98 rfl rfl ?_
          obtain ⟨g10, hf⟩ := gd_some hf
          refine wa_iald (pc := 99) cx lk_26 (cx.bl 26 rfl) g10 dX2_layFrom_99 ?_
          refine wa_iadd (pc := 100) cx dX2_layFrom_100 ?_
          obtain ⟨g11, hf⟩ := gd_some hf
          refine wa_iast (pc := 101) cx lk_28 (cx.bl 28 rfl) g11 dX2_layFrom_101 ?_
          refine wa_aload_n (pc := 102) cx 0 dX2_layFrom_102 rfl rfl ?_
          refine wa_iload_n (pc := 103) cx 1 dX2_layFrom_103 rfl rfl ?_
          refine wa_iconst (pc := 104) (v := 1) cx dX2_layFrom_104 (by decide) ?_
          refine wa_iadd (pc := 105) cx dX2_layFrom_105 ?_
          refine wa_iload_n (pc := 106) cx 3 dX2_layFrom_106 rfl rfl ?_
          refine wa_iload_n (pc := 107) cx 2 dX2_layFrom_107 rfl rfl ?_
          refine wa_icmp_ne (pc := 108) cx 117 dX2_layFrom_108 rfl (fun c12 => ?_) (fun c12 => ?_)
          · have hf := (if_neg c12).symm.trans hf
            refine wa_iload_n (pc := 117) cx 2 dX2_layFrom_117 rfl rfl ?_
            exact j118 _ _ _ _ _ _ _ hf hk1
          · have hf := (if_pos c12).symm.trans hf
            refine wa_iload_n (pc := 111) cx 2 dX2_layFrom_111 rfl rfl ?_
            refine wa_iconst (pc := 112) (v := 1) cx dX2_layFrom_112 (by decide) ?_
            refine wa_iadd (pc := 113) cx dX2_layFrom_113 ?_
            refine wa_goto (pc := 114) cx 118 dX2_layFrom_114 rfl ?_
            exact j118 _ _ _ _ _ _ _ hf hk1
    refine wa_aload_n (pc := 0) cx 0 dX2_layFrom_0 rfl rfl ?_
    obtain ⟨q1, h2, hf⟩ := bd_some hf
    refine wa_callVi (pc := 1) cx [] (ct_X2_missing l E _  _ h2) mi_X2_missing tw_692 lk_25 rfl (cx.bl 25 rfl) rfl rfl (Nat.le_of_ble_eq_true rfl) ⟨by show _ ≤ 2 + n; omega, by show _ ≤ 48 * (2 + n); omega⟩ ⟨Nat.zero_le _, Nat.zero_le _⟩ dX2_layFrom_1 ?_
    refine wa_aload_n (pc := 4) cx 0 dX2_layFrom_4 rfl rfl ?_
    refine wa_getR (pc := 5) cx fl_X2_15 lk_25 rfl (cx.bl 25 rfl) dX2_layFrom_5 ?_
    refine wa_iload_n (pc := 8) cx 1 dX2_layFrom_8 rfl rfl ?_
    obtain ⟨g3, hf⟩ := gd_some hf
    refine wa_iald (pc := 9) cx lk_27 (cx.bl 27 rfl) g3 dX2_layFrom_9 ?_
    refine wa_icmp_le (pc := 10) cx 14 dX2_layFrom_10 rfl (fun c4 => ?_) (fun c4 => ?_)
    · have hf := (if_pos c4).symm.trans hf
      refine wa_iload_n (pc := 14) cx 1 dX2_layFrom_14 rfl rfl ?_
      refine wa_aload_n (pc := 15) cx 0 dX2_layFrom_15 rfl rfl ?_
      refine wa_getI (pc := 16) cx fl_X2_24 lk_25 rfl (cx.bl 25 rfl) dX2_layFrom_16 ?_
      refine wa_icmp_lt (pc := 19) cx 68 dX2_layFrom_19 rfl (fun c5 => ?_) (fun c5 => ?_)
      · have hf := (if_pos c5).symm.trans hf
        refine wa_iconst (pc := 68) (v := 0) cx dX2_layFrom_68 (by decide) ?_
        refine wa_istore_n (pc := 69) cx 3 [some (.ref (eA E 25)), some (.int a1), some (.int a2), some (.int 0)] dX2_layFrom_69 rfl (by decide) rfl rfl ?_
        obtain ⟨o18, h19, hf⟩ := bd_some hf
        refine l70 _ _ _ _ h19 ?_
        obtain rfl := Option.some.inj hf
        exact wa_vret (pc := 142) cx dX2_layFrom_142
      · have hf := (if_neg c5).symm.trans hf
        refine wa_aload_n (pc := 22) cx 0 dX2_layFrom_22 rfl rfl ?_
        refine wa_aload_n (pc := 23) cx 0 dX2_layFrom_23 rfl rfl ?_
        refine wa_getR (pc := 24) cx fl_X2_18 lk_25 rfl (cx.bl 25 rfl) dX2_layFrom_24 ?_
        refine wa_iconst (pc := 27) (v := 0) cx dX2_layFrom_27 (by decide) ?_
        obtain ⟨g20, hf⟩ := gd_some hf
        refine wa_iald (pc := 28) cx lk_28 (cx.bl 28 rfl) g20 dX2_layFrom_28 ?_
        refine wa_aload_n (pc := 29) cx 0 dX2_layFrom_29 rfl rfl ?_
        refine wa_getR (pc := 30) cx fl_X2_18 lk_25 rfl (cx.bl 25 rfl) dX2_layFrom_30 ?_
        refine wa_iconst (pc := 33) (v := 1) cx dX2_layFrom_33 (by decide) ?_
        obtain ⟨g21, hf⟩ := gd_some hf
        refine wa_iald (pc := 34) cx lk_28 (cx.bl 28 rfl) g21 dX2_layFrom_34 ?_
        refine wa_aload_n (pc := 35) cx 0 dX2_layFrom_35 rfl rfl ?_
        refine wa_getR (pc := 36) cx fl_X2_18 lk_25 rfl (cx.bl 25 rfl) dX2_layFrom_36 ?_
        refine wa_iconst (pc := 39) (v := 2) cx dX2_layFrom_39 (by decide) ?_
        obtain ⟨g22, hf⟩ := gd_some hf
        refine wa_iald (pc := 40) cx lk_28 (cx.bl 28 rfl) g22 dX2_layFrom_40 ?_
        refine wa_mmin (pc := 41) cx tw_697 (by show _ + 40 ≤ 48 * (2 + n); simp [Value.category]; omega) (by show 1 ≤ 2 + n; omega) ⟨Nat.zero_le _, Nat.zero_le _⟩ dX2_layFrom_41 ?_
        refine wa_mmin (pc := 44) cx tw_697 (by show _ + 40 ≤ 48 * (2 + n); simp [Value.category]; omega) (by show 1 ≤ 2 + n; omega) ⟨Nat.zero_le _, Nat.zero_le _⟩ dX2_layFrom_44 ?_
        refine wa_putI (pc := 47) cx fp_X2_31 lk_25 rfl (cx.bl 25 rfl) dX2_layFrom_47 ?_
        refine wa_aload_n (pc := 50) cx 0 dX2_layFrom_50 rfl rfl ?_
        refine wa_getR (pc := 51) cx fl_X2_21 lk_25 rfl (cx.bl 25 rfl) dX2_layFrom_51 ?_
        refine wa_iconst (pc := 54) (v := 0) cx dX2_layFrom_54 (by decide) ?_
        refine wa_aload_n (pc := 55) cx 0 dX2_layFrom_55 rfl rfl ?_
        refine wa_getR (pc := 56) cx fl_X2_28 lk_25 rfl (cx.bl 25 rfl) dX2_layFrom_56 ?_
        refine wa_iconst (pc := 59) (v := 0) cx dX2_layFrom_59 (by decide) ?_
        refine wa_aload_n (pc := 60) cx 0 dX2_layFrom_60 rfl rfl ?_
        refine wa_getI (pc := 61) cx fl_X2_24 lk_25 rfl (cx.bl 25 rfl) dX2_layFrom_61 ?_
        obtain ⟨g23, hf⟩ := gd_some hf
        refine wa_copy (pc := 64) cx lk_29 lk_30 (cx.bl 29 rfl) (cx.bl 30 rfl) g23 tw_698 (by show _ + 40 ≤ 48 * (2 + n); simp [Value.category]; omega) (by show 1 ≤ 2 + n; omega) dX2_layFrom_64 ?_
        obtain rfl := Option.some.inj hf
        exact wa_vret (pc := 67) cx dX2_layFrom_67
    · have hf := (if_neg c4).symm.trans hf
      obtain rfl := Option.some.inj hf
      exact wa_vret (pc := 13) cx dX2_layFrom_13
def fX2_search_B30  (v2 : Int32) (σ : Sg) : Option ((Int32 × Sg) ⊕ (Sg)) :=
  if v2 < 0 then (some (.inr σ)) else ((fX9_strength v2 σ).bind (fun q3 =>
  gd (inb v2 9) (
  gd (inb (v2 + 1) 10) (
  gd (inb v2 9) (
  gd (inb v2 10) (
  some (.inl ((v2 + (-1)), sa (sa σ 26 v2 q3) 27 v2 (ga (sa σ 26 v2 q3) 27 (v2 + 1) + ga (sa σ 26 v2 q3) 26 v2)))))))))
def fX2_search_B74  (v2 : Int32) (σ : Sg) : Option ((Int32 × Sg) ⊕ (Sg)) :=
  if (3 : Int32) ≤ v2 then (some (.inr σ)) else (gd (inb v2 3) (
  some (.inl ((v2 + 1), sa σ 28 v2 0))))
def fX2_search  (σ : Sg) : Option (Sg) :=
  gd (inb (gf (sup (sup σ 25 4 (gf σ 8 4)) 25 6 (-1)) 25 4) 10) (
  (lpO (fun w => fX2_search_B30  w.1 w.2) FUEL ((gf (sa (sup (sup σ 25 4 (gf σ 8 4)) 25 6 (-1)) 27 (gf (sup (sup σ 25 4 (gf σ 8 4)) 25 6 (-1)) 25 4) 0) 25 4 - 1), sa (sup (sup σ 25 4 (gf σ 8 4)) 25 6 (-1)) 27 (gf (sup (sup σ 25 4 (gf σ 8 4)) 25 6 (-1)) 25 4) 0)).bind (fun o9 =>
  (lpO (fun w => fX2_search_B74  w.1 w.2) FUEL (0, o9)).bind (fun o12 =>
  (fX2_layFrom 12 0 0 o12).bind (fun q13 =>
  some q13))))
set_option maxHeartbeats 4000000 in
set_option maxRecDepth 100000 in
theorem ct_X2_search (l : Launch) (E : En) (σ : Sg)  (q : Sg) (hf : fX2_search  σ = some q) : CT l yX2_search cX2_search 3 none 14 E σ [.ref (eA E 25), .ref (eA E 8)] none q := by
  refine CT.of RX2 [some (.ref (eA E 25)), some (.ref (eA E 8)), none] rfl (by decide +kernel) (Nat.le_of_ble_eq_true rfl) rfl ?_
  intro p e s m args below meth c cx
  unfold fX2_search at hf
  have l30 : ∀  (y : Int32 × Sg) (o : Sg), lpO (fun w => fX2_search_B30  w.1 w.2) FUEL y = some o → (WA p l e (rmd 14) s m args below meth c 3 E 0 0 (MQ below (Qcq E s.heap.size (none) q) args s 0 0 (AE E s.heap.size)) 72 [some (.ref (eA E 25)), none, none] [] o) → WA p l e (rmd 14) s m args below meth c 3 E 0 0 (MQ below (Qcq E s.heap.size (none) q) args s 0 0 (AE E s.heap.size)) 30 [some (.ref (eA E 25)), some (.ref (eA E 8)), some (.int y.1)] [] y.2 := by
    intro  y o hf hk
    refine lp_rule (P := fun y => WA p l e (rmd 14) s m args below meth c 3 E 0 0 (MQ below (Qcq E s.heap.size (none) q) args s 0 0 (AE E s.heap.size)) 30 [some (.ref (eA E 25)), some (.ref (eA E 8)), some (.int y.1)] [] y.2) (K := fun o => WA p l e (rmd 14) s m args below meth c 3 E 0 0 (MQ below (Qcq E s.heap.size (none) q) args s 0 0 (AE E s.heap.size)) 72 [some (.ref (eA E 25)), none, none] [] o) ?_ FUEL y o hf hk
    intro y0 r1 hf hk1
    obtain ⟨v2, σ⟩ := y0
    have hf : fX2_search_B30  v2 σ = some r1 := hf
    unfold fX2_search_B30 at hf
    refine wa_iload_n (pc := 30) cx 2 dX2_search_30 rfl rfl ?_
    refine wa_if_lt (pc := 31) cx 72 dX2_search_31 rfl (fun c2 => ?_) (fun c2 => ?_)
    · have hf := (if_pos c2).symm.trans hf
      obtain rfl := Option.some.inj hf
      refine wa_forget [true, false, false] [some (.ref (eA E 25)), none, none] rfl ?_
      exact hk1
    · have hf := (if_neg c2).symm.trans hf
      refine wa_aload_n (pc := 34) cx 0 dX2_search_34 rfl rfl ?_
      refine wa_getR (pc := 35) cx fl_X2_9 lk_25 rfl (cx.bl 25 rfl) dX2_search_35 ?_
      refine wa_iload_n (pc := 38) cx 2 dX2_search_38 rfl rfl ?_
      refine wa_aload_n (pc := 39) cx 1 dX2_search_39 rfl rfl ?_
      refine wa_iload_n (pc := 40) cx 2 dX2_search_40 rfl rfl ?_
      obtain ⟨q3, h4, hf⟩ := bd_some hf
      refine wa_callVi (pc := 41) cx [.int v2] (ct_X9_strength l E _ _ _ h4) mi_X9_strength tw_687 lk_8 rfl (cx.bl 8 rfl) rfl rfl (Nat.le_of_ble_eq_true rfl) ⟨Nat.le_of_ble_eq_true rfl, Nat.le_of_ble_eq_true rfl⟩ ⟨Nat.zero_le _, Nat.zero_le _⟩ dX2_search_41 ?_
      obtain ⟨g5, hf⟩ := gd_some hf
      refine wa_iast (pc := 44) cx lk_26 (cx.bl 26 rfl) g5 dX2_search_44 ?_
      refine wa_aload_n (pc := 45) cx 0 dX2_search_45 rfl rfl ?_
      refine wa_getR (pc := 46) cx fl_X2_15 lk_25 rfl (cx.bl 25 rfl) dX2_search_46 ?_
      refine wa_iload_n (pc := 49) cx 2 dX2_search_49 rfl rfl ?_
      refine wa_aload_n (pc := 50) cx 0 dX2_search_50 rfl rfl ?_
      refine wa_getR (pc := 51) cx fl_X2_15 lk_25 rfl (cx.bl 25 rfl) dX2_search_51 ?_
      refine wa_iload_n (pc := 54) cx 2 dX2_search_54 rfl rfl ?_
      refine wa_iconst (pc := 55) (v := 1) cx dX2_search_55 (by decide) ?_
      refine wa_iadd (pc := 56) cx dX2_search_56 ?_
      obtain ⟨g6, hf⟩ := gd_some hf
      refine wa_iald (pc := 57) cx lk_27 (cx.bl 27 rfl) g6 dX2_search_57 ?_
      refine wa_aload_n (pc := 58) cx 0 dX2_search_58 rfl rfl ?_
      refine wa_getR (pc := 59) cx fl_X2_9 lk_25 rfl (cx.bl 25 rfl) dX2_search_59 ?_
      refine wa_iload_n (pc := 62) cx 2 dX2_search_62 rfl rfl ?_
      obtain ⟨g7, hf⟩ := gd_some hf
      refine wa_iald (pc := 63) cx lk_26 (cx.bl 26 rfl) g7 dX2_search_63 ?_
      refine wa_iadd (pc := 64) cx dX2_search_64 ?_
      obtain ⟨g8, hf⟩ := gd_some hf
      refine wa_iast (pc := 65) cx lk_27 (cx.bl 27 rfl) g8 dX2_search_65 ?_
      refine wa_iinc (pc := 66) (v := (-1)) cx 2 [some (.ref (eA E 25)), some (.ref (eA E 8)), some (.int (v2 + (-1)))] dX2_search_66 (by decide) rfl (by decide) rfl rfl ?_
      refine wa_goto (pc := 69) cx 30 dX2_search_69 rfl ?_
      obtain rfl := Option.some.inj hf
      refine wa_forget [true, true, true] [some (.ref (eA E 25)), some (.ref (eA E 8)), some (.int (v2 + (-1)))] rfl ?_
      exact hk1
  have l74 : ∀  (y : Int32 × Sg) (o : Sg), lpO (fun w => fX2_search_B74  w.1 w.2) FUEL y = some o → (WA p l e (rmd 14) s m args below meth c 3 E 0 0 (MQ below (Qcq E s.heap.size (none) q) args s 0 0 (AE E s.heap.size)) 92 [some (.ref (eA E 25)), none, none] [] o) → WA p l e (rmd 14) s m args below meth c 3 E 0 0 (MQ below (Qcq E s.heap.size (none) q) args s 0 0 (AE E s.heap.size)) 74 [some (.ref (eA E 25)), none, some (.int y.1)] [] y.2 := by
    intro  y o hf hk
    refine lp_rule (P := fun y => WA p l e (rmd 14) s m args below meth c 3 E 0 0 (MQ below (Qcq E s.heap.size (none) q) args s 0 0 (AE E s.heap.size)) 74 [some (.ref (eA E 25)), none, some (.int y.1)] [] y.2) (K := fun o => WA p l e (rmd 14) s m args below meth c 3 E 0 0 (MQ below (Qcq E s.heap.size (none) q) args s 0 0 (AE E s.heap.size)) 92 [some (.ref (eA E 25)), none, none] [] o) ?_ FUEL y o hf hk
    intro y0 r1 hf hk1
    obtain ⟨v2, σ⟩ := y0
    have hf : fX2_search_B74  v2 σ = some r1 := hf
    unfold fX2_search_B74 at hf
    refine wa_iload_n (pc := 74) cx 2 dX2_search_74 rfl rfl ?_
    refine wa_iconst (pc := 75) (v := 3) cx dX2_search_75 (by decide) ?_
    refine wa_icmp_ge (pc := 76) cx 92 dX2_search_76 rfl (fun c10 => ?_) (fun c10 => ?_)
    · have hf := (if_pos c10).symm.trans hf
      obtain rfl := Option.some.inj hf
      refine wa_forget [true, false, false] [some (.ref (eA E 25)), none, none] rfl ?_
      exact hk1
    · have hf := (if_neg c10).symm.trans hf
      refine wa_aload_n (pc := 79) cx 0 dX2_search_79 rfl rfl ?_
      refine wa_getR (pc := 80) cx fl_X2_18 lk_25 rfl (cx.bl 25 rfl) dX2_search_80 ?_
      refine wa_iload_n (pc := 83) cx 2 dX2_search_83 rfl rfl ?_
      refine wa_iconst (pc := 84) (v := 0) cx dX2_search_84 (by decide) ?_
      obtain ⟨g11, hf⟩ := gd_some hf
      refine wa_iast (pc := 85) cx lk_28 (cx.bl 28 rfl) g11 dX2_search_85 ?_
      refine wa_iinc (pc := 86) (v := 1) cx 2 [some (.ref (eA E 25)), none, some (.int (v2 + 1))] dX2_search_86 (by decide) rfl (by decide) rfl rfl ?_
      refine wa_goto (pc := 89) cx 74 dX2_search_89 rfl ?_
      obtain rfl := Option.some.inj hf
      refine wa_forget [true, false, true] [some (.ref (eA E 25)), none, some (.int (v2 + 1))] rfl ?_
      exact hk1
  refine wa_aload_n (pc := 0) cx 0 dX2_search_0 rfl rfl ?_
  refine wa_aload_n (pc := 1) cx 1 dX2_search_1 rfl rfl ?_
  refine wa_getI (pc := 2) cx fl_X2_34 lk_8 rfl (cx.bl 8 rfl) dX2_search_2 ?_
  refine wa_putI (pc := 5) cx fp_X2_24 lk_25 rfl (cx.bl 25 rfl) dX2_search_5 ?_
  refine wa_aload_n (pc := 8) cx 0 dX2_search_8 rfl rfl ?_
  refine wa_iconst (pc := 9) (v := (-1)) cx dX2_search_9 (by decide) ?_
  refine wa_putI (pc := 10) cx fp_X2_31 lk_25 rfl (cx.bl 25 rfl) dX2_search_10 ?_
  refine wa_aload_n (pc := 13) cx 0 dX2_search_13 rfl rfl ?_
  refine wa_getR (pc := 14) cx fl_X2_15 lk_25 rfl (cx.bl 25 rfl) dX2_search_14 ?_
  refine wa_aload_n (pc := 17) cx 0 dX2_search_17 rfl rfl ?_
  refine wa_getI (pc := 18) cx fl_X2_24 lk_25 rfl (cx.bl 25 rfl) dX2_search_18 ?_
  refine wa_iconst (pc := 21) (v := 0) cx dX2_search_21 (by decide) ?_
  obtain ⟨g1, hf⟩ := gd_some hf
  refine wa_iast (pc := 22) cx lk_27 (cx.bl 27 rfl) g1 dX2_search_22 ?_
  refine wa_aload_n (pc := 23) cx 0 dX2_search_23 rfl rfl ?_
  refine wa_getI (pc := 24) cx fl_X2_24 lk_25 rfl (cx.bl 25 rfl) dX2_search_24 ?_
  refine wa_iconst (pc := 27) (v := 1) cx dX2_search_27 (by decide) ?_
  refine wa_isub (pc := 28) cx dX2_search_28 ?_
  refine wa_istore_n (pc := 29) cx 2 [some (.ref (eA E 25)), some (.ref (eA E 8)), some (.int (gf (sa (sup (sup σ 25 4 (gf σ 8 4)) 25 6 (-1)) 27 (gf (sup (sup σ 25 4 (gf σ 8 4)) 25 6 (-1)) 25 4) 0) 25 4 - 1))] dX2_search_29 rfl (by decide) rfl rfl ?_
  obtain ⟨o9, h16, hf⟩ := bd_some hf
  refine l30  _ _ h16 ?_
  refine wa_iconst (pc := 72) (v := 0) cx dX2_search_72 (by decide) ?_
  refine wa_istore_n (pc := 73) cx 2 [some (.ref (eA E 25)), none, some (.int 0)] dX2_search_73 rfl (by decide) rfl rfl ?_
  obtain ⟨o12, h15, hf⟩ := bd_some hf
  refine l74  _ _ h15 ?_
  refine wa_aload_n (pc := 92) cx 0 dX2_search_92 rfl rfl ?_
  refine wa_iconst (pc := 93) (v := 0) cx dX2_search_93 (by decide) ?_
  refine wa_iconst (pc := 94) (v := 0) cx dX2_search_94 (by decide) ?_
  obtain ⟨q13, h14, hf⟩ := bd_some hf
  refine wa_callVv (pc := 95) cx [.int 0, .int 0] (ct_X2_layFrom l E 12 _ _ _ _ h14) mi_X2_layFrom tw_688 lk_25 rfl (cx.bl 25 rfl) rfl rfl (Nat.le_of_ble_eq_true rfl) ⟨Nat.le_of_ble_eq_true rfl, Nat.le_of_ble_eq_true rfl⟩ ⟨Nat.zero_le _, Nat.zero_le _⟩ dX2_search_95 ?_
  obtain rfl := Option.some.inj hf
  exact wa_vret (pc := 98) cx dX2_search_98
