def fJ6_bitCount_0f7a4 (a1 : Int32) (σ : Sg) : Option (Int32) :=
  some ((((((((a1 - (jushr a1 1 &&& 1431655765)) &&& 858993459) + (jushr (a1 - (jushr a1 1 &&& 1431655765)) 2 &&& 858993459)) + jushr (((a1 - (jushr a1 1 &&& 1431655765)) &&& 858993459) + (jushr (a1 - (jushr a1 1 &&& 1431655765)) 2 &&& 858993459)) 4) &&& 252645135) + jushr (((((a1 - (jushr a1 1 &&& 1431655765)) &&& 858993459) + (jushr (a1 - (jushr a1 1 &&& 1431655765)) 2 &&& 858993459)) + jushr (((a1 - (jushr a1 1 &&& 1431655765)) &&& 858993459) + (jushr (a1 - (jushr a1 1 &&& 1431655765)) 2 &&& 858993459)) 4) &&& 252645135) 8) + jushr ((((((a1 - (jushr a1 1 &&& 1431655765)) &&& 858993459) + (jushr (a1 - (jushr a1 1 &&& 1431655765)) 2 &&& 858993459)) + jushr (((a1 - (jushr a1 1 &&& 1431655765)) &&& 858993459) + (jushr (a1 - (jushr a1 1 &&& 1431655765)) 2 &&& 858993459)) 4) &&& 252645135) + jushr (((((a1 - (jushr a1 1 &&& 1431655765)) &&& 858993459) + (jushr (a1 - (jushr a1 1 &&& 1431655765)) 2 &&& 858993459)) + jushr (((a1 - (jushr a1 1 &&& 1431655765)) &&& 858993459) + (jushr (a1 - (jushr a1 1 &&& 1431655765)) 2 &&& 858993459)) 4) &&& 252645135) 8) 16) &&& 63)
set_option maxHeartbeats 4000000 in
set_option maxRecDepth 100000 in
theorem ct_J6_bitCount_0f7a4 (l : Launch) (E : En) (σ : Sg) (a1 : Int32) (q : Int32) (hf : fJ6_bitCount_0f7a4 a1 σ = some q) : CT l yJ6_bitCount_0f7a4 cJ6_bitCount_0f7a4 1 (some .int) 0 E σ [.int a1] (some (.int q)) σ := by
  refine CT.of RJ6 [some (.int a1)] rfl (by decide +kernel) (Nat.le_of_ble_eq_true rfl) rfl ?_
  intro p e s m args below meth c cx
  unfold fJ6_bitCount_0f7a4 at hf
  refine wa_iload_n (pc := 0) cx 0 dJ6_bitCount_0f7a4_0 rfl rfl ?_
  refine wa_iload_n (pc := 1) cx 0 dJ6_bitCount_0f7a4_1 rfl rfl ?_
  refine wa_iconst (pc := 2) (v := 1) cx dJ6_bitCount_0f7a4_2 (by decide) ?_
  refine wa_iushr (pc := 3) cx dJ6_bitCount_0f7a4_3 ?_
  refine wa_ldcw (pc := 4) (v := 1431655765) cx dJ6_bitCount_0f7a4_4 tw_767 ?_
  refine wa_iand (pc := 7) cx dJ6_bitCount_0f7a4_7 ?_
  refine wa_isub (pc := 8) cx dJ6_bitCount_0f7a4_8 ?_
  refine wa_istore_n (pc := 9) cx 0 [some (.int (a1 - (jushr a1 1 &&& 1431655765)))] dJ6_bitCount_0f7a4_9 rfl (by decide) rfl rfl ?_
  refine wa_iload_n (pc := 10) cx 0 dJ6_bitCount_0f7a4_10 rfl rfl ?_
  refine wa_ldcw (pc := 11) (v := 858993459) cx dJ6_bitCount_0f7a4_11 tw_768 ?_
  refine wa_iand (pc := 14) cx dJ6_bitCount_0f7a4_14 ?_
  refine wa_iload_n (pc := 15) cx 0 dJ6_bitCount_0f7a4_15 rfl rfl ?_
  refine wa_iconst (pc := 16) (v := 2) cx dJ6_bitCount_0f7a4_16 (by decide) ?_
  refine wa_iushr (pc := 17) cx dJ6_bitCount_0f7a4_17 ?_
  refine wa_ldcw (pc := 18) (v := 858993459) cx dJ6_bitCount_0f7a4_18 tw_768 ?_
  refine wa_iand (pc := 21) cx dJ6_bitCount_0f7a4_21 ?_
  refine wa_iadd (pc := 22) cx dJ6_bitCount_0f7a4_22 ?_
  refine wa_istore_n (pc := 23) cx 0 [some (.int (((a1 - (jushr a1 1 &&& 1431655765)) &&& 858993459) + (jushr (a1 - (jushr a1 1 &&& 1431655765)) 2 &&& 858993459)))] dJ6_bitCount_0f7a4_23 rfl (by decide) rfl rfl ?_
  refine wa_iload_n (pc := 24) cx 0 dJ6_bitCount_0f7a4_24 rfl rfl ?_
  refine wa_iload_n (pc := 25) cx 0 dJ6_bitCount_0f7a4_25 rfl rfl ?_
  refine wa_iconst (pc := 26) (v := 4) cx dJ6_bitCount_0f7a4_26 (by decide) ?_
  refine wa_iushr (pc := 27) cx dJ6_bitCount_0f7a4_27 ?_
  refine wa_iadd (pc := 28) cx dJ6_bitCount_0f7a4_28 ?_
  refine wa_ldcw (pc := 29) (v := 252645135) cx dJ6_bitCount_0f7a4_29 tw_769 ?_
  refine wa_iand (pc := 32) cx dJ6_bitCount_0f7a4_32 ?_
  refine wa_istore_n (pc := 33) cx 0 [some (.int (((((a1 - (jushr a1 1 &&& 1431655765)) &&& 858993459) + (jushr (a1 - (jushr a1 1 &&& 1431655765)) 2 &&& 858993459)) + jushr (((a1 - (jushr a1 1 &&& 1431655765)) &&& 858993459) + (jushr (a1 - (jushr a1 1 &&& 1431655765)) 2 &&& 858993459)) 4) &&& 252645135))] dJ6_bitCount_0f7a4_33 rfl (by decide) rfl rfl ?_
  refine wa_iload_n (pc := 34) cx 0 dJ6_bitCount_0f7a4_34 rfl rfl ?_
  refine wa_iload_n (pc := 35) cx 0 dJ6_bitCount_0f7a4_35 rfl rfl ?_
  refine wa_bipush (pc := 36) (v := 8) cx dJ6_bitCount_0f7a4_36 (by decide) ?_
  refine wa_iushr (pc := 38) cx dJ6_bitCount_0f7a4_38 ?_
  refine wa_iadd (pc := 39) cx dJ6_bitCount_0f7a4_39 ?_
  refine wa_istore_n (pc := 40) cx 0 [some (.int ((((((a1 - (jushr a1 1 &&& 1431655765)) &&& 858993459) + (jushr (a1 - (jushr a1 1 &&& 1431655765)) 2 &&& 858993459)) + jushr (((a1 - (jushr a1 1 &&& 1431655765)) &&& 858993459) + (jushr (a1 - (jushr a1 1 &&& 1431655765)) 2 &&& 858993459)) 4) &&& 252645135) + jushr (((((a1 - (jushr a1 1 &&& 1431655765)) &&& 858993459) + (jushr (a1 - (jushr a1 1 &&& 1431655765)) 2 &&& 858993459)) + jushr (((a1 - (jushr a1 1 &&& 1431655765)) &&& 858993459) + (jushr (a1 - (jushr a1 1 &&& 1431655765)) 2 &&& 858993459)) 4) &&& 252645135) 8))] dJ6_bitCount_0f7a4_40 rfl (by decide) rfl rfl ?_
  refine wa_iload_n (pc := 41) cx 0 dJ6_bitCount_0f7a4_41 rfl rfl ?_
  refine wa_iload_n (pc := 42) cx 0 dJ6_bitCount_0f7a4_42 rfl rfl ?_
  refine wa_bipush (pc := 43) (v := 16) cx dJ6_bitCount_0f7a4_43 (by decide) ?_
  refine wa_iushr (pc := 45) cx dJ6_bitCount_0f7a4_45 ?_
  refine wa_iadd (pc := 46) cx dJ6_bitCount_0f7a4_46 ?_
  refine wa_istore_n (pc := 47) cx 0 [some (.int (((((((a1 - (jushr a1 1 &&& 1431655765)) &&& 858993459) + (jushr (a1 - (jushr a1 1 &&& 1431655765)) 2 &&& 858993459)) + jushr (((a1 - (jushr a1 1 &&& 1431655765)) &&& 858993459) + (jushr (a1 - (jushr a1 1 &&& 1431655765)) 2 &&& 858993459)) 4) &&& 252645135) + jushr (((((a1 - (jushr a1 1 &&& 1431655765)) &&& 858993459) + (jushr (a1 - (jushr a1 1 &&& 1431655765)) 2 &&& 858993459)) + jushr (((a1 - (jushr a1 1 &&& 1431655765)) &&& 858993459) + (jushr (a1 - (jushr a1 1 &&& 1431655765)) 2 &&& 858993459)) 4) &&& 252645135) 8) + jushr ((((((a1 - (jushr a1 1 &&& 1431655765)) &&& 858993459) + (jushr (a1 - (jushr a1 1 &&& 1431655765)) 2 &&& 858993459)) + jushr (((a1 - (jushr a1 1 &&& 1431655765)) &&& 858993459) + (jushr (a1 - (jushr a1 1 &&& 1431655765)) 2 &&& 858993459)) 4) &&& 252645135) + jushr (((((a1 - (jushr a1 1 &&& 1431655765)) &&& 858993459) + (jushr (a1 - (jushr a1 1 &&& 1431655765)) 2 &&& 858993459)) + jushr (((a1 - (jushr a1 1 &&& 1431655765)) &&& 858993459) + (jushr (a1 - (jushr a1 1 &&& 1431655765)) 2 &&& 858993459)) 4) &&& 252645135) 8) 16))] dJ6_bitCount_0f7a4_47 rfl (by decide) rfl rfl ?_
  refine wa_iload_n (pc := 48) cx 0 dJ6_bitCount_0f7a4_48 rfl rfl ?_
  refine wa_bipush (pc := 49) (v := 63) cx dJ6_bitCount_0f7a4_49 (by decide) ?_
  refine wa_iand (pc := 51) cx dJ6_bitCount_0f7a4_51 ?_
  obtain rfl := Option.some.inj hf
  exact wa_iret (pc := 52) cx dJ6_bitCount_0f7a4_52
