def rmd (d : Nat) : Room := { frames := d, cells := 0, slots := 0, locals := 48 * d }
/-- a contract's start and end -/
def Pcq (E : En) (sz : Nat) (σ : Sg) (av : List Value) : Array Value → State → Prop := va_Pc av (fun U => U.heap.size = sz ∧ va_P (eD E) vwCl (wl E σ) U.heap ∧ va_K (eD E) vwCl (tysE E) U ∧ va_D (fun _ => True) (wl E σ) ∧ SF E U ∧ BL E)
def Qcq (E : En) (sz : Nat) (r : Option Value) (σ : Sg) : Array Value → State → Outcome → State → Prop := fun _ st oc t => oc = .returned r ∧ va_P (eD E) vwCl (wl E σ) t.heap ∧ va_F (AE E sz) st t
/-- a contract: from the world σ the method y, called with av, answers r and leaves the world τ; nothing new is made -/
def CT (l : Launch) (y : MethodName) (cy : ByteArray) (mL : Nat) (rt : Option FieldType) (d : Nat) (E : En) (σ : Sg) (av : List Value) (r : Option Value) (τ : Sg) : Prop := ∀ sz : Nat, Met l y (Cond.code y cy mL rt :: gw) (rmd d) (Pcq E sz σ av) (Qcq E sz r τ) 0 0 (AE E sz)
theorem Pcq_blind {E : En} {sz : Nat} {σ : Sg} {av : List Value} : FrameBlind (Pcq E sz σ av) := by
  intro a U g mk q
  obtain ⟨q0, q1, qP, qK, qD, qS, qB⟩ := q
  exact ⟨q0, q1, qP, va_K.moved (u := U) (U := U.calling g mk a) (Vm.Alike.refl U.vm) qK, qD, qS.same rfl rfl, qB⟩
def entL : Nat → List Value → List (Option Value)
  | n, [] => List.replicate n none
  | n, v :: vs => if v.category = 2 then some v :: none :: entL (n - 2) vs else some v :: entL (n - 1) vs
theorem entL_args : ∀ (vs : List Value) (n i k : Nat) (v : Value), (entL n vs)[k]? = some (some v) → (i + k, v) ∈ lv_args i vs
  | [], n, i, k, v, h => by
    have := List.eq_of_mem_replicate (List.mem_of_getElem? h)
    cases this
  | u :: vs, n, i, k, v, h => by
    by_cases hc : u.category = 2
    · simp only [entL, hc, if_true] at h
      simp only [lv_args, hc, if_true]
      match k, h with
      | 0, h => cases h; exact List.mem_cons_self
      | 1, h => cases h
      | k + 2, h =>
        simp only [List.getElem?_cons_succ] at h
        have := entL_args vs (n - 2) (i + 2) k v h
        rw [show i + (k + 2) = i + 2 + k by omega]
        exact List.mem_cons_of_mem _ this
    · simp only [entL, hc, if_false] at h
      simp only [lv_args, hc, if_false]
      match k, h with
      | 0, h => cases h; exact List.mem_cons_self
      | k + 1, h =>
        simp only [List.getElem?_cons_succ] at h
        have := entL_args vs (n - 1) (i + 1) k v h
        rw [show i + (k + 1) = i + 1 + k by omega]
        exact List.mem_cons_of_mem _ this
theorem AE_D {E : En} {σ : Sg} {A : Nat → Prop} {sz : Nat} (h : va_D A (wl E σ)) : va_D (AE E sz) (wl E σ) := ⟨h.1, fun k q hk => by
  obtain ⟨c, hc, rfl⟩ := wl_inv hk
  exact Or.inl ⟨c, List.mem_of_getElem? hc, rfl⟩⟩
/-- a contract out of a walk -/
theorem CT.of {l : Launch} {y : MethodName} {cy : ByteArray} {mL d : Nat} {rt : Option FieldType} {E : En} {σ τ : Sg} {av : List Value} {r : Option Value} (own : String) (L : List (Option Value)) (hown : y.cls = own) (hy : plainName y.cls = true) (hml : (lg_sl av).length ≤ mL) (hL : entL mL av = L)
    (body : ∀ (p : Program) (e : Env) (s : State) (m : MethodId) (args : Array Value) (below : List Frame) (meth : Method) (c : Code), CX p s m args meth c cy own mL rt E → WA p l e (rmd d) s m args below meth c mL E 0 0 (MQ below (Qcq E s.heap.size r τ) args s 0 0 (AE E s.heap.size)) 0 L [] σ) : CT l y cy mL rt d E σ av r τ := by
  intro sz
  refine Met.ofW (cc := cy) (maxL := mL) (ret := rt) hy rfl ?_
  intro p e s m args below meth c s₁ B hmL hv
  obtain ⟨rfl, hsz, hP, hK, hD, hSF, hBL⟩ := hv
  subst hsz
  have hts : ∀ w ∈ gw, w.before av.toArray s = true := fun w hw => atoms_spec (ws := Cond.code y cy mL rt :: gw) B.pre w (List.mem_cons_of_mem _ hw)
  have hfc : s.vm.findClass own = some m.cls := by rw [← hown]; exact findClass_of_methodNamed B.named
  rw [lg_entry_eq]
  have hl := lv_entry av (n := mL) hml
  refine body p e s m av.toArray below meth c ⟨B.exec, B.bytes, hmL, hfc, hts, hK, B.returns, B.notSynchronized, hSF, hBL⟩ s.heap [] _ hP (AE_D hD) va_S.rf ⟨hl.1, hl.2.1, fun k v hk => ?_⟩
  subst hL
  have := entL_args av mL 0 k v hk
  rw [Nat.zero_add] at this
  exact hl.2.2 (k, v) this
/-- a method: its words, once -/
def MI (y : MethodName) (cy : ByteArray) (mL : Nat) (rt : Option FieldType) (n : Nat) : Prop := Cond.instanceMethod y ∈ gw ∧ Cond.selects y.cls y y ∈ gw ∧ Cond.initialized y.cls ∈ gw ∧ Cond.code y cy mL rt ∈ gw ∧ y.cls ≠ "java/lang/invoke/MethodHandle" ∧ y.cls ≠ "java/lang/invoke/VarHandle" ∧ (parseMethodDescriptor y.desc).map (fun d => d.parameters.length) = some n
def MS (y : MethodName) (cy : ByteArray) (mL : Nat) (rt : Option FieldType) (n : Nat) : Prop := Cond.static y ∈ gw ∧ Cond.initialized y.cls ∈ gw ∧ Cond.code y cy mL rt ∈ gw ∧ y.cls ≠ "java/lang/invoke/MethodHandle" ∧ y.cls ≠ "java/lang/invoke/VarHandle" ∧ (parseMethodDescriptor y.desc).map (fun d => d.parameters.length) = some n
theorem gi_of {ws : List Cond} (h : ∀ w ∈ ws, w ∈ gw) : GoodIn gw ws := fun w hw => tbl_gi w (h w hw)
section WArows
variable {p : Program} {l : Launch} {e : Env} {R : Room} {s : State} {m : MethodId} {args : Array Value} {below : List Frame} {meth : Method} {c : Code} {cc : ByteArray} {own : String} {nL : Nat} {ret : Option FieldType} {E : En} {Q : State → Prop} {nc ns pc : Nat} {L : List (Option Value)} {st : List Value} {σ : Sg}
theorem wa_run (cx : CX p s m args meth c cc own nL ret E) {mc ms : Nat} {r : Option Value} {τ : Sg} {H : Heap} {locs : List Loc} {ls : Array Slot} {st0 rest : List Value} {a : Array Value} {E1 : En} (hr : va_Run p l e R s m args below meth c H locs nc ns mc ms (F0 m pc ls st0) rest (Qcq E1 H.size r τ a) (AE E1 H.size)) (hS : va_S (AE E s.heap.size) s.heap H locs) (hA : ∀ q, AE E1 H.size q → AE E s.heap.size q)
    (k : ∀ (H1 : Heap) (locs1 : List Loc), va_P (eD E1) vwCl (wl E1 τ) H1 → va_S (AE E s.heap.size) s.heap H1 locs1 → W p l e R s m args below meth c H1 locs1 (nc + mc) (ns + ms) Q (F0 m (pc + 3) ls (r.toList ++ rest))) : W p l e R s m args below meth c H locs nc ns Q (F0 m pc ls st0) := by
  intro T hT X
  obtain ⟨v, st₀, t, T1, Lx, h0, X1, hLx, e1, e2, ⟨hv, hP1, hz, hk⟩, stp⟩ := hr T hT X
  cases hv
  rw [h0] at hz hk
  have hS1 : va_S (AE E s.heap.size) s.heap T1.heap (locs ++ Lx) := by
    refine ⟨Nat.le_trans hS.1 (by rw [e1]; exact hz), fun q g1 g2 => ?_, fun q hq => ?_⟩
    · rw [e1, hk q (Nat.lt_of_lt_of_le g1 hS.1) (fun z => g2 (hA q z))]
      exact hS.2.1 q g1 g2
    · rcases List.mem_append.mp hq with h | h
      · exact hS.2.2 q h
      · exact hA _ (hLx q h)
  obtain ⟨t2, a1, b1⟩ := k T1.heap (locs ++ Lx) (by rw [e1]; exact hP1) hS1 T1 rfl X1
  exact ⟨t2, stp t2 a1, b1⟩
theorem AE_up {E : En} {a b : Nat} (h : a ≤ b) : ∀ q, AE E b q → AE E a q := fun q hq => hq.imp id (fun z => Nat.le_trans h z)
theorem wa_callV0 (cx : CX p s m args meth c cc own nL ret E) {y : MethodName} {cy : ByteArray} {mL n idx b ci d : Nat} {rt : Option FieldType} {fl : List Nat} {As rest : List Value} {r : Option Value} {τ : Sg} (hC : CT l y cy mL rt d E σ (.ref (eA E b) :: As) r τ) (hmi : MI y cy mL rt n) (hlk : Cond.methodLink own idx y ∈ gw) (hb : lkt b = (0, ci, fl)) (hci : (vwCl[ci]?).map (fun q => q.1) = some y.cls) (hbL : b ∈ eL E) (hn : As.length = n) (hst : st = As.reverse ++ .ref (eA E b) :: rest) (hrs : (rest.map fun v => v.category).sum ≤ 8) (hR : d + 1 ≤ R.frames ∧ 8 + (mL + 11) + 48 * d ≤ R.locals) (hf : nc ≤ R.cells ∧ ns ≤ R.slots) (hd : decode cc pc = .ok (.invokevirtual idx, 3)) (k : WA p l e R s m args below meth c nL E nc ns Q (pc + 3) L (r.toList ++ rest) τ) : WA p l e R s m args below meth c nL E nc ns Q (pc) L (st) σ := by
  intro H locs ls hP hD hS hl
  subst hst
  obtain ⟨hi1, hi2, hi3, hi4, hi5⟩ := hmi
  have ht := cx.2.2.2.2.1
  have hws : ∀ w ∈ wsV own idx y.cls y (Cond.code y cy mL rt :: gw), w ∈ gw := by
    intro w hw
    unfold wsV at hw
    rcases List.mem_append.mp hw with h | h
    · simp only [List.mem_cons, List.not_mem_nil, or_false] at h
      rcases h with rfl | rfl | rfl | rfl
      · exact hlk
      · exact hi1
      · exact hi2
      · exact hi3
    · rcases List.mem_cons.mp h with rfl | h
      · exact hi4
      · exact h
  obtain ⟨i, hiL, hi⟩ := wl_at (σ := σ) hbL
  rw [lay_obj hb] at hi
  obtain ⟨q, hq, hqn⟩ := Option.map_eq_some_iff.mp hci
  have hrec := va_recv cx.2.2.2.2.2.1 hP hq hi
  rw [hqn] at hrec
  refine wa_run cx (va_runV (As := As) (rest := rest) (C := y.cls) ⟨cx.1, cx.2.1, cx.2.2.1, cx.2.2.2.1, ht⟩ (hC H.size) (cwV n ht (gi_of hws) rfl rfl rfl ⟨rfl, hi5⟩ hR) ⟨Pcq_blind, hrec, fun U hU hW => ⟨rfl, by rw [hU], by rw [hU]; exact hP, va_K.moved hW.alike cx.2.2.2.2.2.1, hD.weaken (fun _ _ _ _ => trivial), cx.2.2.2.2.2.2.2.2.1.move hS hU hW, cx.2.2.2.2.2.2.2.2.2⟩⟩ rfl hn hl.1 rfl (lv_room hrs) hd hf) hS (AE_up hS.1) (fun H1 locs1 hP1 hS1 => k H1 locs1 ls hP1 (wl_D hD) hS1 hl)
theorem wa_callS0 (cx : CX p s m args meth c cc own nL ret E) {y : MethodName} {cy : ByteArray} {mL n idx d : Nat} {rt : Option FieldType} {As rest : List Value} {r : Option Value} {τ : Sg} (hC : CT l y cy mL rt d E σ As r τ) (hmi : MS y cy mL rt n) (hlk : Cond.methodLink own idx y ∈ gw) (hn : As.length = n) (hst : st = As.reverse ++ rest) (hrs : (rest.map fun v => v.category).sum ≤ 8) (hR : d + 1 ≤ R.frames ∧ 8 + (mL + 11) + 48 * d ≤ R.locals) (hf : nc ≤ R.cells ∧ ns ≤ R.slots) (hd : decode cc pc = .ok (.invokestatic idx, 3)) (k : WA p l e R s m args below meth c nL E nc ns Q (pc + 3) L (r.toList ++ rest) τ) : WA p l e R s m args below meth c nL E nc ns Q (pc) L (st) σ := by
  intro H locs ls hP hD hS hl
  subst hst
  obtain ⟨hi1, hi2, hi3, hi4⟩ := hmi
  have ht := cx.2.2.2.2.1
  have hws : ∀ w ∈ va_wsS own idx y (Cond.code y cy mL rt :: gw), w ∈ gw := by
    intro w hw
    unfold va_wsS at hw
    rcases List.mem_append.mp hw with h | h
    · simp only [List.mem_cons, List.not_mem_nil, or_false] at h
      rcases h with rfl | rfl | rfl
      · exact hlk
      · exact hi1
      · exact hi2
    · rcases List.mem_cons.mp h with rfl | h
      · exact hi3
      · exact h
  refine wa_run cx (va_runS (As := As) (rest := rest) ⟨cx.1, cx.2.1, cx.2.2.1, cx.2.2.2.1, ht⟩ (hC H.size) (va_cwS n ht (gi_of hws) rfl rfl rfl hi4 hR) ⟨Pcq_blind, fun U hU hW => ⟨rfl, by rw [hU], by rw [hU]; exact hP, va_K.moved hW.alike cx.2.2.2.2.2.1, hD.weaken (fun _ _ _ _ => trivial), cx.2.2.2.2.2.2.2.2.1.move hS hU hW, cx.2.2.2.2.2.2.2.2.2⟩⟩ rfl hn hl.1 rfl (lv_room hrs) hd hf) hS (AE_up hS.1) (fun H1 locs1 hP1 hS1 => k H1 locs1 ls hP1 (wl_D hD) hS1 hl)
theorem wa_callVi (cx : CX p s m args meth c cc own nL ret E) {y : MethodName} {cy : ByteArray} {mL n idx b ci d : Nat} {rt : Option FieldType} {fl : List Nat} {rest : List Value} {x : Int32} {τ : Sg} (As : List Value) (hC : CT l y cy mL rt d E σ (.ref (eA E b) :: As) (some (.int x)) τ) (hmi : MI y cy mL rt n) (hlk : Cond.methodLink own idx y ∈ gw) (hb : lkt b = (0, ci, fl)) (hci : (vwCl[ci]?).map (fun q => q.1) = some y.cls) (hbL : b ∈ eL E) (hn : As.length = n) (hst : st = As.reverse ++ .ref (eA E b) :: rest) (hrs : (rest.map fun v => v.category).sum ≤ 8) (hR : d + 1 ≤ R.frames ∧ 8 + (mL + 11) + 48 * d ≤ R.locals) (hf : nc ≤ R.cells ∧ ns ≤ R.slots) (hd : decode cc pc = .ok (.invokevirtual idx, 3)) (k : WA p l e R s m args below meth c nL E nc ns Q (pc + 3) L (.int x :: rest) τ) : WA p l e R s m args below meth c nL E nc ns Q (pc) L (st) σ := wa_callV0 cx hC hmi hlk hb hci hbL hn hst hrs hR hf hd k
theorem wa_callSi (cx : CX p s m args meth c cc own nL ret E) {y : MethodName} {cy : ByteArray} {mL n idx d : Nat} {rt : Option FieldType} {rest : List Value} {x : Int32} {τ : Sg} (As : List Value) (hC : CT l y cy mL rt d E σ As (some (.int x)) τ) (hmi : MS y cy mL rt n) (hlk : Cond.methodLink own idx y ∈ gw) (hn : As.length = n) (hst : st = As.reverse ++ rest) (hrs : (rest.map fun v => v.category).sum ≤ 8) (hR : d + 1 ≤ R.frames ∧ 8 + (mL + 11) + 48 * d ≤ R.locals) (hf : nc ≤ R.cells ∧ ns ≤ R.slots) (hd : decode cc pc = .ok (.invokestatic idx, 3)) (k : WA p l e R s m args below meth c nL E nc ns Q (pc + 3) L (.int x :: rest) τ) : WA p l e R s m args below meth c nL E nc ns Q (pc) L (st) σ := wa_callS0 cx hC hmi hlk hn hst hrs hR hf hd k
theorem wa_callVl (cx : CX p s m args meth c cc own nL ret E) {y : MethodName} {cy : ByteArray} {mL n idx b ci d : Nat} {rt : Option FieldType} {fl : List Nat} {rest : List Value} {x : Int64} {τ : Sg} (As : List Value) (hC : CT l y cy mL rt d E σ (.ref (eA E b) :: As) (some (.long x)) τ) (hmi : MI y cy mL rt n) (hlk : Cond.methodLink own idx y ∈ gw) (hb : lkt b = (0, ci, fl)) (hci : (vwCl[ci]?).map (fun q => q.1) = some y.cls) (hbL : b ∈ eL E) (hn : As.length = n) (hst : st = As.reverse ++ .ref (eA E b) :: rest) (hrs : (rest.map fun v => v.category).sum ≤ 8) (hR : d + 1 ≤ R.frames ∧ 8 + (mL + 11) + 48 * d ≤ R.locals) (hf : nc ≤ R.cells ∧ ns ≤ R.slots) (hd : decode cc pc = .ok (.invokevirtual idx, 3)) (k : WA p l e R s m args below meth c nL E nc ns Q (pc + 3) L (.long x :: rest) τ) : WA p l e R s m args below meth c nL E nc ns Q (pc) L (st) σ := wa_callV0 cx hC hmi hlk hb hci hbL hn hst hrs hR hf hd k
theorem wa_callSl (cx : CX p s m args meth c cc own nL ret E) {y : MethodName} {cy : ByteArray} {mL n idx d : Nat} {rt : Option FieldType} {rest : List Value} {x : Int64} {τ : Sg} (As : List Value) (hC : CT l y cy mL rt d E σ As (some (.long x)) τ) (hmi : MS y cy mL rt n) (hlk : Cond.methodLink own idx y ∈ gw) (hn : As.length = n) (hst : st = As.reverse ++ rest) (hrs : (rest.map fun v => v.category).sum ≤ 8) (hR : d + 1 ≤ R.frames ∧ 8 + (mL + 11) + 48 * d ≤ R.locals) (hf : nc ≤ R.cells ∧ ns ≤ R.slots) (hd : decode cc pc = .ok (.invokestatic idx, 3)) (k : WA p l e R s m args below meth c nL E nc ns Q (pc + 3) L (.long x :: rest) τ) : WA p l e R s m args below meth c nL E nc ns Q (pc) L (st) σ := wa_callS0 cx hC hmi hlk hn hst hrs hR hf hd k
theorem wa_callVv (cx : CX p s m args meth c cc own nL ret E) {y : MethodName} {cy : ByteArray} {mL n idx b ci d : Nat} {rt : Option FieldType} {fl : List Nat} {rest : List Value} {τ : Sg} (As : List Value) (hC : CT l y cy mL rt d E σ (.ref (eA E b) :: As) (none) τ) (hmi : MI y cy mL rt n) (hlk : Cond.methodLink own idx y ∈ gw) (hb : lkt b = (0, ci, fl)) (hci : (vwCl[ci]?).map (fun q => q.1) = some y.cls) (hbL : b ∈ eL E) (hn : As.length = n) (hst : st = As.reverse ++ .ref (eA E b) :: rest) (hrs : (rest.map fun v => v.category).sum ≤ 8) (hR : d + 1 ≤ R.frames ∧ 8 + (mL + 11) + 48 * d ≤ R.locals) (hf : nc ≤ R.cells ∧ ns ≤ R.slots) (hd : decode cc pc = .ok (.invokevirtual idx, 3)) (k : WA p l e R s m args below meth c nL E nc ns Q (pc + 3) L (rest) τ) : WA p l e R s m args below meth c nL E nc ns Q (pc) L (st) σ := wa_callV0 cx hC hmi hlk hb hci hbL hn hst hrs hR hf hd k
theorem wa_callSv (cx : CX p s m args meth c cc own nL ret E) {y : MethodName} {cy : ByteArray} {mL n idx d : Nat} {rt : Option FieldType} {rest : List Value} {τ : Sg} (As : List Value) (hC : CT l y cy mL rt d E σ As (none) τ) (hmi : MS y cy mL rt n) (hlk : Cond.methodLink own idx y ∈ gw) (hn : As.length = n) (hst : st = As.reverse ++ rest) (hrs : (rest.map fun v => v.category).sum ≤ 8) (hR : d + 1 ≤ R.frames ∧ 8 + (mL + 11) + 48 * d ≤ R.locals) (hf : nc ≤ R.cells ∧ ns ≤ R.slots) (hd : decode cc pc = .ok (.invokestatic idx, 3)) (k : WA p l e R s m args below meth c nL E nc ns Q (pc + 3) L (rest) τ) : WA p l e R s m args below meth c nL E nc ns Q (pc) L (st) σ := wa_callS0 cx hC hmi hlk hn hst hrs hR hf hd k
theorem wa_iret (cx : CX p s m args meth c cc own nL (some .int) E) {v : Int32} (hd : decode cc pc = .ok (.ireturn, 1)) : WA p l e R s m args below meth c nL E nc ns (MQ below (Qcq E s.heap.size (some (.int v)) σ) args s nc ns (AE E s.heap.size)) pc L [.int v] σ := fun H locs ls hP hD hS hl => W.iret cx.1 cx.2.1 cx.2.2.2.2.2.2.1 (fun t ht hW => ⟨rfl, by rw [ht]; exact hP, hS.F ht⟩) hS.2.2 hd cx.2.2.2.2.2.2.2.1
theorem wa_zret (cx : CX p s m args meth c cc own nL (some .boolean) E) {v : Int32} (hz : isz v = true) (hd : decode cc pc = .ok (.ireturn, 1)) : WA p l e R s m args below meth c nL E nc ns (MQ below (Qcq E s.heap.size (some (.int v)) σ) args s nc ns (AE E s.heap.size)) pc L [.int v] σ := fun H locs ls hP hD hS hl => W.zret cx.1 cx.2.1 cx.2.2.2.2.2.2.1 (isz_nar hz).1 (fun t ht hW => ⟨rfl, by rw [ht]; exact hP, hS.F ht⟩) hS.2.2 hd cx.2.2.2.2.2.2.2.1
theorem wa_lret (cx : CX p s m args meth c cc own nL (some .long) E) {v : Int64} (hd : decode cc pc = .ok (.lreturn, 1)) : WA p l e R s m args below meth c nL E nc ns (MQ below (Qcq E s.heap.size (some (.long v)) σ) args s nc ns (AE E s.heap.size)) pc L [.long v] σ := fun H locs ls hP hD hS hl => W.lret cx.1 cx.2.1 cx.2.2.2.2.2.2.1 (fun t ht hW => ⟨rfl, by rw [ht]; exact hP, hS.F ht⟩) hS.2.2 hd cx.2.2.2.2.2.2.2.1
theorem wa_vret (cx : CX p s m args meth c cc own nL (none) E) (hd : decode cc pc = .ok (.return_, 1)) : WA p l e R s m args below meth c nL E nc ns (MQ below (Qcq E s.heap.size (none) σ) args s nc ns (AE E s.heap.size)) pc L [] σ := fun H locs ls hP hD hS hl => W.vret cx.1 cx.2.1 cx.2.2.2.2.2.2.1 (fun t ht hW => ⟨rfl, by rw [ht]; exact hP, hS.F ht⟩) hS.2.2 hd cx.2.2.2.2.2.2.2.1
end WArows
theorem mi_X10_row : MI yX10_row cX10_row 4 (some .int) 3 := ⟨tw_346, tw_347, tw_58, tw_348, by decide +kernel, by decide +kernel, by decide +kernel⟩
theorem mi_X7_isNumber : MI yX7_isNumber cX7_isNumber 2 (some .boolean) 1 := ⟨tw_350, tw_351, tw_59, tw_352, by decide +kernel, by decide +kernel, by decide +kernel⟩
theorem mi_X10_found : MI yX10_found cX10_found 2 (some .int) 1 := ⟨tw_356, tw_0, tw_58, tw_357, by decide +kernel, by decide +kernel, by decide +kernel⟩
theorem mi_X7_make : MI yX7_make cX7_make 5 none 3 := ⟨tw_360, tw_361, tw_59, tw_362, by decide +kernel, by decide +kernel, by decide +kernel⟩
theorem mi_X10_foundNothing : MI yX10_foundNothing cX10_foundNothing 2 (some .int) 1 := ⟨tw_365, tw_1, tw_58, tw_366, by decide +kernel, by decide +kernel, by decide +kernel⟩
theorem mi_X10_set : MI yX10_set cX10_set 4 (some .int) 3 := ⟨tw_368, tw_369, tw_58, tw_370, by decide +kernel, by decide +kernel, by decide +kernel⟩
theorem mi_X7_isMissing : MI yX7_isMissing cX7_isMissing 2 (some .boolean) 1 := ⟨tw_372, tw_373, tw_59, tw_374, by decide +kernel, by decide +kernel, by decide +kernel⟩
theorem mi_X7_hasPlaces : MI yX7_hasPlaces cX7_hasPlaces 4 (some .boolean) 3 := ⟨tw_376, tw_377, tw_59, tw_378, by decide +kernel, by decide +kernel, by decide +kernel⟩
theorem mi_X7_put : MI yX7_put cX7_put 5 (some .int) 3 := ⟨tw_380, tw_381, tw_59, tw_382, by decide +kernel, by decide +kernel, by decide +kernel⟩
theorem mi_X10_copy : MI yX10_copy cX10_copy 6 (some .int) 5 := ⟨tw_384, tw_385, tw_58, tw_386, by decide +kernel, by decide +kernel, by decide +kernel⟩
theorem mi_X7_laneOf : MI yX7_laneOf cX7_laneOf 2 (some .int) 1 := ⟨tw_388, tw_389, tw_59, tw_390, by decide +kernel, by decide +kernel, by decide +kernel⟩
theorem mi_X7_move : MI yX7_move cX7_move 6 none 5 := ⟨tw_392, tw_393, tw_59, tw_394, by decide +kernel, by decide +kernel, by decide +kernel⟩
theorem mi_X10_drop : MI yX10_drop cX10_drop 3 (some .int) 1 := ⟨tw_399, tw_400, tw_58, tw_401, by decide +kernel, by decide +kernel, by decide +kernel⟩
theorem mi_X7_sizeOf : MI yX7_sizeOf cX7_sizeOf 2 (some .int) 1 := ⟨tw_403, tw_404, tw_59, tw_405, by decide +kernel, by decide +kernel, by decide +kernel⟩
theorem mi_X7_remove : MI yX7_remove cX7_remove 2 none 1 := ⟨tw_407, tw_408, tw_59, tw_409, by decide +kernel, by decide +kernel, by decide +kernel⟩
theorem mi_X10_feed : MI yX10_feed cX10_feed 5 (some .int) 2 := ⟨tw_411, tw_412, tw_58, tw_413, by decide +kernel, by decide +kernel, by decide +kernel⟩
theorem mi_X8_hasRoom : MI yX8_hasRoom cX8_hasRoom 2 (some .boolean) 1 := ⟨tw_415, tw_416, tw_61, tw_417, by decide +kernel, by decide +kernel, by decide +kernel⟩
theorem mi_X8_add : MI yX8_add cX8_add 2 none 1 := ⟨tw_420, tw_421, tw_61, tw_422, by decide +kernel, by decide +kernel, by decide +kernel⟩
theorem mi_X10_walk : MI yX10_walk cX10_walk 1 (some .int) 0 := ⟨tw_424, tw_425, tw_58, tw_426, by decide +kernel, by decide +kernel, by decide +kernel⟩
theorem mi_X6_readInto : MI yX6_readInto cX6_readInto 3 none 1 := ⟨tw_428, tw_429, tw_60, tw_430, by decide +kernel, by decide +kernel, by decide +kernel⟩
theorem mi_X9_begin : MI yX9_begin cX9_begin 2 none 0 := ⟨tw_432, tw_433, tw_62, tw_434, by decide +kernel, by decide +kernel, by decide +kernel⟩
theorem mi_X8_rewind : MI yX8_rewind cX8_rewind 1 none 0 := ⟨tw_436, tw_437, tw_61, tw_438, by decide +kernel, by decide +kernel, by decide +kernel⟩
theorem mi_X8_next : MI yX8_next cX8_next 1 none 0 := ⟨tw_440, tw_441, tw_61, tw_442, by decide +kernel, by decide +kernel, by decide +kernel⟩
theorem ms_X8_isBlank : MS yX8_isBlank cX8_isBlank 1 (some .boolean) 1 := ⟨tw_444, tw_61, tw_445, by decide +kernel, by decide +kernel, by decide +kernel⟩
theorem ms_X8_isLetter : MS yX8_isLetter cX8_isLetter 1 (some .boolean) 1 := ⟨tw_447, tw_61, tw_448, by decide +kernel, by decide +kernel, by decide +kernel⟩
theorem mi_X8_takeName : MI yX8_takeName cX8_takeName 1 none 0 := ⟨tw_451, tw_2, tw_61, tw_452, by decide +kernel, by decide +kernel, by decide +kernel⟩
theorem ms_X8_isFigure : MS yX8_isFigure cX8_isFigure 1 (some .boolean) 1 := ⟨tw_454, tw_61, tw_455, by decide +kernel, by decide +kernel, by decide +kernel⟩
theorem mi_X8_takeNumber : MI yX8_takeNumber cX8_takeNumber 1 none 0 := ⟨tw_458, tw_3, tw_61, tw_459, by decide +kernel, by decide +kernel, by decide +kernel⟩
theorem mi_X6_readLaw : MI yX6_readLaw cX6_readLaw 2 none 1 := ⟨tw_462, tw_4, tw_60, tw_463, by decide +kernel, by decide +kernel, by decide +kernel⟩
theorem mi_X8_isWord : MI yX8_isWord cX8_isWord 3 (some .boolean) 1 := ⟨tw_466, tw_467, tw_61, tw_468, by decide +kernel, by decide +kernel, by decide +kernel⟩
theorem mi_X6_takeNumber : MI yX6_takeNumber cX6_takeNumber 4 (some .int) 2 := ⟨tw_520, tw_5, tw_60, tw_521, by decide +kernel, by decide +kernel, by decide +kernel⟩
theorem mi_X6_takeSign : MI yX6_takeSign cX6_takeSign 1 none 0 := ⟨tw_524, tw_6, tw_60, tw_525, by decide +kernel, by decide +kernel, by decide +kernel⟩
theorem mi_X6_readSpeaker : MI yX6_readSpeaker cX6_readSpeaker 2 none 1 := ⟨tw_529, tw_7, tw_60, tw_530, by decide +kernel, by decide +kernel, by decide +kernel⟩
theorem mi_X6_readYarn : MI yX6_readYarn cX6_readYarn 2 none 1 := ⟨tw_534, tw_8, tw_60, tw_535, by decide +kernel, by decide +kernel, by decide +kernel⟩
theorem mi_X6_takeSort : MI yX6_takeSort cX6_takeSort 2 (some .int) 0 := ⟨tw_538, tw_9, tw_60, tw_539, by decide +kernel, by decide +kernel, by decide +kernel⟩
theorem mi_X9_becomeAs : MI yX9_becomeAs cX9_becomeAs 2 none 1 := ⟨tw_547, tw_548, tw_62, tw_549, by decide +kernel, by decide +kernel, by decide +kernel⟩
theorem mi_X0_forgetAll : MI yX0_forgetAll cX0_forgetAll 1 none 0 := ⟨tw_552, tw_553, tw_63, tw_554, by decide +kernel, by decide +kernel, by decide +kernel⟩
theorem mi_X10_fault : MI yX10_fault cX10_fault 1 (some .int) 0 := ⟨tw_556, tw_557, tw_58, tw_558, by decide +kernel, by decide +kernel, by decide +kernel⟩
theorem mi_X10_lay : MI yX10_lay cX10_lay 4 (some .int) 2 := ⟨tw_560, tw_561, tw_58, tw_562, by decide +kernel, by decide +kernel, by decide +kernel⟩
theorem mi_X9_hasYarn : MI yX9_hasYarn cX9_hasYarn 2 (some .boolean) 1 := ⟨tw_564, tw_565, tw_62, tw_566, by decide +kernel, by decide +kernel, by decide +kernel⟩
theorem mi_X0_keep : MI yX0_keep cX0_keep 2 none 1 := ⟨tw_568, tw_569, tw_63, tw_570, by decide +kernel, by decide +kernel, by decide +kernel⟩
theorem mi_X10_pitch : MI yX10_pitch cX10_pitch 2 (some .int) 1 := ⟨tw_576, tw_577, tw_58, tw_578, by decide +kernel, by decide +kernel, by decide +kernel⟩
theorem mi_X9_strength : MI yX9_strength cX9_strength 2 (some .int) 1 := ⟨tw_581, tw_582, tw_62, tw_583, by decide +kernel, by decide +kernel, by decide +kernel⟩
theorem mi_X9_strengthIf : MI yX9_strengthIf cX9_strengthIf 4 (some .int) 2 := ⟨tw_585, tw_586, tw_62, tw_587, by decide +kernel, by decide +kernel, by decide +kernel⟩
theorem mi_X10_vow : MI yX10_vow cX10_vow 4 (some .int) 2 := ⟨tw_592, tw_593, tw_58, tw_594, by decide +kernel, by decide +kernel, by decide +kernel⟩
theorem mi_X10_splice : MI yX10_splice cX10_splice 3 (some .int) 1 := ⟨tw_596, tw_597, tw_58, tw_598, by decide +kernel, by decide +kernel, by decide +kernel⟩
theorem mi_X10_pull : MI yX10_pull cX10_pull 4 (some .int) 2 := ⟨tw_600, tw_601, tw_58, tw_602, by decide +kernel, by decide +kernel, by decide +kernel⟩
theorem ms_X10_isLoad : MS yX10_isLoad cX10_isLoad 1 (some .boolean) 1 := ⟨tw_604, tw_58, tw_605, by decide +kernel, by decide +kernel, by decide +kernel⟩
theorem ms_X10_isSeed : MS yX10_isSeed cX10_isSeed 1 (some .boolean) 1 := ⟨tw_607, tw_58, tw_608, by decide +kernel, by decide +kernel, by decide +kernel⟩
theorem ms_X10_nextX : MS yX10_nextX cX10_nextX 1 (some .int) 1 := ⟨tw_611, tw_58, tw_612, by decide +kernel, by decide +kernel, by decide +kernel⟩
theorem mi_X9_ropeBears : MI yX9_ropeBears cX9_ropeBears 1 (some .int) 0 := ⟨tw_616, tw_617, tw_62, tw_618, by decide +kernel, by decide +kernel, by decide +kernel⟩
theorem mi_X9_ropeBearsWithout : MI yX9_ropeBearsWithout cX9_ropeBearsWithout 4 (some .int) 1 := ⟨tw_620, tw_621, tw_62, tw_622, by decide +kernel, by decide +kernel, by decide +kernel⟩
theorem mi_X9_strandBearsWithout : MI yX9_strandBearsWithout cX9_strandBearsWithout 5 (some .int) 2 := ⟨tw_625, tw_10, tw_62, tw_626, by decide +kernel, by decide +kernel, by decide +kernel⟩
theorem mi_X9_weakestStrand : MI yX9_weakestStrand cX9_weakestStrand 3 (some .int) 0 := ⟨tw_630, tw_631, tw_62, tw_632, by decide +kernel, by decide +kernel, by decide +kernel⟩
theorem mi_X9_strandBears : MI yX9_strandBears cX9_strandBears 2 (some .int) 1 := ⟨tw_634, tw_635, tw_62, tw_636, by decide +kernel, by decide +kernel, by decide +kernel⟩
theorem mi_X9_part : MI yX9_part cX9_part 3 none 1 := ⟨tw_638, tw_639, tw_62, tw_640, by decide +kernel, by decide +kernel, by decide +kernel⟩
theorem mi_X9_wearLaid : MI yX9_wearLaid cX9_wearLaid 2 none 0 := ⟨tw_642, tw_643, tw_62, tw_644, by decide +kernel, by decide +kernel, by decide +kernel⟩
theorem mi_X9_isLaid : MI yX9_isLaid cX9_isLaid 2 (some .boolean) 1 := ⟨tw_646, tw_647, tw_62, tw_648, by decide +kernel, by decide +kernel, by decide +kernel⟩
theorem mi_X10_year : MI yX10_year cX10_year 6 (some .int) 1 := ⟨tw_651, tw_652, tw_58, tw_653, by decide +kernel, by decide +kernel, by decide +kernel⟩
theorem mi_X9_isDrawn : MI yX9_isDrawn cX9_isDrawn 2 (some .boolean) 1 := ⟨tw_655, tw_656, tw_62, tw_657, by decide +kernel, by decide +kernel, by decide +kernel⟩
theorem mi_X9_keptInTen : MI yX9_keptInTen cX9_keptInTen 2 (some .int) 1 := ⟨tw_659, tw_660, tw_62, tw_661, by decide +kernel, by decide +kernel, by decide +kernel⟩
theorem mi_X10_undo : MI yX10_undo cX10_undo 1 (some .int) 0 := ⟨tw_663, tw_664, tw_58, tw_665, by decide +kernel, by decide +kernel, by decide +kernel⟩
theorem mi_X0_takeBack : MI yX0_takeBack cX0_takeBack 2 none 1 := ⟨tw_667, tw_668, tw_63, tw_669, by decide +kernel, by decide +kernel, by decide +kernel⟩
theorem mi_X10_yarn : MI yX10_yarn cX10_yarn 3 (some .int) 2 := ⟨tw_671, tw_672, tw_58, tw_673, by decide +kernel, by decide +kernel, by decide +kernel⟩
theorem mi_X10_bears : MI yX10_bears cX10_bears 2 (some .int) 1 := ⟨tw_675, tw_676, tw_58, tw_677, by decide +kernel, by decide +kernel, by decide +kernel⟩
theorem mi_X10_best : MI yX10_best cX10_best 2 (some .int) 1 := ⟨tw_680, tw_681, tw_58, tw_682, by decide +kernel, by decide +kernel, by decide +kernel⟩
theorem mi_X2_search : MI yX2_search cX2_search 3 none 1 := ⟨tw_684, tw_685, tw_64, tw_686, by decide +kernel, by decide +kernel, by decide +kernel⟩
theorem mi_X2_layFrom : MI yX2_layFrom cX2_layFrom 4 none 2 := ⟨tw_690, tw_11, tw_64, tw_691, by decide +kernel, by decide +kernel, by decide +kernel⟩
theorem mi_X2_missing : MI yX2_missing cX2_missing 3 (some .int) 0 := ⟨tw_694, tw_12, tw_64, tw_695, by decide +kernel, by decide +kernel, by decide +kernel⟩
theorem mi_X10_cheapest : MI yX10_cheapest cX10_cheapest 4 (some .int) 2 := ⟨tw_700, tw_701, tw_58, tw_702, by decide +kernel, by decide +kernel, by decide +kernel⟩
theorem mi_X3_search : MI yX3_search cX3_search 8 (some .int) 2 := ⟨tw_704, tw_705, tw_65, tw_706, by decide +kernel, by decide +kernel, by decide +kernel⟩
theorem mi_X3_fillBest : MI yX3_fillBest cX3_fillBest 7 (some .int) 3 := ⟨tw_710, tw_13, tw_65, tw_711, by decide +kernel, by decide +kernel, by decide +kernel⟩
theorem mi_X9_priceOf : MI yX9_priceOf cX9_priceOf 4 (some .int) 1 := ⟨tw_716, tw_717, tw_62, tw_718, by decide +kernel, by decide +kernel, by decide +kernel⟩
theorem mi_X10_odds : MI yX10_odds cX10_odds 3 (some .int) 2 := ⟨tw_721, tw_722, tw_58, tw_723, by decide +kernel, by decide +kernel, by decide +kernel⟩
theorem mi_X5_reckon : MI yX5_reckon cX5_reckon 4 none 2 := ⟨tw_725, tw_726, tw_66, tw_727, by decide +kernel, by decide +kernel, by decide +kernel⟩
theorem mi_X5_yearsFrom : MI yX5_yearsFrom cX5_yearsFrom 7 (some .int) 2 := ⟨tw_730, tw_14, tw_66, tw_731, by decide +kernel, by decide +kernel, by decide +kernel⟩
theorem mi_X5_divideByTwo : MI yX5_divideByTwo cX5_divideByTwo 1 none 0 := ⟨tw_736, tw_15, tw_66, tw_737, by decide +kernel, by decide +kernel, by decide +kernel⟩
theorem mi_X5_divideByFive : MI yX5_divideByFive cX5_divideByFive 1 none 0 := ⟨tw_740, tw_16, tw_66, tw_741, by decide +kernel, by decide +kernel, by decide +kernel⟩
theorem mi_X10_risk : MI yX10_risk cX10_risk 4 (some .int) 3 := ⟨tw_743, tw_744, tw_58, tw_745, by decide +kernel, by decide +kernel, by decide +kernel⟩
theorem mi_X7_hasBelowZero : MI yX7_hasBelowZero cX7_hasBelowZero 5 (some .boolean) 3 := ⟨tw_747, tw_748, tw_59, tw_749, by decide +kernel, by decide +kernel, by decide +kernel⟩
theorem mi_X7_countUpTo : MI yX7_countUpTo cX7_countUpTo 6 (some .int) 4 := ⟨tw_751, tw_752, tw_59, tw_753, by decide +kernel, by decide +kernel, by decide +kernel⟩
theorem mi_X10_whose : MI yX10_whose cX10_whose 6 (some .int) 2 := ⟨tw_755, tw_756, tw_58, tw_757, by decide +kernel, by decide +kernel, by decide +kernel⟩
theorem mi_X10_geese : MI yX10_geese cX10_geese 3 (some .int) 1 := ⟨tw_761, tw_762, tw_58, tw_763, by decide +kernel, by decide +kernel, by decide +kernel⟩
theorem ms_J6_bitCount_0f7a4 : MS yJ6_bitCount_0f7a4 cJ6_bitCount_0f7a4 1 (some .int) 1 := ⟨tw_765, tw_75, tw_766, by decide +kernel, by decide +kernel, by decide +kernel⟩
theorem mi_X10_fathoms : MI yX10_fathoms cX10_fathoms 4 (some .int) 1 := ⟨tw_771, tw_772, tw_58, tw_773, by decide +kernel, by decide +kernel, by decide +kernel⟩
theorem mi_X10_image : MI yX10_image cX10_image 3 (some .int) 1 := ⟨tw_775, tw_776, tw_58, tw_777, by decide +kernel, by decide +kernel, by decide +kernel⟩
theorem mi_X10_restore : MI yX10_restore cX10_restore 3 (some .int) 1 := ⟨tw_779, tw_780, tw_58, tw_781, by decide +kernel, by decide +kernel, by decide +kernel⟩
theorem mi_X10_kind : MI yX10_kind cX10_kind 2 (some .int) 1 := ⟨tw_783, tw_784, tw_58, tw_785, by decide +kernel, by decide +kernel, by decide +kernel⟩
theorem mi_X10_as : MI yX10_as cX10_as 3 (some .int) 2 := ⟨tw_787, tw_788, tw_58, tw_789, by decide +kernel, by decide +kernel, by decide +kernel⟩
theorem ms_X4_isOne : MS yX4_isOne cX4_isOne 4 (some .boolean) 2 := ⟨tw_791, tw_76, tw_792, by decide +kernel, by decide +kernel, by decide +kernel⟩
theorem mi_X10_ask : MI yX10_ask cX10_ask 3 (some .int) 2 := ⟨tw_796, tw_797, tw_58, tw_798, by decide +kernel, by decide +kernel, by decide +kernel⟩
theorem mi_X1_answer : MI yX1_answer cX1_answer 5 (some .int) 3 := ⟨tw_800, tw_801, tw_67, tw_802, by decide +kernel, by decide +kernel, by decide +kernel⟩
theorem ms_X4_sizeBody : MS yX4_sizeBody cX4_sizeBody 1 (some .int) 1 := ⟨tw_804, tw_76, tw_805, by decide +kernel, by decide +kernel, by decide +kernel⟩
theorem ms_X4_nearest : MS yX4_nearest cX4_nearest 4 (some .int) 2 := ⟨tw_809, tw_76, tw_810, by decide +kernel, by decide +kernel, by decide +kernel⟩
theorem ms_X4_markBody : MS yX4_markBody cX4_markBody 1 (some .int) 1 := ⟨tw_812, tw_76, tw_813, by decide +kernel, by decide +kernel, by decide +kernel⟩
theorem mi_X1_give : MI yX1_give cX1_give 7 (some .int) 4 := ⟨tw_818, tw_17, tw_67, tw_819, by decide +kernel, by decide +kernel, by decide +kernel⟩
theorem mi_X1_leave : MI yX1_leave cX1_leave 2 none 1 := ⟨tw_822, tw_18, tw_67, tw_823, by decide +kernel, by decide +kernel, by decide +kernel⟩
theorem mi_X10_trace : MI yX10_trace cX10_trace 2 (some .int) 1 := ⟨tw_825, tw_826, tw_58, tw_827, by decide +kernel, by decide +kernel, by decide +kernel⟩
theorem mi_X10_count : MI yX10_count cX10_count 2 (some .int) 1 := ⟨tw_829, tw_830, tw_58, tw_831, by decide +kernel, by decide +kernel, by decide +kernel⟩
theorem mi_X7_howMany : MI yX7_howMany cX7_howMany 3 (some .int) 0 := ⟨tw_833, tw_834, tw_59, tw_835, by decide +kernel, by decide +kernel, by decide +kernel⟩
theorem mi_X9_laidYarns : MI yX9_laidYarns cX9_laidYarns 3 (some .int) 0 := ⟨tw_838, tw_839, tw_62, tw_840, by decide +kernel, by decide +kernel, by decide +kernel⟩
theorem mi_X9_brokenVows : MI yX9_brokenVows cX9_brokenVows 3 (some .int) 0 := ⟨tw_842, tw_843, tw_62, tw_844, by decide +kernel, by decide +kernel, by decide +kernel⟩
theorem mi_X10_status : MI yX10_status cX10_status 1 (some .int) 0 := ⟨tw_846, tw_847, tw_58, tw_848, by decide +kernel, by decide +kernel, by decide +kernel⟩
theorem mi_X11_row : MI yX11_row cX11_row 5 (some .int) 3 := ⟨tw_945, tw_946, tw_68, tw_947, by decide +kernel, by decide +kernel, by decide +kernel⟩
theorem ms_X11_isRow : MS yX11_isRow cX11_isRow 1 (some .boolean) 1 := ⟨tw_949, tw_68, tw_950, by decide +kernel, by decide +kernel, by decide +kernel⟩
theorem ms_X11_in : MS yX11_in cX11_in 6 (some .boolean) 3 := ⟨tw_953, tw_68, tw_954, by decide +kernel, by decide +kernel, by decide +kernel⟩
theorem mi_X11_finding : MI yX11_finding cX11_finding 2 (some .int) 1 := ⟨tw_959, tw_19, tw_68, tw_960, by decide +kernel, by decide +kernel, by decide +kernel⟩
theorem mi_X11_set : MI yX11_set cX11_set 4 (some .int) 3 := ⟨tw_963, tw_964, tw_68, tw_965, by decide +kernel, by decide +kernel, by decide +kernel⟩
theorem mi_X11_copy : MI yX11_copy cX11_copy 9 (some .int) 5 := ⟨tw_967, tw_968, tw_68, tw_969, by decide +kernel, by decide +kernel, by decide +kernel⟩
theorem mi_X11_drop : MI yX11_drop cX11_drop 2 (some .int) 1 := ⟨tw_971, tw_972, tw_68, tw_973, by decide +kernel, by decide +kernel, by decide +kernel⟩
theorem mi_X11_feed : MI yX11_feed cX11_feed 5 (some .int) 2 := ⟨tw_975, tw_976, tw_68, tw_977, by decide +kernel, by decide +kernel, by decide +kernel⟩
theorem mi_X11_walk : MI yX11_walk cX11_walk 2 (some .int) 0 := ⟨tw_982, tw_983, tw_68, tw_984, by decide +kernel, by decide +kernel, by decide +kernel⟩
theorem mi_X11_begin : MI yX11_begin cX11_begin 1 none 0 := ⟨tw_987, tw_20, tw_68, tw_988, by decide +kernel, by decide +kernel, by decide +kernel⟩
theorem mi_X11_next : MI yX11_next cX11_next 2 none 0 := ⟨tw_991, tw_21, tw_68, tw_992, by decide +kernel, by decide +kernel, by decide +kernel⟩
theorem mi_X11_byteAt : MI yX11_byteAt cX11_byteAt 2 (some .int) 1 := ⟨tw_995, tw_22, tw_68, tw_996, by decide +kernel, by decide +kernel, by decide +kernel⟩
theorem ms_X11_isLetter : MS yX11_isLetter cX11_isLetter 1 (some .boolean) 1 := ⟨tw_999, tw_68, tw_1000, by decide +kernel, by decide +kernel, by decide +kernel⟩
theorem ms_X11_isFigure : MS yX11_isFigure cX11_isFigure 1 (some .boolean) 1 := ⟨tw_1002, tw_68, tw_1003, by decide +kernel, by decide +kernel, by decide +kernel⟩
theorem mi_X11_name : MI yX11_name cX11_name 4 (some .long) 0 := ⟨tw_1006, tw_23, tw_68, tw_1007, by decide +kernel, by decide +kernel, by decide +kernel⟩
theorem mi_X11_must : MI yX11_must cX11_must 2 none 1 := ⟨tw_1011, tw_24, tw_68, tw_1012, by decide +kernel, by decide +kernel, by decide +kernel⟩
theorem mi_X11_bad : MI yX11_bad cX11_bad 2 none 1 := ⟨tw_1015, tw_25, tw_68, tw_1016, by decide +kernel, by decide +kernel, by decide +kernel⟩
theorem mi_X11_number : MI yX11_number cX11_number 4 (some .int) 2 := ⟨tw_1019, tw_26, tw_68, tw_1020, by decide +kernel, by decide +kernel, by decide +kernel⟩
theorem mi_X11_figures : MI yX11_figures cX11_figures 3 (some .int) 0 := ⟨tw_1023, tw_27, tw_68, tw_1024, by decide +kernel, by decide +kernel, by decide +kernel⟩
theorem mi_X11_mustEnd : MI yX11_mustEnd cX11_mustEnd 1 none 0 := ⟨tw_1027, tw_28, tw_68, tw_1028, by decide +kernel, by decide +kernel, by decide +kernel⟩
theorem mi_X11_readSpeaker : MI yX11_readSpeaker cX11_readSpeaker 3 none 0 := ⟨tw_1032, tw_29, tw_68, tw_1033, by decide +kernel, by decide +kernel, by decide +kernel⟩
theorem mi_X11_begins : MI yX11_begins cX11_begins 3 none 2 := ⟨tw_1036, tw_30, tw_68, tw_1037, by decide +kernel, by decide +kernel, by decide +kernel⟩
theorem mi_X11_readYarn : MI yX11_readYarn cX11_readYarn 5 none 0 := ⟨tw_1041, tw_31, tw_68, tw_1042, by decide +kernel, by decide +kernel, by decide +kernel⟩
theorem ms_X11_kindBy : MS yX11_kindBy cX11_kindBy 2 (some .int) 1 := ⟨tw_1044, tw_68, tw_1045, by decide +kernel, by decide +kernel, by decide +kernel⟩
theorem mi_X11_fault : MI yX11_fault cX11_fault 1 (some .int) 0 := ⟨tw_1053, tw_1054, tw_68, tw_1055, by decide +kernel, by decide +kernel, by decide +kernel⟩
theorem mi_X11_lay : MI yX11_lay cX11_lay 4 (some .int) 2 := ⟨tw_1057, tw_1058, tw_68, tw_1059, by decide +kernel, by decide +kernel, by decide +kernel⟩
theorem mi_X11_isYarn : MI yX11_isYarn cX11_isYarn 2 (some .boolean) 1 := ⟨tw_1062, tw_32, tw_68, tw_1063, by decide +kernel, by decide +kernel, by decide +kernel⟩
theorem mi_X11_keep : MI yX11_keep cX11_keep 2 none 0 := ⟨tw_1067, tw_33, tw_68, tw_1068, by decide +kernel, by decide +kernel, by decide +kernel⟩
theorem mi_X11_of : MI yX11_of cX11_of 3 (some .int) 2 := ⟨tw_1071, tw_34, tw_68, tw_1072, by decide +kernel, by decide +kernel, by decide +kernel⟩
theorem mi_X11_becomes : MI yX11_becomes cX11_becomes 4 none 3 := ⟨tw_1075, tw_35, tw_68, tw_1076, by decide +kernel, by decide +kernel, by decide +kernel⟩
theorem mi_X11_pitch : MI yX11_pitch cX11_pitch 2 (some .int) 1 := ⟨tw_1078, tw_1079, tw_68, tw_1080, by decide +kernel, by decide +kernel, by decide +kernel⟩
theorem mi_X11_strength : MI yX11_strength cX11_strength 2 (some .int) 1 := ⟨tw_1084, tw_36, tw_68, tw_1085, by decide +kernel, by decide +kernel, by decide +kernel⟩
theorem mi_X11_strengthBy : MI yX11_strengthBy cX11_strengthBy 5 (some .int) 2 := ⟨tw_1088, tw_37, tw_68, tw_1089, by decide +kernel, by decide +kernel, by decide +kernel⟩
theorem mi_X11_priceOf : MI yX11_priceOf cX11_priceOf 2 (some .int) 1 := ⟨tw_1092, tw_38, tw_68, tw_1093, by decide +kernel, by decide +kernel, by decide +kernel⟩
theorem mi_X11_vow : MI yX11_vow cX11_vow 4 (some .int) 2 := ⟨tw_1095, tw_1096, tw_68, tw_1097, by decide +kernel, by decide +kernel, by decide +kernel⟩
theorem mi_X11_splice : MI yX11_splice cX11_splice 3 (some .int) 1 := ⟨tw_1099, tw_1100, tw_68, tw_1101, by decide +kernel, by decide +kernel, by decide +kernel⟩
theorem mi_X11_pull : MI yX11_pull cX11_pull 8 (some .int) 2 := ⟨tw_1103, tw_1104, tw_68, tw_1105, by decide +kernel, by decide +kernel, by decide +kernel⟩
theorem ms_X11_isLoad : MS yX11_isLoad cX11_isLoad 1 (some .boolean) 1 := ⟨tw_1107, tw_68, tw_1108, by decide +kernel, by decide +kernel, by decide +kernel⟩
theorem ms_X11_isSeed : MS yX11_isSeed cX11_isSeed 1 (some .boolean) 1 := ⟨tw_1111, tw_68, tw_1112, by decide +kernel, by decide +kernel, by decide +kernel⟩
theorem mi_X11_draw : MI yX11_draw cX11_draw 2 (some .int) 1 := ⟨tw_1116, tw_39, tw_68, tw_1117, by decide +kernel, by decide +kernel, by decide +kernel⟩
theorem mi_X11_layStrands : MI yX11_layStrands cX11_layStrands 2 none 0 := ⟨tw_1122, tw_40, tw_68, tw_1123, by decide +kernel, by decide +kernel, by decide +kernel⟩
theorem mi_X11_noStrands : MI yX11_noStrands cX11_noStrands 2 none 0 := ⟨tw_1126, tw_41, tw_68, tw_1127, by decide +kernel, by decide +kernel, by decide +kernel⟩
theorem mi_X11_weakest : MI yX11_weakest cX11_weakest 3 (some .int) 0 := ⟨tw_1130, tw_42, tw_68, tw_1131, by decide +kernel, by decide +kernel, by decide +kernel⟩
theorem mi_X11_ropeBears : MI yX11_ropeBears cX11_ropeBears 1 (some .int) 0 := ⟨tw_1134, tw_43, tw_68, tw_1135, by decide +kernel, by decide +kernel, by decide +kernel⟩
theorem mi_X11_year : MI yX11_year cX11_year 6 (some .int) 1 := ⟨tw_1137, tw_1138, tw_68, tw_1139, by decide +kernel, by decide +kernel, by decide +kernel⟩
theorem mi_X11_truthOf : MI yX11_truthOf cX11_truthOf 2 (some .int) 1 := ⟨tw_1142, tw_44, tw_68, tw_1143, by decide +kernel, by decide +kernel, by decide +kernel⟩
theorem mi_X11_undo : MI yX11_undo cX11_undo 2 (some .int) 0 := ⟨tw_1145, tw_1146, tw_68, tw_1147, by decide +kernel, by decide +kernel, by decide +kernel⟩
theorem mi_X11_yarn : MI yX11_yarn cX11_yarn 3 (some .int) 2 := ⟨tw_1149, tw_1150, tw_68, tw_1151, by decide +kernel, by decide +kernel, by decide +kernel⟩
theorem mi_X11_bears : MI yX11_bears cX11_bears 2 (some .int) 1 := ⟨tw_1154, tw_1155, tw_68, tw_1156, by decide +kernel, by decide +kernel, by decide +kernel⟩
theorem mi_X11_best : MI yX11_best cX11_best 5 (some .int) 1 := ⟨tw_1159, tw_1160, tw_68, tw_1161, by decide +kernel, by decide +kernel, by decide +kernel⟩
theorem mi_X11_layBest : MI yX11_layBest cX11_layBest 5 (some .int) 0 := ⟨tw_1164, tw_45, tw_68, tw_1165, by decide +kernel, by decide +kernel, by decide +kernel⟩
theorem mi_X11_bearsBy : MI yX11_bearsBy cX11_bearsBy 4 (some .int) 1 := ⟨tw_1168, tw_46, tw_68, tw_1169, by decide +kernel, by decide +kernel, by decide +kernel⟩
theorem mi_X11_cheapest : MI yX11_cheapest cX11_cheapest 6 (some .int) 2 := ⟨tw_1171, tw_1172, tw_68, tw_1173, by decide +kernel, by decide +kernel, by decide +kernel⟩
theorem mi_X11_layTogether : MI yX11_layTogether cX11_layTogether 5 none 1 := ⟨tw_1176, tw_47, tw_68, tw_1177, by decide +kernel, by decide +kernel, by decide +kernel⟩
theorem mi_X11_costOf : MI yX11_costOf cX11_costOf 4 (some .int) 1 := ⟨tw_1180, tw_48, tw_68, tw_1181, by decide +kernel, by decide +kernel, by decide +kernel⟩
theorem mi_X11_odds : MI yX11_odds cX11_odds 9 (some .int) 2 := ⟨tw_1183, tw_1184, tw_68, tw_1185, by decide +kernel, by decide +kernel, by decide +kernel⟩
theorem mi_X11_tenthsOf : MI yX11_tenthsOf cX11_tenthsOf 2 (some .int) 1 := ⟨tw_1188, tw_49, tw_68, tw_1189, by decide +kernel, by decide +kernel, by decide +kernel⟩
theorem mi_X11_bearsIf : MI yX11_bearsIf cX11_bearsIf 4 (some .int) 1 := ⟨tw_1192, tw_50, tw_68, tw_1193, by decide +kernel, by decide +kernel, by decide +kernel⟩
theorem mi_X11_risk : MI yX11_risk cX11_risk 6 (some .int) 3 := ⟨tw_1195, tw_1196, tw_68, tw_1197, by decide +kernel, by decide +kernel, by decide +kernel⟩
theorem mi_X11_whose : MI yX11_whose cX11_whose 7 (some .int) 2 := ⟨tw_1200, tw_1201, tw_68, tw_1202, by decide +kernel, by decide +kernel, by decide +kernel⟩
theorem mi_X11_geese : MI yX11_geese cX11_geese 4 (some .int) 1 := ⟨tw_1204, tw_1205, tw_68, tw_1206, by decide +kernel, by decide +kernel, by decide +kernel⟩
theorem mi_X11_fathoms : MI yX11_fathoms cX11_fathoms 4 (some .int) 1 := ⟨tw_1208, tw_1209, tw_68, tw_1210, by decide +kernel, by decide +kernel, by decide +kernel⟩
theorem mi_X11_isSpeaker : MI yX11_isSpeaker cX11_isSpeaker 2 (some .boolean) 1 := ⟨tw_1213, tw_51, tw_68, tw_1214, by decide +kernel, by decide +kernel, by decide +kernel⟩
theorem mi_X11_image : MI yX11_image cX11_image 3 (some .int) 1 := ⟨tw_1216, tw_1217, tw_68, tw_1218, by decide +kernel, by decide +kernel, by decide +kernel⟩
theorem mi_X11_restore : MI yX11_restore cX11_restore 3 (some .int) 1 := ⟨tw_1220, tw_1221, tw_68, tw_1222, by decide +kernel, by decide +kernel, by decide +kernel⟩
theorem mi_X11_kind : MI yX11_kind cX11_kind 2 (some .int) 1 := ⟨tw_1224, tw_1225, tw_68, tw_1226, by decide +kernel, by decide +kernel, by decide +kernel⟩
theorem mi_X11_as : MI yX11_as cX11_as 3 (some .int) 2 := ⟨tw_1228, tw_1229, tw_68, tw_1230, by decide +kernel, by decide +kernel, by decide +kernel⟩
theorem ms_X11_isOf : MS yX11_isOf cX11_isOf 2 (some .boolean) 2 := ⟨tw_1233, tw_68, tw_1234, by decide +kernel, by decide +kernel, by decide +kernel⟩
theorem mi_X11_ask : MI yX11_ask cX11_ask 3 (some .int) 2 := ⟨tw_1236, tw_1237, tw_68, tw_1238, by decide +kernel, by decide +kernel, by decide +kernel⟩
theorem mi_X11_sizeOf : MI yX11_sizeOf cX11_sizeOf 4 (some .int) 1 := ⟨tw_1241, tw_52, tw_68, tw_1242, by decide +kernel, by decide +kernel, by decide +kernel⟩
theorem mi_X11_lieSize : MI yX11_lieSize cX11_lieSize 3 (some .int) 1 := ⟨tw_1245, tw_53, tw_68, tw_1246, by decide +kernel, by decide +kernel, by decide +kernel⟩
theorem mi_X11_began : MI yX11_began cX11_began 2 none 1 := ⟨tw_1249, tw_54, tw_68, tw_1250, by decide +kernel, by decide +kernel, by decide +kernel⟩
theorem mi_X11_plainSize : MI yX11_plainSize cX11_plainSize 2 (some .int) 1 := ⟨tw_1253, tw_55, tw_68, tw_1254, by decide +kernel, by decide +kernel, by decide +kernel⟩
theorem mi_X11_markOf : MI yX11_markOf cX11_markOf 4 (some .int) 1 := ⟨tw_1257, tw_56, tw_68, tw_1258, by decide +kernel, by decide +kernel, by decide +kernel⟩
theorem mi_X11_trace : MI yX11_trace cX11_trace 2 (some .int) 1 := ⟨tw_1260, tw_1261, tw_68, tw_1262, by decide +kernel, by decide +kernel, by decide +kernel⟩
theorem mi_X11_count : MI yX11_count cX11_count 4 (some .int) 1 := ⟨tw_1264, tw_1265, tw_68, tw_1266, by decide +kernel, by decide +kernel, by decide +kernel⟩
theorem mi_X11_status : MI yX11_status cX11_status 1 (some .int) 0 := ⟨tw_1268, tw_1269, tw_68, tw_1270, by decide +kernel, by decide +kernel, by decide +kernel⟩
theorem fl_X7_9 : FLk RX7 9 6 0 := ⟨RX7, TX7, 3, rfl, by decide, inX7, tw_91⟩
theorem fl_X7_13 : FLk RX7 13 6 1 := ⟨RX7, TX7, 3, rfl, by decide, inX7, tw_92⟩
theorem fl_X7_16 : FLk RX7 16 6 2 := ⟨RX7, TX7, 3, rfl, by decide, inX7, tw_93⟩
theorem fl_X8_9 : FLk RX8 9 7 0 := ⟨RX8, TX8, 6, rfl, by decide, inX8, tw_114⟩
theorem fl_X8_13 : FLk RX8 13 7 1 := ⟨RX8, TX8, 6, rfl, by decide, inX8, tw_115⟩
theorem fp_X8_13 : FPk RX8 13 7 1 .int := ⟨RX8, TX8, 6, tyX8, rfl, by decide, inX8, tw_115, tyX8_ok, nmX8, rfl, by decide +kernel⟩
theorem fl_X10_134 : FLk RX10 134 7 1 := ⟨RX8, TX8, 6, rfl, by decide, inX8, tw_116⟩
theorem fp_X10_134 : FPk RX10 134 7 1 .int := ⟨RX8, TX8, 6, tyX8, rfl, by decide, inX8, tw_116, tyX8_ok, nmX8, rfl, by decide +kernel⟩
theorem fl_X8_17 : FLk RX8 17 7 2 := ⟨RX8, TX8, 6, rfl, by decide, inX8, tw_117⟩
theorem fp_X8_17 : FPk RX8 17 7 2 .int := ⟨RX8, TX8, 6, tyX8, rfl, by decide, inX8, tw_117, tyX8_ok, nmX8, rfl, by decide +kernel⟩
theorem fl_X6_48 : FLk RX6 48 7 2 := ⟨RX8, TX8, 6, rfl, by decide, inX8, tw_118⟩
theorem fp_X6_48 : FPk RX6 48 7 2 .int := ⟨RX8, TX8, 6, tyX8, rfl, by decide, inX8, tw_118, tyX8_ok, nmX8, rfl, by decide +kernel⟩
theorem fl_X8_20 : FLk RX8 20 7 3 := ⟨RX8, TX8, 6, rfl, by decide, inX8, tw_119⟩
theorem fp_X8_20 : FPk RX8 20 7 3 .int := ⟨RX8, TX8, 6, tyX8, rfl, by decide, inX8, tw_119, tyX8_ok, nmX8, rfl, by decide +kernel⟩
theorem fl_X10_144 : FLk RX10 144 7 3 := ⟨RX8, TX8, 6, rfl, by decide, inX8, tw_120⟩
theorem fp_X10_144 : FPk RX10 144 7 3 .int := ⟨RX8, TX8, 6, tyX8, rfl, by decide, inX8, tw_120, tyX8_ok, nmX8, rfl, by decide +kernel⟩
theorem fl_X8_23 : FLk RX8 23 7 4 := ⟨RX8, TX8, 6, rfl, by decide, inX8, tw_121⟩
theorem fp_X8_23 : FPk RX8 23 7 4 .int := ⟨RX8, TX8, 6, tyX8, rfl, by decide, inX8, tw_121, tyX8_ok, nmX8, rfl, by decide +kernel⟩
theorem fl_X6_106 : FLk RX6 106 7 4 := ⟨RX8, TX8, 6, rfl, by decide, inX8, tw_122⟩
theorem fp_X6_106 : FPk RX6 106 7 4 .int := ⟨RX8, TX8, 6, tyX8, rfl, by decide, inX8, tw_122, tyX8_ok, nmX8, rfl, by decide +kernel⟩
theorem fl_X8_26 : FLk RX8 26 7 5 := ⟨RX8, TX8, 6, rfl, by decide, inX8, tw_123⟩
theorem fp_X8_26 : FPk RX8 26 7 5 .int := ⟨RX8, TX8, 6, tyX8, rfl, by decide, inX8, tw_123, tyX8_ok, nmX8, rfl, by decide +kernel⟩
theorem fl_X6_12 : FLk RX6 12 5 0 := ⟨RX6, TX6, 2, rfl, by decide, inX6, tw_138⟩
theorem fl_X10_120 : FLk RX10 120 5 0 := ⟨RX6, TX6, 2, rfl, by decide, inX6, tw_139⟩
theorem fl_X6_18 : FLk RX6 18 5 1 := ⟨RX6, TX6, 2, rfl, by decide, inX6, tw_140⟩
theorem fp_X6_18 : FPk RX6 18 5 1 .int := ⟨RX6, TX6, 2, tyX6, rfl, by decide, inX6, tw_140, tyX6_ok, nmX6, rfl, by decide +kernel⟩
theorem fl_X10_141 : FLk RX10 141 5 1 := ⟨RX6, TX6, 2, rfl, by decide, inX6, tw_141⟩
theorem fp_X10_141 : FPk RX10 141 5 1 .int := ⟨RX6, TX6, 2, tyX6, rfl, by decide, inX6, tw_141, tyX6_ok, nmX6, rfl, by decide +kernel⟩
theorem fl_X9_9 : FLk RX9 9 8 0 := ⟨RX9, TX9, 11, rfl, by decide, inX9, tw_153⟩
theorem fp_X9_9 : FPk RX9 9 8 0 .boolean := ⟨RX9, TX9, 11, tyX9, rfl, by decide, inX9, tw_153, tyX9_ok, nmX9, rfl, by decide +kernel⟩
theorem fl_X10_170 : FLk RX10 170 8 0 := ⟨RX9, TX9, 11, rfl, by decide, inX9, tw_154⟩
theorem fp_X10_170 : FPk RX10 170 8 0 .boolean := ⟨RX9, TX9, 11, tyX9, rfl, by decide, inX9, tw_154, tyX9_ok, nmX9, rfl, by decide +kernel⟩
theorem fl_X9_15 : FLk RX9 15 8 1 := ⟨RX9, TX9, 11, rfl, by decide, inX9, tw_155⟩
theorem fp_X9_15 : FPk RX9 15 8 1 .int := ⟨RX9, TX9, 11, tyX9, rfl, by decide, inX9, tw_155, tyX9_ok, nmX9, rfl, by decide +kernel⟩
theorem fl_X6_60 : FLk RX6 60 8 1 := ⟨RX9, TX9, 11, rfl, by decide, inX9, tw_156⟩
theorem fp_X6_60 : FPk RX6 60 8 1 .int := ⟨RX9, TX9, 11, tyX9, rfl, by decide, inX9, tw_156, tyX9_ok, nmX9, rfl, by decide +kernel⟩
theorem fl_X9_19 : FLk RX9 19 8 2 := ⟨RX9, TX9, 11, rfl, by decide, inX9, tw_157⟩
theorem fp_X9_19 : FPk RX9 19 8 2 .int := ⟨RX9, TX9, 11, tyX9, rfl, by decide, inX9, tw_157, tyX9_ok, nmX9, rfl, by decide +kernel⟩
theorem fl_X6_63 : FLk RX6 63 8 2 := ⟨RX9, TX9, 11, rfl, by decide, inX9, tw_158⟩
theorem fp_X6_63 : FPk RX6 63 8 2 .int := ⟨RX9, TX9, 11, tyX9, rfl, by decide, inX9, tw_158, tyX9_ok, nmX9, rfl, by decide +kernel⟩
theorem fl_X9_22 : FLk RX9 22 8 3 := ⟨RX9, TX9, 11, rfl, by decide, inX9, tw_159⟩
theorem fp_X9_22 : FPk RX9 22 8 3 .int := ⟨RX9, TX9, 11, tyX9, rfl, by decide, inX9, tw_159, tyX9_ok, nmX9, rfl, by decide +kernel⟩
theorem fl_X6_69 : FLk RX6 69 8 3 := ⟨RX9, TX9, 11, rfl, by decide, inX9, tw_160⟩
theorem fp_X6_69 : FPk RX6 69 8 3 .int := ⟨RX9, TX9, 11, tyX9, rfl, by decide, inX9, tw_160, tyX9_ok, nmX9, rfl, by decide +kernel⟩
theorem fl_X10_266 : FLk RX10 266 8 3 := ⟨RX9, TX9, 11, rfl, by decide, inX9, tw_161⟩
theorem fp_X10_266 : FPk RX10 266 8 3 .int := ⟨RX9, TX9, 11, tyX9, rfl, by decide, inX9, tw_161, tyX9_ok, nmX9, rfl, by decide +kernel⟩
theorem fl_X9_25 : FLk RX9 25 8 4 := ⟨RX9, TX9, 11, rfl, by decide, inX9, tw_162⟩
theorem fp_X9_25 : FPk RX9 25 8 4 .int := ⟨RX9, TX9, 11, tyX9, rfl, by decide, inX9, tw_162, tyX9_ok, nmX9, rfl, by decide +kernel⟩
theorem fl_X2_34 : FLk RX2 34 8 4 := ⟨RX9, TX9, 11, rfl, by decide, inX9, tw_163⟩
theorem fp_X2_34 : FPk RX2 34 8 4 .int := ⟨RX9, TX9, 11, tyX9, rfl, by decide, inX9, tw_163, tyX9_ok, nmX9, rfl, by decide +kernel⟩
theorem fl_X3_18 : FLk RX3 18 8 4 := ⟨RX9, TX9, 11, rfl, by decide, inX9, tw_164⟩
theorem fp_X3_18 : FPk RX3 18 8 4 .int := ⟨RX9, TX9, 11, tyX9, rfl, by decide, inX9, tw_164, tyX9_ok, nmX9, rfl, by decide +kernel⟩
theorem fl_X5_29 : FLk RX5 29 8 4 := ⟨RX9, TX9, 11, rfl, by decide, inX9, tw_165⟩
theorem fp_X5_29 : FPk RX5 29 8 4 .int := ⟨RX9, TX9, 11, tyX9, rfl, by decide, inX9, tw_165, tyX9_ok, nmX9, rfl, by decide +kernel⟩
theorem fl_X6_79 : FLk RX6 79 8 4 := ⟨RX9, TX9, 11, rfl, by decide, inX9, tw_166⟩
theorem fp_X6_79 : FPk RX6 79 8 4 .int := ⟨RX9, TX9, 11, tyX9, rfl, by decide, inX9, tw_166, tyX9_ok, nmX9, rfl, by decide +kernel⟩
theorem fl_X10_153 : FLk RX10 153 8 4 := ⟨RX9, TX9, 11, rfl, by decide, inX9, tw_167⟩
theorem fp_X10_153 : FPk RX10 153 8 4 .int := ⟨RX9, TX9, 11, tyX9, rfl, by decide, inX9, tw_167, tyX9_ok, nmX9, rfl, by decide +kernel⟩
theorem fl_X9_28 : FLk RX9 28 8 5 := ⟨RX9, TX9, 11, rfl, by decide, inX9, tw_168⟩
theorem fl_X6_72 : FLk RX6 72 8 5 := ⟨RX9, TX9, 11, rfl, by decide, inX9, tw_169⟩
theorem fl_X9_32 : FLk RX9 32 8 6 := ⟨RX9, TX9, 11, rfl, by decide, inX9, tw_170⟩
theorem fl_X6_76 : FLk RX6 76 8 6 := ⟨RX9, TX9, 11, rfl, by decide, inX9, tw_171⟩
theorem fl_X9_35 : FLk RX9 35 8 7 := ⟨RX9, TX9, 11, rfl, by decide, inX9, tw_172⟩
theorem fl_X1_17 : FLk RX1 17 8 7 := ⟨RX9, TX9, 11, rfl, by decide, inX9, tw_173⟩
theorem fl_X6_82 : FLk RX6 82 8 7 := ⟨RX9, TX9, 11, rfl, by decide, inX9, tw_174⟩
theorem fl_X10_197 : FLk RX10 197 8 7 := ⟨RX9, TX9, 11, rfl, by decide, inX9, tw_175⟩
theorem fl_X9_38 : FLk RX9 38 8 8 := ⟨RX9, TX9, 11, rfl, by decide, inX9, tw_176⟩
theorem fl_X1_42 : FLk RX1 42 8 8 := ⟨RX9, TX9, 11, rfl, by decide, inX9, tw_177⟩
theorem fl_X6_89 : FLk RX6 89 8 8 := ⟨RX9, TX9, 11, rfl, by decide, inX9, tw_178⟩
theorem fl_X10_214 : FLk RX10 214 8 8 := ⟨RX9, TX9, 11, rfl, by decide, inX9, tw_179⟩
theorem fl_X9_41 : FLk RX9 41 8 9 := ⟨RX9, TX9, 11, rfl, by decide, inX9, tw_180⟩
theorem fl_X1_39 : FLk RX1 39 8 9 := ⟨RX9, TX9, 11, rfl, by decide, inX9, tw_181⟩
theorem fl_X6_91 : FLk RX6 91 8 9 := ⟨RX9, TX9, 11, rfl, by decide, inX9, tw_182⟩
theorem fl_X10_217 : FLk RX10 217 8 9 := ⟨RX9, TX9, 11, rfl, by decide, inX9, tw_183⟩
theorem fl_X9_44 : FLk RX9 44 8 10 := ⟨RX9, TX9, 11, rfl, by decide, inX9, tw_184⟩
theorem fl_X0_22 : FLk RX0 22 8 10 := ⟨RX9, TX9, 11, rfl, by decide, inX9, tw_185⟩
theorem fl_X5_40 : FLk RX5 40 8 10 := ⟨RX9, TX9, 11, rfl, by decide, inX9, tw_186⟩
theorem fl_X10_162 : FLk RX10 162 8 10 := ⟨RX9, TX9, 11, rfl, by decide, inX9, tw_187⟩
theorem fl_X0_11 : FLk RX0 11 0 0 := ⟨RX0, TX0, 3, rfl, by decide, inX0, tw_218⟩
theorem fl_X0_15 : FLk RX0 15 0 1 := ⟨RX0, TX0, 3, rfl, by decide, inX0, tw_219⟩
theorem fp_X0_15 : FPk RX0 15 0 1 .int := ⟨RX0, TX0, 3, tyX0, rfl, by decide, inX0, tw_219, tyX0_ok, nmX0, rfl, by decide +kernel⟩
theorem fl_X0_19 : FLk RX0 19 0 2 := ⟨RX0, TX0, 3, rfl, by decide, inX0, tw_220⟩
theorem fp_X0_19 : FPk RX0 19 0 2 .int := ⟨RX0, TX0, 3, tyX0, rfl, by decide, inX0, tw_220, tyX0_ok, nmX0, rfl, by decide +kernel⟩
theorem fl_X10_208 : FLk RX10 208 0 2 := ⟨RX0, TX0, 3, rfl, by decide, inX0, tw_221⟩
theorem fp_X10_208 : FPk RX10 208 0 2 .int := ⟨RX0, TX0, 3, tyX0, rfl, by decide, inX0, tw_221, tyX0_ok, nmX0, rfl, by decide +kernel⟩
theorem fl_X2_9 : FLk RX2 9 2 0 := ⟨RX2, TX2, 7, rfl, by decide, inX2, tw_235⟩
theorem fl_X2_15 : FLk RX2 15 2 1 := ⟨RX2, TX2, 7, rfl, by decide, inX2, tw_236⟩
theorem fl_X2_18 : FLk RX2 18 2 2 := ⟨RX2, TX2, 7, rfl, by decide, inX2, tw_237⟩
theorem fl_X2_21 : FLk RX2 21 2 3 := ⟨RX2, TX2, 7, rfl, by decide, inX2, tw_238⟩
theorem fl_X2_24 : FLk RX2 24 2 4 := ⟨RX2, TX2, 7, rfl, by decide, inX2, tw_239⟩
theorem fp_X2_24 : FPk RX2 24 2 4 .int := ⟨RX2, TX2, 7, tyX2, rfl, by decide, inX2, tw_239, tyX2_ok, nmX2, rfl, by decide +kernel⟩
theorem fl_X2_28 : FLk RX2 28 2 5 := ⟨RX2, TX2, 7, rfl, by decide, inX2, tw_240⟩
theorem fl_X10_229 : FLk RX10 229 2 5 := ⟨RX2, TX2, 7, rfl, by decide, inX2, tw_241⟩
theorem fl_X2_31 : FLk RX2 31 2 6 := ⟨RX2, TX2, 7, rfl, by decide, inX2, tw_242⟩
theorem fp_X2_31 : FPk RX2 31 2 6 .int := ⟨RX2, TX2, 7, tyX2, rfl, by decide, inX2, tw_242, tyX2_ok, nmX2, rfl, by decide +kernel⟩
theorem fl_X10_226 : FLk RX10 226 2 6 := ⟨RX2, TX2, 7, rfl, by decide, inX2, tw_243⟩
theorem fp_X10_226 : FPk RX10 226 2 6 .int := ⟨RX2, TX2, 7, tyX2, rfl, by decide, inX2, tw_243, tyX2_ok, nmX2, rfl, by decide +kernel⟩
theorem fl_X3_9 : FLk RX3 9 3 0 := ⟨RX3, TX3, 2, rfl, by decide, inX3, tw_265⟩
theorem fl_X3_15 : FLk RX3 15 3 1 := ⟨RX3, TX3, 2, rfl, by decide, inX3, tw_266⟩
theorem fl_X5_9 : FLk RX5 9 4 0 := ⟨RX5, TX5, 4, rfl, by decide, inX5, tw_278⟩
theorem fl_X5_15 : FLk RX5 15 4 1 := ⟨RX5, TX5, 4, rfl, by decide, inX5, tw_279⟩
theorem fp_X5_15 : FPk RX5 15 4 1 .int := ⟨RX5, TX5, 4, tyX5, rfl, by decide, inX5, tw_279, tyX5_ok, nmX5, rfl, by decide +kernel⟩
theorem fl_X5_19 : FLk RX5 19 4 2 := ⟨RX5, TX5, 4, rfl, by decide, inX5, tw_280⟩
theorem fp_X5_19 : FPk RX5 19 4 2 .int := ⟨RX5, TX5, 4, tyX5, rfl, by decide, inX5, tw_280, tyX5_ok, nmX5, rfl, by decide +kernel⟩
theorem fl_X10_242 : FLk RX10 242 4 2 := ⟨RX5, TX5, 4, rfl, by decide, inX5, tw_281⟩
theorem fp_X10_242 : FPk RX10 242 4 2 .int := ⟨RX5, TX5, 4, tyX5, rfl, by decide, inX5, tw_281, tyX5_ok, nmX5, rfl, by decide +kernel⟩
theorem fl_X5_22 : FLk RX5 22 4 3 := ⟨RX5, TX5, 4, rfl, by decide, inX5, tw_282⟩
theorem fp_X5_22 : FPk RX5 22 4 3 .int := ⟨RX5, TX5, 4, tyX5, rfl, by decide, inX5, tw_282, tyX5_ok, nmX5, rfl, by decide +kernel⟩
theorem fl_X10_245 : FLk RX10 245 4 3 := ⟨RX5, TX5, 4, rfl, by decide, inX5, tw_283⟩
theorem fp_X10_245 : FPk RX10 245 4 3 .int := ⟨RX5, TX5, 4, tyX5, rfl, by decide, inX5, tw_283, tyX5_ok, nmX5, rfl, by decide +kernel⟩
theorem fl_X1_9 : FLk RX1 9 1 0 := ⟨RX1, TX1, 2, rfl, by decide, inX1, tw_299⟩
theorem fl_X10_280 : FLk RX10 280 1 0 := ⟨RX1, TX1, 2, rfl, by decide, inX1, tw_300⟩
theorem fl_X1_13 : FLk RX1 13 1 1 := ⟨RX1, TX1, 2, rfl, by decide, inX1, tw_301⟩
theorem fp_X1_13 : FPk RX1 13 1 1 .int := ⟨RX1, TX1, 2, tyX1, rfl, by decide, inX1, tw_301, tyX1_ok, nmX1, rfl, by decide +kernel⟩
theorem fl_X10_277 : FLk RX10 277 1 1 := ⟨RX1, TX1, 2, rfl, by decide, inX1, tw_302⟩
theorem fp_X10_277 : FPk RX10 277 1 1 .int := ⟨RX1, TX1, 2, tyX1, rfl, by decide, inX1, tw_302, tyX1_ok, nmX1, rfl, by decide +kernel⟩
theorem fl_X10_10 : FLk RX10 10 9 0 := ⟨RX10, TX10, 12, rfl, by decide, inX10, tw_308⟩
theorem fl_X10_19 : FLk RX10 19 9 1 := ⟨RX10, TX10, 12, rfl, by decide, inX10, tw_309⟩
theorem fl_X10_26 : FLk RX10 26 9 2 := ⟨RX10, TX10, 12, rfl, by decide, inX10, tw_310⟩
theorem fl_X10_30 : FLk RX10 30 9 3 := ⟨RX10, TX10, 12, rfl, by decide, inX10, tw_311⟩
theorem fl_X10_33 : FLk RX10 33 9 4 := ⟨RX10, TX10, 12, rfl, by decide, inX10, tw_312⟩
theorem fl_X10_40 : FLk RX10 40 9 5 := ⟨RX10, TX10, 12, rfl, by decide, inX10, tw_313⟩
theorem fl_X10_47 : FLk RX10 47 9 6 := ⟨RX10, TX10, 12, rfl, by decide, inX10, tw_314⟩
theorem fl_X10_54 : FLk RX10 54 9 7 := ⟨RX10, TX10, 12, rfl, by decide, inX10, tw_315⟩
theorem fl_X10_61 : FLk RX10 61 9 8 := ⟨RX10, TX10, 12, rfl, by decide, inX10, tw_316⟩
theorem fl_X10_68 : FLk RX10 68 9 9 := ⟨RX10, TX10, 12, rfl, by decide, inX10, tw_317⟩
theorem fl_X10_72 : FLk RX10 72 9 10 := ⟨RX10, TX10, 12, rfl, by decide, inX10, tw_318⟩
theorem fp_X10_72 : FPk RX10 72 9 10 .int := ⟨RX10, TX10, 12, tyX10, rfl, by decide, inX10, tw_318, tyX10_ok, nmX10, rfl, by decide +kernel⟩
theorem fl_X10_76 : FLk RX10 76 9 11 := ⟨RX10, TX10, 12, rfl, by decide, inX10, tw_319⟩
theorem fp_X10_76 : FPk RX10 76 9 11 .int := ⟨RX10, TX10, 12, tyX10, rfl, by decide, inX10, tw_319, tyX10_ok, nmX10, rfl, by decide +kernel⟩
theorem fl_X11_50 : FLk RX11 50 10 0 := ⟨RX11, TX11, 29, rfl, by decide, inX11, tw_855⟩
theorem fp_X11_50 : FPk RX11 50 10 0 .int := ⟨RX11, TX11, 29, tyX11, rfl, by decide, inX11, tw_855, tyX11_ok, nmX11, rfl, by decide +kernel⟩
theorem fl_X11_54 : FLk RX11 54 10 1 := ⟨RX11, TX11, 29, rfl, by decide, inX11, tw_856⟩
theorem fp_X11_54 : FPk RX11 54 10 1 .int := ⟨RX11, TX11, 29, tyX11, rfl, by decide, inX11, tw_856, tyX11_ok, nmX11, rfl, by decide +kernel⟩
theorem fl_X11_7 : FLk RX11 7 10 2 := ⟨RX11, TX11, 29, rfl, by decide, inX11, tw_857⟩
theorem fl_X11_13 : FLk RX11 13 10 3 := ⟨RX11, TX11, 29, rfl, by decide, inX11, tw_858⟩
theorem fl_X11_16 : FLk RX11 16 10 4 := ⟨RX11, TX11, 29, rfl, by decide, inX11, tw_859⟩
theorem fl_X11_19 : FLk RX11 19 10 5 := ⟨RX11, TX11, 29, rfl, by decide, inX11, tw_860⟩
theorem fl_X11_22 : FLk RX11 22 10 6 := ⟨RX11, TX11, 29, rfl, by decide, inX11, tw_861⟩
theorem fl_X11_177 : FLk RX11 177 10 7 := ⟨RX11, TX11, 29, rfl, by decide, inX11, tw_862⟩
theorem fp_X11_177 : FPk RX11 177 10 7 .boolean := ⟨RX11, TX11, 29, tyX11, rfl, by decide, inX11, tw_862, tyX11_ok, nmX11, rfl, by decide +kernel⟩
theorem fl_X11_25 : FLk RX11 25 10 8 := ⟨RX11, TX11, 29, rfl, by decide, inX11, tw_863⟩
theorem fl_X11_181 : FLk RX11 181 10 9 := ⟨RX11, TX11, 29, rfl, by decide, inX11, tw_864⟩
theorem fp_X11_181 : FPk RX11 181 10 9 .int := ⟨RX11, TX11, 29, tyX11, rfl, by decide, inX11, tw_864, tyX11_ok, nmX11, rfl, by decide +kernel⟩
theorem fl_X11_28 : FLk RX11 28 10 10 := ⟨RX11, TX11, 29, rfl, by decide, inX11, tw_865⟩
theorem fl_X11_77 : FLk RX11 77 10 11 := ⟨RX11, TX11, 29, rfl, by decide, inX11, tw_866⟩
theorem fp_X11_77 : FPk RX11 77 10 11 .int := ⟨RX11, TX11, 29, tyX11, rfl, by decide, inX11, tw_866, tyX11_ok, nmX11, rfl, by decide +kernel⟩
theorem fl_X11_173 : FLk RX11 173 10 12 := ⟨RX11, TX11, 29, rfl, by decide, inX11, tw_867⟩
theorem fp_X11_173 : FPk RX11 173 10 12 .int := ⟨RX11, TX11, 29, tyX11, rfl, by decide, inX11, tw_867, tyX11_ok, nmX11, rfl, by decide +kernel⟩
theorem fl_X11_83 : FLk RX11 83 10 13 := ⟨RX11, TX11, 29, rfl, by decide, inX11, tw_868⟩
theorem fp_X11_83 : FPk RX11 83 10 13 .int := ⟨RX11, TX11, 29, tyX11, rfl, by decide, inX11, tw_868, tyX11_ok, nmX11, rfl, by decide +kernel⟩
theorem fl_X11_87 : FLk RX11 87 10 14 := ⟨RX11, TX11, 29, rfl, by decide, inX11, tw_869⟩
theorem fp_X11_87 : FPk RX11 87 10 14 .int := ⟨RX11, TX11, 29, tyX11, rfl, by decide, inX11, tw_869, tyX11_ok, nmX11, rfl, by decide +kernel⟩
theorem fl_X11_96 : FLk RX11 96 10 15 := ⟨RX11, TX11, 29, rfl, by decide, inX11, tw_870⟩
theorem fp_X11_96 : FPk RX11 96 10 15 .int := ⟨RX11, TX11, 29, tyX11, rfl, by decide, inX11, tw_870, tyX11_ok, nmX11, rfl, by decide +kernel⟩
theorem fl_X11_93 : FLk RX11 93 10 16 := ⟨RX11, TX11, 29, rfl, by decide, inX11, tw_871⟩
theorem fp_X11_93 : FPk RX11 93 10 16 .int := ⟨RX11, TX11, 29, tyX11, rfl, by decide, inX11, tw_871, tyX11_ok, nmX11, rfl, by decide +kernel⟩
theorem fl_X11_105 : FLk RX11 105 10 17 := ⟨RX11, TX11, 29, rfl, by decide, inX11, tw_872⟩
theorem fp_X11_105 : FPk RX11 105 10 17 .int := ⟨RX11, TX11, 29, tyX11, rfl, by decide, inX11, tw_872, tyX11_ok, nmX11, rfl, by decide +kernel⟩
theorem fl_X11_108 : FLk RX11 108 10 18 := ⟨RX11, TX11, 29, rfl, by decide, inX11, tw_873⟩
theorem fp_X11_108 : FPk RX11 108 10 18 .int := ⟨RX11, TX11, 29, tyX11, rfl, by decide, inX11, tw_873, tyX11_ok, nmX11, rfl, by decide +kernel⟩
theorem fl_X11_114 : FLk RX11 114 10 19 := ⟨RX11, TX11, 29, rfl, by decide, inX11, tw_874⟩
theorem fp_X11_114 : FPk RX11 114 10 19 .int := ⟨RX11, TX11, 29, tyX11, rfl, by decide, inX11, tw_874, tyX11_ok, nmX11, rfl, by decide +kernel⟩
theorem fl_X11_31 : FLk RX11 31 10 20 := ⟨RX11, TX11, 29, rfl, by decide, inX11, tw_875⟩
theorem fl_X11_219 : FLk RX11 219 10 21 := ⟨RX11, TX11, 29, rfl, by decide, inX11, tw_876⟩
theorem fp_X11_219 : FPk RX11 219 10 21 .long := ⟨RX11, TX11, 29, tyX11, rfl, by decide, inX11, tw_876, tyX11_ok, nmX11, rfl, by decide +kernel⟩
theorem fl_X11_252 : FLk RX11 252 10 22 := ⟨RX11, TX11, 29, rfl, by decide, inX11, tw_877⟩
theorem fp_X11_252 : FPk RX11 252 10 22 .int := ⟨RX11, TX11, 29, tyX11, rfl, by decide, inX11, tw_877, tyX11_ok, nmX11, rfl, by decide +kernel⟩
theorem fl_X11_34 : FLk RX11 34 10 23 := ⟨RX11, TX11, 29, rfl, by decide, inX11, tw_878⟩
theorem fl_X11_37 : FLk RX11 37 10 24 := ⟨RX11, TX11, 29, rfl, by decide, inX11, tw_879⟩
theorem fl_X11_40 : FLk RX11 40 10 25 := ⟨RX11, TX11, 29, rfl, by decide, inX11, tw_880⟩
theorem fl_X11_44 : FLk RX11 44 10 26 := ⟨RX11, TX11, 29, rfl, by decide, inX11, tw_881⟩
theorem fl_X11_47 : FLk RX11 47 10 27 := ⟨RX11, TX11, 29, rfl, by decide, inX11, tw_882⟩
theorem fl_X11_281 : FLk RX11 281 10 28 := ⟨RX11, TX11, 29, rfl, by decide, inX11, tw_883⟩
theorem fp_X11_281 : FPk RX11 281 10 28 .int := ⟨RX11, TX11, 29, tyX11, rfl, by decide, inX11, tw_883, tyX11_ok, nmX11, rfl, by decide +kernel⟩
