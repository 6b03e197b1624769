/-- the ints of the world by cell and place; the one long -/
abbrev Sg : Type := (Nat → Nat → Int32) × Int64
/-- where the world lies: classes and slots, array classes, addresses of cells, which cells are there, static rows, texts -/
abbrev En : Type := va_G × (Nat → ClassId) × (Nat → Nat) × List Nat × (Nat → Nat) × (Nat → Nat) × (Nat → Nat)
abbrev eD (E : En) : va_G := E.1
abbrev eY (E : En) : Nat → ClassId := E.2.1
abbrev eA (E : En) : Nat → Nat := E.2.2.1
abbrev eL (E : En) : List Nat := E.2.2.2.1
abbrev eT (E : En) : Nat → Nat := E.2.2.2.2.1
abbrev eK (E : En) : Nat → Nat := E.2.2.2.2.2.1
abbrev eV (E : En) : Nat → Nat := E.2.2.2.2.2.2
def scel (σ : Sg) (c : Nat) (f : Nat → Int32) : Sg := (fun k => if k = c then f else σ.1 k, σ.2)
def sup (σ : Sg) (c j : Nat) (v : Int32) : Sg := scel σ c (upd (σ.1 c) j v)
def slg (σ : Sg) (v : Int64) : Sg := (σ.1, v)
/-- whether image j is kept -/
def kept (E : En) (j : Nat) : Bool := decide (52 + 7 * j ∈ eL E)
/-- an item of a row, a field -/
def ga (σ : Sg) (c : Nat) (i : Int32) : Int32 := σ.1 c i.toNatClampNeg
def gf (σ : Sg) (c j : Nat) : Int32 := σ.1 c j
def sa (σ : Sg) (c : Nat) (i v : Int32) : Sg := sup σ c i.toNatClampNeg v
def irm (x y : Int32) : Int32 := x - x / y * y
def lrm (x y : Int64) : Int64 := x - x / y * y
def jmax (x y : Int32) : Int32 := if x < y then y else x
def jmin (x y : Int32) : Int32 := if y < x then y else x
def jshl (x y : Int32) : Int32 := x <<< (y &&& 31)
def jshr (x y : Int32) : Int32 := x >>> (y &&& 31)
def jushr (x y : Int32) : Int32 := (x.toUInt32 >>> (y.toUInt32 &&& Int32.toUInt32 31)).toInt32
def jlshl (x : Int64) (y : Int32) : Int64 := x <<< (y.toInt64 &&& 63)
def jlshr (x : Int64) (y : Int32) : Int64 := x >>> (y.toInt64 &&& 63)
def i2b (x : Int32) : Int32 := x.toInt8.toInt32
def i2s (x : Int32) : Int32 := x.toInt16.toInt32
def i2c (x : Int32) : Int32 := (x.toUInt32 % 65536).toInt32
def inb (i : Int32) (n : Nat) : Bool := decide (¬ (i < 0 ∨ n ≤ i.toNatClampNeg))
def isz (x : Int32) : Bool := decide (x = 0 ∨ x = 1)
def gd {α : Type} (b : Bool) (x : Option α) : Option α := if b = true then x else none
theorem gd_some {α : Type} {b : Bool} {x : Option α} {o : α} (h : gd b x = some o) : b = true ∧ x = some o := by
  cases b with
  | true => exact ⟨rfl, h⟩
  | false => cases h
theorem bd_some {α β : Type} {x : Option α} {f : α → Option β} {o : β} (h : x.bind f = some o) : ∃ a, x = some a ∧ f a = some o := by
  cases x with
  | none => cases h
  | some a => exact ⟨a, rfl, h⟩
theorem inb_vp {i : Int32} {n : Nat} (h : inb i n = true) : vp_in i n := show ¬ (i < 0 ∨ n ≤ i.toNatClampNeg) from of_decide_eq_true h
/-- a loop: a body that goes round (inl) or leaves (inr) -/
def lpO {S O : Type} (f : S → Option (S ⊕ O)) : Nat → S → Option O
  | 0, _ => none
  | n + 1, s => (f s).bind (fun r => match r with
    | .inl s1 => lpO f n s1
    | .inr o => some o)
def sel {S O : Type} (P : S → Prop) (K : O → Prop) (r : S ⊕ O) : Prop := match r with
  | .inl s => P s
  | .inr o => K o
theorem lp_rule {S O : Type} {f : S → Option (S ⊕ O)} {P : S → Prop} {K : O → Prop} (h : ∀ s r, f s = some r → sel P K r → P s) : ∀ (n : Nat) (s : S) (o : O), lpO f n s = some o → K o → P s
  | 0, _, _, hf, _ => by cases hf
  | n + 1, s, o, hf, hk => by
    obtain ⟨r, h1, h2⟩ := bd_some hf
    cases r with
    | inl s1 => exact h s _ h1 (lp_rule h n s1 o h2 hk)
    | inr o1 => cases h2; exact h s _ h1 hk
def ltab : List (Nat × Nat × List Nat) := [(0, 9, [3, 7, 10, 17, 24, 25, 27, 33, 36, 38, 0, 0]), (0, 6, [4, 5, 6]), (1, 8, []), (1, 8, []), (1, 320, []), (0, 5, [8, 0]), (0, 7, [9, 0, 0, 0, 0, 0]), (2, 400, []), (0, 8, [0, 0, 0, 0, 0, 11, 12, 13, 14, 15, 16]), (1, 5, []), (1, 5, []), (1, 9, []), (1, 9, []), (1, 9, []), (1, 36, []), (0, 8, [0, 0, 0, 0, 0, 18, 19, 20, 21, 22, 23]), (1, 5, []), (1, 5, []), (1, 9, []), (1, 9, []), (1, 9, []), (1, 36, []), (4, 2, []), (0, 0, [26, 0, 0]), (1, 864, []), (0, 2, [28, 29, 30, 31, 0, 32, 0]), (1, 9, []), (1, 10, []), (1, 3, []), (1, 9, []), (1, 9, []), (0, 3, [34, 35]), (1, 9, []), (1, 512, []), (0, 4, [37, 0, 0, 0]), (1, 3, []), (0, 1, [39, 0]), (1, 16, []), (0, 10, [0, 0, 41, 42, 43, 44, 45, 0, 46, 0, 47, 0, 0, 0, 0, 0, 0, 0, 0, 0, 48, 1, 0, 49, 50, 51, 52, 53, 0]), (1, 8, []), (1, 8, []), (1, 320, []), (1, 77, []), (1, 77, []), (1, 1848, []), (1, 400, []), (1, 3, []), (1, 512, []), (1, 512, []), (3, 2, []), (1, 154, []), (1, 16, []), (0, 8, [0, 0, 0, 0, 0, 55, 56, 57, 58, 59, 60]), (1, 5, []), (1, 5, []), (1, 9, []), (1, 9, []), (1, 9, []), (1, 36, []), (0, 8, [0, 0, 0, 0, 0, 62, 63, 64, 65, 66, 67]), (1, 5, []), (1, 5, []), (1, 9, []), (1, 9, []), (1, 9, []), (1, 36, [])]
def lkt (c : Nat) : Nat × Nat × List Nat := ltab.getD c (9, 0, [])
theorem lk_0 : lkt 0 = (0, 9, [3, 7, 10, 17, 24, 25, 27, 33, 36, 38, 0, 0]) := rfl
theorem lk_1 : lkt 1 = (0, 6, [4, 5, 6]) := rfl
theorem lk_2 : lkt 2 = (1, 8, []) := rfl
theorem lk_3 : lkt 3 = (1, 8, []) := rfl
theorem lk_4 : lkt 4 = (1, 320, []) := rfl
theorem lk_5 : lkt 5 = (0, 5, [8, 0]) := rfl
theorem lk_6 : lkt 6 = (0, 7, [9, 0, 0, 0, 0, 0]) := rfl
theorem lk_7 : lkt 7 = (2, 400, []) := rfl
theorem lk_8 : lkt 8 = (0, 8, [0, 0, 0, 0, 0, 11, 12, 13, 14, 15, 16]) := rfl
theorem lk_9 : lkt 9 = (1, 5, []) := rfl
theorem lk_10 : lkt 10 = (1, 5, []) := rfl
theorem lk_11 : lkt 11 = (1, 9, []) := rfl
theorem lk_12 : lkt 12 = (1, 9, []) := rfl
theorem lk_13 : lkt 13 = (1, 9, []) := rfl
theorem lk_14 : lkt 14 = (1, 36, []) := rfl
theorem lk_15 : lkt 15 = (0, 8, [0, 0, 0, 0, 0, 18, 19, 20, 21, 22, 23]) := rfl
theorem lk_16 : lkt 16 = (1, 5, []) := rfl
theorem lk_17 : lkt 17 = (1, 5, []) := rfl
theorem lk_18 : lkt 18 = (1, 9, []) := rfl
theorem lk_19 : lkt 19 = (1, 9, []) := rfl
theorem lk_20 : lkt 20 = (1, 9, []) := rfl
theorem lk_21 : lkt 21 = (1, 36, []) := rfl
theorem lk_22 : lkt 22 = (4, 2, []) := rfl
theorem lk_23 : lkt 23 = (0, 0, [26, 0, 0]) := rfl
theorem lk_24 : lkt 24 = (1, 864, []) := rfl
theorem lk_25 : lkt 25 = (0, 2, [28, 29, 30, 31, 0, 32, 0]) := rfl
theorem lk_26 : lkt 26 = (1, 9, []) := rfl
theorem lk_27 : lkt 27 = (1, 10, []) := rfl
theorem lk_28 : lkt 28 = (1, 3, []) := rfl
theorem lk_29 : lkt 29 = (1, 9, []) := rfl
theorem lk_30 : lkt 30 = (1, 9, []) := rfl
theorem lk_31 : lkt 31 = (0, 3, [34, 35]) := rfl
theorem lk_32 : lkt 32 = (1, 9, []) := rfl
theorem lk_33 : lkt 33 = (1, 512, []) := rfl
theorem lk_34 : lkt 34 = (0, 4, [37, 0, 0, 0]) := rfl
theorem lk_35 : lkt 35 = (1, 3, []) := rfl
theorem lk_36 : lkt 36 = (0, 1, [39, 0]) := rfl
theorem lk_37 : lkt 37 = (1, 16, []) := rfl
theorem lk_38 : lkt 38 = (0, 10, [0, 0, 41, 42, 43, 44, 45, 0, 46, 0, 47, 0, 0, 0, 0, 0, 0, 0, 0, 0, 48, 1, 0, 49, 50, 51, 52, 53, 0]) := rfl
theorem lk_39 : lkt 39 = (1, 8, []) := rfl
theorem lk_40 : lkt 40 = (1, 8, []) := rfl
theorem lk_41 : lkt 41 = (1, 320, []) := rfl
theorem lk_42 : lkt 42 = (1, 77, []) := rfl
theorem lk_43 : lkt 43 = (1, 77, []) := rfl
theorem lk_44 : lkt 44 = (1, 1848, []) := rfl
theorem lk_45 : lkt 45 = (1, 400, []) := rfl
theorem lk_46 : lkt 46 = (1, 3, []) := rfl
theorem lk_47 : lkt 47 = (1, 512, []) := rfl
theorem lk_48 : lkt 48 = (1, 512, []) := rfl
theorem lk_49 : lkt 49 = (3, 2, []) := rfl
theorem lk_50 : lkt 50 = (1, 154, []) := rfl
theorem lk_51 : lkt 51 = (1, 16, []) := rfl
theorem lk_52 : lkt 52 = (0, 8, [0, 0, 0, 0, 0, 55, 56, 57, 58, 59, 60]) := rfl
theorem lk_53 : lkt 53 = (1, 5, []) := rfl
theorem lk_54 : lkt 54 = (1, 5, []) := rfl
theorem lk_55 : lkt 55 = (1, 9, []) := rfl
theorem lk_56 : lkt 56 = (1, 9, []) := rfl
theorem lk_57 : lkt 57 = (1, 9, []) := rfl
theorem lk_58 : lkt 58 = (1, 36, []) := rfl
theorem lk_59 : lkt 59 = (0, 8, [0, 0, 0, 0, 0, 62, 63, 64, 65, 66, 67]) := rfl
theorem lk_60 : lkt 60 = (1, 5, []) := rfl
theorem lk_61 : lkt 61 = (1, 5, []) := rfl
theorem lk_62 : lkt 62 = (1, 9, []) := rfl
theorem lk_63 : lkt 63 = (1, 9, []) := rfl
theorem lk_64 : lkt 64 = (1, 9, []) := rfl
theorem lk_65 : lkt 65 = (1, 36, []) := rfl
def fvl (E : En) (σ : Sg) (c j : Nat) (k : Nat) : Value := match k with
  | 0 => .int (σ.1 c j)
  | 1 => .long σ.2
  | q + 2 => .ref (eA E q)
def fvs (E : En) (σ : Sg) (c : Nat) : Nat → List Nat → List Value
  | _, [] => []
  | j, k :: r => fvl E σ c j k :: fvs E σ c (j + 1) r
def lay (E : En) (σ : Sg) (c : Nat) : va_E := match lkt c with
  | (0, ci, fl) => .inr (ci, fvs E σ c 0 fl)
  | (1, n, _) => .inl (eY E 0, n, .inl (σ.1 c))
  | (2, n, _) => .inl (eY E 1, n, .inl (σ.1 c))
  | (3, n, _) => .inl (eY E 2, n, .inl (σ.1 c))
  | (_, n, _) => .inl (eY E 3, n, .inr (.inr (.inr (.inr (fun j => if kept E j = true then some (eA E (52 + 7 * j)) else none)))))
def wl (E : En) (σ : Sg) : va_W := (eL E).map (fun c => (eA E c, lay E σ c))
theorem lay_obj {E : En} {σ : Sg} {c ci : Nat} {fl : List Nat} (h : lkt c = (0, ci, fl)) : lay E σ c = .inr (ci, fvs E σ c 0 fl) := by unfold lay; rw [h]; rfl
theorem lay_int {E : En} {σ : Sg} {c n : Nat} {fl : List Nat} (h : lkt c = (1, n, fl)) : lay E σ c = .inl (eY E 0, n, .inl (σ.1 c)) := by unfold lay; rw [h]; rfl
theorem lay_byte {E : En} {σ : Sg} {c n : Nat} {fl : List Nat} (h : lkt c = (2, n, fl)) : lay E σ c = .inl (eY E 1, n, .inl (σ.1 c)) := by unfold lay; rw [h]; rfl
theorem lay_bool {E : En} {σ : Sg} {c n : Nat} {fl : List Nat} (h : lkt c = (3, n, fl)) : lay E σ c = .inl (eY E 2, n, .inl (σ.1 c)) := by unfold lay; rw [h]; rfl
theorem fvs_get {E : En} {σ : Sg} {c : Nat} : ∀ (fl : List Nat) (j i k : Nat), fl[i]? = some k → (fvs E σ c j fl)[i]? = some (fvl E σ c (j + i) k)
  | [], j, i, k, h => by simp at h
  | q :: r, j, 0, k, h => by
    simp only [List.getElem?_cons_zero, Option.some.injEq] at h
    subst h
    rfl
  | q :: r, j, i + 1, k, h => by
    rw [List.getElem?_cons_succ] at h
    have := fvs_get (E := E) (σ := σ) (c := c) r (j + 1) i k h
    show (fvs E σ c (j + 1) r)[i]? = _
    rw [this]
    congr 2
    omega
theorem fvs_congr {E : En} {σ τ : Sg} {c : Nat} : ∀ (fl : List Nat) (j : Nat), (∀ i, i < fl.length → σ.1 c (j + i) = τ.1 c (j + i)) → (σ.2 = τ.2 ∨ 1 ∉ fl) → fvs E σ c j fl = fvs E τ c j fl
  | [], _, _, _ => rfl
  | k :: r, j, h, hl => by
    have h0 : σ.1 c j = τ.1 c j := h 0 (by simp)
    have hr := fvs_congr (E := E) (σ := σ) (τ := τ) (c := c) r (j + 1) (fun i hi => by have := h (i + 1) (by simp; omega); rw [show j + 1 + i = j + (i + 1) by omega]; exact this) (hl.imp id (fun z q => z (List.mem_cons_of_mem _ q)))
    show fvl E σ c j k :: _ = fvl E τ c j k :: _
    rw [hr]
    congr 1
    match k with
    | 0 => show Value.int _ = Value.int _; rw [h0]
    | 1 =>
      show Value.long _ = Value.long _
      rcases hl with hl | hl
      · rw [hl]
      · exact absurd List.mem_cons_self hl
    | q + 2 => rfl
theorem fvs_len {E : En} {σ : Sg} {c : Nat} : ∀ (fl : List Nat) (j : Nat), (fvs E σ c j fl).length = fl.length
  | [], _ => rfl
  | _ :: r, j => by show (fvs E σ c (j + 1) r).length + 1 = r.length + 1; rw [fvs_len r (j + 1)]
theorem lay_congr {E : En} {σ τ : Sg} {c : Nat} (h1 : σ.1 c = τ.1 c) (h2 : σ.2 = τ.2 ∨ 1 ∉ (lkt c).2.2) : lay E σ c = lay E τ c := by
  unfold lay
  split
  · rename_i ci fl h
    rw [fvs_congr (τ := τ) fl 0 (fun i _ => by rw [h1]) (by rw [h] at h2; exact h2)]
  · rw [h1]
  · rw [h1]
  · rw [h1]
  · rfl
theorem wl_at {E : En} {σ : Sg} {c : Nat} (h : c ∈ eL E) : ∃ i : Nat, (eL E)[i]? = some c ∧ (wl E σ)[i]? = some (eA E c, lay E σ c) := by
  obtain ⟨i, hi⟩ := List.getElem?_of_mem h
  exact ⟨i, hi, by unfold wl; rw [List.getElem?_map, hi]; rfl⟩
theorem wl_inv {E : En} {σ : Sg} {i : Nat} {q : Nat × va_E} (h : (wl E σ)[i]? = some q) : ∃ c, (eL E)[i]? = some c ∧ q = (eA E c, lay E σ c) := by
  unfold wl at h
  rw [List.getElem?_map] at h
  cases hc : (eL E)[i]? with
  | none => rw [hc] at h; cases h
  | some c => rw [hc] at h; cases h; exact ⟨c, rfl, rfl⟩
theorem wl_D {E : En} {σ τ : Sg} {A : Nat → Prop} (h : va_D A (wl E σ)) : va_D A (wl E τ) := by
  have key : ∀ (i : Nat) (q : Nat × va_E), (wl E τ)[i]? = some q → ∃ q0, (wl E σ)[i]? = some q0 ∧ q0.1 = q.1 := by
    intro i q hq
    obtain ⟨c, hc, rfl⟩ := wl_inv hq
    exact ⟨(eA E c, lay E σ c), by unfold wl; rw [List.getElem?_map, hc]; rfl, rfl⟩
  refine ⟨fun i j x y hi hj hxy => ?_, fun k q hk => ?_⟩
  · obtain ⟨x0, h1, h2⟩ := key i x hi
    obtain ⟨y0, h3, h4⟩ := key j y hj
    exact h.1 i j x0 y0 h1 h3 (h2.trans (hxy.trans h4.symm))
  · obtain ⟨q0, h1, h2⟩ := key k q hk
    rw [← h2]
    exact h.2 k q0 h1
theorem wl_set {E : En} {σ τ : Sg} {A : Nat → Prop} {c i : Nat} {e : va_E} (hD : va_D A (wl E σ)) (hi : (eL E)[i]? = some c) (he : e = lay E τ c) (ho : ∀ k, k ∈ eL E → k ≠ c → lay E τ k = lay E σ k) : (wl E σ).set i (eA E c, e) = wl E τ := by
  subst he
  apply List.ext_getElem?
  intro k
  by_cases hk : k = i
  · subst hk
    have hl : k < (wl E σ).length := by unfold wl; rw [List.length_map]; exact (List.getElem?_eq_some_iff.mp hi).1
    rw [List.getElem?_set_self hl]
    unfold wl
    rw [List.getElem?_map, hi]
    rfl
  · rw [List.getElem?_set_ne (Ne.symm hk)]
    unfold wl
    rw [List.getElem?_map, List.getElem?_map]
    cases hc : (eL E)[k]? with
    | none => rfl
    | some d =>
      have hne : d ≠ c := by
        intro z
        subst z
        exact hk (hD.1 k i (eA E d, lay E σ d) (eA E d, lay E σ d) (by unfold wl; rw [List.getElem?_map, hc]; rfl) (by unfold wl; rw [List.getElem?_map, hi]; rfl) rfl)
      show some (eA E d, lay E σ d) = some (eA E d, lay E τ d)
      rw [ho d (List.mem_of_getElem? hc) hne]
theorem scel_same {σ : Sg} {c : Nat} {f : Nat → Int32} : (scel σ c f).1 c = f := if_pos rfl
theorem scel_ne {σ : Sg} {c k : Nat} {f : Nat → Int32} (h : k ≠ c) : (scel σ c f).1 k = σ.1 k := if_neg h
theorem lay_scel {E : En} {σ : Sg} {c : Nat} {f : Nat → Int32} : ∀ k, k ∈ eL E → k ≠ c → lay E (scel σ c f) k = lay E σ k := fun _ _ h => lay_congr (scel_ne h) (Or.inl rfl)
theorem fvs_put {E : En} {σ : Sg} {c : Nat} {v : Int32} : ∀ (fl : List Nat) (j i : Nat), fl[i]? = some 0 → (fvs E σ c j fl).set i (.int v) = fvs E (sup σ c (j + i) v) c j fl
  | [], j, i, h => by simp at h
  | q :: r, j, 0, h => by
    simp only [List.getElem?_cons_zero, Option.some.injEq] at h
    subst h
    show Value.int v :: fvs E σ c (j + 1) r = Value.int ((sup σ c j v).1 c j) :: fvs E (sup σ c j v) c (j + 1) r
    rw [show (sup σ c j v).1 c j = v by unfold sup; rw [scel_same]; simp [upd]]
    have hc : fvs E σ c (j + 1) r = fvs E (sup σ c j v) c (j + 1) r := fvs_congr r (j + 1) (fun i _ => by unfold sup; rw [scel_same]; simp only [upd]; rw [if_neg (by omega)]) (Or.inl rfl)
    rw [hc]
  | q :: r, j, i + 1, h => by
    rw [List.getElem?_cons_succ] at h
    have hr := fvs_put (E := E) (σ := σ) (c := c) (v := v) r (j + 1) i h
    show fvl E σ c j q :: (fvs E σ c (j + 1) r).set i (.int v) = fvl E (sup σ c (j + (i + 1)) v) c j q :: fvs E (sup σ c (j + (i + 1)) v) c (j + 1) r
    rw [hr, show j + 1 + i = j + (i + 1) by omega]
    congr 1
    match q with
    | 0 =>
      show Value.int _ = Value.int _
      unfold sup
      rw [scel_same]
      simp only [upd]
      rw [if_neg (by omega)]
    | 1 => rfl
    | q + 2 => rfl
theorem lkt_long : ∀ c, c ≠ 38 → 1 ∉ (lkt c).2.2 := by
  intro c hc
  by_cases h : c < 66
  · have key : ∀ c, c < 66 → c ≠ 38 → 1 ∉ (lkt c).2.2 := by decide +kernel
    exact key c h hc
  · have : lkt c = (9, 0, []) := by
      unfold lkt
      rw [List.getD_eq_getElem?_getD, List.getElem?_eq_none (by show ltab.length ≤ c; have : ltab.length = 66 := rfl; omega)]
      rfl
    rw [this]
    simp
theorem fvs_putL {E : En} {σ : Sg} {c : Nat} {v : Int64} : ∀ (fl : List Nat) (j i : Nat), fl[i]? = some 1 → (∀ k, fl[k]? = some 1 → k = i) → (fvs E σ c j fl).set i (.long v) = fvs E (slg σ v) c j fl
  | [], j, i, h, _ => by simp at h
  | q :: r, j, 0, h, hu => by
    simp only [List.getElem?_cons_zero, Option.some.injEq] at h
    subst h
    show Value.long v :: fvs E σ c (j + 1) r = Value.long v :: fvs E (slg σ v) c (j + 1) r
    have hc : fvs E σ c (j + 1) r = fvs E (slg σ v) c (j + 1) r := fvs_congr r (j + 1) (fun i _ => rfl) (Or.inr (fun z => by
      obtain ⟨k, hk⟩ := List.getElem?_of_mem z
      have := hu (k + 1) (by rw [List.getElem?_cons_succ]; exact hk)
      omega))
    rw [hc]
  | q :: r, j, i + 1, h, hu => by
    rw [List.getElem?_cons_succ] at h
    have hr := fvs_putL (E := E) (σ := σ) (c := c) (v := v) r (j + 1) i h (fun k hk => by have := hu (k + 1) (by rw [List.getElem?_cons_succ]; exact hk); omega)
    show fvl E σ c j q :: (fvs E σ c (j + 1) r).set i (.long v) = fvl E (slg σ v) c j q :: fvs E (slg σ v) c (j + 1) r
    rw [hr]
    congr 1
    match q, hu with
    | 0, _ => rfl
    | 1, hu => exact absurd (hu 0 rfl) (by omega)
    | q + 2, _ => rfl
/-- which cells a method may change: the world's, and new ones -/
def AE (E : En) (sz : Nat) : Nat → Prop := fun q => (∃ c, c ∈ eL E ∧ q = eA E c) ∨ sz ≤ q
abbrev tysE (E : En) : List (ClassId × FieldType) := [(eY E 0, .int), (eY E 1, .byte), (eY E 2, .boolean), (eY E 3, .object "VowRope$Walk")]

def snm : Nat → String := fun i => match i with | 0 => "ABOVE" | 1 => "SIZE_BODIES" | _ => "MARK_BODIES"
def stv : Nat → List Int32 := fun i => match i with | 0 => [0, 0, 1, 2, 0, 4] | 1 => [10, 11, 0, 12, 13, 14] | _ => [20, 21, 22, 24, 23, 0]
def klen : List Nat := [3, 7, 4, 3, 4, 4, 3, 4]
def kbyt : List (List Int32) := [[108, 97, 119], [115, 112, 101, 97, 107, 101, 114], [121, 97, 114, 110], [118, 111, 119], [111, 97, 116, 104], [100, 101, 98, 116], [108, 105, 101], [104, 111, 112, 101]]
def kix : Nat → Nat := fun i => match i with | 0 => 51 | 1 => 34 | 2 => 43 | 3 => 94 | 4 => 98 | 5 => 100 | 6 => 102 | _ => 104
def ktx : Nat → String := fun i => match i with | 0 => "law" | 1 => "speaker" | 2 => "yarn" | 3 => "vow" | 4 => "oath" | 5 => "debt" | 6 => "lie" | _ => "hope"
/-- what the start gives of static rows and texts -/
def SF (E : En) (U : State) : Prop :=
  (∀ i : Nat, i < 3 → va_Z RX4 (snm i) "[I" (.ref (eT E i)) (AE E U.heap.size) U U.heap ∧ va_T .int (eT E i) 6 (fun j => .int ((stv i).getD j 0)) (AE E U.heap.size) U U.heap) ∧
  va_Z RJ0 "COMPACT_STRINGS" "Z" (.int 1) (AE E U.heap.size) U U.heap ∧ va_Zq RJ3 "SIOOBE_FORMATTER" "Ljava/util/function/BiFunction;" (AE E U.heap.size) U U.heap ∧
  vk_S 8 klen kbyt (eK E) (eV E) (AE E U.heap.size) U U.heap ∧ ∀ i : Nat, i < 8 → vk_R RX6 (kix i) (ktx i) (eK E i) U
def BL (E : En) : Prop := ∀ c, c < 52 → c ∈ eL E
theorem SF.move {E : En} {s U : State} {H : Heap} {locs : List Loc} (h : SF E s) (hS : va_S (AE E s.heap.size) s.heap H locs) (hU : U.heap = H) (hW : s.WarmedH U.vm) : SF E U := by
  have hvm := hW.alike
  have hn : ∀ q, AE E U.heap.size q → AE E s.heap.size q := by
    intro q hq
    rcases hq with hq | hq
    · exact Or.inl hq
    · exact Or.inr (Nat.le_trans hS.1 (by rw [← hU]; exact hq))
  have hk : ∀ a : Nat, a < s.heap.size → ¬ AE E s.heap.size a → U.heap[a]? = s.heap[a]? := by rw [hU]; exact hS.2.1
  obtain ⟨h1, h2, h3, h4, h5⟩ := h
  exact ⟨fun i hi => ⟨((va_Z.moved hvm (h1 i hi).1).kept hk).narrow hn, ((va_T.moved hvm (h1 i hi).2).kept hk).narrow hn⟩, ((va_Z.moved hvm h2).kept hk).narrow hn, ((va_Zq.moved hvm h3).kept hk).narrow hn, ((vk_S.moved hvm h4).kept hk).narrow hn, fun i hi => vk_R.warm hW (h5 i hi)⟩
theorem SF.same {E : En} {u U : State} (h : SF E u) (hH : U.heap = u.heap) (hv : U.vm = u.vm) : SF E U := by
  obtain ⟨h1, h2, h3, h4, h5⟩ := h
  have hvm : u.vm.Alike U.vm := by rw [hv]; exact Vm.Alike.refl _
  refine ⟨fun i hi => ?_, ?_, ?_, ?_, fun i hi => vk_R.same hv (h5 i hi)⟩
  · rw [hH]; exact ⟨va_Z.moved hvm (h1 i hi).1, va_T.moved hvm (h1 i hi).2⟩
  · rw [hH]; exact va_Z.moved hvm h2
  · rw [hH]; exact va_Zq.moved hvm h3
  · rw [hH]; exact vk_S.moved hvm h4
/-- the method's own context -/
def CX (p : Program) (s : State) (m : MethodId) (args : Array Value) (meth : Method) (c : Code) (cc : ByteArray) (own : String) (nL : Nat) (ret : Option FieldType) (E : En) : Prop :=
  p.tables.exec = Jvm.exec ∧ c.code = cc ∧ c.maxLocals = nL ∧ s.vm.findClass own = some m.cls ∧ (∀ w ∈ gw, w.before args s = true) ∧ va_K (eD E) vwCl (tysE E) s ∧ meth.sig.returnType = ret ∧ meth.locks = false ∧ SF E s ∧ BL E
def lvh (ls : Array Slot) (nL : Nat) (L : List (Option Value)) : Prop := ls.size = nL ∧ lv_wf ls ∧ ∀ (k : Nat) (v : Value), L[k]? = some (some v) → ls[k]? = some (.val v)
/-- the machine at a place of the method, with these locals, this stack, this world -/
def WA (p : Program) (l : Launch) (e : Env) (R : Room) (s : State) (m : MethodId) (args : Array Value) (below : List Frame) (meth : Method) (c : Code) (nL : Nat) (E : En) (nc ns : Nat) (Q : State → Prop) (pc : Nat) (L : List (Option Value)) (st : List Value) (σ : Sg) : Prop :=
  ∀ (H : Heap) (locs : List Loc) (ls : Array Slot), va_P (eD E) vwCl (wl E σ) H → va_D (AE E s.heap.size) (wl E σ) → va_S (AE E s.heap.size) s.heap H locs → lvh ls nL L → W p l e R s m args below meth c H locs nc ns Q (F0 m pc ls st)
def al (L : List (Option Value)) : List (Nat × Value) := (List.range L.length).filterMap (fun k => (L[k]?.getD none).map (fun v => (k, v)))
theorem al_mem {L : List (Option Value)} {q : Nat × Value} : q ∈ al L ↔ L[q.1]? = some (some q.2) := by
  unfold al
  rw [List.mem_filterMap]
  constructor
  · rintro ⟨k, hk, h⟩
    cases hL : L[k]? with
    | none => rw [hL] at h; cases h
    | some o =>
      rw [hL] at h
      cases o with
      | none => cases h
      | some v => cases h; exact hL
  · intro h
    refine ⟨q.1, List.mem_range.mpr (List.getElem?_eq_some_iff.mp h).1, ?_⟩
    rw [h]
    rfl
theorem lvh_has {ls : Array Slot} {nL : Nat} {L : List (Option Value)} (h : lvh ls nL L) : lv_has ls nL (al L) := ⟨h.1, h.2.1, fun q hq => h.2.2 q.1 q.2 (al_mem.mp hq)⟩
def okS (L : List (Option Value)) (i : Nat) : Bool := match i with
  | 0 => true
  | j + 1 => match L[j]? with
    | some (some (.long _)) => false
    | some (some (.double _)) => false
    | _ => true
theorem okS_cat {L : List (Option Value)} {j : Nat} {v : Value} (h : okS L (j + 1) = true) (hv : L[j]? = some (some v)) : ¬ v.category = 2 := by
  unfold okS at h
  simp only [hv] at h
  cases v <;> first | (intro z; cases z; done) | cases h
theorem lvh_st {ls : Array Slot} {nL i : Nat} {L L' : List (Option Value)} {v : Value} (hok : okS L i = true) (hL : L.set i (some v) = L') (h : lv_has ls nL ((i, v) :: (al L).filter (fun q => !(q.1 == i) && !(q.1 + 1 == i && q.2.category == 2)))) : lvh ls nL L' := by
  refine ⟨h.1, h.2.1, fun k w hk => ?_⟩
  subst hL
  by_cases hki : k = i
  · subst hki
    by_cases hl : k < L.length
    · rw [List.getElem?_set_self hl] at hk
      cases hk
      exact h.2.2 (k, v) List.mem_cons_self
    · rw [List.getElem?_eq_none (by rw [List.length_set]; omega)] at hk
      cases hk
  · rw [List.getElem?_set_ne (Ne.symm hki)] at hk
    refine h.2.2 (k, w) (List.mem_cons_of_mem _ (List.mem_filter.mpr ⟨al_mem.mpr hk, ?_⟩))
    simp only [Bool.and_eq_true, Bool.not_eq_true', beq_eq_false_iff_ne, ne_eq, Bool.and_eq_false_iff]
    refine ⟨hki, ?_⟩
    by_cases hk1 : k + 1 = i
    · subst hk1
      exact Or.inr (okS_cat hok hk)
    · exact Or.inl hk1
