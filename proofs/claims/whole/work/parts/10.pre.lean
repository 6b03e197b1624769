def FUEL : Nat := 100000
def nz (x : Int32) : Bool := decide (¬ x = 0)
def nzL (x : Int64) : Bool := decide (¬ x = 0)
theorem only_long : ∀ k, ([0, 0, 41, 42, 43, 44, 45, 0, 46, 0, 47, 0, 0, 0, 0, 0, 0, 0, 0, 0, 48, 1, 0, 49, 50, 51, 52, 53, 0] : List Nat)[k]? = some 1 → k = 21 := by
  intro k h
  have hk : k < 29 := (List.getElem?_eq_some_iff.mp h).1
  have key : ∀ k, k < 29 → ([0, 0, 41, 42, 43, 44, 45, 0, 46, 0, 47, 0, 0, 0, 0, 0, 0, 0, 0, 0, 48, 1, 0, 49, 50, 51, 52, 53, 0] : List Nat)[k]? = some 1 → k = 21 := by decide +kernel
  exact key k hk h
def mask : List Bool → List (Option Value) → List (Option Value)
  | true :: b, x :: t => x :: mask b t
  | false :: b, _ :: t => none :: mask b t
  | _, _ => []
theorem mask_get : ∀ (b : List Bool) (t : List (Option Value)) (k : Nat) (v : Value), (mask b t)[k]? = some (some v) → t[k]? = some (some v)
  | [], t, k, v, h => by simp [mask] at h
  | true :: b, [], k, v, h => by simp [mask] at h
  | false :: b, [], k, v, h => by simp [mask] at h
  | true :: b, x :: t, 0, v, h => h
  | true :: b, x :: t, k + 1, v, h => mask_get b t k v h
  | false :: b, x :: t, 0, v, h => by simp [mask] at h
  | false :: b, x :: t, k + 1, v, h => mask_get b t k v h
theorem wa_forget {p : Program} {l : Launch} {e : Env} {R : Room} {s : State} {m : MethodId} {args : Array Value} {below : List Frame} {meth : Method} {c : Code} {nL : Nat} {E : En} {Q : State → Prop} {nc ns pc : Nat} {L : List (Option Value)} {st : List Value} {σ : Sg} (b : List Bool) (L1 : List (Option Value)) (h : mask b L = L1) (k : WA p l e R s m args below meth c nL E nc ns Q pc L1 st σ) : WA p l e R s m args below meth c nL E nc ns Q pc L st σ := fun H locs ls hP hD hS hl => k H locs ls hP hD hS ⟨hl.1, hl.2.1, fun i v hi => hl.2.2 i v (mask_get b L i v (by rw [h]; exact hi))⟩
