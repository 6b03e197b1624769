theorem pure_ok : ∃ I : Nat → (Nat → Bool) → Sg → Prop, OKS I ∧ I 0 (fun _ => false) sg0 := sorry
