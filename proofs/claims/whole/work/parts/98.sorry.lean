theorem pure_ok : ∃ I : (Nat → Bool) → Sg → Prop, OKS I ∧ I (fun _ => false) sg0 := sorry
