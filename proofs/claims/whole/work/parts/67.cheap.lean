/-! cheapest: sets of yarns in Nats -/
def sub2 (p m : Nat) : Prop := ∀ i, p.testBit i = true → m.testBit i = true
theorem sub2.trans {a b c : Nat} (h : sub2 a b) (g : sub2 b c) : sub2 a c := fun i hi => g i (h i hi)
theorem sub2.refl (a : Nat) : sub2 a a := fun _ h => h
theorem sub2_0 (a : Nat) : sub2 0 a := fun i h => by rw [Nat.zero_testBit] at h; cases h
theorem sub2_and {p m : Nat} (h : sub2 p m) : p &&& m = p := by
  apply Nat.eq_of_testBit_eq
  intro i
  rw [Nat.testBit_and]
  have := h i
  cases hp : p.testBit i
  · rfl
  · rw [this hp]; rfl
theorem sub2_le {p m : Nat} (h : sub2 p m) : p ≤ m := by
  have := sub2_and h
  rw [← this]
  exact Nat.and_le_right
theorem sub2_xor {p m : Nat} (h : sub2 p m) : sub2 (m ^^^ p) m := fun i hi => by
  rw [Nat.testBit_xor] at hi
  have := h i
  cases hm : m.testBit i
  · cases hp : p.testBit i
    · rw [hm, hp] at hi; cases hi
    · rw [hm] at this; exact this hp
  · rfl
theorem xor_0 {m p : Nat} (h : m ^^^ p = m) : p = 0 := by
  apply Nat.eq_of_testBit_eq
  intro i
  have : (m ^^^ p).testBit i = m.testBit i := congrArg (fun x => x.testBit i) h
  rw [Nat.testBit_xor] at this
  rw [Nat.zero_testBit]
  cases hm : m.testBit i <;> cases hp : p.testBit i <;> rw [hm, hp] at this <;> first | rfl | cases this
theorem sub2_lt {p m : Nat} (h : sub2 p m) (h0 : 0 < p) : m ^^^ p < m := by
  have h1 := sub2_le (sub2_xor h)
  rcases Nat.lt_or_eq_of_le h1 with z | z
  · exact z
  · have := xor_0 z; omega
theorem bit_sub {m y : Nat} (h : m.testBit y = true) : sub2 (2 ^ y) m := fun i hi => by
  rw [Nat.testBit_two_pow] at hi
  have : y = i := of_decide_eq_true hi
  rw [← this]; exact h
theorem bit_pos (y : Nat) : 0 < 2 ^ y := Nat.pow_pos (by decide)
theorem some_bit {n m : Nat} (h : m < 2 ^ n) (h0 : 0 < m) : ∃ y, y < n ∧ m.testBit y = true := by
  apply Classical.byContradiction
  intro hn
  have : m = 0 := by
    apply Nat.eq_of_testBit_eq
    intro i
    rw [Nat.zero_testBit]
    by_cases hi : i < n
    · cases hb : m.testBit i
      · rfl
      · exact absurd ⟨i, hi, hb⟩ hn
    · exact Nat.testBit_lt_two_pow (Nat.lt_of_lt_of_le h (Nat.pow_le_pow_right (by decide) (by omega)))
  omega
theorem xor_self_r (a b : Nat) : a ^^^ b ^^^ b = a := by rw [Nat.xor_assoc, Nat.xor_self, Nat.xor_zero]
/-- what yarns of a set have together -/
def tgs (st : Nat → Nat) (n m : Nat) : Nat := fb_sm (fun y => if m.testBit y = true then st y else 0) n
theorem fb_sm_0 : ∀ n, fb_sm (fun _ => 0) n = 0
  | 0 => rfl
  | n + 1 => by rw [fb_sm_succ, fb_sm_0 n]
theorem tgs_0 (st : Nat → Nat) (n : Nat) : tgs st n 0 = 0 := by
  unfold tgs
  rw [fb_sm_cong (g := fun _ => 0) (fun y _ => by rw [Nat.zero_testBit]; rfl)]
  exact fb_sm_0 n
theorem tgs_bit (st : Nat → Nat) {n m y : Nat} (hy : y < n) (h : m.testBit y = true) : tgs st n m = tgs st n (m ^^^ 2 ^ y) + st y := by
  unfold tgs
  have e := fb_sm_upd (fun z => if m.testBit z = true then st z else 0) 0 hy
  rw [if_pos h] at e
  rw [Nat.add_zero] at e
  rw [← e]
  congr 1
  apply fb_sm_cong
  intro z _
  rw [fb_bit_flip]
  by_cases c : z = y
  · rw [if_pos c, c, h, decide_eq_true (rfl : y = y)]; rfl
  · rw [if_neg c]
    have : decide (z = y) = false := decide_eq_false c
    rw [this, Bool.xor_false]
def stp (need x : Nat) : Nat := if x % 65536 < need then x else x - x % 65536 + 65536
theorem stp_ge (need x : Nat) : x ≤ stp need x := by
  unfold stp
  have := Nat.mod_lt x (show 65536 > 0 by decide)
  split <;> omega
theorem stp_le (need x : Nat) : stp need x ≤ x + 65536 := by
  unfold stp
  split <;> omega
def MaxF (st : Nat → Nat) (n need : Nat) (f : Nat → Nat) (m : Nat) : Prop := (∀ y, y < n → m.testBit y = true → stp need (f (m ^^^ 2 ^ y) + st y) ≤ f m) ∧ (f m = 0 ∨ ∃ y, y < n ∧ m.testBit y = true ∧ f m = stp need (f (m ^^^ 2 ^ y) + st y))
def MaxG (st : Nat → Nat) (n need : Nat) (g : Nat → Nat) (m : Nat) : Prop := (∀ p, sub2 p m → 0 < p → need ≤ tgs st n p → g (m ^^^ p) + 1 ≤ g m) ∧ (g m = 0 ∨ ∃ p, sub2 p m ∧ 0 < p ∧ need ≤ tgs st n p ∧ g m = g (m ^^^ p) + 1)
section FG
variable {st : Nat → Nat} {n need : Nat} {f g : Nat → Nat}
theorem f_mod (h1 : 0 < need) (hf : ∀ m, m < 2 ^ n → MaxF st n need f m) {m : Nat} (hm : m < 2 ^ n) : f m % 65536 < need := by
  rcases (hf m hm).2 with e | ⟨y, _, _, e⟩
  · rw [e]; exact h1
  · rw [e]
    generalize f (m ^^^ 2 ^ y) + st y = x
    unfold stp
    split
    · assumption
    · have : (x - x % 65536 + 65536) % 65536 = 0 := by omega
      rw [this]; exact h1
theorem f_add (hf : ∀ m, m < 2 ^ n → MaxF st n need f m) (k A : Nat) (hA : 65536 * k ≤ f A) : ∀ (c t : Nat), t ≤ c → (∀ i, t.testBit i = true → A.testBit i = false) → (A ^^^ t) < 2 ^ n → t < 2 ^ n → 65536 * k + tgs st n t ≤ f (A ^^^ t) ∨ 65536 * (k + 1) ≤ f (A ^^^ t)
  | 0, t, hc, _, _, _ => by
    have : t = 0 := by omega
    subst this
    rw [Nat.xor_zero, tgs_0]
    exact Or.inl hA
  | c + 1, t, hc, hd, hm, ht => by
    by_cases h0 : t = 0
    · subst h0
      rw [Nat.xor_zero, tgs_0]
      exact Or.inl hA
    · obtain ⟨y, hy, hb⟩ := some_bit ht (by omega)
      have hlt := sub2_lt (bit_sub hb) (bit_pos y)
      have hbit : (A ^^^ t).testBit y = true := by rw [Nat.testBit_xor, hb, hd y hb]; rfl
      have e1 : A ^^^ t ^^^ 2 ^ y = A ^^^ (t ^^^ 2 ^ y) := Nat.xor_assoc _ _ _
      have hl2 : A ^^^ (t ^^^ 2 ^ y) < A ^^^ t := by rw [← e1]; exact sub2_lt (bit_sub hbit) (bit_pos y)
      have ih := f_add hf k A hA c (t ^^^ 2 ^ y) (by omega) (fun i hi => hd i (sub2_xor (bit_sub hb) i hi)) (by omega) (by omega)
      have st1 := (hf _ hm).1 y hy hbit
      rw [e1] at st1
      have st2 := stp_ge need (f (A ^^^ (t ^^^ 2 ^ y)) + st y)
      rw [tgs_bit st hy hb]
      rcases ih with z | z
      · left; omega
      · right; omega
theorem g_le_f (h1 : 0 < need) (h2 : need ≤ 65536) (hf : ∀ m, m < 2 ^ n → MaxF st n need f m) (hg : ∀ m, m < 2 ^ n → MaxG st n need g m) : ∀ (c m : Nat), m ≤ c → m < 2 ^ n → 65536 * g m ≤ f m := by
  intro c
  induction c with
  | zero =>
    intro m hc hm
    have : m = 0 := by omega
    subst this
    rcases (hg 0 hm).2 with e | ⟨p, hp, h0, _⟩
    · rw [e]; exact Nat.zero_le _
    · have := sub2_le hp; omega
  | succ c ih =>
    intro m hc hm
    rcases (hg m hm).2 with e | ⟨p, hp, h0, hn, e⟩
    · rw [e]; exact Nat.zero_le _
    · have hlt := sub2_lt hp h0
      have i1 := ih (m ^^^ p) (by omega) (by omega)
      have hpl := sub2_le hp
      have key := f_add hf (g (m ^^^ p)) (m ^^^ p) i1 p p (Nat.le_refl _) (fun i hi => by rw [Nat.testBit_xor, hi, hp i hi]; rfl) (by rw [xor_self_r]; exact hm) (by omega)
      rw [xor_self_r] at key
      rw [e]
      rcases key with z | z
      · have hmod := f_mod h1 hf hm
        have := Nat.div_add_mod (f m) 65536
        omega
      · exact z
theorem g_mono (hg : ∀ m, m < 2 ^ n → MaxG st n need g m) : ∀ (c m a : Nat), m ≤ c → m < 2 ^ n → sub2 a m → g a ≤ g m := by
  intro c
  induction c with
  | zero =>
    intro m a hc hm ha
    have h0 : m = 0 := by omega
    have := sub2_le ha
    have : a = m := by omega
    rw [this]; exact Nat.le_refl _
  | succ c ih =>
    intro m a hc hm ha
    have hal := sub2_le ha
    rcases (hg a (by omega)).2 with e | ⟨p, hp, h0, hn, e⟩
    · rw [e]; exact Nat.zero_le _
    · have hpm := hp.trans ha
      have hlt := sub2_lt hpm h0
      have i1 := ih (m ^^^ p) (a ^^^ p) (by omega) (by omega) (fun i hi => by
        rw [Nat.testBit_xor] at hi ⊢
        have x1 := ha i
        have x2 := hp i
        cases ea : a.testBit i
        · cases ep : p.testBit i
          · rw [ea, ep] at hi; cases hi
          · rw [ea] at x2; exact absurd (x2 ep) (by decide)
        · rw [x1 ea]
          rw [ea] at hi; exact hi)
      have := (hg m hm).1 p hpm h0 hn
      omega
theorem f_le_g (h1 : 0 < need) (h2 : need ≤ 10000) (hst : ∀ y, y < n → st y ≤ 10000) (hf : ∀ m, m < 2 ^ n → MaxF st n need f m) (hg : ∀ m, m < 2 ^ n → MaxG st n need g m) : ∀ (c m : Nat), m ≤ c → m < 2 ^ n → ∃ R, sub2 R m ∧ tgs st n R = f m % 65536 ∧ f m / 65536 ≤ g (m ^^^ R) := by
  intro c
  induction c with
  | zero =>
    intro m hc hm
    have : m = 0 := by omega
    subst this
    rcases (hf 0 hm).2 with e | ⟨y, _, hb, _⟩
    · exact ⟨0, sub2_0 _, by rw [tgs_0, e], by rw [e]; exact Nat.zero_le _⟩
    · rw [Nat.zero_testBit] at hb; cases hb
  | succ c ih =>
    intro m hc hm
    rcases (hf m hm).2 with e | ⟨y, hy, hb, e⟩
    · exact ⟨0, sub2_0 _, by rw [tgs_0, e], by rw [e]; exact Nat.zero_le _⟩
    · have hlt := sub2_lt (bit_sub hb) (bit_pos y)
      obtain ⟨R, r1, r2, r3⟩ := ih (m ^^^ 2 ^ y) (by omega) (by omega)
      have hmod := f_mod h1 hf (m := m ^^^ 2 ^ y) (by omega)
      have hs := hst y hy
      have x1 : (f (m ^^^ 2 ^ y) + st y) % 65536 = f (m ^^^ 2 ^ y) % 65536 + st y := by omega
      have x2 : (f (m ^^^ 2 ^ y) + st y) / 65536 = f (m ^^^ 2 ^ y) / 65536 := by omega
      have nb : R.testBit y = false := by
        cases hR : R.testBit y
        · rfl
        · have := r1 y hR
          rw [Nat.testBit_xor, hb, Nat.testBit_two_pow] at this
          simp at this
      have hpb : (R ^^^ 2 ^ y).testBit y = true := by rw [Nat.testBit_xor, nb, Nat.testBit_two_pow]; simp
      have hps : sub2 (R ^^^ 2 ^ y) m := fun i hi => by
        rw [fb_bit_flip] at hi
        by_cases ce : i = y
        · rw [ce]; exact hb
        · have ed : decide (i = y) = false := decide_eq_false ce
          rw [ed, Bool.xor_false] at hi
          have := r1 i hi
          rw [fb_bit_flip, ed, Bool.xor_false] at this
          exact this
      have hpt : tgs st n (R ^^^ 2 ^ y) = f (m ^^^ 2 ^ y) % 65536 + st y := by
        rw [tgs_bit st hy hpb, xor_self_r, r2]
      have hxx : m ^^^ (R ^^^ 2 ^ y) = m ^^^ 2 ^ y ^^^ R := by rw [Nat.xor_comm R, Nat.xor_assoc]
      by_cases cc : (f (m ^^^ 2 ^ y) + st y) % 65536 < need
      · have ef : f m = f (m ^^^ 2 ^ y) + st y := by rw [e]; exact if_pos cc
        refine ⟨R ^^^ 2 ^ y, hps, ?_, ?_⟩
        · rw [hpt, ef, x1]
        · rw [hxx, ef, x2]; exact r3
      · have ef : f m = f (m ^^^ 2 ^ y) + st y - (f (m ^^^ 2 ^ y) + st y) % 65536 + 65536 := by rw [e]; exact if_neg cc
        have hp0 : 0 < R ^^^ 2 ^ y := by
          rcases Nat.eq_zero_or_pos (R ^^^ 2 ^ y) with z | z
          · rw [z, Nat.zero_testBit] at hpb; cases hpb
          · exact z
        have hgm := (hg m hm).1 (R ^^^ 2 ^ y) hps hp0 (by rw [hpt]; omega)
        rw [hxx] at hgm
        refine ⟨0, sub2_0 _, ?_, ?_⟩
        · rw [tgs_0, ef]; omega
        · rw [Nat.xor_zero, ef]; omega
theorem f_iff_g (h1 : 0 < need) (h2 : need ≤ 10000) (hst : ∀ y, y < n → st y ≤ 10000) (hf : ∀ m, m < 2 ^ n → MaxF st n need f m) (hg : ∀ m, m < 2 ^ n → MaxG st n need g m) {m : Nat} (hm : m < 2 ^ n) : 196608 ≤ f m ↔ 3 ≤ g m := by
  constructor
  · intro h
    obtain ⟨R, r1, _, r3⟩ := f_le_g h1 h2 hst hf hg m m (Nat.le_refl _) hm
    have := g_mono hg m m (m ^^^ R) (Nat.le_refl _) hm (sub2_xor r1)
    omega
  · intro h
    have := g_le_f h1 (by omega) hf hg m m (Nat.le_refl _) hm
    omega
end FG
/-- the next set within a set -/
theorem nx_sub : ∀ (c p m q : Nat), p ≤ c → sub2 p m → sub2 q m → q < p → q ≤ (p - 1) &&& m := by
  intro c
  induction c with
  | zero => intro p m q hc hp hq hlt; omega
  | succ c ih =>
    intro p m q hc hp hq hlt
    have hp2 : sub2 (p / 2) (m / 2) := fun i hi => by
      rw [Nat.testBit_div_two] at hi ⊢; exact hp _ hi
    have hq2 : sub2 (q / 2) (m / 2) := fun i hi => by
      rw [Nat.testBit_div_two] at hi ⊢; exact hq _ hi
    have hq0 : q % 2 ≤ m % 2 := by
      have := hq 0
      simp only [Nat.testBit_zero, decide_eq_true_eq] at this
      omega
    have hand : ((p - 1) &&& m) = 2 * ((p - 1) / 2 &&& m / 2) + ((p - 1) % 2 * (m % 2)) := by
      have e1 : ((p - 1) &&& m) / 2 = (p - 1) / 2 &&& m / 2 := Nat.and_div_two
      have e2 : ((p - 1) &&& m) % 2 = (p - 1) % 2 * (m % 2) := by
        rw [Nat.and_mod_two_pow (n := 1)]
        have a1 : (p - 1) % 2 = 0 ∨ (p - 1) % 2 = 1 := by omega
        have a2 : m % 2 = 0 ∨ m % 2 = 1 := by omega
        rcases a1 with a1 | a1 <;> rcases a2 with a2 | a2 <;> rw [show (2 : Nat) ^ 1 = 2 from rfl, a1, a2] <;> decide
      omega
    have hb : p % 2 = 0 ∨ p % 2 = 1 := by omega
    rcases hb with hb | hb
    · have hlt2 : q / 2 < p / 2 := by omega
      have i1 := ih (p / 2) (m / 2) (q / 2) (by omega) hp2 hq2 hlt2
      have e3 : (p - 1) / 2 = p / 2 - 1 := by omega
      have e4 : (p - 1) % 2 = 1 := by omega
      rw [hand, e3, e4, Nat.one_mul]
      omega
    · have e3 : (p - 1) / 2 = p / 2 := by omega
      have e4 : (p - 1) % 2 = 0 := by omega
      rw [hand, e3, e4, Nat.zero_mul, sub2_and hp2]
      omega
theorem and_sub (a m : Nat) : sub2 (a &&& m) m := fun i hi => by
  rw [Nat.testBit_and] at hi
  exact ((Bool.and_eq_true _ _).mp hi).2
