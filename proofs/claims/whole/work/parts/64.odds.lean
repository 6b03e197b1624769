/-! odds, in Nats -/
def tn (W : Nat → Nat) (y : Nat) : Nat := if W (14 + 7 * y) = 2 then 10 else if W (14 + 7 * y) = 4 then 0 else W (4 + 2 * W (15 + 7 * y))
def kp (W : Nat → Nat) (y : Nat) : Nat := if W (18 + 7 * y) = 0 then tn W y else if W (18 + 7 * y) = 1 then 10 else 0
def wtN (W : Nat → Nat) (y b : Nat) : Nat := if W (18 + 7 * y) = 0 then (if b = 1 then tn W y else 10 - tn W y) else (if b = 1 then 1 else 0)
def cb (W : Nat → Nat) (y b : Nat) : Nat := if W (18 + 7 * y) = 0 then (if b = 1 then stH W y 1 else stH W y 2) else stH W y (W (18 + 7 * y))
def adS (W : Nat → Nat) (s : Nat → Nat) (y b : Nat) : Nat → Nat := if W (17 + 7 * y) = 0 then s else ad s (W (17 + 7 * y) - 1) (cb W y b)
def oqS (need : Nat) (s : Nat → Nat) : Nat := if need ≤ mn s then 1 else 0
def Yr (W : Nat → Nat) (need : Nat) : Nat → Nat → (Nat → Nat) → Nat
  | 0, _, s => oqS need s
  | r + 1, y, s => if W (17 + 7 * y) = 0 then 10 * Yr W need r (y + 1) s else (10 - kp W y) * Yr W need r (y + 1) s + kp W y * Yr W need r (y + 1) (ad s (W (17 + 7 * y) - 1) (stH W y 1))
def pw (W : Nat → Nat) : Nat → Nat → Nat → Nat
  | 0, _, _ => 1
  | r + 1, y, m => wtN W y (m % 2) * pw W r (y + 1) (m / 2)
def fs (W : Nat → Nat) : Nat → Nat → (Nat → Nat) → Nat → (Nat → Nat)
  | 0, _, s, _ => s
  | r + 1, y, s, m => fs W r (y + 1) (adS W s y (m % 2)) (m / 2)
def PF (W : Nat → Nat) : Nat → Nat → Nat
  | 0, _ => 1
  | r + 1, y => (if W (18 + 7 * y) = 0 then 1 else 10) * PF W r (y + 1)
def WH (W : Nat → Nat) : Nat → Nat → Nat
  | 0, _ => 1
  | r + 1, y => (if W (18 + 7 * y) = 0 then 10 else 1) * WH W r (y + 1)
theorem fb_sm_eo (g : Nat → Nat) : ∀ N, fb_sm g (2 * N) = fb_sm (fun k => g (2 * k)) N + fb_sm (fun k => g (2 * k + 1)) N
  | 0 => rfl
  | N + 1 => by
    rw [show 2 * (N + 1) = 2 * N + 1 + 1 by omega, fb_sm_succ, fb_sm_succ, fb_sm_succ, fb_sm_succ, fb_sm_eo g N]
    omega
theorem fb_sm_mul (c : Nat) (f : Nat → Nat) : ∀ n, fb_sm (fun k => c * f k) n = c * fb_sm f n
  | 0 => rfl
  | n + 1 => by rw [fb_sm_succ, fb_sm_succ, fb_sm_mul c f n, Nat.mul_add]
def ZS (W : Nat → Nat) (need r y : Nat) (s : Nat → Nat) : Nat := fb_sm (fun m => pw W r y m * oqS need (fs W r y s m)) (2 ^ r)
theorem ZS_s (W : Nat → Nat) (need r y : Nat) (s : Nat → Nat) : ZS W need (r + 1) y s = wtN W y 0 * ZS W need r (y + 1) (adS W s y 0) + wtN W y 1 * ZS W need r (y + 1) (adS W s y 1) := by
  unfold ZS
  rw [Nat.pow_succ, Nat.mul_comm (2 ^ r) 2, fb_sm_eo, ← fb_sm_mul, ← fb_sm_mul]
  have e0 : fb_sm (fun k => pw W (r + 1) y (2 * k) * oqS need (fs W (r + 1) y s (2 * k))) (2 ^ r) = fb_sm (fun k => wtN W y 0 * (pw W r (y + 1) k * oqS need (fs W r (y + 1) (adS W s y 0) k))) (2 ^ r) := fb_sm_cong (fun k _ => by
    show wtN W y (2 * k % 2) * pw W r (y + 1) (2 * k / 2) * oqS need (fs W r (y + 1) (adS W s y (2 * k % 2)) (2 * k / 2)) = _
    rw [show 2 * k % 2 = 0 by omega, show 2 * k / 2 = k by omega, Nat.mul_assoc])
  have e1 : fb_sm (fun k => pw W (r + 1) y (2 * k + 1) * oqS need (fs W (r + 1) y s (2 * k + 1))) (2 ^ r) = fb_sm (fun k => wtN W y 1 * (pw W r (y + 1) k * oqS need (fs W r (y + 1) (adS W s y 1) k))) (2 ^ r) := fb_sm_cong (fun k _ => by
    show wtN W y ((2 * k + 1) % 2) * pw W r (y + 1) ((2 * k + 1) / 2) * oqS need (fs W r (y + 1) (adS W s y ((2 * k + 1) % 2)) ((2 * k + 1) / 2)) = _
    rw [show (2 * k + 1) % 2 = 1 by omega, show (2 * k + 1) / 2 = k by omega, Nat.mul_assoc])
  rw [e0, e1]
theorem ad_0 (s : Nat → Nat) (g : Nat) : ad s g 0 = s := by
  funext h
  unfold ad
  split <;> rfl
theorem stH_2 (W : Nat → Nat) (y : Nat) : stH W y 2 = 0 := if_pos rfl
theorem tn_le {k : Nat} {W : Nat → Nat} (hB : WBd k W) {y : Nat} (hy : y < W 3) : tn W y ≤ 10 := by
  have := (hB.2.2.2.2.1 _ (hB.2.2.2.2.2 y hy).2.1).1
  unfold tn
  split
  · omega
  · split <;> omega
theorem Yr_eq {k : Nat} {W : Nat → Nat} (hB : WBd k W) (need : Nat) : ∀ (r y : Nat) (s : Nat → Nat), y + r = W 3 → Yr W need r y s = PF W r y * ZS W need r y s
  | 0, y, s, _ => by
    show oqS need s = 1 * fb_sm (fun m => pw W 0 y m * oqS need (fs W 0 y s m)) (2 ^ 0)
    show oqS need s = 1 * (0 + 1 * oqS need s)
    omega
  | r + 1, y, s, h => by
    have ih := fun s => Yr_eq hB need r (y + 1) s (by omega)
    have hy : y < W 3 := by omega
    have ht := tn_le hB hy
    have hb := (hB.2.2.2.2.2 y hy).2.2.2.2.1
    show (if W (17 + 7 * y) = 0 then 10 * Yr W need r (y + 1) s else (10 - kp W y) * Yr W need r (y + 1) s + kp W y * Yr W need r (y + 1) (ad s (W (17 + 7 * y) - 1) (stH W y 1))) = (if W (18 + 7 * y) = 0 then 1 else 10) * PF W r (y + 1) * ZS W need (r + 1) y s
    rw [ZS_s, ih, ih]
    by_cases c1 : W (17 + 7 * y) = 0
    · have ea : ∀ b, adS W s y b = s := fun b => if_pos c1
      rw [if_pos c1, ea, ea, ← Nat.add_mul]
      by_cases c2 : W (18 + 7 * y) = 0
      · have e0 : wtN W y 0 = 10 - tn W y := by unfold wtN; rw [if_pos c2, if_neg (by decide)]
        have e1 : wtN W y 1 = tn W y := by unfold wtN; rw [if_pos c2, if_pos rfl]
        rw [if_pos c2, e0, e1, show 10 - tn W y + tn W y = 10 by omega, Nat.one_mul, Nat.mul_left_comm]
      · have e0 : wtN W y 0 = 0 := by unfold wtN; rw [if_neg c2, if_neg (by decide)]
        have e1 : wtN W y 1 = 1 := by unfold wtN; rw [if_neg c2, if_pos rfl]
        rw [if_neg c2, e0, e1, Nat.zero_add, Nat.one_mul, Nat.mul_assoc]
    · have ea : ∀ b, adS W s y b = ad s (W (17 + 7 * y) - 1) (cb W y b) := fun b => if_neg c1
      rw [if_neg c1, ea, ea]
      by_cases c2 : W (18 + 7 * y) = 0
      · have e0 : wtN W y 0 = 10 - tn W y := by unfold wtN; rw [if_pos c2, if_neg (by decide)]
        have e1 : wtN W y 1 = tn W y := by unfold wtN; rw [if_pos c2, if_pos rfl]
        have d0 : cb W y 0 = 0 := by unfold cb; rw [if_pos c2, if_neg (by decide), stH_2]
        have d1 : cb W y 1 = stH W y 1 := by unfold cb; rw [if_pos c2, if_pos rfl]
        have k1 : kp W y = tn W y := if_pos c2
        rw [if_pos c2, e0, e1, d0, d1, ad_0, k1, Nat.one_mul, Nat.mul_add, Nat.mul_left_comm, Nat.mul_left_comm (tn W y)]
      · have e0 : wtN W y 0 = 0 := by unfold wtN; rw [if_neg c2, if_neg (by decide)]
        have e1 : wtN W y 1 = 1 := by unfold wtN; rw [if_neg c2, if_pos rfl]
        rw [if_neg c2, e0, e1, Nat.zero_mul, Nat.zero_add, Nat.one_mul]
        by_cases c3 : W (18 + 7 * y) = 1
        · have d1 : cb W y 1 = stH W y 1 := by unfold cb; rw [if_neg c2, c3]
          have k1 : kp W y = 10 := by unfold kp; rw [if_neg c2, if_pos c3]
          rw [d1, k1, Nat.sub_self, Nat.zero_mul, Nat.zero_add, Nat.mul_assoc]
        · have c4 : W (18 + 7 * y) = 2 := by omega
          have d1 : cb W y 1 = 0 := by unfold cb; rw [if_neg c2, c4, stH_2]
          have k1 : kp W y = 0 := by unfold kp; rw [if_neg c2, if_neg c3]
          rw [d1, k1, Nat.sub_zero, Nat.zero_mul, Nat.add_zero, ad_0, Nat.mul_assoc]
theorem WH_PF (W : Nat → Nat) : ∀ r y, WH W r y * PF W r y = 10 ^ r
  | 0, _ => rfl
  | r + 1, y => by
    have ih := WH_PF W r (y + 1)
    show (if W (18 + 7 * y) = 0 then 10 else 1) * WH W r (y + 1) * ((if W (18 + 7 * y) = 0 then 1 else 10) * PF W r (y + 1)) = 10 ^ (r + 1)
    rw [Nat.pow_succ, ← ih]
    by_cases c : W (18 + 7 * y) = 0
    · rw [if_pos c, if_pos c, Nat.one_mul, Nat.mul_assoc, Nat.mul_comm 10]
    · rw [if_neg c, if_neg c, Nat.one_mul, Nat.mul_left_comm, Nat.mul_comm 10]
theorem PF_pos (W : Nat → Nat) : ∀ r y, 0 < PF W r y
  | 0, _ => Nat.one_pos
  | r + 1, y => Nat.mul_pos (by split <;> omega) (PF_pos W r (y + 1))
theorem WH_pos (W : Nat → Nat) : ∀ r y, 0 < WH W r y
  | 0, _ => Nat.one_pos
  | r + 1, y => Nat.mul_pos (by split <;> omega) (WH_pos W r (y + 1))
theorem oqS_le (need : Nat) (s : Nat → Nat) : oqS need s ≤ 1 := by unfold oqS; split <;> omega
theorem kp_le {k : Nat} {W : Nat → Nat} (hB : WBd k W) {y : Nat} (hy : y < W 3) : kp W y ≤ 10 := by
  have := tn_le hB hy
  unfold kp
  split
  · exact this
  · split <;> omega
theorem Yr_le {k : Nat} {W : Nat → Nat} (hB : WBd k W) (need : Nat) : ∀ (r y : Nat) (s : Nat → Nat), y + r = W 3 → Yr W need r y s ≤ 10 ^ r
  | 0, y, s, _ => oqS_le need s
  | r + 1, y, s, h => by
    have ih := fun s => Yr_le hB need r (y + 1) s (by omega)
    have hk := kp_le hB (y := y) (by omega)
    rw [Nat.pow_succ, Nat.mul_comm]
    show (if W (17 + 7 * y) = 0 then 10 * Yr W need r (y + 1) s else (10 - kp W y) * Yr W need r (y + 1) s + kp W y * Yr W need r (y + 1) (ad s (W (17 + 7 * y) - 1) (stH W y 1))) ≤ 10 * 10 ^ r
    split
    · exact Nat.mul_le_mul_left _ (ih s)
    · calc (10 - kp W y) * Yr W need r (y + 1) s + kp W y * Yr W need r (y + 1) (ad s (W (17 + 7 * y) - 1) (stH W y 1)) ≤ (10 - kp W y) * 10 ^ r + kp W y * 10 ^ r := Nat.add_le_add (Nat.mul_le_mul_left _ (ih _)) (Nat.mul_le_mul_left _ (ih _))
        _ = 10 * 10 ^ r := by rw [← Nat.add_mul, show 10 - kp W y + kp W y = 10 by omega]
theorem wtN_le {k : Nat} {W : Nat → Nat} (hB : WBd k W) {y : Nat} (hy : y < W 3) (b : Nat) : wtN W y b ≤ 10 := by
  have := tn_le hB hy
  unfold wtN
  split
  · split <;> omega
  · split <;> omega
theorem pw_le {k : Nat} {W : Nat → Nat} (hB : WBd k W) : ∀ (r y m : Nat), y + r = W 3 → pw W r y m ≤ 10 ^ r
  | 0, _, _, _ => Nat.le_refl _
  | r + 1, y, m, h => by
    rw [Nat.pow_succ, Nat.mul_comm]
    exact Nat.mul_le_mul (wtN_le hB (by omega) _) (pw_le hB r (y + 1) (m / 2) (by omega))
/-! lowest terms -/
def d2 (q : Nat × Nat) : Nat × Nat := if q.1 % 2 = 0 ∧ q.2 % 2 = 0 then (q.1 / 2, q.2 / 2) else q
def d5 (q : Nat × Nat) : Nat × Nat := if q.1 % 5 = 0 ∧ q.2 % 5 = 0 then (q.1 / 5, q.2 / 5) else q
def dI (q : Nat × Nat) : Nat → Nat × Nat
  | 0 => q
  | i + 1 => d5 (d2 (dI q i))
def LT (A B n i : Nat) (q : Nat × Nat) : Prop := ∃ α β d, q.2 = 2 ^ α * 5 ^ β ∧ A = q.1 * d ∧ B = q.2 * d ∧ (q.1 % 2 ≠ 0 ∨ α ≤ n - i) ∧ (q.1 % 5 ≠ 0 ∨ β ≤ n - i)
theorem p5_odd : ∀ b, 5 ^ b % 2 = 1
  | 0 => rfl
  | b + 1 => by rw [Nat.pow_succ, Nat.mul_mod, p5_odd b]
theorem p2_5 : ∀ a, 2 ^ a % 5 ≠ 0
  | 0 => by decide
  | a + 1 => by
    have := p2_5 a
    rw [Nat.pow_succ]
    omega
theorem d2_LT {A B n i : Nat} {q : Nat × Nat} (hi : i < n) (h : LT A B n i q) : ∃ α β d, (d2 q).2 = 2 ^ α * 5 ^ β ∧ A = (d2 q).1 * d ∧ B = (d2 q).2 * d ∧ ((d2 q).1 % 2 ≠ 0 ∨ α ≤ n - (i + 1)) ∧ ((d2 q).1 % 5 ≠ 0 ∨ β ≤ n - i) := by
  obtain ⟨α, β, d, h1, h2, h3, h4, h5⟩ := h
  unfold d2
  by_cases c : q.1 % 2 = 0 ∧ q.2 % 2 = 0
  · rw [if_pos c]
    have hα : 1 ≤ α := by
      rcases Nat.eq_zero_or_pos α with z | z
      · rw [z, Nat.pow_zero, Nat.one_mul] at h1
        have := p5_odd β
        rw [← h1] at this
        omega
      · exact z
    have e : q.2 = 2 * (2 ^ (α - 1) * 5 ^ β) := by
      rw [h1, ← Nat.mul_assoc, ← Nat.pow_succ', Nat.succ_eq_add_one, show α - 1 + 1 = α by omega]
    refine ⟨α - 1, β, 2 * d, ?_, ?_, ?_, ?_, ?_⟩
    · show q.2 / 2 = _
      rw [e]; omega
    · show A = q.1 / 2 * (2 * d)
      rw [← Nat.mul_assoc, Nat.div_mul_cancel (Nat.dvd_of_mod_eq_zero c.1)]; exact h2
    · show B = q.2 / 2 * (2 * d)
      rw [← Nat.mul_assoc, Nat.div_mul_cancel (Nat.dvd_of_mod_eq_zero c.2)]; exact h3
    · right
      rcases h4 with z | z
      · exact absurd c.1 z
      · omega
    · rcases h5 with z | z
      · left; show q.1 / 2 % 5 ≠ 0; omega
      · right; exact z
  · rw [if_neg c]
    refine ⟨α, β, d, h1, h2, h3, ?_, h5⟩
    rcases h4 with z | z
    · left; exact z
    · by_cases c1 : q.1 % 2 = 0
      · right
        rcases Nat.eq_zero_or_pos α with w | w
        · omega
        · exfalso
          apply c
          refine ⟨c1, ?_⟩
          have e : q.2 = 2 * (2 ^ (α - 1) * 5 ^ β) := by
            rw [h1, ← Nat.mul_assoc, ← Nat.pow_succ', Nat.succ_eq_add_one, show α - 1 + 1 = α by omega]
          omega
      · left; exact c1
theorem d5_LT {A B n i : Nat} {q : Nat × Nat} (hi : i < n) (h : ∃ α β d, q.2 = 2 ^ α * 5 ^ β ∧ A = q.1 * d ∧ B = q.2 * d ∧ (q.1 % 2 ≠ 0 ∨ α ≤ n - (i + 1)) ∧ (q.1 % 5 ≠ 0 ∨ β ≤ n - i)) : LT A B n (i + 1) (d5 q) := by
  obtain ⟨α, β, d, h1, h2, h3, h4, h5⟩ := h
  unfold d5
  by_cases c : q.1 % 5 = 0 ∧ q.2 % 5 = 0
  · rw [if_pos c]
    have hβ : 1 ≤ β := by
      rcases Nat.eq_zero_or_pos β with z | z
      · rw [z, Nat.pow_zero, Nat.mul_one] at h1
        have := p2_5 α
        rw [← h1] at this
        omega
      · exact z
    have e : q.2 = 5 * (2 ^ α * 5 ^ (β - 1)) := by
      rw [h1, Nat.mul_left_comm, ← Nat.pow_succ', Nat.succ_eq_add_one, show β - 1 + 1 = β by omega]
    refine ⟨α, β - 1, 5 * d, ?_, ?_, ?_, ?_, ?_⟩
    · show q.2 / 5 = _
      rw [e]; omega
    · show A = q.1 / 5 * (5 * d)
      rw [← Nat.mul_assoc, Nat.div_mul_cancel (Nat.dvd_of_mod_eq_zero c.1)]; exact h2
    · show B = q.2 / 5 * (5 * d)
      rw [← Nat.mul_assoc, Nat.div_mul_cancel (Nat.dvd_of_mod_eq_zero c.2)]; exact h3
    · rcases h4 with z | z
      · left; show q.1 / 5 % 2 ≠ 0; omega
      · right; exact z
    · right
      rcases h5 with z | z
      · exact absurd c.1 z
      · omega
  · rw [if_neg c]
    refine ⟨α, β, d, h1, h2, h3, h4, ?_⟩
    rcases h5 with z | z
    · left; exact z
    · by_cases c1 : q.1 % 5 = 0
      · right
        rcases Nat.eq_zero_or_pos β with w | w
        · omega
        · exfalso
          apply c
          refine ⟨c1, ?_⟩
          have e : q.2 = 5 * (2 ^ α * 5 ^ (β - 1)) := by
            rw [h1, Nat.mul_left_comm, ← Nat.pow_succ', Nat.succ_eq_add_one, show β - 1 + 1 = β by omega]
          omega
      · left; exact c1
theorem dI_LT (A n : Nat) : ∀ i, i ≤ n → LT A (10 ^ n) n i (dI (A, 10 ^ n) i)
  | 0, _ => ⟨n, n, 1, by show 10 ^ n = 2 ^ n * 5 ^ n; rw [← Nat.mul_pow], by show A = A * 1; omega, by show 10 ^ n = 10 ^ n * 1; omega, Or.inr (by omega), Or.inr (by omega)⟩
  | i + 1, h => d5_LT (by omega) (d2_LT (by omega) (dI_LT A n i (by omega)))
theorem cop_pow {a p : Nat} (h : Nat.gcd a p = 1) : ∀ k, Nat.gcd a (p ^ k) = 1
  | 0 => by rw [Nat.pow_zero]; exact Nat.gcd_one_right a
  | k + 1 => by
    rw [Nat.pow_succ]
    exact Nat.Coprime.mul_right (cop_pow h k) h
theorem gcd_prime2 {a : Nat} (h : a % 2 ≠ 0) : Nat.gcd a 2 = 1 := by
  rw [Nat.gcd_comm, Nat.gcd_rec]
  have : a % 2 = 1 := by omega
  rw [this]
  decide
theorem gcd_prime5 {a : Nat} (h : a % 5 ≠ 0) : Nat.gcd a 5 = 1 := by
  rw [Nat.gcd_comm, Nat.gcd_rec]
  have : a % 5 = 1 ∨ a % 5 = 2 ∨ a % 5 = 3 ∨ a % 5 = 4 := by omega
  rcases this with e | e | e | e <;> rw [e] <;> decide
theorem dI_end (A n : Nat) : dI (A, 10 ^ n) n = (A / Nat.gcd A (10 ^ n), 10 ^ n / Nat.gcd A (10 ^ n)) := by
  obtain ⟨α, β, d, h1, h2, h3, h4, h5⟩ := dI_LT A n n (Nat.le_refl _)
  generalize dI (A, 10 ^ n) n = q at *
  have hB : 0 < 10 ^ n := Nat.pow_pos (by decide)
  have hd : 0 < d := by
    rcases Nat.eq_zero_or_pos d with z | z
    · rw [z, Nat.mul_zero] at h3; omega
    · exact z
  have g2 : Nat.gcd q.1 (2 ^ α) = 1 := by
    rcases h4 with z | z
    · exact cop_pow (gcd_prime2 z) α
    · rw [show α = 0 by omega, Nat.pow_zero]; exact Nat.gcd_one_right _
  have g5 : Nat.gcd q.1 (5 ^ β) = 1 := by
    rcases h5 with z | z
    · exact cop_pow (gcd_prime5 z) β
    · rw [show β = 0 by omega, Nat.pow_zero]; exact Nat.gcd_one_right _
  have g : Nat.gcd q.1 q.2 = 1 := by rw [h1]; exact Nat.Coprime.mul_right g2 g5
  have eg : Nat.gcd A (10 ^ n) = d := by rw [h2, h3, Nat.gcd_mul_right, g, Nat.one_mul]
  rw [eg]
  have x1 : A / d = q.1 := by rw [h2, Nat.mul_div_cancel _ hd]
  have x2 : 10 ^ n / d = q.2 := by rw [h3, Nat.mul_div_cancel _ hd]
  rw [x1, x2]
theorem gcd_lp {v2 v3 v4 : Int32} {σ : Sg} : ∀ (b x y m : Nat), y < 2 ^ b → x < 2 ^ 31 → y < 2 ^ 31 → 2 * b + 1 ≤ m → lpO (fun w : Int32 × Int32 => fX11_odds_B226 v2 v3 v4 w.1 w.2 σ) m (nI x, nI y) = some (nI (Nat.gcd x y))
  | 0, x, y, m, hy, hx, hy2, hm => by
    have : y = 0 := by
      have : y < 1 := hy
      omega
    subst this
    obtain ⟨m, rfl⟩ : ∃ k, m = k + 1 := ⟨m - 1, by omega⟩
    show (fX11_odds_B226 v2 v3 v4 (nI x) (nI 0) σ).bind _ = _
    unfold fX11_odds_B226
    rw [if_pos nI_0, Nat.gcd_zero_right]
    rfl
  | b + 1, x, y, m, hy, hx, hy2, hm => by
    obtain ⟨m, rfl⟩ : ∃ k, m = k + 2 := ⟨m - 2, by omega⟩
    by_cases c : y = 0
    · subst c
      show (fX11_odds_B226 v2 v3 v4 (nI x) (nI 0) σ).bind _ = _
      unfold fX11_odds_B226
      rw [if_pos nI_0, Nat.gcd_zero_right]
      rfl
    · have s1 : fX11_odds_B226 v2 v3 v4 (nI x) (nI y) σ = some (.inl (nI y, nI (x % y))) := by
        unfold fX11_odds_B226
        rw [if_neg (q0 c), gd_t (nz_t (q0 c)), irm_nI hx (by omega) hy2]
      have hz : x % y < y := Nat.mod_lt _ (by omega)
      have e1 : Nat.gcd x y = Nat.gcd y (x % y) := by rw [Nat.gcd_comm x y, Nat.gcd_rec y x, Nat.gcd_comm]
      show (fX11_odds_B226 v2 v3 v4 (nI x) (nI y) σ).bind _ = _
      rw [s1]
      show lpO (fun w : Int32 × Int32 => fX11_odds_B226 v2 v3 v4 w.1 w.2 σ) (m + 1) (nI y, nI (x % y)) = _
      rw [e1]
      generalize x % y = z at hz
      by_cases c2 : z = 0
      · subst c2
        show (fX11_odds_B226 v2 v3 v4 (nI y) (nI 0) σ).bind _ = _
        unfold fX11_odds_B226
        rw [if_pos nI_0, Nat.gcd_zero_right]
        rfl
      · have s2 : fX11_odds_B226 v2 v3 v4 (nI y) (nI z) σ = some (.inl (nI z, nI (y % z))) := by
          unfold fX11_odds_B226
          rw [if_neg (q0 c2), gd_t (nz_t (q0 c2)), irm_nI hy2 (by omega) (by omega)]
        have e2 : Nat.gcd y z = Nat.gcd z (y % z) := by rw [Nat.gcd_comm y z, Nat.gcd_rec z y, Nat.gcd_comm]
        have hw : y % z < z := Nat.mod_lt _ (by omega)
        have hq : 1 ≤ y / z := Nat.div_pos (by omega) (by omega)
        have hdm := Nat.div_add_mod y z
        have hzq : z ≤ z * (y / z) := Nat.le_mul_of_pos_right z hq
        show (fX11_odds_B226 v2 v3 v4 (nI y) (nI z) σ).bind _ = _
        rw [s2, e2]
        exact gcd_lp b z (y % z) m (by rw [Nat.pow_succ] at hy; omega) (by omega) (by omega) (by omega)
