/-! walk -/
theorem ok_walk : OK_walk Inv := by
  intro k b σ hk hI
  obtain ⟨n, hn, n1, n2, n3⟩ := hI.2.1
  have hb : BT n (fun j => (σ.1 45 j).toNatClampNeg) σ := by
    refine ⟨hn, fun j hj => ?_⟩
    obtain ⟨v, v1, v2, v3⟩ := n3 j hj
    have e : (σ.1 45 j).toNatClampNeg = v := by rw [v2, nI_clamp (by omega)]
    dsimp only
    rw [e]
    exact ⟨v1, v2, v3⟩
  generalize (fun j => (σ.1 45 j).toNatClampNeg) = B at hb
  obtain ⟨α, a1, a2, a3, a4⟩ := c_read hb n1
  have fa : FE [15, 16, 17, 18, 19, 20, 21] [(5, 1), (6, 2), (6, 3), (6, 4), (6, 5), (6, 1)] σ (sup α 6 1 0) := (a2.trans FE_sup).up (by decide) (by decide)
  have h51 : gf (sup α 6 1 0) 5 1 = α.1 5 1 := by rw [gf_eq, sup_ne (by decide)]
  unfold fX10_walk
  rw [a1, Option.bind_some, h51]
  cases hr : endR (allY B n).2 with
  | inl p =>
    rw [hr] at a3
    obtain ⟨_, x1, x2, x3, x4⟩ := a3
    rw [x1, if_neg (show ¬ nI p.1 = (0 : Int32) from q0 (by omega))]
    have fb : FE [15, 16, 17, 18, 19, 20, 21] [(5, 1), (6, 2), (6, 3), (6, 4), (6, 5), (6, 1), (0, 10)] σ (sup (sup α 6 1 0) 0 10 (nI p.1)) := (fa.trans FE_sup).up (by decide) (by decide)
    obtain ⟨τ, t1, t2, t3, t4, _⟩ := m_read (hb.fr fb (by decide)) ((fb 38 11 (by decide) (by simp)).trans n2)
    rw [hr] at t4
    obtain ⟨_, T0, _, y1, y2, y3, y4⟩ := t4
    have y1' : gf τ 38 18 = nI p.1 := y1
    have e1 : gf (sup (sup α 6 1 0) 0 10 (nI p.1)) 6 3 = nI p.2 := by rw [gf_eq, sup_ne (by decide), sup_at, if_neg (by decide)]; exact x4
    have e2 : gf (sup τ 38 12 (nI p.1)) 38 19 = nI p.2 := by rw [gf_eq, sup_at, if_neg (by decide)]; exact y4
    have ft : FE [15, 16, 17, 18, 19, 20, 21, 43] [(5, 1), (6, 2), (6, 3), (6, 4), (6, 5), (6, 1), (0, 10), (38, 0), (38, 11), (38, 13), (38, 14), (38, 15), (38, 16), (38, 17), (38, 18), (38, 19), (38, 12)] σ (sup τ 38 12 (nI p.1)) := (fb.trans (t2.trans FE_sup)).up (by decide) (by decide)
    refine ⟨_, (-1000100 - nI p.2, sup τ 38 12 (nI p.1)), rfl, ?_, ?_, ?_⟩
    · show fX11_walk (sup (sup α 6 1 0) 0 10 (nI p.1)) = _
      rw [t1]
      unfold fX11_walk_J136
      rw [y1', if_neg (by rw [show (0 : Int32) = nI 0 from rfl, nI_leI (by omega) (by omega)]; omega), e2]
    · show -1000100 - gf (sup (sup α 6 1 0) 0 10 (nI p.1)) 6 3 = _
      rw [e1]
    · have hU := hI.up
      refine ⟨hU.1.fr ft (by decide), ⟨0, by omega, ?_, ?_, fun j hj => absurd hj (Nat.not_lt_zero _)⟩, ⟨?_, ?_⟩, hU.2.2.2.1.fr ft (by decide), hU.2.2.2.2.fr ft (by decide) (by decide) (by decide)⟩
      · rw [sup_ne (by decide), t2 6 1 (by decide) (by simp), sup_ne (by decide), sup_at, if_pos ⟨rfl, rfl⟩]; rfl
      · rw [sup_at, if_neg (by decide), t3]; rfl
      · rw [ft 0 11 (by decide) (by simp), ft 38 1 (by decide) (by simp)]; exact hI.2.2.1.1
      · rw [sup_ne (by decide), t2 0 10 (by decide) (by simp), sup_at, if_pos ⟨rfl, rfl⟩, sup_at, if_pos ⟨rfl, rfl⟩]
  | inr T =>
    rw [hr] at a3
    obtain ⟨_, x1, _⟩ := a3
    rw [x1, if_pos rfl]
    obtain ⟨d0, dT, dS⟩ := a4 T hr
    have hv : VW (allY B n).1 := rdY_G 10 _ _ (allS_G B n) T (endR_in hr)
    have h5 := hv.1.2.2.1
    have h9 := hv.1.2.2.2.1
    have A : ∀ d j, 15 ≤ d → (sup α 6 1 0).1 d j = α.1 d j := fun d j hd => by rw [sup_ne (by omega)]
    obtain ⟨β, b1, b2, b3⟩ := becomeAs_8_15_spec (σ := sup α 6 1 0) (Or.inr ((A 15 0 (by omega)).trans d0))
    have ff : fX0_forgetAll β = some (sup β 23 2 0) := rfl
    rw [b1, Option.bind_some, ff, Option.bind_some]
    have fb : FE [15, 16, 17, 18, 19, 20, 21, 8, 9, 10, 11, 12, 13, 14] [(5, 1), (6, 2), (6, 3), (6, 4), (6, 5), (6, 1), (23, 2)] σ (sup β 23 2 0) := (fa.trans (b2.trans FE_sup)).up (by decide) (by decide)
    obtain ⟨τ, t1, t2, t3, t4, t5⟩ := m_read (hb.fr fb (by decide)) ((fb 38 11 (by decide) (by simp)).trans n2)
    rw [hr] at t4
    obtain ⟨⟨m0, m1, m2, m3, m4, m5⟩, mz⟩ := t5 T hr
    have z0 := t4.z
    obtain ⟨κ, k1, k2, k3⟩ := m_copy (sup (sup τ 38 7 1) 38 9 0)
    have K : ∀ j, j < 77 → κ.1 42 j = τ.1 43 j := fun j hj => by rw [k3 j hj, sup_ne (by decide), sup_ne (by decide)]
    have fk : FE [43, 42] [(38, 0), (38, 11), (38, 13), (38, 14), (38, 15), (38, 16), (38, 17), (38, 18), (38, 19), (38, 7), (38, 9)] (sup β 23 2 0) κ := (t2.trans ((FE_sup (c := 38) (j := 7) (v := 1)).trans ((FE_sup (c := 38) (j := 9) (v := 0)).trans k2))).up (by decide) (by decide)
    have ft : FE [15, 16, 17, 18, 19, 20, 21, 8, 9, 10, 11, 12, 13, 14, 43, 42] [(5, 1), (6, 2), (6, 3), (6, 4), (6, 5), (6, 1), (23, 2), (38, 0), (38, 11), (38, 13), (38, 14), (38, 15), (38, 16), (38, 17), (38, 18), (38, 19), (38, 7), (38, 9)] σ κ := (fb.trans fk).up (by decide) (by decide)
    have e84 : (sup β 23 2 0).1 8 4 = nI ((allY B n).1 3) := by
      rw [sup_ne (by decide), b3.1 4 (by omega), A 15 4 (by omega)]; exact dT.2.2.2.1
    have e42 : ga κ 42 3 = nI ((allY B n).1 3) := (K 3 (by omega)).trans m3
    have g : ∀ c j, 8 ≤ c → c ≤ 14 → κ.1 c j = β.1 c j := fun c j h1 h2 => by
      rw [fk c j (by simp; omega) (by simp; omega), sup_ne (by omega)]
    have dT' : TRep (sup α 6 1 0) 15 (allY B n).1 := dT
    have dS' : SRep ((sup α 6 1 0).1 (15 + 6)) 0 (allY B n).1 := by
      intro y hy
      obtain ⟨q1, q2, q3, q4⟩ := hv.2 y
      rw [q1, q2, q3, q4]
      show α.1 21 (0 + y) = _ ∧ α.1 21 (0 + 9 + y) = _ ∧ α.1 21 (0 + 18 + y) = _ ∧ α.1 21 (0 + 27 + y) = _
      rw [dS _ (by omega), dS _ (by omega), dS _ (by omega), dS _ (by omega), if_pos (by omega), if_neg (by omega), if_neg (by omega), if_neg (by omega)]
      exact ⟨rfl, rfl, rfl, rfl⟩
    refine ⟨_, (nI ((allY B n).1 3), κ), rfl, ?_, e84, fresh_fin (W := (allY B n).1) hI ft (by decide) (Or.inr ?_) ?_ (by decide) (by decide) ?_ ?_ ?_ ?_ ?_ ?_ ?_ ?_ ?_⟩
    · show fX11_walk (sup β 23 2 0) = _
      rw [t1]
      unfold fX11_walk_J136
      rw [z0, if_pos (by decide), k1, Option.bind_some, gd_t (show inb 3 77 = true by decide), e42]
    · refine ⟨0, by omega, ?_, ?_, fun j hj => absurd hj (Nat.not_lt_zero _)⟩
      · rw [fk 6 1 (by decide) (by simp), sup_ne (by decide), b2 6 1 (by decide) (by simp), sup_at, if_pos ⟨rfl, rfl⟩]; rfl
      · rw [k2 38 11 (by decide) (by simp), sup_at, if_neg (by decide), sup_at, if_neg (by decide), t3]; rfl
    · exact ⟨by rw [ft 0 11 (by decide) (by simp), ft 38 1 (by decide) (by simp)]; exact hI.2.2.1.1, by rw [ft 0 10 (by decide) (by simp), ft 38 12 (by decide) (by simp)]; exact hI.2.2.1.2⟩
    · rw [k2 38 7 (by decide) (by simp), sup_at, if_neg (by decide), sup_at, if_pos ⟨rfl, rfl⟩]
    · rw [g 8 0 (by omega) (by omega), b3.1 0 (by omega), A 15 0 (by omega)]; exact d0
    · obtain ⟨q0, q1, q2, q3, q4, q5⟩ := hv.1
      refine ⟨q0, q1, q2, q3, q4, fun y hy => ?_⟩
      obtain ⟨r1, r2, r3, r4, r5, r6, r7⟩ := q5 y hy
      exact ⟨r1, r2, r3, r4, r5, by omega, r7⟩
    · have t := b3.trep h5 h9 dT'
      unfold TRep at t ⊢
      show _ ∧ _ ∧ _ ∧ _ ∧ (∀ p, p < (allY B n).1 2 → κ.1 9 p = _ ∧ κ.1 10 p = _) ∧ ∀ y, y < (allY B n).1 3 → κ.1 11 y = _ ∧ κ.1 12 y = _ ∧ κ.1 13 y = _
      simp only [g 8 _ (by omega) (by omega), g 9 _ (by omega) (by omega), g 10 _ (by omega) (by omega), g 11 _ (by omega) (by omega), g 12 _ (by omega) (by omega), g 13 _ (by omega) (by omega)]
      exact t
    · rw [show κ.1 14 = β.1 14 from funext fun j => g 14 j (by omega) (by omega)]
      exact b3.srep h9 dS'
    · have hM : MRep (τ.1 43) (allY B n).1 := ⟨m0, m1, m2, m3, m4, m5⟩
      exact hM.cong h5 h9 K
    · rw [fk 23 2 (by decide) (by simp), sup_at, if_pos ⟨rfl, rfl⟩]
    · rw [k2 38 9 (by decide) (by simp), sup_at, if_pos ⟨rfl, rfl⟩]
    · rw [ft 23 1 (by decide) (by simp)]
