/-! program() of the class from its Program on, exactly (own work) -/
/-- a Program as it stands: its codes, lots and steps apart -/
def cPg (C : mA) (pr : Nat) : Prop := 0 ≤ C 2 pr 2 ∧ 0 ≤ C 2 pr 4 ∧ 0 ≤ C 2 pr 5 ∧ C 2 pr 4 ≠ C 2 pr 5 ∧ ∀ i, i < 16 → ∀ j, j < 16 → (C 25 (C 2 pr 0).toNat i).toNat = (C 25 (C 2 pr 0).toNat j).toNat → i = j
/-- changed at most by program() of the class -/
def dX (x pr rd : Nat) (C : mA) (f a j : Nat) : Prop := dF rd pr (C 2 pr 2).toNat (C 2 pr 4).toNat (C 2 pr 5).toNat (C 4 (C 2 pr 12).toNat 0).toNat (fun i => (C 25 (C 2 pr 0).toNat i).toNat) f a j ∨ (f = 2 ∧ a = pr ∧ 8 ≤ j ∧ j ≤ 11) ∨ (f = 8 ∧ a = x ∧ (j = 1 ∨ j = 3))
/-- what is kept beside the steps -/
def cPx (pr sd N : Nat) (c : Nat → kS) (sE : Int → Int) (C9 : mA) : Prop := C9 2 pr 3 ≤ 120 ∧ C9 2 pr 6 ≤ 60 ∧ C9 2 pr 10 = nmS c N N ∧ C9 2 pr 11 = ssS c sE N N ∧ C9 2 pr 14 = -1 ∧ ∀ j, j < 10 → C9 28 sd j = 0
/-- what program() leaves in the class -/
def cPq (P : Nat) (T : Nat → Int) (m x pr : Nat) (C : mA) (pE : Nat → Nat) (bE tE sE : Int → Int) (z : Int) (C9 : mA) : Prop := (∀ f a j, ¬ dX x pr (C 8 x 9).toNat C f a j → C9 f a j = C f a j) ∧ C9 8 x 1 = 0 ∧ kCase (kProg T m P) (fun b => z = -100 - b ∧ C9 8 x 3 = P) (fun y => (50 < tsm (gv (Fb (fun i => y.2.getD i kS0) bE) 16) (fun i => y.2.getD i kS0) 16 0 y.2.length ∨ 60 < tsm (gv (Ft (fun i => y.2.getD i kS0) tE) 16) (fun i => y.2.getD i kS0) 16 0 y.2.length) ∧ z = -4 ∧ C9 8 x 3 = P ∨ ¬ (50 < tsm (gv (Fb (fun i => y.2.getD i kS0) bE) 16) (fun i => y.2.getD i kS0) 16 0 y.2.length ∨ 60 < tsm (gv (Ft (fun i => y.2.getD i kS0) tE) 16) (fun i => y.2.getD i kS0) 16 0 y.2.length) ∧ z = P ∧ C9 8 x 3 = (P : Int) + 1 ∧ C9 2 pr 8 = tsm (gv (Fb (fun i => y.2.getD i kS0) bE) 16) (fun i => y.2.getD i kS0) 16 0 y.2.length ∧ C9 2 pr 9 = tsm (gv (Ft (fun i => y.2.getD i kS0) tE) 16) (fun i => y.2.getD i kS0) 16 0 y.2.length ∧ (C9 2 pr 11 = 0 ∨ C9 2 pr 11 = 1) ∧ (0 ≤ C9 2 pr 8 ∧ 0 ≤ C9 2 pr 9 ∧ cPx pr (C 4 (C 2 pr 12).toNat 0).toNat y.2.length (fun i => y.2.getD i kS0) sE C9) ∧ ∃ C3 C8, C3 2 pr 1 = (y.2.length : Int) ∧ stAll pr (C 2 pr 2).toNat (C 2 pr 4).toNat (C 2 pr 5).toNat (fun i => (C 25 (C 2 pr 0).toNat i).toNat) C3 0 y.2 ∧ cWg pr y.2.length 0 (fun i => (C 25 (C 2 pr 0).toNat i).toNat) (fun i => y.2.getD i kS0) pE bE tE sE C3 C8 ∧ C9 = mu C8 8 x 3 ((P : Int) + 1))
section CP
variable {P m x pr oa : Nat} {T : Nat → Int} {pE : Nat → Nat} {bE tE sE : Int → Int}
theorem c_prog44 {C : mA} (hP : P < 6) (h120 : m ≤ 120) (hT : ∀ j, j < 120 → 0 ≤ T j ∧ T j ≤ 255) (ht : ∀ j, j < 120 → C 20 (C 8 x 0).toNat j = T j) (h1 : C 8 x 1 = m) (h3 : C 8 x 3 = P) (h2 : (C 8 x 2).toNat = oa) (hg : cPg C pr) (hE : cEl P oa pE bE tE sE C) (hpE : ∀ u, u < P → pE u ≠ pr) : ∃ z C9, f_CS_program_44 C x pr = some (z, C9) ∧ cPq P T m x pr C pE bE tE sE z C9 := by
  obtain ⟨g2, g4, g5, g45, hst⟩ := hg
  obtain ⟨z, C2, x1, x2, x3, x4, x5⟩ := c_fault (o := (C 8 x 9).toNat) (pr := pr) (ca := (C 2 pr 2).toNat) (lv := (C 2 pr 4).toNat) (lw := (C 2 pr 5).toNat) (sa := (C 2 pr 0).toNat) (sd := (C 4 (C 2 pr 12).toNat 0).toNat) (ta := (C 8 x 0).toNat) (st := fun i => (C 25 (C 2 pr 0).toNat i).toNat) (others := (P : Int)) (T := T) (m := m) hst (by unfold g32; omega) h120 hT ht rfl (fun i _ => rfl) (by omega) (by omega) (by omega) (by omega) rfl
  unfold f_CS_program_44 cPq
  rw [h1, h3, x1, obind]
  have e8 : ∀ j, C2 8 x j = C 8 x j := fun j => x2 8 x j (fun r => by
    rcases r with r | r | r | r | r | r <;> exact absurd r.1 (by decide))
  have fr : ∀ f a j, ¬ dX x pr (C 8 x 9).toNat C f a j → C2 f a j = C f a j := fun f a j q => x2 f a j (fun r => q (Or.inl r))
  have fr1 : ∀ f a j, ¬ dX x pr (C 8 x 9).toNat C f a j → mu C2 8 x 1 0 f a j = C f a j := fun f a j q => by
    rw [mu_ne _ _ (fun r => q (Or.inr (Or.inr ⟨r.1, r.2.1, Or.inl r.2.2⟩)))]
    exact fr f a j q
  cases hq : kProg T m P with
  | inl b =>
    rw [hq] at x5
    have x5 : z = b := x5
    have hb := kProg_fl h120 hT hq
    rw [if_pos (show g32 z by unfold g32; omega), if_neg (show ¬ z = -1 by omega)]
    exact ⟨_, _, rfl, fr1, mu_at _ _ _ _ _, by rw [x5], (show mu C2 8 x 1 0 8 x 3 = P from (e8 3).trans h3)⟩
  | inr y =>
    rw [hq] at x5
    obtain ⟨z1, n1, sall, b3, b6⟩ := x5
    subst z1
    have hk : kBlock T m (kStep T m P 4) 0 0 = .inr y := by
      unfold kProg at hq
      cases hq2 : kBlock T m (kStep T m P 4) 0 0 with
      | inl b2 => rw [hq2] at hq; cases hq
      | inr y2 =>
        rw [hq2, kThen_r] at hq
        by_cases c : tkS (kTok T m y2.1) = 0
        · rw [if_pos c] at hq
          cases hq
          rfl
        · rw [if_neg c] at hq
          cases hq
    have ok := okN_of h120 hT hk
    rw [if_pos (show g32 (-1 : Int) by decide), if_pos (show (-1 : Int) = -1 from rfl)]
    dsimp only
    rw [e8 2, h2]
    have tb : cTb pr (C 2 pr 0).toNat (fun i => (C 25 (C 2 pr 0).toNat i).toNat) (mu C2 8 x 1 0) := by
      refine ⟨?_, fun i hi => ?_⟩
      · show (C2 2 pr 0).toNat = _
        rw [x2 2 pr 0 (fun r => by rcases r with r | r | r | r | r | r <;> omega)]
      · show (C2 25 _ i).toNat = _
        rw [x2 25 _ i (fun r => by rcases r with r | r | r | r | r | r <;> omega)]
    have hB : ∀ i, i < y.2.length → stIs pr (C 2 pr 2).toNat (C 2 pr 4).toNat (C 2 pr 5).toNat (fun i => (C 25 (C 2 pr 0).toNat i).toNat) (mu C2 8 x 1 0) i (y.2.getD i kS0) := fun i hi => by
      have := sall i hi
      rw [Nat.zero_add] at this
      exact this.far (fun j => rfl) (fun f a j hf => by rcases hf with rfl | rfl <;> rfl) ⟨rfl, rfl⟩
    have hE9 : cEl P oa pE bE tE sE (mu C2 8 x 1 0) := ⟨hP, fun u hu => by
      obtain ⟨p1, p2, ⟨p3, p4, p5⟩, p6⟩ := hE.2 u hu
      have e21 : mu C2 8 x 1 0 21 oa u = C 21 oa u := x2 21 oa u (fun r => by rcases r with r | r | r | r | r | r <;> omega)
      have e2 : ∀ j, 8 ≤ j → j ≤ 11 → mu C2 8 x 1 0 2 (pE u) j = C 2 (pE u) j := fun j q1 q2 => x2 2 (pE u) j (fun r => by rcases r with r | r | r | r | r | r <;> omega)
      rw [e21, e2 8 (by decide) (by decide), e2 9 (by decide) (by decide), e2 11 (by decide) (by decide)]
      exact ⟨p1, p2, ⟨p3, p4, p5⟩, p6⟩⟩
    obtain ⟨C8, v1, v2, v3, v4, v5, v6, v7⟩ := c_weigh (oa := oa) hst ok tb (show mu C2 8 x 1 0 2 pr 1 = (y.2.length : Int) from n1) hB hE9 hpE
    have bE3 : ∀ u, 0 ≤ u → u < (P : Int) → 0 ≤ bE u ∧ bE u ≤ 50 := fun u q1 q2 => by
      have := (hE.2 u.toNat (by omega)).2.2.2.1
      rw [Int.toNat_of_nonneg q1] at this
      exact this
    have tE3 : ∀ u, 0 ≤ u → u < (P : Int) → 0 ≤ tE u ∧ tE u ≤ 60 := fun u q1 q2 => by
      have := (hE.2 u.toNat (by omega)).2.2.2.2.1
      rw [Int.toNat_of_nonneg q1] at this
      exact this
    have rb := tot_bd (v := gv (Fb (fun i => y.2.getD i kS0) bE) 16) ok (fun i hi => bits_bd ok bE3 hi)
    have rt := tot_bd (v := gv (Ft (fun i => y.2.getD i kS0) tE) 16) ok (fun i hi => turns_bd ok tE3 hi)
    rw [v1, obind]
    have f8 : ∀ f a j, ¬ dX x pr (C 8 x 9).toNat C f a j → C8 f a j = C f a j := fun f a j q => by
      rw [v2.1 f a j (fun r => q (by
        rcases r with ⟨r1, ⟨i, r2, r3, r4⟩, r5⟩ | r
        · exact Or.inl (Or.inr (Or.inr (Or.inr (Or.inr (Or.inl ⟨r1, i, by have := ok.1; omega, r4⟩)))))
        · exact Or.inr (Or.inl r)))]
      exact fr1 f a j q
    have x8 : ∀ j, j ≠ 1 → C8 8 x j = C 8 x j := fun j hj => by
      rw [v2.1 8 x j (fun r => by rcases r with r | r <;> exact absurd r.1 (by decide)), mu_ne _ _ (fun r => hj r.2.2)]
      exact e8 j
    have x81 : C8 8 x 1 = 0 := by
      rw [v2.1 8 x 1 (fun r => by rcases r with r | r <;> exact absurd r.1 (by decide))]
      exact mu_at _ _ _ _ _
    rw [if_pos (show g32 (C8 2 pr 8) by rw [v3]; unfold g32; omega)]
    by_cases q1 : 50 < tsm (gv (Fb (fun i => y.2.getD i kS0) bE) 16) (fun i => y.2.getD i kS0) 16 0 y.2.length
    · rw [if_pos (show 50 < C8 2 pr 8 by rw [v3]; exact q1)]
      exact ⟨_, _, rfl, f8, x81, Or.inl ⟨Or.inl q1, rfl, (x8 3 (by decide)).trans h3⟩⟩
    rw [if_neg (show ¬ 50 < C8 2 pr 8 by rw [v3]; exact q1), if_pos (show g32 (C8 2 pr 9) by rw [v4]; unfold g32; omega)]
    by_cases q2 : tsm (gv (Ft (fun i => y.2.getD i kS0) tE) 16) (fun i => y.2.getD i kS0) 16 0 y.2.length ≤ 60
    · rw [if_pos (show C8 2 pr 9 ≤ 60 by rw [v4]; exact q2)]
      dsimp only
      rw [x8 3 (by decide), h3]
      have w2 : ∀ j, j < 8 ∨ 11 < j → C8 2 pr j = C2 2 pr j := fun j hj => by
        rw [v2.1 2 pr j (fun r => by
          rcases r with r | r
          · exact absurd r.1 (by decide)
          · omega)]
        rfl
      have w28 : ∀ j, j < 10 → C8 28 (C 4 (C 2 pr 12).toNat 0).toNat j = 0 := fun j hj => by
        rw [v2.1 28 _ j (fun r => by
          rcases r with r | r
          · exact absurd r.1 (by decide)
          · exact absurd r.1 (by decide))]
        exact x4 j hj
      have ex : cPx pr (C 4 (C 2 pr 12).toNat 0).toNat y.2.length (fun i => y.2.getD i kS0) sE (mu C8 8 x 3 ((P : Int) + 1)) := by
        refine ⟨?_, ?_, v5, v6, ?_, w28⟩
        · show C8 2 pr 3 ≤ 120
          rw [w2 3 (by omega)]
          exact b3
        · show C8 2 pr 6 ≤ 60
          rw [w2 6 (by omega)]
          exact b6
        · show C8 2 pr 14 = -1
          rw [w2 14 (by omega)]
          exact x3
      refine ⟨_, _, rfl, fun f a j q => ?_, x81, Or.inr ⟨?_, by omega, mu_at _ _ _ _ _, v3, v4, ?_, ⟨?_, ?_, ex⟩, mu C2 8 x 1 0, C8, (show mu C2 8 x 1 0 2 pr 1 = (y.2.length : Int) from n1), fun i hi => ?_, v2, rfl⟩⟩
      · rw [mu_ne _ _ (fun r => q (Or.inr (Or.inr ⟨r.1, r.2.1, Or.inr r.2.2⟩)))]
        exact f8 f a j q
      · intro q3
        rcases q3 with q3 | q3
        · exact q1 q3
        · omega
      · show C8 2 pr 11 = 0 ∨ C8 2 pr 11 = 1
        rw [v6]
        exact v7
      · show 0 ≤ C8 2 pr 8
        rw [v3]
        exact rb.1
      · show 0 ≤ C8 2 pr 9
        rw [v4]
        exact rt.1
      · have := hB i hi
        rw [Nat.zero_add]
        exact this
    · rw [if_neg (show ¬ C8 2 pr 9 ≤ 60 by rw [v4]; exact q2)]
      exact ⟨_, _, rfl, f8, x81, Or.inl ⟨Or.inr (by omega), rfl, (x8 3 (by decide)).trans h3⟩⟩
end CP
