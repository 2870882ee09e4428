/-! A TEXT read by the class (own work) -/
/-- changed at most by a reading -/
def dF (o pr ca lv lw sd : Nat) (st : Nat → Nat) (f a j : Nat) : Prop := (f = 3 ∧ a = o) ∨ (f = 2 ∧ a = pr ∧ (j = 1 ∨ j = 3 ∨ j = 6 ∨ j = 14)) ∨ (f = 36 ∧ a = ca) ∨ (f = 27 ∧ (a = lv ∨ a = lw)) ∨ (f = 6 ∧ ∃ i, i < 16 ∧ a = st i) ∨ (f = 28 ∧ a = sd)
section CF
variable {o pr ca lv lw sa sd ta : Nat} {st : Nat → Nat} {others : Int} {T : Nat → Int} {m : Nat}
theorem fS.dF {k : Nat} {C C' : mA} (h : fS o pr ca lv lw st k C C') (f a j : Nat) (q : ¬ dF o pr ca lv lw sd st f a j) : C' f a j = C f a j := h.2.2 f a j (fun r => q (by
  rcases r with r | r | r | r | ⟨r, i, r1, r2, r3⟩
  · exact Or.inl ⟨r.1, r.2.1⟩
  · refine Or.inr (Or.inl ⟨r.1, r.2.1, ?_⟩)
    omega
  · exact Or.inr (Or.inr (Or.inl ⟨r.1, r.2.1⟩))
  · exact Or.inr (Or.inr (Or.inr (Or.inl ⟨r.1, r.2.1⟩)))
  · exact Or.inr (Or.inr (Or.inr (Or.inr (Or.inl ⟨r, i, r2, r3⟩))))))
theorem fS.p14 {k : Nat} {C C' : mA} (h : fS o pr ca lv lw st k C C') : C' 2 pr 14 = C 2 pr 14 := h.2.2 2 pr 14 (fun r => by
  rcases r with r | r | r | r | r
  · exact absurd r.1 (by decide)
  · omega
  · exact absurd r.1 (by decide)
  · exact absurd r.1 (by decide)
  · exact absurd r.1 (by decide))
theorem fS.run {k : Nat} {C C' : mA} (h : fS o pr ca lv lw st k C C') (a j : Nat) : C' 28 a j = C 28 a j := h.2.2 28 a j (fun r => by
  rcases r with r | r | r | r | r <;> exact absurd r.1 (by decide))
theorem c_runs0 {ru : Nat} : ∀ (r n k : Nat) (A : mA), (A 4 ru 0).toNat = sd → k + r = 10 → r < n → ∃ A', f_Runs_clear_2 n A ru k = some (0, A') ∧ (∀ f a j, ¬ (f = 28 ∧ a = sd) → A' f a j = A f a j) ∧ (∀ j, j < k → A' 28 sd j = A 28 sd j) ∧ ∀ j, k ≤ j → j < 10 → A' 28 sd j = 0 := by
  intro r
  induction r with
  | zero =>
    intro n k A h1 h2 h3
    obtain ⟨n, rfl⟩ : ∃ q, n = q + 1 := ⟨n - 1, by omega⟩
    obtain rfl : k = 10 := by omega
    exact ⟨A, rfl, fun _ _ _ _ => rfl, fun _ _ => rfl, fun j a b => by omega⟩
  | succ r ih =>
    intro n k A h1 h2 h3
    obtain ⟨n, rfl⟩ : ∃ q, n = q + 1 := ⟨n - 1, by omega⟩
    obtain ⟨A', x1, x2, x3, x4⟩ := ih n (k + 1) (mu A 28 sd k 0) h1 (by omega) (by omega)
    refine ⟨A', ?_, fun f a j q => ?_, fun j q => ?_, fun j a b => ?_⟩
    · rw [f_Runs_clear_2, if_pos (show g32 (k : Int) by unfold g32; omega), if_neg (show ¬ (10 : Int) ≤ (k : Int) by omega), if_pos (show 0 ≤ (k : Int) ∧ (k : Int) < ((10 : Nat) : Int) by omega), h1, Int.toNat_natCast]
      exact x1
    · rw [x2 f a j q, mu_ne _ _ (fun r => q ⟨r.1, r.2.1⟩)]
    · rw [x3 j (by omega), mu_ne _ _ (fun r => by omega)]
    · by_cases e : j = k
      · rw [e, x3 k (by omega), mu_at]
      · exact x4 j (by omega) b
/-- what the class reads is what the spec says -/
theorem c_fault (hst : ∀ i, i < 16 → ∀ j, j < 16 → st i = st j → i = j) (hot : g32 others) (h120 : m ≤ 120) (hT : ∀ j, j < 120 → 0 ≤ T j ∧ T j ≤ 255) {C : mA} (ht : ∀ j, j < 120 → C 20 ta j = T j) (h0 : (C 2 pr 0).toNat = sa) (hs : ∀ i, i < 16 → (C 25 sa i).toNat = st i) (h2 : C 2 pr 2 = ca) (h4 : C 2 pr 4 = lv) (h5 : C 2 pr 5 = lw) (hl : lv ≠ lw) (h12 : (C 4 (C 2 pr 12).toNat 0).toNat = sd) : ∃ z C', f_Read_faultOf5 C o ta m pr others = some (z, C') ∧ (∀ f a j, ¬ dF o pr ca lv lw sd st f a j → C' f a j = C f a j) ∧ C' 2 pr 14 = -1 ∧ (∀ j, j < 10 → C' 28 sd j = 0) ∧ kCase (kProg T m others) (fun b => z = b) (fun x => z = -1 ∧ C' 2 pr 1 = x.2.length ∧ stAll pr ca lv lw st C' 0 x.2 ∧ C' 2 pr 3 ≤ 120 ∧ C' 2 pr 6 ≤ 60) := by
  unfold f_Read_faultOf5
  rw [if_pos (show g32 (m : Int) by unfold g32; omega), if_pos (show g32 ((120 : Nat) : Int) by decide)]
  obtain ⟨A1, hA1⟩ : ∃ A1, A1 = mu (mu (mu C 3 o 0 ((ta : Nat) : Int)) 3 o 1 (min (m : Int) ((120 : Nat) : Int))) 3 o 2 ((pr : Nat) : Int) := ⟨_, rfl⟩
  rw [← hA1]
  have a2 : A1 3 o 2 = pr := by
    rw [hA1]
    exact mu_at _ _ _ _ _
  rw [a2, if_pos (show 0 ≤ ((pr : Nat) : Int) by omega), Int.toNat_natCast]
  unfold f_Prog_clear f_Runs_clear
  have e1 : ∀ f a j, ¬ (f = 3 ∧ a = o) → A1 f a j = C f a j := fun f a j q => by
    rw [hA1, mu_ne _ _ (fun r => q ⟨r.1, r.2.1⟩), mu_ne _ _ (fun r => q ⟨r.1, r.2.1⟩), mu_ne _ _ (fun r => q ⟨r.1, r.2.1⟩)]
  obtain ⟨A2, hA2⟩ : ∃ A2, A2 = mu (mu (mu (mu A1 2 pr 1 0) 2 pr 3 0) 2 pr 6 0) 2 pr 14 (-1) := ⟨_, rfl⟩
  rw [← hA2]
  have e2 : ∀ f a j, ¬ (f = 2 ∧ a = pr ∧ (j = 1 ∨ j = 3 ∨ j = 6 ∨ j = 14)) → A2 f a j = A1 f a j := fun f a j q => by
    rw [hA2, mu_ne _ _ (fun r => q ⟨r.1, r.2.1, by omega⟩), mu_ne _ _ (fun r => q ⟨r.1, r.2.1, by omega⟩), mu_ne _ _ (fun r => q ⟨r.1, r.2.1, by omega⟩), mu_ne _ _ (fun r => q ⟨r.1, r.2.1, by omega⟩)]
  obtain ⟨A3, x1, x2, -, x4⟩ := c_runs0 (ru := (A1 2 pr 12).toNat) (sd := sd) 10 20 0 A2 (by
    rw [e2 4 _ _ (fun r => absurd r.1 (by decide)), e1 4 _ _ (fun r => absurd r.1 (by decide)), e1 2 _ _ (fun r => absurd r.1 (by decide))]
    exact h12) rfl (by omega)
  have x1' : f_Runs_clear_2 20 A2 (A1 2 pr 12).toNat 0 = some (0, A3) := x1
  rw [x1', obind]
  show ∃ z C', Option.bind (f_Read_advance (mu (mu (mu A3 3 o 3 others) 3 o 4 0) 3 o 5 0) o) _ = _ ∧ _
  obtain ⟨A4, hA4⟩ : ∃ A4, A4 = mu (mu (mu A3 3 o 3 others) 3 o 4 0) 3 o 5 0 := ⟨_, rfl⟩
  rw [← hA4]
  have e4 : ∀ f a j, ¬ (f = 3 ∧ a = o) → A4 f a j = A3 f a j := fun f a j q => by
    rw [hA4, mu_ne _ _ (fun r => q ⟨r.1, r.2.1⟩), mu_ne _ _ (fun r => q ⟨r.1, r.2.1⟩), mu_ne _ _ (fun r => q ⟨r.1, r.2.1⟩)]
  have o4 : ∀ j, j ≠ 3 → j ≠ 4 → j ≠ 5 → A4 3 o j = A1 3 o j := fun j q3 q4 q5 => by
    rw [hA4, mu_ne _ _ (fun r => q5 r.2.2), mu_ne _ _ (fun r => q4 r.2.2), mu_ne _ _ (fun r => q3 r.2.2), x2 3 o j (fun r => absurd r.1 (by decide)), e2 3 o j (fun r => absurd r.1 (by decide))]
  -- what is far from all that
  have eF : ∀ f a j, ¬ dF o pr ca lv lw sd st f a j → A4 f a j = C f a j := fun f a j q => by
    rw [e4 f a j (fun r => q (Or.inl r)), x2 f a j (fun r => q (Or.inr (Or.inr (Or.inr (Or.inr (Or.inr r)))))), e2 f a j (fun r => q (Or.inr (Or.inl r))), e1 f a j (fun r => q (Or.inl r))]
  have p4 : ∀ j, A4 2 pr j = A2 2 pr j := fun j => by
    rw [e4 2 pr j (fun r => absurd r.1 (by decide)), x2 2 pr j (fun r => absurd r.1 (by decide))]
  have p5 : ∀ j, ¬ (j = 1 ∨ j = 3 ∨ j = 6 ∨ j = 14) → A4 2 pr j = C 2 pr j := fun j q => by
    rw [p4, e2 2 pr j (fun r => q r.2.2), e1 2 pr j (fun r => absurd r.1 (by decide))]
  have z1 : A2 2 pr 1 = 0 ∧ A2 2 pr 3 = 0 ∧ A2 2 pr 6 = 0 ∧ A2 2 pr 14 = -1 := by
    rw [hA2]
    refine ⟨?_, ?_, ?_, ?_⟩ <;> simp [mu_r]
  have t4 : A4 3 o 0 = ta := by
    rw [o4 0 (by decide) (by decide) (by decide), hA1]
    simp [mu_r]
  have m4 : A4 3 o 1 = m := by
    rw [o4 1 (by decide) (by decide) (by decide), hA1]
    simp [mu_r]
    omega
  have b4 : bC A4 o T m := ⟨by rw [t4]; omega, m4, h120, fun j hj => by
    rw [t4, Int.toNat_natCast, e4 20 _ _ (fun r => absurd r.1 (by decide)), x2 20 _ _ (fun r => absurd r.1 (by decide)), e2 20 _ _ (fun r => absurd r.1 (by decide)), e1 20 _ _ (fun r => absurd r.1 (by decide))]
    exact ⟨ht j hj, hT j hj⟩⟩
  have o44 : A4 3 o 4 = ((0 : Nat) : Int) := by
    rw [hA4]
    simp [mu_r]
  have o43 : A4 3 o 3 = others := by
    rw [hA4]
    simp [mu_r]
  have o45 : A4 3 o 5 = 0 := by
    rw [hA4]
    simp [mu_r]
  obtain ⟨C5, y1, y2, y3⟩ := c_advance b4 o44 (Nat.zero_le m)
  have f5 : ∀ f a j, f ≠ 3 → C5 f a j = A4 f a j := fun f a j q => y2 f a j (fun r => q r.1)
  have s5 : cSt o pr ca lv lw sa st others T m C5 0 0 := by
    refine ⟨⟨⟨⟨b4.fr y2 (by decide) (by decide), ?_, ?_, ?_, ?_⟩, y3, Nat.zero_le m, ?_⟩, ?_, ?_, hl, ?_, ?_⟩, ?_, ?_, by decide, fun i hi => ?_, ?_⟩
    · rw [y2 3 o 2 (fun r => absurd r.2.2 (by decide)), o4 2 (by decide) (by decide) (by decide)]
      exact a2
    · rw [f5 2 pr 2 (by decide), p5 2 (by decide)]
      exact h2
    · rw [f5 2 pr 3 (by decide), p4, z1.2.1]
      decide
    · rw [f5 2 pr 3 (by decide), p4, z1.2.1]
      decide
    · rw [f5 2 pr 3 (by decide), p4, z1.2.1]
      decide
    · rw [f5 2 pr 4 (by decide), p5 4 (by decide)]
      exact h4
    · rw [f5 2 pr 5 (by decide), p5 5 (by decide)]
      exact h5
    · rw [f5 2 pr 6 (by decide), p4, z1.2.2.1]
      decide
    · rw [f5 2 pr 6 (by decide), p4, z1.2.2.1]
      decide
    · rw [f5 2 pr 0 (by decide), p5 0 (by decide)]
      exact h0
    · rw [f5 2 pr 1 (by decide), p4, z1.1]
      rfl
    · rw [f5 25 sa i (by decide), eF 25 sa i (fun r => by rcases r with r | r | r | r | r | r <;> exact absurd r.1 (by decide))]
      exact hs i hi
    · rw [y2 3 o 3 (fun r => absurd r.2.2 (by decide))]
      exact o43
  have o5 : C5 3 o 5 = 4 - ((4 : Nat) : Int) := by
    rw [y2 3 o 5 (fun r => absurd r.2.2 (by decide)), o45]
    decide
  rw [y1, obind]
  show ∃ z C', Option.bind (f_Read_readBlock (f_Read_stepN 5) C5 o) _ = _ ∧ _
  obtain ⟨z, C6, v1, v2, v4⟩ := c_block hst (c_stepN (o := o) (pr := pr) (ca := ca) (lv := lv) (lw := lw) (sa := sa) hst hot h120 hT 4 (by decide) 5 (by decide)) (kStep_pr h120 hT others 4) C5 0 0 s5 o5
  have fF : ∀ f a j, ¬ dF o pr ca lv lw sd st f a j → C6 f a j = C f a j := fun f a j q => by
    rw [v2.dF f a j q, y2 f a j (fun r => q (Or.inl ⟨r.1, r.2.1⟩)), eF f a j q]
  have f14 : C6 2 pr 14 = -1 := by
    rw [v2.p14, f5 2 pr 14 (by decide), p4]
    exact z1.2.2.2
  have f28 : ∀ j, j < 10 → C6 28 sd j = 0 := fun j hj => by
    rw [v2.run, f5 28 _ _ (by decide), e4 28 _ _ (fun r => absurd r.1 (by decide))]
    exact x4 j (Nat.zero_le j) hj
  rw [v1, obind]
  unfold kProg
  cases hq : kBlock T m (kStep T m others 4) 0 0 with
  | inl b =>
    rw [hq] at v4
    obtain ⟨w1, w2⟩ := v4
    subst w1
    exact ⟨C6 3 o 6, C6, rfl, fF, f14, f28, w2⟩
  | inr x =>
    rw [hq] at v4
    obtain ⟨w1, w2, w3, w4⟩ := v4
    subst w1
    obtain ⟨-, -, -, -, g5, -⟩ := w2.1.1.good
    obtain ⟨-, e6, e7, -⟩ := w2.1.1.2.1
    rw [kThen_r]
    show ∃ z C', (if g32 (1 : Int) then if (1 : Int) = 0 then some (C6 3 o 6, C6) else if g32 (C6 3 o 7) then if C6 3 o 7 = 0 then some (-1, C6) else some (C6 3 o 6, C6) else none else none) = _ ∧ _
    rw [if_pos (show g32 (1 : Int) by decide), if_neg (show ¬ (1 : Int) = 0 by decide), e7, if_pos (show g32 _ by unfold g32; omega)]
    by_cases c : tkS (kTok T m x.1) = 0
    · rw [if_pos c, if_pos c]
      have b3 := w2.1.1.2.2.2
      have bp := w2.1.1.2.2.1
      have b6 := w2.1.2.2.2.2.2
      refine ⟨-1, C6, rfl, fF, f14, f28, rfl, ?_, w4, by omega, by omega⟩
      have := w2.2.2.1
      rw [Nat.zero_add] at this
      exact this
    · rw [if_neg c, if_neg c]
      exact ⟨C6 3 o 6, C6, rfl, fF, f14, f28, e6⟩
end CF
