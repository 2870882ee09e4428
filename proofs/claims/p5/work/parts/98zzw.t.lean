/-! bits of a step, without the reader's counters (own work) -/
def mIsB (P : Nat) (M : mA) (i : Nat) (s : kS) : Prop := M 34 P i = sK s ∧ (sK s = 0 ∨ sK s = 4 ∨ sK s = 5 → M 36 P i = sU s) ∧ (sK s = 0 → ∃ n : Nat, M 40 P i = n ∧ n + (sL s).length ≤ 120 ∧ lotsM M P n (sL s)) ∧ M 37 P i = ((i + sI s : Nat) : Int) ∧ (sK s = 3 → M 38 P i = ((i + sO s : Nat) : Int))
def mTxB (P : Nat) (M : mA) (c : Nat → kS) (N : Nat) : Prop := P < 6 ∧ ∀ i, i < N → mIsB P M i (c i)
section MBB
variable {P N : Nat} {M : mA} {c : Nat → kS} {L : Int}
theorem m_bitsB {bE : Int → Int} (ht : mTxB P M c N) (ho : okN P c N) (hE : ∀ u : Nat, u < P → M 6 0 u = bE u ∧ 0 ≤ bE u ∧ bE u ≤ 50) : ∀ (n i : Nat), N ≤ n + i → i < N → f_Mo_bitsOfStepN n M P i = some (gv (Fb c bE) 16 i, M) := by
  have hE2 : ∀ u, 0 ≤ u → u < (P : Int) → 0 ≤ bE u ∧ bE u ≤ 50 := fun u h1 h2 => by
    have := hE u.toNat (by omega)
    rw [Int.toNat_of_nonneg h1] at this
    exact this.2
  obtain ⟨hP, hm⟩ := ht
  have h37 : ∀ i, i < N → M 37 P i = ((i + sI (c i) : Nat) : Int) := fun i hi => (hm i hi).2.2.2.1
  have hN := ho.1
  have bd : ∀ {L : Int} {a b : Nat}, tl c L 16 a b → b ≤ N → 0 ≤ tsm (gv (Fb c bE) 16) c 16 a b ∧ tsm (gv (Fb c bE) 16) c 16 a b ≤ 16 * 400221 := fun {L a b} t hb => by
    obtain ⟨q1, q2⟩ := tsm_bd (v := gv (Fb c bE) 16) (K := 400221) _ _ _ t (fun j p1 p2 p3 => by
      obtain ⟨r1, r2⟩ := bits_bd ho hE2 (show j < N by omega)
      have := (kW_r (ho.2.2 j (by omega)).1.2.1).2
      refine ⟨r1, Int.le_trans r2 (Int.mul_le_mul_of_nonneg_left this (by omega))⟩)
    have := tl_le _ _ _ t
    omega
  intro n
  induction n with
  | zero => intro i h1 h2; omega
  | succ n ih =>
    intro i h1 h2
    obtain ⟨⟨hK, hV, hI, h3, h4, h5, h0, -⟩, h9⟩ := ho.2.2 i h2
    obtain ⟨m1, m3, m6, m7, m8⟩ := hm i h2
    have hb : ∀ j : Nat, i + 1 ≤ j → j < N → f_Mo_bitsOfStepN n M P j = some (gv (Fb c bE) 16 j, M) := fun j q1 q2 => ih j (by omega) q2
    rw [gv_eq (Fb_c ho) hN h2]
    show f_Mo_bitsOfStep (f_Mo_bitsOfStepN n) M P i = _
    unfold f_Mo_bitsOfStep
    simp only [Int.toNat_natCast]
    rw [if_pos (show 0 ≤ (P : Int) ∧ (P : Int) < ((6 : Nat) : Int) by omega), if_pos (show 0 ≤ (i : Int) ∧ (i : Int) < ((16 : Nat) : Int) by omega), m1, if_pos (show g32 _ by unfold g32; omega)]
    by_cases c0 : sK (c i) = 0
    · obtain ⟨⟨k1, k2⟩, k3, k4, k5⟩ := h0 c0
      obtain ⟨n0, l1, l2, l3⟩ := m6 c0
      rw [if_pos c0, Fb_0 c0, m_lotsAll hP (by omega) ((m3 (Or.inl c0)).trans k2) l1 l3 (by omega) k4, obind]
      show Option.bind (f_JI_ntz M (kSumW (sL (c i)))) _ = _
      rw [m_ntz k1, obind]
    rw [if_neg c0]
    by_cases c1 : sK (c i) = 1
    · rw [if_pos c1, Fb_o (by omega) (by omega) (by omega) (by omega)]
    rw [if_neg c1]
    by_cases c2 : sK (c i) = 2
    · rw [if_pos c2, Fb_o (by omega) (by omega) (by omega) (by omega)]
    rw [if_neg c2]
    by_cases c3 : sK (c i) = 3
    · obtain ⟨-, o1, o2, t1, t2⟩ := h3 c3
      have b1 := m_bits6 (bst := f_Mo_bitsOfStepN n) (v := gv (Fb c bE) 16) hP hN hb h37 16 20 (i + 1) (i + sO (c i)) 0 (Nat.le_refl _) (by omega) t1 (by omega)
      have b2 := m_bits6 (bst := f_Mo_bitsOfStepN n) (v := gv (Fb c bE) 16) hP hN hb h37 16 20 (i + sO (c i)) (i + sI (c i)) 0 (by omega) h9 t2 (by omega)
      rw [Int.zero_add] at b1 b2
      have b1' : f_Mo_bitsOf (f_Mo_bitsOfStepN n) M P ((i : Int) + 1) (M 38 P i) = some (tsm (gv (Fb c bE) 16) c 16 (i + 1) (i + sO (c i)), M) := by
        rw [m8 c3]
        exact b1
      have b2' : f_Mo_bitsOf (f_Mo_bitsOfStepN n) M P (M 38 P i) (M 37 P i) = some (tsm (gv (Fb c bE) 16) c 16 (i + sO (c i)) (i + sI (c i)), M) := by
        rw [m8 c3, m7]
        exact b2
      have r1 := bd t1 (by omega)
      have r2 := bd t2 h9
      rw [if_pos c3, Fb_3 c3, b1', obind]
      show Option.bind (f_Mo_bitsOf (f_Mo_bitsOfStepN n) M P (M 38 P i) (M 37 P i)) _ = _
      rw [b2', obind, if_pos (show g32 _ by unfold g32; dsimp only; omega), if_pos (show g32 _ by unfold g32; dsimp only; omega)]
    rw [if_neg c3]
    by_cases c4 : sK (c i) = 4
    · obtain ⟨-, -, t1⟩ := h4 c4
      have b1 := m_bits6 (bst := f_Mo_bitsOfStepN n) (v := gv (Fb c bE) 16) hP hN hb h37 16 20 (i + 1) (i + sI (c i)) 0 (Nat.le_refl _) h9 t1 (by omega)
      rw [Int.zero_add] at b1
      have b1' : f_Mo_bitsOf (f_Mo_bitsOfStepN n) M P ((i : Int) + 1) (M 37 P i) = some (tsm (gv (Fb c bE) 16) c 16 (i + 1) (i + sI (c i)), M) := by
        rw [m7]
        exact b1
      rw [if_pos c4, Fb_4 c4, b1', obind, m3 (Or.inr (Or.inl c4))]
    rw [if_neg c4, if_pos (show sK (c i) = 5 by omega), Fb_5 (show sK (c i) = 5 by omega)]
    obtain ⟨u1, u2⟩ := h5 (by omega)
    rw [m3 (Or.inr (Or.inr (by omega))), if_pos (show 0 ≤ sU (c i) ∧ sU (c i) < ((6 : Nat) : Int) by omega), (hE (sU (c i)).toNat (by omega)).1, Int.toNat_of_nonneg u1]
theorem mIs.b {P i : Nat} {M : mA} {s : kS} (h : mIs P M i s) (h29 : M 0 0 29 ≤ 120) : mIsB P M i s := by
  obtain ⟨⟨⟨m1, m2, m3⟩, -, -, m6⟩, m7, m8⟩ := h
  refine ⟨m1, fun _ => m3, fun c0 => ?_, m7, fun _ => m8⟩
  obtain ⟨n, l1, l2, l3⟩ := m6 c0
  exact ⟨n, l1, by omega, l3⟩
end MBB
