/-! A TEXT read by the reference (own work) -/
/-- changed at most by a reading of the reference -/
def dG (P : Nat) (f a j : Nat) : Prop := (f = 0 ∧ a = 0 ∧ 23 ≤ j ∧ j ≤ 31) ∨ (34 ≤ f ∧ f ≤ 46 ∧ a = P)
section MG
variable {P : Nat} {T : Nat → Int} {m : Nat}
theorem fT.farG {k : Nat} {M M' : mA} (h : fT P k M M') (f a j : Nat) (q : ¬ dG P f a j) : M' f a j = M f a j := h.2.2 f a j (fun r => q (by
  unfold dT at r
  unfold dG
  omega))
/-- what the reference reads is what the spec says -/
theorem m_read {A : mA} (h0 : A 0 0 0 = P) (hP : P < 6) (hb : bM A T m) : ∃ M1 M2, f_Mo_next (mu (mu (mu (mu (mu (mu A 0 0 23 0) 0 0 27 0) 0 0 28 0) 0 0 29 0) 0 0 30 0) 0 0 31 0) = some (0, M1) ∧ f_Mo_block (f_Mo_stepN 6) M1 = some (0, M2) ∧ (∀ f a j, ¬ dG P f a j → M2 f a j = A f a j) ∧ (g32 (A 0 0 25) → g32 (M2 0 0 25)) ∧ kCase (kBlock T m (kStep T m P 4) 0 0) (fun b => M2 0 0 31 = 1 ∧ M2 0 0 24 = b) (fun x => mTk P T m M2 x.1 x.2.length ∧ (M2 0 0 31 = 0 → mAll P M2 0 x.2)) := by
  obtain ⟨A1, hA1⟩ : ∃ A1, A1 = mu (mu (mu (mu (mu (mu A 0 0 23 0) 0 0 27 0) 0 0 28 0) 0 0 29 0) 0 0 30 0) 0 0 31 0 := ⟨_, rfl⟩
  rw [← hA1]
  have fA : fM A A1 [23, 27, 28, 29, 30, 31] := by
    rw [hA1]
    exact (((((fM.mu (by decide)).trans (fM.mu (by decide))).trans (fM.mu (by decide))).trans (fM.mu (by decide))).trans (fM.mu (by decide))).trans (fM.mu (by decide))
  have b1 : bM A1 T m := hb.fr fA (by decide)
  have z : A1 0 0 23 = ((0 : Nat) : Int) ∧ A1 0 0 27 = 0 ∧ A1 0 0 28 = 0 ∧ A1 0 0 29 = 0 ∧ A1 0 0 30 = 0 ∧ A1 0 0 31 = 0 := by
    rw [hA1]
    exact ⟨rfl, rfl, rfl, rfl, rfl, rfl⟩
  obtain ⟨z23, z27, z28, z29, z30, z31⟩ := z
  obtain ⟨M1, x1, x2, x3⟩ := m_next b1 z31 z23 (Nat.zero_le m)
  have e1 : ∀ j, j ∉ [23, 24, 25, 26, 31] → M1 0 0 j = A1 0 0 j := fun j hj => x2 0 0 j (fun r => hj r.2.2)
  have s1 : mTk P T m M1 0 0 := by
    refine ⟨⟨⟨b1.fr x2 (by decide), ?_, hP, ?_, ?_⟩, x3, Nat.zero_le m, ?_⟩, fun _ => ⟨?_, ?_, ?_⟩, by decide⟩
    · rw [e1 0 (by decide), fA 0 0 0 (fun r => absurd r.2.2 (by decide))]
      exact h0
    · rw [e1 30 (by decide), z30]
      decide
    · rw [e1 30 (by decide), z30]
      decide
    · rw [e1 30 (by decide), z30]
      decide
    · rw [e1 29 (by decide), z29]
      decide
    · rw [e1 29 (by decide), z29]
      decide
    · rw [e1 28 (by decide), z28]
      rfl
  have o1 : M1 0 0 27 = 4 - ((4 : Nat) : Int) := by
    rw [e1 27 (by decide), z27]
    decide
  have h120 := hb.2.1
  have hT : ∀ j, j < 120 → 0 ≤ T j ∧ T j ≤ 255 := fun j hj => (hb.2.2 j hj).2
  obtain ⟨M2, y1, y2, y4⟩ := m_block (m_stepN (P := P) h120 hT 4 (by decide) 6 (by decide)) (kStep_pr h120 hT P 4) M1 0 0 s1 o1
  refine ⟨M1, M2, x1, y1, fun f a j q => ?_, fun hg => ?_, ?_⟩
  · rw [y2.farG f a j q, x2 f a j (fun r => q (Or.inl ⟨r.1, r.2.1, ?_⟩)), fA f a j (fun r => q (Or.inl ⟨r.1, r.2.1, ?_⟩))]
    · have := r.2.2
      simp only [List.mem_cons, List.not_mem_nil, or_false] at this
      omega
    · have := r.2.2
      simp only [List.mem_cons, List.not_mem_nil, or_false] at this
      omega
  · have g1 : kJ A1 := by
      show g32 (A1 0 0 25)
      rw [fA 0 0 25 (fun r => absurd r.2.2 (by decide))]
      exact hg
    have g2 : kJ M1 := k_next g1 _ x1
    exact k_block (k_stepN 6) g2 _ y1
  · cases hq : kBlock T m (kStep T m P 4) 0 0 with
    | inl b =>
      rw [hq] at y4
      exact y4
    | inr x =>
      rw [hq] at y4
      obtain ⟨w1, w2, w3⟩ := y4
      rw [Nat.zero_add] at w1
      exact ⟨w1, w3⟩
end MG
