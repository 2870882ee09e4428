/-! sheet, cell: both faces (own work) -/
section YUA
variable {D : va_G} {Gt G : tG} {C A : mA} {w : jW} {x sl hm : Nat} {T : xT}
/-- both objects, all that is kept with sheets -/
def fShT (x : Nat) (G : tG) (C A : mA) (T : xT) (sl hm : Nat) (Fc Fm : Option (Int × mA)) : Prop := ∃ z C' A', Fc = some (z, C') ∧ Fm = some (z, A') ∧ R9 x C' A' ∧ WX x G C' A' T sl hm ∧ SH x C' A' ∧ rmK x C' = rmK x C
theorem fShT.stop {Fc Fm : Option (Int × mA)} (h : R9 x C A) (hx : WX x G C A T sl hm) (hS : SH x C A) {z : Int} (h1 : Fc = some (z, C)) (h2 : Fm = some (z, A)) : fShT x G C A T sl hm Fc Fm := ⟨z, C, A, h1, h2, h, hx, hS, rfl⟩
theorem sheet_put (hw : hW D Gt C w) (gx : Gt x = some 8) (h : R9 x C A) (hx : WX x G C A T sl hm) (hS : SH x C A) {S : Nat} (hs : S < 4) {kk nn : Int} (k1 : kk = -1 ∨ kk = 0 ∨ kk = 1) (k2 : 0 ≤ nn ∧ nn ≤ 40) : ∃ C' A', f_Sheet_become C (shA C x S) kk nn = some (0, C') ∧ f_Mo_sheet_65 50 (mu (mu A 11 0 S kk) 12 0 S nn) S 0 = some (1, A') ∧ R9 x C' A' ∧ WX x G C' A' T sl hm ∧ SH x C' A' ∧ rmK x C' = rmK x C := by
  obtain ⟨C3, u1, u2, u3, u4, u5⟩ := c_become (C := C) (sh := shA C x S) (a0 := kk) (a1 := nn)
  obtain ⟨A1, hA1⟩ : ∃ A1, A1 = mu (mu A 11 0 S kk) 12 0 S nn := ⟨_, rfl⟩
  have f1 : ∀ f a j, ¬ ((f = 11 ∧ a = 0 ∧ j = S) ∨ (f = 12 ∧ a = 0 ∧ j = S)) → A1 f a j = A f a j := fun f a j q => by rw [hA1, mu_ne _ _ (by omega), mu_ne _ _ (by omega)]
  obtain ⟨A2, t1, t2, t3⟩ := m_sheet65 (A := A1) hs
  have x11 : A2 11 0 S = kk := by rw [t2 11 0 S (by omega), hA1, mu_ne _ _ (by omega), mu_at]
  have x12 : A2 12 0 S = nn := by rw [t2 12 0 S (by omega), hA1, mu_at]
  have hA2 : ∀ f a j, ¬ ((f = 11 ∧ a = 0 ∧ j = S) ∨ (f = 12 ∧ a = 0 ∧ j = S) ∨ (f = 49 ∧ a = S)) → A2 f a j = A f a j := fun f a j q => by rw [t2 f a j (by omega), f1 f a j (by omega)]
  have f4 : ∀ f a j, ¬ (f = 5 ∨ f = 23 ∨ f = 24) → C3 f a j = C f a j := fun f a j q => u5 f a j (by omega)
  obtain ⟨r1, r2, r3, r4⟩ := WX.rowG hw gx h oeG.refl h hx odF.refl f4
  have fS : ∀ f a j, f ≠ 11 → f ≠ 12 → f ≠ 49 → A2 f a j = A f a j := fun f a j z1 z2 z3 => hA2 f a j (fun q => by
    rcases q with q | q | q
    · exact z1 q.1
    · exact z2 q.1
    · exact z3 q.1)
  rw [← hA1]
  refine ⟨C3, A2, u1, t1, r1.cS fS, r2.cS r1 fS, ?_, r4⟩
  refine hS.upd hs (fun f a j q y => u5 f a j y) (fun f a j _ y => hA2 f a j y) ⟨⟨?_, ?_⟩, ?_, ?_, fun j hj => ?_⟩
  · rw [u2, x11]
  · rw [u3, x12]
  · rw [x11]; exact k1
  · rw [x12]; exact k2
  · rw [x12] at hj
    rw [t3 j (by omega), u4 j (by omega), x11]
    refine ⟨by decide, ?_⟩
    by_cases z : kk = 0
    · exact Or.inl ⟨z, by decide, by decide, Or.inl ⟨by decide, rfl⟩⟩
    · exact Or.inr ⟨z, rfl⟩
theorem sheet_both (hw : hW D Gt C w) (gx : Gt x = some 8) (h : R9 x C A) (hx : WX x G C A T sl hm) (hS : SH x C A) {s a b : Int} (gs : g32 s) (ga : g32 a) (gb : g32 b) : fShT x G C A T sl hm (f_CS_sheet C x s a b) (f_Mo_sheet A s a b) := by
  unfold f_Mo_sheet f_CS_sheet
  have g1 : g32 (1 : Int) := by decide
  have g0 : g32 (0 : Int) := by decide
  have n1 : ¬ (1 : Int) = 0 := by decide
  rw [m_isSheet gs, c_isSheet gs, obind, obind]
  by_cases q0 : 0 ≤ s ∧ s < 4
  · rw [if_pos q0]
    dsimp only
    rw [if_pos g1, if_neg n1, if_pos g1, if_neg n1, m_inF ga (by decide) (by decide), obind]
    obtain ⟨S, rfl⟩ : ∃ S : Nat, s = S := ⟨s.toNat, by omega⟩
    have hs : S < 4 := by omega
    have pS : 0 ≤ (S : Int) ∧ (S : Int) < ((4 : Nat) : Int) := by omega
    simp only [Int.toNat_natCast]
    by_cases q1 : -1 ≤ a ∧ a ≤ 1
    · rw [if_pos q1]
      rw [if_pos g1, if_neg n1, if_pos ga, if_pos ga, if_neg (show ¬ a < -1 by omega), if_pos q1.2]
      by_cases q2 : a = -1
      · subst q2
        obtain ⟨C', A', c1, c2, c3, c4, c5, c6⟩ := sheet_put hw gx h hx hS hs (kk := -1) (nn := 0) (Or.inl rfl) (by decide)
        rw [if_pos rfl, if_pos pS, if_pos (show (-1 : Int) < 0 by decide), if_pos (show (-1 : Int) < 0 by decide), if_pos pS, if_neg (show ¬ (0 : Int) ≤ -1 by decide)]
        refine ⟨1, C', A', ?_, c2, c3, c4, c5, c6⟩
        have c1' : f_Sheet_become C (C 22 (C 8 x 8).toNat S).toNat (-1) 0 = some (0, C') := c1
        rw [c1', obind]
      · rw [if_neg q2, if_neg (show ¬ a < 0 by omega), if_pos gb, if_pos gb]
        by_cases q3 : b ≤ 40
        · rw [if_pos q3, if_pos q3, if_neg (show ¬ a < 0 by omega)]
          by_cases q4 : 0 ≤ b
          · obtain ⟨C', A', c1, c2, c3, c4, c5, c6⟩ := sheet_put hw gx h hx hS hs (kk := a) (nn := b) (by omega) ⟨q4, q3⟩
            rw [if_pos q4, if_pos pS, if_pos q4, if_pos pS, if_pos (show 0 ≤ a by omega)]
            refine ⟨1, C', A', ?_, c2, c3, c4, c5, c6⟩
            have c1' : f_Sheet_become C (C 22 (C 8 x 8).toNat S).toNat a b = some (0, C') := c1
            rw [c1', obind]
          · rw [if_neg q4, if_neg q4]
            exact fShT.stop h hx hS rfl rfl
        · rw [if_neg q3, if_neg q3]
          exact fShT.stop h hx hS rfl rfl
    · rw [if_neg q1]
      rw [if_pos g0, if_pos rfl, if_pos ga]
      by_cases q2 : a < -1
      · rw [if_pos q2]
        exact fShT.stop h hx hS rfl rfl
      · rw [if_neg q2, if_neg (show ¬ a ≤ 1 by omega)]
        exact fShT.stop h hx hS rfl rfl
  · rw [if_neg q0]
    dsimp only
    rw [if_pos g0, if_pos rfl, if_pos g0, if_pos rfl]
    exact fShT.stop h hx hS rfl rfl
end YUA
