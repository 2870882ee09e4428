/-! cell: both faces (own work) -/
theorem iByt_b {v : Int} : iByt v = (Int32.ofInt v).toInt.bmod 256 := by
  unfold iByt
  rw [Int8.toInt_toInt32, Int32.toInt_toInt8]
theorem iAnd_b {v : Int} : iAnd v 255 = (Int32.ofInt v).toInt % 256 := by
  unfold iAnd
  generalize Int32.ofInt v = x
  have e : (x &&& Int32.ofInt 255).toInt = (x.toBitVec &&& 255#32).toInt := rfl
  rw [e]
  show _ = x.toBitVec.toInt % 256
  generalize x.toBitVec = b
  have h1 : (b &&& 255#32).toNat = b.toNat % 256 := by
    rw [BitVec.toNat_and]
    exact Nat.and_two_pow_sub_one_eq_mod b.toNat 8
  have h2 := b.isLt
  rw [BitVec.toInt_eq_toNat_cond, BitVec.toInt_eq_toNat_cond, h1]
  split <;> split <;> omega
theorem cel_b {v : Int} : cel 0 (iAnd v 255) (iByt v) := by
  rw [iByt_b, iAnd_b]
  generalize (Int32.ofInt v).toInt = t
  refine Or.inl ⟨rfl, by omega, by omega, ?_⟩
  unfold Int.bmod
  show (t % 256 < 128 ∧ (if t % ((256 : Nat) : Int) < (((256 : Nat) : Int) + 1) / 2 then t % ((256 : Nat) : Int) else t % ((256 : Nat) : Int) - ((256 : Nat) : Int)) = t % 256) ∨ (128 ≤ t % 256 ∧ (if t % ((256 : Nat) : Int) < (((256 : Nat) : Int) + 1) / 2 then t % ((256 : Nat) : Int) else t % ((256 : Nat) : Int) - ((256 : Nat) : Int)) = t % 256 - 256)
  split <;> omega
section YVA
variable {D : va_G} {Gt G : tG} {C A : mA} {w : jW} {x sl hm : Nat} {T : xT}
theorem cell_both (hw : hW D Gt C w) (gx : Gt x = some 8) (h : R9 x C A) (hx : WX x G C A T sl hm) (hS : SH x C A) {s a v : Int} (gs : g32 s) (ga : g32 a) (gv : g32 v) : fShT x G C A T sl hm (f_CS_cell C x s a v) (f_Mo_cell A s a v) := by
  unfold f_Mo_cell f_CS_cell
  have g1 : g32 (1 : Int) := by decide
  have g0 : g32 (0 : Int) := by decide
  have n1 : ¬ (1 : Int) = 0 := by decide
  rw [m_isSheet gs, c_isSheet gs, obind, obind]
  by_cases q0 : 0 ≤ s ∧ s < 4
  · rw [if_pos q0]
    dsimp only
    obtain ⟨S, rfl⟩ : ∃ S : Nat, s = S := ⟨s.toNat, by omega⟩
    have hs : S < 4 := by omega
    have pS : 0 ≤ (S : Int) ∧ (S : Int) < ((4 : Nat) : Int) := by omega
    obtain ⟨⟨a1, a2⟩, a3, a4, a5⟩ := hS.1 S hs
    have e1 : C 5 (C 22 (C 8 x 8).toNat S).toNat 1 = A 11 0 S := a1
    have e2 : C 5 (C 22 (C 8 x 8).toNat S).toNat 2 = A 12 0 S := a2
    simp only [Int.toNat_natCast]
    rw [if_pos g1, if_neg n1, if_pos g1, if_neg n1, if_pos pS, if_pos pS, e1, e2, if_pos (show g32 (A 11 0 S) by unfold g32; omega), if_pos (show g32 (A 11 0 S) by unfold g32; omega)]
    by_cases z1 : A 11 0 S = -1
    · rw [if_pos z1, if_neg (show ¬ 0 ≤ A 11 0 S by omega)]
      exact fShT.stop h hx hS rfl rfl
    rw [if_neg z1, if_pos (show 0 ≤ A 11 0 S by omega), if_pos ga, m_inF ga (by decide) (by unfold g32; omega), obind]
    by_cases q1 : 0 ≤ a ∧ a ≤ A 12 0 S - 1
    · obtain ⟨j, rfl⟩ : ∃ j : Nat, a = j := ⟨a.toNat, by omega⟩
      have pj : 0 ≤ (j : Int) ∧ (j : Int) < ((40 : Nat) : Int) := by clear z1; omega
      rw [if_pos q1, if_neg (show ¬ (j : Int) < 0 by clear z1; omega), if_pos (show g32 (A 12 0 S) by clear z1; unfold g32; omega), if_pos (show (j : Int) < A 12 0 S by clear z1; omega)]
      dsimp only
      rw [if_pos g1, if_neg n1, if_pos (show g32 (A 11 0 S) by clear z1; unfold g32; omega), if_pos pj, if_pos pj]
      obtain ⟨cv, hcv⟩ : ∃ cv : Int, cv = if A 11 0 S = 0 then iAnd v 255 else v := ⟨_, rfl⟩
      obtain ⟨mv, hmv⟩ : ∃ mv : Int, mv = if A 11 0 S = 0 then iByt v else v := ⟨_, rfl⟩
      have cw : f_Sheet_write C (shA C x S) j v = some (0, mu C 24 (shK C x S) j cv) := by
        unfold f_Sheet_write
        have a1' : C 5 (shA C x S) 1 = A 11 0 S := a1
        rw [if_pos ga, if_neg (show ¬ (j : Int) < 0 by clear z1; omega), a1', a2, if_pos (show g32 (A 12 0 S) by clear z1; unfold g32; omega), if_neg (show ¬ A 12 0 S ≤ j by clear z1; omega), if_neg (show ¬ (40 : Int) ≤ j by clear z1; omega), if_pos (show g32 (A 11 0 S) by clear z1; unfold g32; omega), if_pos pj, if_pos pj, Int.toNat_natCast, hcv]
        split <;> rfl
      have cw' : f_Sheet_write C (C 22 (C 8 x 8).toNat S).toNat j v = some (0, mu C 24 (shK C x S) j cv) := cw
      rw [cw', obind]
      have em : (if A 11 0 S = 0 then some ((1 : Int), mu A 49 S j (iByt v)) else some (1, mu A 49 S j v)) = some (1, mu A 49 S j mv) := by
        rw [hmv]
        split <;> rfl
      have f4 : ∀ f a i, ¬ (f = 5 ∨ f = 23 ∨ f = 24) → mu C 24 (shK C x S) j cv f a i = C f a i := fun f a i q => mu_ne _ _ (by omega)
      obtain ⟨r1, r2, r3, r4⟩ := WX.rowG hw gx h oeG.refl h hx odF.refl f4
      have fS : ∀ f a i, f ≠ 11 → f ≠ 12 → f ≠ 49 → mu A 49 S j mv f a i = A f a i := fun f a i _ _ z3 => mu_ne _ _ (fun q => z3 q.1)
      refine ⟨1, mu C 24 (shK C x S) j cv, mu A 49 S j mv, rfl, em, r1.cS fS, r2.cS r1 fS, ?_, r4⟩
      have y11 : mu A 49 S j mv 11 0 S = A 11 0 S := mu_ne _ _ (by clear z1; omega)
      have y12 : mu A 49 S j mv 12 0 S = A 12 0 S := mu_ne _ _ (by clear z1; omega)
      refine hS.upd hs (fun f a i q y => mu_ne _ _ (fun z => y (Or.inr ⟨z.1, z.2.1⟩))) (fun f a i _ y => mu_ne _ _ (fun z => y (Or.inr (Or.inr ⟨z.1, z.2.1⟩)))) ⟨⟨?_, ?_⟩, ?_, ?_, fun i hi => ?_⟩
      · rw [y11, mu_ne _ _ (by clear z1; omega)]; exact a1
      · rw [y12, mu_ne _ _ (by clear z1; omega)]; exact a2
      · rw [y11]; exact a3
      · rw [y12]; exact a4
      · rw [y12] at hi
        rw [y11]
        by_cases e : i = j
        · subst e
          rw [mu_at, mu_at, hcv, hmv]
          by_cases z0 : A 11 0 S = 0
          · rw [if_pos z0, if_pos z0, z0]
            have := iByt_r v
            exact ⟨by unfold g32; omega, cel_b⟩
          · rw [if_neg z0, if_neg z0]
            exact ⟨gv, Or.inr ⟨z0, rfl⟩⟩
        · rw [mu_ne _ _ (fun q => e q.2.2), mu_ne _ _ (fun q => e q.2.2)]
          exact a5 i hi
    · rw [if_neg q1]
      dsimp only
      rw [if_pos g0, if_pos rfl]
      by_cases q2 : a < 0
      · rw [if_pos q2]
        exact fShT.stop h hx hS rfl rfl
      · rw [if_neg q2, if_pos (show g32 (A 12 0 S) by clear z1; unfold g32; omega), if_neg (show ¬ a < A 12 0 S by clear z1; omega)]
        exact fShT.stop h hx hS rfl rfl
  · rw [if_neg q0]
    dsimp only
    rw [if_pos g0, if_pos rfl, if_pos g0, if_pos rfl]
    exact fShT.stop h hx hS rfl rfl
end YVA
