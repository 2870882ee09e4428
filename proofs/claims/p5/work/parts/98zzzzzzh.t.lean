/-! tells: both faces (own work) -/
section YPB
variable {D : va_G} {Gt G : tG} {C A : mA} {w : jW} {x sl hm k : Nat} {T : xT}
set_option maxHeartbeats 1000000 in
theorem tells_both (hw : hW D Gt C w) (gx : Gt x = some 8) (h : R9 x C A) (hx : WX x G C A T sl hm) (hS : SH x C A) {s p n v : Int} (gs : g32 s) (gp : g32 p) (gn : g32 n) (gv : g32 v) (hk : rmK x C ≤ k) : FB x G C A T sl hm k (f_Mo_tells A s p n v) (w_CS_tells k G C x s p n v) := by
  obtain ⟨-, ⟨b1, b2, b3⟩, -⟩ := id h.1.1
  unfold f_Mo_tells w_CS_tells
  have g1 : g32 (1 : Int) := by decide
  have g0 : g32 (0 : Int) := by decide
  have n1 : ¬ (1 : Int) = 0 := by decide
  rw [m_isSheet gs, obind]
  by_cases q0 : 0 ≤ s ∧ s < 4
  · rw [if_pos q0]
    dsimp only
    rw [if_pos g1, if_neg n1, m_isProg ⟨b2, b3⟩ gp, obind]
    by_cases q1 : 0 ≤ p ∧ p < A 0 0 0
    · rw [if_pos q1]
      dsimp only
      rw [if_pos g1, if_neg n1, m_isName gn, obind]
      by_cases q2 : 0 ≤ n ∧ n ≤ 5
      · have q2' : 0 ≤ n ∧ n < 6 := by omega
        rw [if_pos q2]
        dsimp only
        rw [if_pos g1, if_neg n1, m_inF gv (by decide) (by decide), obind]
        by_cases q3 : 0 ≤ v ∧ v ≤ 3
        · rw [if_pos q3]
          dsimp only
          rw [if_pos g1, if_neg n1]
          obtain ⟨S, rfl⟩ : ∃ S : Nat, s = S := ⟨s.toNat, by omega⟩
          obtain ⟨P, rfl⟩ : ∃ P : Nat, p = P := ⟨p.toNat, by omega⟩
          obtain ⟨N, rfl⟩ : ∃ N : Nat, n = N := ⟨n.toNat, by omega⟩
          obtain ⟨hT, hm', hE, hs, hmd⟩ := R10env h hx
          have hcn : ((mCn A : Nat) : Int) = A 0 0 0 := Int.toNat_of_nonneg b2
          have hpc : P < mCn A := by omega
          have h8 : ∀ j, j < 6 → 0 ≤ A 8 0 j ∧ A 8 0 j ≤ 9 := fun j hj => (h.2.2.1.1.2 j hj).2
          obtain ⟨A', t1, t2, t3⟩ := tells_m (x := x) (C := C) (s := S) (n := N) (P := P) (v := v) hT hm' hx.2.2.2.2.2 h8 hS (by omega) (by omega) hcn.symm hpc q3
          refine ⟨_, A', t1, t2, fun Q hQ => ?_⟩
          refine ⟨_, c_isSheet gs, ?_⟩
          rw [if_pos q0]
          dsimp only
          rw [if_pos g1, if_neg n1]
          refine ⟨_, c_isProg h.1.1 gp, ?_⟩
          rw [if_pos q1]
          dsimp only
          rw [if_pos g1, if_neg n1]
          refine ⟨_, c_isName gn, ?_⟩
          rw [if_pos q2']
          dsimp only
          rw [if_pos g1, if_neg n1, if_pos gv, if_neg (show ¬ v < 0 by omega), if_pos q3.2]
          exact tells_c (sl := sl) (hm := hm) (T := T) (s := S) (n := N) (P := P) (v := v) hw gx h hx hS (by omega) (by omega) hk q1.2 q3 (fun C' G' k' hi => by
            obtain ⟨c1, c2, c3, c4, c5⟩ := hi.fin hw gx h t2 t3
            exact hQ k' G' C' c1 c2 c3 c4 c5)
        · rw [if_neg q3]
          refine FB.stop h hx rfl (fun Q hQ => ⟨_, c_isSheet gs, ?_⟩)
          rw [if_pos q0]
          dsimp only
          rw [if_pos g1, if_neg n1]
          refine ⟨_, c_isProg h.1.1 gp, ?_⟩
          rw [if_pos q1]
          dsimp only
          rw [if_pos g1, if_neg n1]
          refine ⟨_, c_isName gn, ?_⟩
          rw [if_pos q2']
          dsimp only
          rw [if_pos g1, if_neg n1, if_pos gv]
          by_cases y : v < 0
          · rw [if_pos y]
            exact hQ
          · rw [if_neg y, if_neg (show ¬ v ≤ 3 by omega)]
            exact hQ
      · have q2' : ¬ (0 ≤ n ∧ n < 6) := by omega
        rw [if_neg q2]
        refine FB.stop h hx rfl (fun Q hQ => ⟨_, c_isSheet gs, ?_⟩)
        rw [if_pos q0]
        dsimp only
        rw [if_pos g1, if_neg n1]
        refine ⟨_, c_isProg h.1.1 gp, ?_⟩
        rw [if_pos q1]
        dsimp only
        rw [if_pos g1, if_neg n1]
        refine ⟨_, c_isName gn, ?_⟩
        rw [if_neg q2']
        dsimp only
        rw [if_pos g0, if_pos rfl]
        exact hQ
    · rw [if_neg q1]
      refine FB.stop h hx rfl (fun Q hQ => ⟨_, c_isSheet gs, ?_⟩)
      rw [if_pos q0]
      dsimp only
      rw [if_pos g1, if_neg n1]
      refine ⟨_, c_isProg h.1.1 gp, ?_⟩
      rw [if_neg q1]
      dsimp only
      rw [if_pos g0, if_pos rfl]
      exact hQ
  · rw [if_neg q0]
    refine FB.stop h hx rfl (fun Q hQ => ⟨_, c_isSheet gs, ?_⟩)
    rw [if_neg q0]
    dsimp only
    rw [if_pos g0, if_pos rfl]
    exact hQ
end YPB
