/-! how wide it gets: whatever is answered, what odds need stays (own work) -/
section YIA
variable {D : va_G} {Gt G : tG} {C A : mA} {w : jW} {x sl hm k : Nat} {T : xT}
set_option maxHeartbeats 1000000 in
theorem peak_both (hw : hW D Gt C w) (gx : Gt x = some 8) (h : R9 x C A) (hx : WX x G C A T sl hm) {p v : Int} (gp : g32 p) (gv : g32 v) (hk : rmK x C ≤ k) : FS x G C A T sl hm k (f_Mo_peak A p v) (w_CS_peak k G C x p v) := by
  obtain ⟨-, ⟨b1, b2, b3⟩, -, -, -, f1, g1⟩ := id h.1.1
  unfold f_Mo_peak w_CS_peak
  have g1 : g32 (1 : Int) := by decide
  have g0 : g32 (0 : Int) := by decide
  have n1 : ¬ (1 : Int) = 0 := by decide
  rw [m_isProg ⟨b2, b3⟩ gp, obind]
  by_cases q1 : 0 ≤ p ∧ p < A 0 0 0
  · rw [if_pos q1]
    dsimp only
    rw [if_pos g1, if_neg n1, m_inF gv (by decide) (by decide), obind]
    obtain ⟨P, rfl⟩ : ∃ P : Nat, p = P := ⟨p.toNat, by omega⟩
    obtain ⟨hT, hm', hE, hs, hmd⟩ := R10env h hx
    have hpc : P < mCn A := by unfold mCn; omega
    have h8 : ∀ j, j < 6 → 0 ≤ A 8 0 j ∧ A 8 0 j ≤ 9 := fun j hj => (h.2.2.1.1.2 j hj).2
    have rp : 0 ≤ (P : Int) ∧ (P : Int) < ((6 : Nat) : Int) := by omega
    obtain ⟨r21, -⟩ := f1 P q1.2
    by_cases q2 : -1 ≤ v ∧ v ≤ 63
    · rw [if_pos q2]
      dsimp only
      rw [if_pos g1, if_neg n1]
      by_cases c1 : v = -1
      · -- nothing forgotten
        obtain ⟨A', a1, a2, -, a3, a4, a5⟩ := both_end hw gx h hx q1.2 hk
        have g34 : g32 (A' 0 0 34) := by rcases a4 with ⟨y, -⟩ | y <;> rw [y] <;> decide
        have hF : ∃ z, Option.bind (f_Mo_oddsO A P (-1)) (fun q9 => (if g32 (q9.2 0 0 34) then (if (q9.2 0 0 34) = 0 then (if g32 v then (if v = (-1) then (some ((q9.2 0 0 35), q9.2)) else (Option.bind (f_Mo_oddsO q9.2 P v) (fun q16 => (some ((q16.2 0 0 35), q16.2))))) else none) else (some ((-6), q9.2))) else none)) = some (z, A') := by
          rw [a1, obind]
          dsimp only
          rw [if_pos g34]
          by_cases y : A' 0 0 34 = 0
          · rw [if_pos y, if_pos gv, if_pos c1]
            exact ⟨_, rfl⟩
          · rw [if_neg y]
            exact ⟨_, rfl⟩
        obtain ⟨z, hz⟩ := hF
        refine ⟨z, A', hz, a2, fun Q hQ => ⟨_, c_isProg h.1.1 gp, ?_⟩⟩
        rw [if_pos q1]
        dsimp only
        rw [if_pos g1, if_neg n1, if_pos gv, if_pos c1, if_pos rp, Int.toNat_natCast, if_pos (show 0 ≤ C 21 (C 8 x 2).toNat P from r21)]
        have key := a5 (fun r31 A32 G33 k34 => (if 0 ≤ r31 then (Q (A32 0 r31.toNat 3) A32 G33 k34) else (Q (-6) A32 G33 k34))) (fun r k' G' C' w1 w2 w3 w4 w5 w6 => by
          have fin := fun y => hQ y k' G' C' w1 w2 w3 w4 w5
          by_cases y : 0 ≤ r
          · rw [if_pos y]; exact fin _
          · rw [if_neg y]; exact fin _)
        unfold w_CS_endOf at key
        simp only [Int.toNat_natCast] at key
        rw [if_pos rp, if_pos r21] at key
        unfold w_Walk_mostAtOnce
        rw [if_pos gv, if_pos c1]
        exact key
      · -- some forgotten
        obtain ⟨A1, a1, a2, a3, a4, a5, -, -⟩ := m_odds hT hpc hm' hx.2.2.2.2.2 h8
        have e10 : A1 0 0 0 = A 0 0 0 := a5 0 0 0 (by omega)
        have hc1 : mCn A1 = mCn A := by unfold mCn; rw [e10]
        have hm1 := hm'.od hT a5
        obtain ⟨r, A2, s1, s2, s3, s4⟩ := m_oddsN (v := v) hT hpc hm1 a2 (fun j hj => by rw [a5 8 0 j (by omega)]; exact h8 j hj) gv c1
        have g34 : g32 (A1 0 0 34) := by rcases a4.2 with ⟨y, -⟩ | ⟨y, -⟩ <;> rw [y] <;> decide
        have hF : ∃ z A', Option.bind (f_Mo_oddsO A P (-1)) (fun q9 => (if g32 (q9.2 0 0 34) then (if (q9.2 0 0 34) = 0 then (if g32 v then (if v = (-1) then (some ((q9.2 0 0 35), q9.2)) else (Option.bind (f_Mo_oddsO q9.2 P v) (fun q16 => (some ((q16.2 0 0 35), q16.2))))) else none) else (some ((-6), q9.2))) else none)) = some (z, A') ∧ odF A A' ∧ mCa T (mCn A) A' := by
          rw [a1, obind]
          dsimp only
          rw [if_pos g34]
          by_cases y : A1 0 0 34 = 0
          · rw [if_pos y, if_pos gv, if_neg c1, s1, obind]
            exact ⟨_, A2, rfl, a5.trans s4, s2⟩
          · rw [if_neg y]
            exact ⟨_, A1, rfl, a5, a2⟩
        obtain ⟨z, A', hz, hA, hMc⟩ := hF
        have q3 : 0 ≤ v ∧ v ≤ 63 := by omega
        have hT9 := h.2.2.1.1
        refine ⟨z, A', hz, hA, fun Q hQ => ⟨_, c_isProg h.1.1 gp, ?_⟩⟩
        rw [if_pos q1]
        dsimp only
        rw [if_pos g1, if_neg n1, if_pos gv, if_neg c1]
        refine ⟨_, c_areNames gv, ?_⟩
        rw [if_pos q3]
        dsimp only
        rw [if_pos g1, if_neg n1, if_pos rp, Int.toNat_natCast, if_pos (show 0 ≤ C 21 (C 8 x 2).toNat P from r21)]
        obtain ⟨-, ⟨hW, h7, -⟩, -, hCa, ⟨hEa, hEn⟩, -⟩ := id hx
        refine w_mostN (o := wO C x) (m := wMx C x) (sp := wSp C x) (sl := sl) (hm := hm) (T := T) (b := bA A) (sE := wSe x C) (cnt := mCn A) (pa := aPr C x) (md := wMd x C) (M := A) (p := P) hT hm' hs hpc hmd hE h7 (by unfold rmK at hk; omega) hEa hEn (vs9.of hT9) gv c1 (fun r9 k' G' C' w1 w2 w3 w4 w5 => ?_)
        obtain ⟨x1, x2, x3, x4, x5⟩ := WX.walk hw gx h hx hA hMc w1 w2 w3 w4 w5
        exact hQ _ k' G' C' x1 x2 x3 x4 x5
    · rw [if_neg q2]
      refine (FB.stop h hx rfl (fun Q hQ => ⟨_, c_isProg h.1.1 gp, ?_⟩)).fs
      have c1 : ¬ v = -1 := by omega
      have q3 : ¬ (0 ≤ v ∧ v ≤ 63) := by omega
      rw [if_pos q1]
      dsimp only
      rw [if_pos g1, if_neg n1, if_pos gv, if_neg c1]
      refine ⟨_, c_areNames gv, ?_⟩
      rw [if_neg q3]
      dsimp only
      rw [if_pos g0, if_pos rfl]
      exact hQ
  · rw [if_neg q1]
    refine (FB.stop h hx rfl (fun Q hQ => ⟨_, c_isProg h.1.1 gp, ?_⟩)).fs
    rw [if_neg q1]
    dsimp only
    rw [if_pos g0, if_pos rfl]
    exact hQ
end YIA
