/-! BRACES of the class (own work) -/
section CB8
variable {o pr ca lv lw sa : Nat} {st : Nat → Nat} {others : Int} {T : Nat → Int} {m d : Nat}
theorem cSt.o5 {C : mA} {p k : Nat} {z : Int} (h : cSt o pr ca lv lw sa st others T m C p k) : cSt o pr ca lv lw sa st others T m (mu C 3 o 5 z) p k := h
theorem fS.o5 {C : mA} {k : Nat} {z : Int} : fS o pr ca lv lw st k C (mu C 3 o 5 z) := fS.ofC (l := [5]) (fC.mu (by decide)) (by decide)
theorem c_brace0 {stp : mA → Nat → Option (Int × mA)} : cBr o pr ca lv lw sa st others T m 0 (f_Read_readBraces stp) (kNoBr T m) := by
  intro C p k h h5
  have e6 := h.1.1.2.1.2.1
  unfold f_Read_readBraces
  rw [c_isSign h.1.1 (by decide), obind, if_pos (by show g32 (if kSg (kTok T m p) 123 then 1 else 0); exact g32_if _)]
  by_cases q : kSg (kTok T m p) 123
  · rw [if_neg (fun h => (if0 _).mp h q)]
    show ∃ z C', (if g32 (C 3 o 5) then if C 3 o 5 < 4 then _ else some (0, C) else none) = _ ∧ _
    rw [h5, if_pos (by decide), if_neg (by decide)]
    exact ⟨0, C, rfl, fS.refl, rfl, e6⟩
  · rw [if_pos ((if0 _).mpr q)]
    exact ⟨0, C, rfl, fS.refl, rfl, e6⟩
theorem c_brace (hst : ∀ i, i < 16 → ∀ j, j < 16 → st i = st j → i = j) (hd : d < 4) {stp : mA → Nat → Option (Int × mA)} {f : Nat → Nat → kR (List kS)} (hs : cBr o pr ca lv lw sa st others T m d stp f) (hf : kPs m f) : cBr o pr ca lv lw sa st others T m (d + 1) (f_Read_readBraces stp) (kBrace T m f) := by
  intro C p k h h5
  have e6 := h.1.1.2.1.2.1
  have h120 := h.1.1.1.tx.1
  have hT := h.1.1.1.tx.2
  obtain ⟨g1, g2, g3, g4, -⟩ := h.1.1.good
  unfold f_Read_readBraces
  rw [c_isSign h.1.1 (by decide), obind, if_pos (by show g32 (if kSg (kTok T m p) 123 then 1 else 0); exact g32_if _)]
  unfold kBrace
  by_cases q : kSg (kTok T m p) 123
  · rw [if_neg (fun h => (if0 _).mp h q), if_pos q, if_pos q]
    show ∃ z C', (if g32 (C 3 o 5) then if C 3 o 5 < 4 then Option.bind (f_Read_advance (mu C 3 o 5 (C 3 o 5 + 1)) o) _ else some (0, C) else none) = _ ∧ _
    have e1 : (4 : Int) - ((d + 1 : Nat) : Int) + 1 = 4 - (d : Int) := by omega
    rw [h5, if_pos (show g32 _ by unfold g32; omega), if_pos (by omega), e1]
    obtain ⟨C1, x1, x2, x3⟩ := c_advS (h.o5 (z := 4 - (d : Int)))
    have o1 : C1 3 o 5 = 4 - d := (x2 3 o 5 (fun r => absurd r.2.2 (by decide))).trans (mu_at _ _ _ _ _)
    have f1 : fS o pr ca lv lw st k C C1 := fS.o5.trans (fS.ofC x2 (by decide)) (Nat.le_refl k)
    rw [x1, obind]
    obtain ⟨z, C2, y1, y2, y4⟩ := c_block hst hs hf C1 _ k x3 o1
    show ∃ z C', Option.bind (f_Read_readBlock stp C1 o) _ = _ ∧ _
    rw [y1, obind]
    show ∃ z' C', (if g32 z then if z = 0 then some (0, C2) else Option.bind (f_Read_isSign C2 o 125) _ else none) = _ ∧ _
    cases hq : kBlock T m f k (tkE (kTok T m p)) with
    | inl b =>
      rw [hq] at y4
      obtain ⟨w1, w2⟩ := y4
      subst w1
      exact ⟨0, C2, rfl, f1.trans y2 (Nat.le_refl _), rfl, w2⟩
    | inr x =>
      rw [hq] at y4
      obtain ⟨w1, w2, w3, w4⟩ := y4
      subst w1
      obtain ⟨b1, b2, b3, b4⟩ := kBlock_pr h120 hT hf _ _ g3 x hq
      rw [if_pos (by decide), if_neg (by decide), c_isSign w2.1.1 (by decide), obind, if_pos (by show g32 (if kSg (kTok T m x.1) 125 then 1 else 0); exact g32_if _)]
      dsimp only
      by_cases q2 : kSg (kTok T m x.1) 125
      · rw [if_neg (fun h => (if0 _).mp h q2), if_pos q2]
        have e2 : (4 : Int) - (d : Int) - 1 = 4 - ((d + 1 : Nat) : Int) := by omega
        rw [w3, e2]
        obtain ⟨C3, v1, v2, v3⟩ := c_advS (w2.o5 (z := 4 - ((d + 1 : Nat) : Int)))
        rw [v1, obind]
        have f3 : fS o pr ca lv lw st (k + x.2.length) C2 C3 := fS.o5.trans (fS.ofC v2 (by decide)) (Nat.le_refl _)
        exact ⟨1, C3, rfl, (f1.trans y2 (Nat.le_refl _)).trans f3 (by omega), rfl, v3, (v2 3 o 5 (fun r => absurd r.2.2 (by decide))).trans (mu_at _ _ _ _ _), w4.keep hst f3 (Nat.le_refl _) b4⟩
      · rw [if_pos ((if0 _).mpr q2), if_neg q2]
        exact ⟨0, C2, rfl, f1.trans y2 (Nat.le_refl _), rfl, w2.1.1.2.1.2.1⟩
  · rw [if_pos ((if0 _).mpr q), if_neg q, if_neg q]
    exact ⟨0, C, rfl, fS.refl, rfl, e6⟩
end CB8
