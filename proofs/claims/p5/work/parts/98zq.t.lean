/-! STEPS of the reference (own work): where the reading is wrong already; braces -/
section MD
variable {P : Nat} {T : Nat → Int} {m d : Nat}
theorem m_oneD {n : Nat} {M : mA} (h : M 0 0 31 = 1) : f_Mo_oneN (n + 1) M = some (0, M) := by
  show f_Mo_one (f_Mo_oneN n) M = _
  unfold f_Mo_one
  rw [h, if_pos (by decide), if_neg (by decide)]
theorem m_expD {M : mA} (h : M 0 0 31 = 1) : f_Mo_expression (f_Mo_oneN 6) M = some (0, M) := by
  have t : f_Mo_term (f_Mo_oneN 6) M = some (0, M) := by
    unfold f_Mo_term
    rw [m_oneD h, obind]
    show f_Mo_term_5 (f_Mo_oneN 6) 200 M 0 = _
    rw [gmLoop_term]
    exact gmLoop1 h
  have s : f_Mo_sum (f_Mo_oneN 6) M = some (0, M) := by
    unfold f_Mo_sum
    rw [t, obind]
    show f_Mo_sum_5 (f_Mo_oneN 6) 200 M 0 = _
    rw [gmLoop_sum]
    exact gmLoop1 h
  unfold f_Mo_expression
  rw [s, obind]
  show Option.bind (f_Mo_isSign M 60) _ = _
  rw [m_dead h, obind, if_pos (by show g32 0; decide), if_pos (by show (0 : Int) = 0; rfl)]
  show Option.bind (f_Mo_isSign M 61) _ = _
  rw [m_dead h, obind, if_pos (by show g32 0; decide), if_pos (by show (0 : Int) = 0; rfl)]
theorem m_bracesD {stp : mA → Option (Int × mA)} {M : mA} (h : M 0 0 31 = 1) : f_Mo_inBraces stp M = some (0, mu M 0 0 31 1) := by
  unfold f_Mo_inBraces
  rw [m_dead h, obind, if_pos (by show g32 0; decide), if_pos (by show (0 : Int) = 0; rfl)]
theorem m_lotsD {i : Nat} {M : mA} (hP : P < 6) (hi : i < 16) (h : M 0 0 31 = 1) : f_Mo_lotsOf M P i = some (0, mu (mu M 36 P i 0) 0 0 31 1) := by
  unfold f_Mo_lotsOf
  rw [f_Mo_lotsOf_8, if_pos (show g32 (1 : Int) by decide), if_neg (show ¬ (1 : Int) = 0 by decide), h, if_pos (by decide), if_neg (by decide), m_finL hP hi (by decide)]
  rfl
theorem m_takes0 {M : mA} {p : Nat} (h : mE9 P T m M p) : ∃ M', f_Mo_takes M 3 0 (-1) = some (0, M') ∧ fM M M' [23, 24, 25, 26, 31] ∧ M' 0 0 31 = 1 ∧ M' 0 0 24 = tkB (kTok T m p) := by
  obtain ⟨g1, g2, g3, g4, g5, g6, -⟩ := h.good
  obtain ⟨e3, e4, e5, e6, e7⟩ := h.2.1
  unfold f_Mo_takes
  rcases h.w with ⟨w1, w2⟩ | ⟨w1, w2⟩
  · rw [w1, if_pos (by decide), if_pos rfl, e5 w2, if_pos (show g32 _ by unfold g32; omega), if_pos (show g32 _ by decide)]
    by_cases c : tkS (kTok T m p) = 3
    · have e26 := e6 (by omega) (by omega)
      have ei : f_Mo_in M (tkV (kTok T m p)) 0 (-1) = some (0, M) := by
        unfold f_Mo_in
        rw [if_pos (show g32 _ by unfold g32; omega), if_pos (by decide), if_neg (by omega), if_pos (by decide), if_pos (by omega)]
      rw [if_pos c, e26, ei, obind, if_pos (show g32 (0 : Int) by decide), if_pos (show (0 : Int) = 0 by rfl)]
      exact ⟨mu M 0 0 31 1, rfl, fM.mu (by decide), mu_at _ _ _ _ _, e4⟩
    · rw [if_neg c]
      exact ⟨mu M 0 0 31 1, rfl, fM.mu (by decide), mu_at _ _ _ _ _, e4⟩
  · rw [w1, if_pos (by decide), if_neg (by decide)]
    exact ⟨mu M 0 0 31 1, rfl, fM.mu (by decide), mu_at _ _ _ _ _, e4⟩
/-- in braces, where no more may be opened -/
theorem m_brace0 {stp : mA → Option (Int × mA)} : mBr P T m 0 (f_Mo_inBraces stp) (kNoBr T m) := by
  intro M p k h h4
  have e24 := h.1.2.1.2.1
  unfold f_Mo_inBraces
  rw [m_isSign h.1 (by decide), obind, if_pos (by show g32 (if kSg (kTok T m p) 123 then 1 else 0); exact g32_if _)]
  by_cases q : kSg (kTok T m p) 123
  · rw [if_neg (fun h => (if0 _).mp h q)]
    show ∃ M', (if g32 (M 0 0 27) then if M 0 0 27 = 4 then some (0, mu M 0 0 31 1) else _ else none) = _ ∧ _
    rw [h4, if_pos (by decide), if_pos (by decide)]
    exact ⟨mu M 0 0 31 1, rfl, fT.w1, mu_at _ _ _ _ _, e24⟩
  · rw [if_pos ((if0 _).mpr q)]
    exact ⟨mu M 0 0 31 1, rfl, fT.w1, mu_at _ _ _ _ _, e24⟩
theorem m_brace (hd : d < 4) {stp : mA → Option (Int × mA)} {f : Nat → Nat → kR (List kS)} (hs : mBr P T m d stp f) (hf : kPs m f) : mBr P T m (d + 1) (f_Mo_inBraces stp) (kBrace T m f) := by
  intro M p k h h4
  have e24 := h.1.2.1.2.1
  have h120 := h.1.1.tx.1
  have hT := h.1.1.tx.2
  obtain ⟨g1, g2, g3, g4, -⟩ := h.1.good
  unfold f_Mo_inBraces
  rw [m_isSign h.1 (by decide), obind, if_pos (by show g32 (if kSg (kTok T m p) 123 then 1 else 0); exact g32_if _)]
  unfold kBrace
  by_cases q : kSg (kTok T m p) 123
  · have h31 := h.1.alive (by rw [q.1]; decide)
    rw [if_neg (fun h => (if0 _).mp h q), if_pos q, if_pos q]
    show ∃ M', (if g32 (M 0 0 27) then if M 0 0 27 = 4 then some (0, mu M 0 0 31 1) else Option.bind (f_Mo_next (mu M 0 0 27 (M 0 0 27 + 1))) _ else none) = _ ∧ _
    have e1 : (4 : Int) - ((d + 1 : Nat) : Int) + 1 = 4 - (d : Int) := by omega
    rw [h4, if_pos (show g32 _ by unfold g32; omega), if_neg (by omega), e1]
    obtain ⟨M1, x1, x2, x3⟩ := m_advS (h.o7 (z := 4 - (d : Int))) h31
    have o1 : M1 0 0 27 = 4 - d := (x2 0 0 27 (fun r => absurd r.2.2 (by decide))).trans (mu_at _ _ _ _ _)
    have f1 : fT P k M M1 := fT.o7.trans (fT.ofM x2 (by decide)) (Nat.le_refl k)
    rw [x1, obind]
    obtain ⟨M2, y1, y2, y4⟩ := m_block hs hf M1 _ k x3 o1
    show ∃ M', Option.bind (f_Mo_block stp M1) _ = _ ∧ _
    rw [y1, obind]
    show ∃ M', Option.bind (f_Mo_need (mu M2 0 0 27 (M2 0 0 27 - 1)) 125) _ = _ ∧ _
    have f2 : fT P k M (mu M2 0 0 27 (M2 0 0 27 - 1)) := (f1.trans y2 (Nat.le_refl k)).trans fT.o7 (Nat.le_refl k)
    cases hq : kBlock T m f k (tkE (kTok T m p)) with
    | inl b =>
      rw [hq] at y4
      rw [m_needD (show mu M2 0 0 27 (M2 0 0 27 - 1) 0 0 31 = 1 from y4.1), obind]
      exact ⟨mu (mu M2 0 0 27 (M2 0 0 27 - 1)) 0 0 31 1, rfl, f2.trans fT.w1 (Nat.le_refl k), mu_at _ _ _ _ _, y4.2⟩
    | inr x =>
      rw [hq] at y4
      obtain ⟨w2, w3, w4⟩ := y4
      obtain ⟨b1, b2, b3, b4⟩ := kBlock_pr h120 hT hf _ _ g3 x hq
      obtain ⟨M3, v1, v2, v3⟩ := m_need2 (w2.o7 (z := M2 0 0 27 - 1)).1 (c := 125) (by decide)
      rw [v1, obind]
      dsimp only
      have f3 : fT P k M M3 := f2.trans (fT.ofM v2 (by decide)) (Nat.le_refl k)
      rcases v3 with ⟨q2, v3⟩ | ⟨q2, v3, v4⟩
      · have a2 : M2 0 0 31 = 0 := w2.1.alive (by rw [q2.1]; decide)
        obtain ⟨i1, i2, i3, -⟩ := w2.1.good
        rw [if_pos q2]
        refine ⟨M3, rfl, f3, (w2.o7 (z := M2 0 0 27 - 1)).goM v2 v3 (by omega) (fun _ => a2), ?_, fun _ => ?_⟩
        · refine (v2 0 0 27 (fun r => absurd r.2.2 (by decide))).trans ((mu_at _ _ _ _ _).trans ?_)
          rw [w3]
          omega
        · exact (w4 a2).keep (k' := k + x.2.length) (fT.o7.trans (fT.ofM v2 (by decide)) (Nat.le_refl _)) (Nat.le_refl _)
      · rw [if_neg q2]
        exact ⟨M3, rfl, f3, v3, v4⟩
  · rw [if_pos ((if0 _).mpr q), if_neg q, if_neg q]
    exact ⟨mu M 0 0 31 1, rfl, fT.w1, mu_at _ _ _ _ _, e24⟩
/-- where braces were read, a sign stood -/
def kBrS (T : Nat → Int) (m : Nat) (br : Nat → Nat → kR (List kS)) : Prop := ∀ k p x, br k p = .inr x → tkS (kTok T m p) ≠ 5
theorem kNoBr_s : kBrS T m (kNoBr T m) := fun _ _ _ h => by cases h
theorem kBrace_s {f : Nat → Nat → kR (List kS)} : kBrS T m (kBrace T m f) := fun k p x h => by
  unfold kBrace at h
  by_cases c : kSg (kTok T m p) 123
  · rw [c.1]
    decide
  · rw [if_neg c] at h
    cases h
end MD
