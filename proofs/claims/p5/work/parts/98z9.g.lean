/-! LOTS, both, from their first (own work) -/
section LB
variable {o s pr ca lv lw : Nat} {T : Nat → Int} {m : Nat}
theorem c_lots {C : mA} {p : Nat} (h : cLt o pr ca lv lw T m C p) : ∃ z C', f_Read_readLots C o s = some (z, C') ∧ fLs o s pr lv lw C C' ∧ C' 3 o 5 = C 3 o 5 ∧ C' 6 s 11 = C 2 pr 6 ∧ kCase (kLots T m p) (fun b => z = 0 ∧ C' 3 o 6 = b) (fun y => (0 < kBt (kSumW y.2) → z = 1 ∧ cLt o pr ca lv lw T m C' y.1 ∧ C' 6 s 2 = y.2.length ∧ C' 6 s 7 = kBt (kSumW y.2) ∧ C' 2 pr 6 = C 2 pr 6 + y.2.length ∧ lotsAt C' lv lw (C 2 pr 6).toNat y.2) ∧ (¬ 0 < kBt (kSumW y.2) → z = 0 ∧ C' 3 o 6 = tkB (kTok T m y.1))) := by
  have h120 := h.1.1.tx.1
  have hT := h.1.1.tx.2
  have hl0 := h.2.2.2.2.1
  have h1 : cLt o pr ca lv lw T m (mu C 6 s 11 (C 2 pr 6)) p := h.st
  have f1 : fLs o s pr lv lw C (mu C 6 s 11 (C 2 pr 6)) := fLs.s (by decide)
  have l1 : mu C 6 s 11 (C 2 pr 6) 2 pr 6 = C 2 pr 6 := rfl
  unfold f_Read_readLots
  rw [h.1.1.2.1, if_pos (by omega), Int.toNat_natCast]
  obtain ⟨z, C2, y1, y2, y3, y4⟩ := c_lot h1
  rw [y1, obind]
  show ∃ z' C', f_Read_readLots_21 20 C2 o s z 1 0 = _ ∧ _
  have fr2 := f1.trans (fLs.of y2)
  have e11 : C2 6 s 11 = C 2 pr 6 := (y2.2 6 s 11 (fun r => by
    rcases r with r | r | r <;> exact absurd r.1 (by decide))).trans (mu_at _ _ _ _ _)
  unfold kLots
  cases hq : kLot T m p with
  | inl b =>
    rw [hq] at y4
    obtain ⟨w1, w2⟩ := y4
    subst w1
    have e0 : f_Read_readLots_21 20 C2 o s 0 1 0 = some (0, mu (mu C2 6 s 2 1) 6 s 7 0) := rfl
    rw [e0]
    exact ⟨0, mu (mu C2 6 s 2 1) 6 s 7 0, rfl, (fr2.trans (fLs.s (by decide))).trans (fLs.s (by decide)), y3, e11, rfl, w2⟩
  | inr x =>
    rw [hq] at y4
    obtain ⟨w1, w2, w3, w4, w5⟩ := y4
    obtain ⟨b1, b2, b3, b4⟩ := kLot_pr h120 hT h.1.2.2.1 hq
    obtain ⟨z', C3, v1, v2, v3, v5, v4⟩ := c_more (s := s) 7 1 20 x.1 C2 z rfl (by omega) (by omega) w2 (by omega)
    refine ⟨z', C3, v1, fr2.trans v2, v3.trans y3, v5.trans e11, ?_⟩
    dsimp only
    cases hq2 : kMore T m 7 x.1 with
    | inl b =>
      rw [hq2] at v4
      exact v4
    | inr y =>
      rw [hq2] at v4
      obtain ⟨u1, u2⟩ := v4
      have es : kSumW (x.2 :: y.2) = z + kSumW y.2 := by
        rw [w1]
        unfold kSumW
        rw [List.map_cons, List.sum_cons]
      refine ⟨fun q => ?_, fun q => ?_⟩
      · have q' : 0 < kBt (z + kSumW y.2) := by
          rw [← es]
          exact q
        obtain ⟨t1, t2, t3, t4, t5, t6⟩ := u1 q'
        refine ⟨t1, t2, ?_, ?_, ?_, fun i hi => ?_⟩
        · rw [t3]
          show (1 : Int) + _ = ((y.2.length + 1 : Nat) : Int)
          omega
        · rw [t4, ← es]
        · rw [t5, w3, l1]
          show _ = _ + ((y.2.length + 1 : Nat) : Int)
          omega
        · cases i with
          | zero =>
            rw [l1] at w4 w5
            have e1 := v2.lot lv (C 2 pr 6).toNat (by omega)
            have e2 := v2.lot lw (C 2 pr 6).toNat (by omega)
            exact ⟨e1.trans w4, e2.trans w5⟩
          | succ i =>
            have := t6 i (by
              have hi' : i + 1 < y.2.length + 1 := hi
              omega)
            have e3 : (C2 2 pr 6).toNat + i = (C 2 pr 6).toNat + (i + 1) := by omega
            rw [e3] at this
            exact this
      · have q' : ¬ 0 < kBt (z + kSumW y.2) := by
          rw [← es]
          exact q
        exact u2 q'
variable {P i : Nat}
theorem m_lots (hi : i < 16) {M : mA} {p : Nat} (h : mLt P T m M p) : ∃ M', f_Mo_lotsOf M P i = some (0, M') ∧ mMr P i T m M 0 0 M' (kLots T m p) := by
  have h120 := h.1.1.tx.1
  have hT := h.1.1.tx.2
  have hP := h.1.1.2.2.1
  have h2 := h.2.1
  unfold f_Mo_lotsOf
  rw [f_Mo_lotsOf_8, if_pos (show g32 (1 : Int) by decide), if_neg (show ¬ (1 : Int) = 0 by decide)]
  unfold kLots
  rcases h.1.w with ⟨w1, w2⟩ | ⟨w1, w2⟩
  · rw [w1, if_pos (by decide), if_pos rfl, if_pos (show g32 (0 : Int) by decide), if_neg (show ¬ (0 : Int) = 8 by decide), if_pos (show (0 : Int) ≤ 0 by decide)]
    show ∃ M', gmTail 19 P i 0 0 M = _ ∧ _
    obtain ⟨M3, y1, y2⟩ := m_tail (i := i) h 19 0 0
    cases hq : kLot T m p with
    | inl b =>
      rw [hq] at y2
      obtain ⟨x1, x2, x3⟩ := y2
      exact ⟨M3, x1, fK.ofM y1, h.1.1.fM y1 (by decide), x2, x3⟩
    | inr x =>
      rw [hq] at y2
      obtain ⟨w0, w⟩ := y2
      obtain ⟨b1, b2, b3, b4⟩ := kLot_pr h120 hT h.1.2.2.1 hq
      dsimp only
      rcases w with ⟨k1, k2⟩ | ⟨k1, M4, k2, k3, k4, k5, k6, k7, k8⟩
      · have n5 : tkS (kTok T m x.1) = 5 := by
          rcases w0.w with q | q
          · exact absurd q.1 (by rw [k1]; decide)
          · exact q.2
        rw [kMore_no (show ¬ kSg (kTok T m x.1) 44 from fun r => absurd r.1 (by rw [n5]; decide))]
        exact ⟨M3, k2, fK.ofM y1, w0.1, fun _ => ⟨w0, fun q => absurd q (by rw [k1]; decide)⟩, fun _ => ⟨k1, w0.2.1.2.1⟩⟩
      · obtain ⟨M5, v1, v2, v3, v4⟩ := m_more hi 7 1 19 x.1 M4 (0 + x.2.2) rfl (by omega) (by omega) k4 k5 (by omega)
        refine ⟨M5, k2.trans v1, k3.trans v2, v3, ?_⟩
        cases hq2 : kMore T m 7 x.1 with
        | inl b =>
          rw [hq2] at v4
          exact v4
        | inr y =>
          rw [hq2] at v4
          obtain ⟨u1, u2⟩ := v4
          have es : 0 + kSumW (x.2 :: y.2) = 0 + x.2.2 + kSumW y.2 := by
            have : kSumW (x.2 :: y.2) = x.2.2 + kSumW y.2 := by
              unfold kSumW
              rw [List.map_cons, List.sum_cons]
            omega
          refine ⟨fun q => ?_, fun q => ?_⟩
          · rw [es] at q
            obtain ⟨t1, t2⟩ := u1 q
            refine ⟨t1, fun q9 => ?_⟩
            obtain ⟨t3, t4, t5, t6⟩ := t2 q9
            refine ⟨?_, ?_, t5, fun j hj => ?_⟩
            · rw [t3]
              show ((1 : Nat) : Int) + _ = 0 + ((y.2.length + 1 : Nat) : Int)
              omega
            · rw [t4, k6]
              show _ = _ + ((y.2.length + 1 : Nat) : Int)
              omega
            · cases j with
              | zero =>
                have e1 := v2.lot (f := 41) (Or.inl rfl) (M 0 0 29).toNat (by omega)
                have e2 := v2.lot (f := 42) (Or.inr rfl) (M 0 0 29).toNat (by omega)
                exact ⟨e1.trans k7, e2.trans k8⟩
              | succ j =>
                have := t6 j (by
                  have hj' : j + 1 < y.2.length + 1 := hj
                  omega)
                have e3 : (M4 0 0 29).toNat + j = (M 0 0 29).toNat + (j + 1) := by omega
                rw [e3] at this
                exact this
          · rw [es] at q
            exact u2 q
  · rw [w1, if_pos (by decide), if_neg (by decide), m_finL hP hi (by decide)]
    have n3 : kLot T m p = .inl (tkB (kTok T m p)) := by
      unfold kLot
      rw [if_neg (fun r => absurd r.1 (by rw [w2]; decide))]
    rw [n3]
    exact ⟨_, rfl, fK.num.trans (fK.ofM (fM.mu (by decide))), (h.1.num (i := i) (z := 0)).1.fM (l := [31]) (fM.mu (by decide)) (by decide), mu_at _ _ _ _ _, h.1.2.1.2.1⟩
end LB
