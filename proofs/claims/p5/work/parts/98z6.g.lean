/-! LOTS of the reference (own work): takes, one lot -/
section ML
variable {P : Nat} {T : Nat → Int} {m : Nat}
theorem mI9.fM {M M' : mA} {l : List Nat} (h : mI9 P T m M) (hf : fM M M' l) (hl : ∀ j, j ∈ l → j ∈ [23, 24, 25, 26, 27, 29, 31]) : mI9 P T m M' := by
  have e : ∀ j, j ∉ l → M' 0 0 j = M 0 0 j := fun j hj => hf 0 0 j (fun r => hj r.2.2)
  refine ⟨h.1.fr hf (fun r => absurd (hl 22 r) (by decide)), ?_, h.2.2.1, ?_, ?_⟩
  · rw [e 0 (fun r => absurd (hl 0 r) (by decide))]; exact h.2.1
  · rw [e 30 (fun r => absurd (hl 30 r) (by decide))]; exact h.2.2.2.1
  · rw [e 30 (fun r => absurd (hl 30 r) (by decide))]; exact h.2.2.2.2
theorem m_need2 {M : mA} {p : Nat} {c : Int} (h : mE9 P T m M p) (hc : 0 ≤ c ∧ c ≤ 255) : ∃ M', f_Mo_need M c = some (0, M') ∧ fM M M' [23, 24, 25, 26, 31] ∧ (kSg (kTok T m p) c ∧ mE9 P T m M' (tkE (kTok T m p)) ∨ ¬ kSg (kTok T m p) c ∧ M' 0 0 31 = 1 ∧ M' 0 0 24 = tkB (kTok T m p)) := by
  unfold f_Mo_need
  rw [m_isSign h hc, obind, if_pos (by show g32 (if kSg (kTok T m p) c then 1 else 0); exact g32_if _)]
  by_cases k : kSg (kTok T m p) c
  · rw [if_neg (fun h => (if0 _).mp h k)]
    have h31 : M 0 0 31 = 0 := by
      rcases h.w with w | w
      · exact w.1
      · exact absurd w.2 (by rw [k.1]; decide)
    obtain ⟨g1, g2, g3, g4, -⟩ := h.good
    obtain ⟨M1, x1, x2, x3⟩ := m_adv h.1 h.2.1 h31 h.2.2.1 (by have := h.2.2.2; omega)
    show ∃ M', Option.bind (f_Mo_next M) _ = _ ∧ _
    rw [x1, obind]
    exact ⟨M1, rfl, x2, Or.inl ⟨k, x3⟩⟩
  · rw [if_pos ((if0 _).mpr k)]
    exact ⟨mu M 0 0 31 1, rfl, fM.mu (by decide), Or.inr ⟨k, mu_at _ _ _ _ _, h.2.1.2.1⟩⟩
theorem m_takes {M : mA} {p : Nat} {so lo hi : Int} (h : mE9 P T m M p) (hs : so = 1 ∨ so = 3) (h1 : 0 ≤ lo ∧ lo ≤ 255) (h2 : 0 ≤ hi ∧ hi ≤ 255) : ∃ z M', f_Mo_takes M so lo hi = some (z, M') ∧ fM M M' [23, 24, 25, 26, 31] ∧ ((tkS (kTok T m p) = so ∧ lo ≤ tkV (kTok T m p) ∧ tkV (kTok T m p) ≤ hi) ∧ z = tkV (kTok T m p) ∧ mE9 P T m M' (tkE (kTok T m p)) ∨ ¬ (tkS (kTok T m p) = so ∧ lo ≤ tkV (kTok T m p) ∧ tkV (kTok T m p) ≤ hi) ∧ z = 0 ∧ M' 0 0 31 = 1 ∧ M' 0 0 24 = tkB (kTok T m p)) := by
  obtain ⟨g1, g2, g3, g4, g5, g6, -⟩ := h.good
  obtain ⟨e3, e4, e5, e6, e7⟩ := h.2.1
  unfold f_Mo_takes
  rcases h.w with ⟨w1, w2⟩ | ⟨w1, w2⟩
  · rw [w1, if_pos (by decide), if_pos rfl, e5 w2, if_pos (show g32 _ by unfold g32; omega), if_pos (show g32 _ by unfold g32; omega)]
    by_cases c : tkS (kTok T m p) = so
    · have e26 := e6 (by omega) (by omega)
      rw [if_pos c, e26, m_in (by omega) h1 h2, obind]
      by_cases c2 : lo ≤ tkV (kTok T m p) ∧ tkV (kTok T m p) ≤ hi
      · obtain ⟨M1, x1, x2, x3⟩ := m_adv h.1 h.2.1 w1 h.2.2.1 (by have := h.2.2.2; omega)
        rw [if_pos c2, if_pos (show g32 (1 : Int) by decide), if_neg (show ¬ (1 : Int) = 0 by decide)]
        show ∃ z M', Option.bind (f_Mo_next M) (fun q10 => some (M 0 0 26, q10.2)) = _ ∧ _
        rw [x1, obind, e26]
        exact ⟨_, M1, rfl, x2, Or.inl ⟨⟨c, c2⟩, rfl, x3⟩⟩
      · rw [if_neg c2, if_pos (show g32 (0 : Int) by decide), if_pos (show (0 : Int) = 0 by rfl)]
        exact ⟨0, mu M 0 0 31 1, rfl, fM.mu (by decide), Or.inr ⟨fun r => c2 r.2, rfl, mu_at _ _ _ _ _, e4⟩⟩
    · rw [if_neg c]
      exact ⟨0, mu M 0 0 31 1, rfl, fM.mu (by decide), Or.inr ⟨fun r => c r.1, rfl, mu_at _ _ _ _ _, e4⟩⟩
  · rw [w1, if_pos (by decide), if_neg (by decide)]
    exact ⟨0, mu M 0 0 31 1, rfl, fM.mu (by decide), Or.inr ⟨fun r => by have := r.1; omega, rfl, mu_at _ _ _ _ _, e4⟩⟩
theorem m_takesD {M : mA} {so lo hi : Int} (h : M 0 0 31 = 1) : f_Mo_takes M so lo hi = some (0, mu M 0 0 31 1) := by
  unfold f_Mo_takes
  rw [h, if_pos (by decide), if_neg (by decide)]
/-- one lot -/
theorem m_lot {M : mA} {p : Nat} (h : mE9 P T m M p) : ∃ z1 z3 M1 M2 M3, f_Mo_takes M 3 0 9 = some (z1, M1) ∧ f_Mo_need M1 58 = some (0, M2) ∧ f_Mo_takes M2 3 1 16 = some (z3, M3) ∧ fM M M3 [23, 24, 25, 26, 31] ∧ kCase (kLot T m p) (fun b => M3 0 0 31 = 1 ∧ M3 0 0 24 = b) (fun x => z1 = x.2.1 ∧ z3 = x.2.2 ∧ mE9 P T m M3 x.1) := by
  obtain ⟨z1, M1, a1, a2, a3⟩ := m_takes h (so := 3) (lo := 0) (hi := 9) (Or.inr rfl) (by decide) (by decide)
  obtain ⟨-, -, -, -, -, g6, -⟩ := h.good
  have w1 : ∀ (N : mA), fM N (mu N 0 0 31 1) [23, 24, 25, 26, 31] := fun N => fM.mu (by decide)
  unfold kLot
  rcases a3 with ⟨c1, rfl, a5⟩ | ⟨c1, rfl, a5, a6⟩
  · rw [if_pos (show tkS (kTok T m p) = 3 ∧ tkV (kTok T m p) ≤ 9 from ⟨c1.1, c1.2.2⟩)]
    obtain ⟨M2, b1, b2, b3⟩ := m_need2 a5 (c := 58) (by decide)
    rcases b3 with ⟨c2, b5⟩ | ⟨c2, b5, b6⟩
    · rw [if_pos c2]
      obtain ⟨z3, M3, d1, d2, d3⟩ := m_takes b5 (so := 3) (lo := 1) (hi := 16) (Or.inr rfl) (by decide) (by decide)
      refine ⟨_, z3, M1, M2, M3, a1, b1, d1, (a2.trans b2).trans d2, ?_⟩
      rcases d3 with ⟨c3, rfl, d5⟩ | ⟨c3, -, d5, d6⟩
      · rw [if_pos c3]
        exact ⟨rfl, rfl, d5⟩
      · rw [if_neg c3]
        exact ⟨d5, d6⟩
    · rw [if_neg c2]
      exact ⟨_, 0, M1, M2, mu M2 0 0 31 1, a1, b1, m_takesD b5, (a2.trans b2).trans (w1 M2), mu_at _ _ _ _ _, b6⟩
  · rw [if_neg (show ¬ (tkS (kTok T m p) = 3 ∧ tkV (kTok T m p) ≤ 9) from fun r => c1 ⟨r.1, g6.1, r.2⟩)]
    exact ⟨0, 0, M1, mu M1 0 0 31 1, mu (mu M1 0 0 31 1) 0 0 31 1, a1, m_needD a5, m_takesD (mu_at _ _ _ _ _), (a2.trans (w1 M1)).trans (w1 _), mu_at _ _ _ _ _, a6⟩
end ML
