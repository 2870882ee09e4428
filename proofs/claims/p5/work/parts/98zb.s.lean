/-! STEPS: readings go on (own work) -/
section KSP2
variable {T : Nat → Int} {m : Nat}
theorem kMore_pr (h120 : m ≤ 120) (hT : ∀ j, j < 120 → 0 ≤ T j ∧ T j ≤ 255) : ∀ n p, p ≤ m → ∀ x, kMore T m n p = .inr x → p ≤ x.1 ∧ x.1 ≤ m := by
  intro n
  induction n with
  | zero =>
    intro p hp x h
    by_cases c : kSg (kTok T m p) 44
    · unfold kMore at h
      rw [if_pos c] at h
      cases h
    · rw [kMore_no c] at h
      cases h
      exact ⟨Nat.le_refl _, hp⟩
  | succ n ih =>
    intro p hp x h
    obtain ⟨g1, g2, g3, g4, -⟩ := kTok_ok (T := T) h120 hT hp
    by_cases c : kSg (kTok T m p) 44
    · unfold kMore at h
      rw [if_pos c] at h
      cases h1 : kLot T m (tkE (kTok T m p)) with
      | inl b => simp only [h1] at h; cases h
      | inr y =>
        simp only [h1] at h
        obtain ⟨a1, a2, -⟩ := kLot_pr h120 hT g3 h1
        cases h2 : kMore T m n y.1 with
        | inl b => simp only [h2] at h; cases h
        | inr z =>
          simp only [h2] at h
          obtain ⟨b1, b2⟩ := ih y.1 a2 z h2
          cases h
          exact ⟨by show p ≤ z.1; omega, b2⟩
    · rw [kMore_no c] at h
      cases h
      exact ⟨Nat.le_refl _, hp⟩
theorem kLots_pr (h120 : m ≤ 120) (hT : ∀ j, j < 120 → 0 ≤ T j ∧ T j ≤ 255) {p : Nat} (hp : p ≤ m) {x : Nat × List (Int × Int)} (h : kLots T m p = .inr x) : p + 1 ≤ x.1 ∧ x.1 ≤ m := by
  unfold kLots at h
  cases h1 : kLot T m p with
  | inl b => rw [h1] at h; cases h
  | inr y =>
    rw [h1] at h
    obtain ⟨a1, a2, -⟩ := kLot_pr h120 hT hp h1
    cases h2 : kMore T m 7 y.1 with
    | inl b => simp only [h2] at h; cases h
    | inr z =>
      simp only [h2] at h
      obtain ⟨b1, b2⟩ := kMore_pr h120 hT 7 y.1 a2 z h2
      cases h
      exact ⟨by show p + 1 ≤ z.1; omega, b2⟩
theorem kRest_pr (h120 : m ≤ 120) (hT : ∀ j, j < 120 → 0 ≤ T j ∧ T j ≤ 255) {lev others : Int} {ex : Nat → kR (List Int)} (hex : kPr m ex) {br : Nat → Nat → kR (List kS)} (hbr : kPs m br) {kind : Int} {k p : Nat} (hp : p ≤ m) (hk : k < 16) {x : Nat × List kS} (h : kRest T m lev others ex br kind k p = .inr x) : p ≤ x.1 ∧ x.1 ≤ m ∧ 1 ≤ x.2.length ∧ k + x.2.length ≤ 16 := by
  obtain ⟨g1, g2, g3, -⟩ := kTok_ok (T := T) h120 hT hp
  unfold kRest at h
  by_cases c0 : kind = 0
  · rw [if_pos c0] at h
    obtain ⟨-, h⟩ := kName_inr h
    obtain ⟨y, h1, h⟩ := kThen_inr h
    obtain ⟨a1, a2⟩ := kLots_pr h120 hT g3 h1
    by_cases c : 0 < kBt (kSumW y.2)
    · rw [if_pos c] at h
      cases h
      exact ⟨by show p ≤ y.1; omega, a2, Nat.le_refl _, hk⟩
    · rw [if_neg c] at h
      cases h
  rw [if_neg c0] at h
  by_cases c1 : kind = 1
  · rw [if_pos c1] at h
    obtain ⟨-, h⟩ := kName_inr h
    obtain ⟨y, h1, h⟩ := kThen_inr h
    obtain ⟨a1, a2, -⟩ := hex _ g3 y h1
    cases h
    exact ⟨by show p ≤ y.1; omega, a2, Nat.le_refl _, hk⟩
  rw [if_neg c1] at h
  by_cases c2 : kind = 2
  · rw [if_pos c2] at h
    obtain ⟨y, h1, h⟩ := kThen_inr h
    obtain ⟨a1, a2, -⟩ := hex _ hp y h1
    cases h
    exact ⟨by show p ≤ y.1; omega, a2, Nat.le_refl _, hk⟩
  rw [if_neg c2] at h
  by_cases c3 : kind = 3
  · rw [if_pos c3] at h
    obtain ⟨y, h1, h⟩ := kThen_inr h
    obtain ⟨a1, a2, -⟩ := hex _ hp y h1
    obtain ⟨z, h2, h⟩ := kThen_inr h
    obtain ⟨b1, b2, b3, b4⟩ := hbr _ _ a2 z h2
    obtain ⟨w, h3, h⟩ := kThen_inr h
    obtain ⟨d1, d2, d3, d4⟩ := hbr _ _ b2 w h3
    cases h
    refine ⟨by show p ≤ w.1; omega, d2, ?_, ?_⟩
    · show 1 ≤ (_ :: (z.2 ++ w.2)).length
      rw [List.length_cons]
      omega
    · show k + (_ :: (z.2 ++ w.2)).length ≤ 16
      rw [List.length_cons, List.length_append]
      omega
  rw [if_neg c3] at h
  by_cases c4 : kind = 4
  · rw [if_pos c4] at h
    obtain ⟨-, h⟩ := kNumb_inr h
    obtain ⟨z, h2, h⟩ := kThen_inr h
    obtain ⟨b1, b2, b3, b4⟩ := hbr _ _ g3 z h2
    cases h
    refine ⟨by show p ≤ z.1; omega, b2, ?_, ?_⟩
    · show 1 ≤ (_ :: z.2).length
      rw [List.length_cons]
      omega
    · show k + (_ :: z.2).length ≤ 16
      rw [List.length_cons]
      omega
  rw [if_neg c4] at h
  obtain ⟨-, h⟩ := kName_inr h
  obtain ⟨-, h⟩ := kNumb_inr h
  obtain ⟨i1, i2, i3, -⟩ := kTok_ok (T := T) h120 hT g3
  obtain ⟨y, h1, h⟩ := kThen_inr h
  obtain ⟨a1, a2, -⟩ := hex _ i3 y h1
  cases h
  exact ⟨by show p ≤ y.1; omega, a2, Nat.le_refl _, hk⟩
theorem kStepB_pr (h120 : m ≤ 120) (hT : ∀ j, j < 120 → 0 ≤ T j ∧ T j ≤ 255) {lev others : Int} {ex : Nat → kR (List Int)} (hex : kPr m ex) {br : Nat → Nat → kR (List kS)} (hbr : kPs m br) : kPs m (kStepB T m lev others ex br) := by
  intro k p hp x h
  obtain ⟨g1, g2, g3, g4, -⟩ := kTok_ok (T := T) h120 hT hp
  unfold kStepB at h
  by_cases c : tkS (kTok T m p) = 2 ∧ k < 16
  · rw [if_pos c] at h
    have g5 := g4.resolve_left (by rw [c.1]; decide)
    obtain ⟨a1, a2, a3, a4⟩ := kRest_pr h120 hT hex hbr g3 c.2 h
    exact ⟨by omega, a2, a3, a4⟩
  · rw [if_neg c] at h
    cases h
theorem kNoBr_pr : kPs m (kNoBr T m) := fun _ _ _ _ h => by cases h
theorem kStep_pr (h120 : m ≤ 120) (hT : ∀ j, j < 120 → 0 ≤ T j ∧ T j ≤ 255) (others : Int) : ∀ d, kPs m (kStep T m others d) := by
  intro d
  induction d with
  | zero => exact kStepB_pr h120 hT (kExp_pr h120 hT (kOne_pr h120 hT 0)) kNoBr_pr
  | succ d ih => exact kStepB_pr h120 hT (kExp_pr h120 hT (kOne_pr h120 hT (d + 1))) (kBrace_pr h120 hT ih)
end KSP2
