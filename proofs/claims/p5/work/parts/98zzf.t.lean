/-! where a FAULT lies: within the text (own work) -/
def kQb {X : Type} (m : Nat) (f : Nat → kR X) : Prop := ∀ p, p ≤ m → ∀ b, f p = .inl b → b ≤ m
def kQs {X : Type} (m : Nat) (f : Nat → Nat → kR X) : Prop := ∀ k p, p ≤ m → ∀ b, f k p = .inl b → b ≤ m
section FLT
variable {T : Nat → Int} {m : Nat}
theorem kLoop_fl (h120 : m ≤ 120) (hT : ∀ j, j < 120 → 0 ≤ T j ∧ T j ≤ 255) {f : Nat → kR (List Int)} (hp9 : kPr m f) (hf : kQb m f) {s1 s2 : Int} : ∀ n p, p ≤ m → ∀ b, kLoop T m f s1 s2 n p = .inl b → b ≤ m := by
  intro n
  induction n with
  | zero => intro p hp b h; cases h
  | succ n ih =>
    intro p hp b h
    obtain ⟨g1, g2, g3, -⟩ := kTok_ok (T := T) h120 hT hp
    unfold kLoop at h
    by_cases c : kSg (kTok T m p) s1 ∨ kSg (kTok T m p) s2
    · rw [if_pos c] at h
      cases h1 : f (tkE (kTok T m p)) with
      | inl b2 =>
        simp only [h1] at h
        cases h
        exact hf _ g3 b h1
      | inr y =>
        simp only [h1] at h
        cases h2 : kLoop T m f s1 s2 n y.1 with
        | inl b2 =>
          simp only [h2] at h
          cases h
          exact ih y.1 (hp9 _ g3 y h1).2.1 b h2
        | inr z => simp only [h2] at h; cases h
    · rw [if_neg c] at h
      cases h
theorem kRow_fl (h120 : m ≤ 120) (hT : ∀ j, j < 120 → 0 ≤ T j ∧ T j ≤ 255) {f : Nat → kR (List Int)} (hp9 : kPr m f) (hf : kQb m f) {s1 s2 : Int} : kQb m (kRow T m f s1 s2) := by
  intro p hp b h
  unfold kRow at h
  cases h1 : f p with
  | inl b2 =>
    rw [h1] at h
    cases h
    exact hf p hp b h1
  | inr y =>
    rw [h1] at h
    cases h2 : kLoop T m f s1 s2 121 y.1 with
    | inl b2 =>
      simp only [h2] at h
      cases h
      exact kLoop_fl h120 hT hp9 hf 121 y.1 (hp9 _ hp y h1).2.1 b h2
    | inr z => simp only [h2] at h; cases h
theorem kExp_fl (h120 : m ≤ 120) (hT : ∀ j, j < 120 → 0 ≤ T j ∧ T j ≤ 255) {f : Nat → kR (List Int)} (hp9 : kPr m f) (hf : kQb m f) : kQb m (kExp T m f) := by
  have hr := kRow_pr h120 hT (kRow_pr h120 hT hp9 (s1 := 42) (s2 := 37)) (s1 := 43) (s2 := 45)
  have hq := kRow_fl h120 hT (kRow_pr h120 hT hp9 (s1 := 42) (s2 := 37)) (kRow_fl h120 hT hp9 hf (s1 := 42) (s2 := 37)) (s1 := 43) (s2 := 45)
  intro p hp b h
  unfold kExp at h
  cases h1 : kRow T m (kRow T m f 42 37) 43 45 p with
  | inl b2 =>
    rw [h1] at h
    cases h
    exact hq p hp b h1
  | inr y =>
    rw [h1] at h
    obtain ⟨a1, a2, -⟩ := hr _ hp y h1
    obtain ⟨g1, g2, g3, -⟩ := kTok_ok (T := T) h120 hT a2
    by_cases c : kSg (kTok T m y.1) 60 ∨ kSg (kTok T m y.1) 61
    · simp only [if_pos c] at h
      cases h2 : kRow T m (kRow T m f 42 37) 43 45 (tkE (kTok T m y.1)) with
      | inl b2 =>
        simp only [h2] at h
        cases h
        exact hq _ g3 b h2
      | inr z => simp only [h2] at h; cases h
    · simp only [if_neg c] at h
      cases h
theorem kOne_fl (h120 : m ≤ 120) (hT : ∀ j, j < 120 → 0 ≤ T j ∧ T j ≤ 255) : ∀ d, kQb m (kOne T m d) := by
  intro d
  induction d with
  | zero =>
    intro p hp b h
    obtain ⟨g1, g2, g3, -⟩ := kTok_ok (T := T) h120 hT hp
    unfold kOne at h
    by_cases c3 : tkS (kTok T m p) = 3
    · rw [if_pos c3] at h; cases h
    rw [if_neg c3] at h
    by_cases c1 : tkS (kTok T m p) = 1
    · rw [if_pos c1] at h; cases h
    rw [if_neg c1] at h
    split at h
    · cases h
      omega
    · cases h
      omega
  | succ d ih =>
    intro p hp b h
    obtain ⟨g1, g2, g3, -⟩ := kTok_ok (T := T) h120 hT hp
    unfold kOne at h
    by_cases c3 : tkS (kTok T m p) = 3
    · rw [if_pos c3] at h; cases h
    rw [if_neg c3] at h
    by_cases c1 : tkS (kTok T m p) = 1
    · rw [if_pos c1] at h; cases h
    rw [if_neg c1] at h
    by_cases c : kSg (kTok T m p) 45 ∨ kSg (kTok T m p) 40
    · rw [if_pos c] at h
      by_cases cm : kSg (kTok T m p) 45
      · simp only [if_pos cm] at h
        cases h1 : kOne T m d (tkE (kTok T m p)) with
        | inl b2 =>
          simp only [h1] at h
          cases h
          exact ih _ g3 b h1
        | inr y => simp only [h1] at h; cases h
      · simp only [if_neg cm] at h
        cases h1 : kExp T m (kOne T m d) (tkE (kTok T m p)) with
        | inl b2 =>
          simp only [h1] at h
          cases h
          exact kExp_fl h120 hT (kOne_pr h120 hT d) ih _ g3 b h1
        | inr y =>
          simp only [h1] at h
          obtain ⟨a1, a2, -⟩ := kExp_pr h120 hT (kOne_pr h120 hT d) _ g3 y h1
          obtain ⟨e1, e2, e3, -⟩ := kTok_ok (T := T) h120 hT a2
          by_cases cc : kSg (kTok T m y.1) 41
          · simp only [if_pos cc] at h
            cases h
          · simp only [if_neg cc] at h
            cases h
            omega
    · rw [if_neg c] at h
      cases h
      omega
theorem kLot_fl (h120 : m ≤ 120) (hT : ∀ j, j < 120 → 0 ≤ T j ∧ T j ≤ 255) : kQb m (kLot T m) := by
  intro p hp b h
  obtain ⟨g1, g2, g3, -⟩ := kTok_ok (T := T) h120 hT hp
  obtain ⟨i1, i2, i3, -⟩ := kTok_ok (T := T) h120 hT g3
  obtain ⟨j1, j2, j3, -⟩ := kTok_ok (T := T) h120 hT i3
  unfold kLot at h
  split at h
  · split at h
    · split at h
      · cases h
      · cases h
        omega
    · cases h
      omega
  · cases h
    omega
theorem kMore_fl (h120 : m ≤ 120) (hT : ∀ j, j < 120 → 0 ≤ T j ∧ T j ≤ 255) : ∀ n, kQb m (kMore T m n) := by
  intro n
  induction n with
  | zero =>
    intro p hp b h
    obtain ⟨g1, g2, g3, -⟩ := kTok_ok (T := T) h120 hT hp
    unfold kMore at h
    by_cases c : kSg (kTok T m p) 44
    · rw [if_pos c] at h
      cases h
      omega
    · rw [if_neg c] at h
      cases h
  | succ n ih =>
    intro p hp b h
    obtain ⟨g1, g2, g3, -⟩ := kTok_ok (T := T) h120 hT hp
    unfold kMore at h
    by_cases c : kSg (kTok T m p) 44
    · rw [if_pos c] at h
      cases h1 : kLot T m (tkE (kTok T m p)) with
      | inl b2 =>
        simp only [h1] at h
        cases h
        exact kLot_fl h120 hT _ g3 b h1
      | inr y =>
        simp only [h1] at h
        cases h2 : kMore T m n y.1 with
        | inl b2 =>
          simp only [h2] at h
          cases h
          exact ih y.1 (kLot_pr h120 hT g3 h1).2.1 b h2
        | inr z => simp only [h2] at h; cases h
    · rw [if_neg c] at h
      cases h
theorem kLots_fl (h120 : m ≤ 120) (hT : ∀ j, j < 120 → 0 ≤ T j ∧ T j ≤ 255) : kQb m (kLots T m) := by
  intro p hp b h
  unfold kLots at h
  cases h1 : kLot T m p with
  | inl b2 =>
    rw [h1] at h
    cases h
    exact kLot_fl h120 hT p hp b h1
  | inr y =>
    rw [h1] at h
    cases h2 : kMore T m 7 y.1 with
    | inl b2 =>
      simp only [h2] at h
      cases h
      exact kMore_fl h120 hT 7 y.1 (kLot_pr h120 hT hp h1).2.1 b h2
    | inr z => simp only [h2] at h; cases h
theorem kName_inl {X : Type} {p : Nat} {g : Int → Nat → kR X} {b : Nat} (h : kName T m p g = .inl b) : b = tkB (kTok T m p) ∨ g (tkV (kTok T m p)) (tkE (kTok T m p)) = .inl b := by
  unfold kName at h
  by_cases c : tkS (kTok T m p) = 1
  · rw [if_pos c] at h
    exact Or.inr h
  · rw [if_neg c] at h
    cases h
    exact Or.inl rfl
theorem kNumb_inl {X : Type} {below : Int} {p : Nat} {g : Int → Nat → kR X} {b : Nat} (h : kNumb T m below p g = .inl b) : b = tkB (kTok T m p) ∨ g (tkV (kTok T m p)) (tkE (kTok T m p)) = .inl b := by
  unfold kNumb at h
  by_cases c : tkS (kTok T m p) = 3 ∧ tkV (kTok T m p) < below
  · rw [if_pos c] at h
    exact Or.inr h
  · rw [if_neg c] at h
    cases h
    exact Or.inl rfl
theorem kThen_inl {X Y : Type} {r : kR X} {g : Nat → X → kR Y} {b : Nat} (h : kThen r g = .inl b) : r = .inl b ∨ ∃ x, r = .inr x ∧ g x.1 x.2 = .inl b := by
  cases r with
  | inl b2 =>
    cases h
    exact Or.inl rfl
  | inr x => exact Or.inr ⟨x, rfl, h⟩
theorem kRest_fl (h120 : m ≤ 120) (hT : ∀ j, j < 120 → 0 ≤ T j ∧ T j ≤ 255) {lev others : Int} {ex : Nat → kR (List Int)} (hex : kPr m ex) (hexf : kQb m ex) {br : Nat → Nat → kR (List kS)} (hbp : kPs m br) (hbf : kQs m br) {kind : Int} {k p : Nat} (hp : p ≤ m) {b : Nat} (h : kRest T m lev others ex br kind k p = .inl b) : b ≤ m := by
  obtain ⟨g1, g2, g3, -⟩ := kTok_ok (T := T) h120 hT hp
  unfold kRest at h
  by_cases c0 : kind = 0
  · rw [if_pos c0] at h
    rcases kName_inl h with e | h
    · omega
    rcases kThen_inl h with h | ⟨y, h1, h⟩
    · exact kLots_fl h120 hT _ g3 b h
    · obtain ⟨a1, a2⟩ := kLots_pr h120 hT g3 h1
      obtain ⟨i1, i2, i3, -⟩ := kTok_ok (T := T) h120 hT a2
      by_cases c : 0 < kBt (kSumW y.2)
      · rw [if_pos c] at h
        cases h
      · rw [if_neg c] at h
        cases h
        omega
  rw [if_neg c0] at h
  by_cases c1 : kind = 1
  · rw [if_pos c1] at h
    rcases kName_inl h with e | h
    · omega
    rcases kThen_inl h with h | ⟨y, h1, h⟩
    · exact hexf _ g3 b h
    · cases h
  rw [if_neg c1] at h
  by_cases c2 : kind = 2
  · rw [if_pos c2] at h
    rcases kThen_inl h with h | ⟨y, h1, h⟩
    · exact hexf _ hp b h
    · cases h
  rw [if_neg c2] at h
  by_cases c3 : kind = 3
  · rw [if_pos c3] at h
    rcases kThen_inl h with h | ⟨y, h1, h⟩
    · exact hexf _ hp b h
    obtain ⟨a1, a2, -⟩ := hex _ hp y h1
    rcases kThen_inl h with h | ⟨z, h2, h⟩
    · exact hbf _ _ a2 b h
    obtain ⟨b1, b2, -⟩ := hbp _ _ a2 z h2
    rcases kThen_inl h with h | ⟨w, h3, h⟩
    · exact hbf _ _ b2 b h
    · cases h
  rw [if_neg c3] at h
  by_cases c4 : kind = 4
  · rw [if_pos c4] at h
    rcases kNumb_inl h with e | h
    · omega
    rcases kThen_inl h with h | ⟨z, h2, h⟩
    · exact hbf _ _ g3 b h
    · cases h
  rw [if_neg c4] at h
  rcases kName_inl h with e | h
  · omega
  obtain ⟨i1, i2, i3, -⟩ := kTok_ok (T := T) h120 hT g3
  rcases kNumb_inl h with e | h
  · omega
  rcases kThen_inl h with h | ⟨y, h1, h⟩
  · exact hexf _ i3 b h
  · cases h
theorem kStepB_fl (h120 : m ≤ 120) (hT : ∀ j, j < 120 → 0 ≤ T j ∧ T j ≤ 255) {lev others : Int} {ex : Nat → kR (List Int)} (hex : kPr m ex) (hexf : kQb m ex) {br : Nat → Nat → kR (List kS)} (hbp : kPs m br) (hbf : kQs m br) : kQs m (kStepB T m lev others ex br) := by
  intro k p hp b h
  obtain ⟨g1, g2, g3, -⟩ := kTok_ok (T := T) h120 hT hp
  unfold kStepB at h
  by_cases c : tkS (kTok T m p) = 2 ∧ k < 16
  · rw [if_pos c] at h
    exact kRest_fl h120 hT hex hexf hbp hbf g3 h
  · rw [if_neg c] at h
    cases h
    omega
theorem kBlk_fl (h120 : m ≤ 120) (hT : ∀ j, j < 120 → 0 ≤ T j ∧ T j ≤ 255) {f : Nat → Nat → kR (List kS)} (hp9 : kPs m f) (hf : kQs m f) : ∀ n, kQs m (kBlk T m f n) := by
  intro n
  induction n with
  | zero => intro k p hp b h; cases h
  | succ n ih =>
    intro k p hp b h
    obtain ⟨g1, g2, g3, -⟩ := kTok_ok (T := T) h120 hT hp
    unfold kBlk at h
    by_cases c : kSg (kTok T m p) 59
    · rw [if_pos c] at h
      cases h1 : f k (tkE (kTok T m p)) with
      | inl b2 =>
        simp only [h1] at h
        cases h
        exact hf _ _ g3 b h1
      | inr y =>
        simp only [h1] at h
        cases h2 : kBlk T m f n (k + y.2.length) y.1 with
        | inl b2 =>
          simp only [h2] at h
          cases h
          exact ih _ y.1 (hp9 _ _ g3 y h1).2.1 b h2
        | inr z => simp only [h2] at h; cases h
    · rw [if_neg c] at h
      cases h
theorem kBlock_fl (h120 : m ≤ 120) (hT : ∀ j, j < 120 → 0 ≤ T j ∧ T j ≤ 255) {f : Nat → Nat → kR (List kS)} (hp9 : kPs m f) (hf : kQs m f) : kQs m (kBlock T m f) := by
  intro k p hp b h
  unfold kBlock at h
  cases h1 : f k p with
  | inl b2 =>
    rw [h1] at h
    cases h
    exact hf k p hp b h1
  | inr y =>
    rw [h1] at h
    cases h2 : kBlk T m f 121 (k + y.2.length) y.1 with
    | inl b2 =>
      simp only [h2] at h
      cases h
      exact kBlk_fl h120 hT hp9 hf 121 _ y.1 (hp9 _ _ hp y h1).2.1 b h2
    | inr z => simp only [h2] at h; cases h
theorem kBrace_fl (h120 : m ≤ 120) (hT : ∀ j, j < 120 → 0 ≤ T j ∧ T j ≤ 255) {f : Nat → Nat → kR (List kS)} (hp9 : kPs m f) (hf : kQs m f) : kQs m (kBrace T m f) := by
  intro k p hp b h
  obtain ⟨g1, g2, g3, -⟩ := kTok_ok (T := T) h120 hT hp
  unfold kBrace at h
  by_cases c : kSg (kTok T m p) 123
  · rw [if_pos c] at h
    cases h1 : kBlock T m f k (tkE (kTok T m p)) with
    | inl b2 =>
      rw [h1] at h
      cases h
      exact kBlock_fl h120 hT hp9 hf _ _ g3 b h1
    | inr y =>
      rw [h1] at h
      obtain ⟨a1, a2, -⟩ := kBlock_pr h120 hT hp9 _ _ g3 y h1
      obtain ⟨e1, e2, e3, -⟩ := kTok_ok (T := T) h120 hT a2
      by_cases c2 : kSg (kTok T m y.1) 125
      · simp only [if_pos c2] at h
        cases h
      · simp only [if_neg c2] at h
        cases h
        omega
  · rw [if_neg c] at h
    cases h
    omega
theorem kStep_fl (h120 : m ≤ 120) (hT : ∀ j, j < 120 → 0 ≤ T j ∧ T j ≤ 255) (others : Int) : ∀ d, kQs m (kStep T m others d) := by
  intro d
  induction d with
  | zero => exact kStepB_fl h120 hT (kExp_pr h120 hT (kOne_pr h120 hT 0)) (kExp_fl h120 hT (kOne_pr h120 hT 0) (kOne_fl h120 hT 0)) kNoBr_pr (fun k p hp b h => by
      obtain ⟨g1, g2, g3, -⟩ := kTok_ok (T := T) h120 hT hp
      cases h
      omega)
  | succ d ih => exact kStepB_fl h120 hT (kExp_pr h120 hT (kOne_pr h120 hT (d + 1))) (kExp_fl h120 hT (kOne_pr h120 hT (d + 1)) (kOne_fl h120 hT (d + 1))) (kBrace_pr h120 hT (kStep_pr h120 hT others d)) (kBrace_fl h120 hT (kStep_pr h120 hT others d) ih)
theorem kProg_fl (h120 : m ≤ 120) (hT : ∀ j, j < 120 → 0 ≤ T j ∧ T j ≤ 255) {others : Int} {b : Nat} (h : kProg T m others = .inl b) : b ≤ m := by
  unfold kProg at h
  rcases kThen_inl h with h | ⟨y, h1, h⟩
  · exact kBlock_fl h120 hT (kStep_pr h120 hT others 4) (kStep_fl h120 hT others 4) 0 0 (Nat.zero_le m) b h
  · obtain ⟨-, b2, -, -⟩ := kBlock_pr h120 hT (kStep_pr h120 hT others 4) 0 0 (Nat.zero_le m) y h1
    obtain ⟨g1, g2, g3, -⟩ := kTok_ok (T := T) h120 hT b2
    by_cases c : tkS (kTok T m y.1) = 0
    · rw [if_pos c] at h
      cases h
    · rw [if_neg c] at h
      cases h
      omega
end FLT
