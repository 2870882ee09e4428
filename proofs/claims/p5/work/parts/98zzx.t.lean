/-! what is told of each step of a text (own work) -/
def okX (s : kS) : Prop := (sK s = 0 ∨ sK s = 1 ∨ sK s = 5 → 0 ≤ sN s ∧ sN s ≤ 5) ∧ (sK s = 2 ∨ sK s = 3 ∨ sK s = 4 → sN s = -1) ∧ (sK s = 1 ∨ sK s = 2 ∨ sK s = 3 → sU s = -1) ∧ (sK s = 0 ∨ sK s = 4 → sC s = [])
theorem okX_mk {k n u : Int} {i o : Nat} {c : List Int} {l : List (Int × Int)} {v : Int} (h : (k = 0 ∨ k = 1 ∨ k = 5 → 0 ≤ n ∧ n ≤ 5) ∧ (k = 2 ∨ k = 3 ∨ k = 4 → n = -1) ∧ (k = 1 ∨ k = 2 ∨ k = 3 → u = -1) ∧ (k = 0 ∨ k = 4 → c = [])) : okX (k, n, u, i, o, c, l, v) := h
/-- all that is read so is told so -/
def kXs (m : Nat) (f : Nat → Nat → kR (List kS)) : Prop := ∀ k p, p ≤ m → ∀ x, f k p = .inr x → ∀ s ∈ x.2, okX s
section KX
variable {T : Nat → Int} {m : Nat}
theorem kBlk_x (h120 : m ≤ 120) (hT : ∀ j, j < 120 → 0 ≤ T j ∧ T j ≤ 255) {f : Nat → Nat → kR (List kS)} (hf : kPs m f) (hq : kXs m f) : ∀ n k p, p ≤ m → k ≤ 16 → ∀ x, kBlk T m f n k p = .inr x → ∀ s ∈ x.2, okX s := by
  intro n
  induction n with
  | zero => intro k p hp hk x h; cases h; exact fun s hs => absurd hs List.not_mem_nil
  | succ n ih =>
    intro k p hp hk x h
    obtain ⟨g1, g2, g3, g4, -⟩ := kTok_ok (T := T) h120 hT hp
    unfold kBlk at h
    by_cases c : kSg (kTok T m p) 59
    · rw [if_pos c] at h
      cases h1 : f k (tkE (kTok T m p)) with
      | inl b => rw [h1] at h; cases h
      | inr y =>
        rw [h1] at h
        obtain ⟨a1, a2, a3, a4⟩ := hf _ _ g3 y h1
        cases h2 : kBlk T m f n (k + y.2.length) y.1 with
        | inl b => simp only [h2] at h; cases h
        | inr z =>
          simp only [h2] at h
          have b := ih _ y.1 a2 a4 z h2
          cases h
          intro s hs
          rcases List.mem_append.mp hs with hs | hs
          · exact hq _ _ g3 y h1 s hs
          · exact b s hs
    · rw [if_neg c] at h
      cases h
      exact fun s hs => absurd hs List.not_mem_nil
theorem kBlock_x (h120 : m ≤ 120) (hT : ∀ j, j < 120 → 0 ≤ T j ∧ T j ≤ 255) {f : Nat → Nat → kR (List kS)} (hf : kPs m f) (hq : kXs m f) : kXs m (kBlock T m f) := by
  intro k p hp x h
  unfold kBlock at h
  cases h1 : f k p with
  | inl b => rw [h1] at h; cases h
  | inr y =>
    rw [h1] at h
    obtain ⟨a1, a2, a3, a4⟩ := hf _ _ hp y h1
    cases h2 : kBlk T m f 121 (k + y.2.length) y.1 with
    | inl b => simp only [h2] at h; cases h
    | inr z =>
      simp only [h2] at h
      have b := kBlk_x h120 hT hf hq 121 _ y.1 a2 a4 z h2
      cases h
      intro s hs
      rcases List.mem_append.mp hs with hs | hs
      · exact hq _ _ hp y h1 s hs
      · exact b s hs
theorem kBrace_x (h120 : m ≤ 120) (hT : ∀ j, j < 120 → 0 ≤ T j ∧ T j ≤ 255) {f : Nat → Nat → kR (List kS)} (hf : kPs m f) (hq : kXs m f) : kXs m (kBrace T m f) := by
  intro k p hp x h
  obtain ⟨g1, g2, g3, g4, -⟩ := kTok_ok (T := T) h120 hT hp
  unfold kBrace at h
  by_cases c : kSg (kTok T m p) 123
  · rw [if_pos c] at h
    cases h1 : kBlock T m f k (tkE (kTok T m p)) with
    | inl b => rw [h1] at h; cases h
    | inr y =>
      rw [h1] at h
      have b := kBlock_x h120 hT hf hq _ _ g3 y h1
      by_cases c2 : kSg (kTok T m y.1) 125
      · simp only [if_pos c2] at h
        cases h
        exact b
      · simp only [if_neg c2] at h
        cases h
  · rw [if_neg c] at h
    cases h
theorem kRest_x (h120 : m ≤ 120) (hT : ∀ j, j < 120 → 0 ≤ T j ∧ T j ≤ 255) {lev others : Int} {ex : Nat → kR (List Int)} (hex : kPr m ex) {br : Nat → Nat → kR (List kS)} (hbr : kPs m br) (hq : kXs m br) {kind : Int} {k p : Nat} (hp : p ≤ m) {x : Nat × List kS} (h : kRest T m lev others ex br kind k p = .inr x) : ∀ s ∈ x.2, okX s := by
  have g0 := kTok_ok (T := T) h120 hT hp
  obtain ⟨g1, g2, g3, -, -, gv, gn, -⟩ := g0
  have one : ∀ {s t : kS}, okX t → s ∈ [t] → okX s := fun {s t} ht hs => by
    rw [List.mem_singleton.mp hs]
    exact ht
  unfold kRest at h
  by_cases c0 : kind = 0
  · rw [if_pos c0] at h
    obtain ⟨n1, h⟩ := kName_inr h
    have n2 := gn n1
    obtain ⟨y, h1, h⟩ := kThen_inr h
    by_cases c : 0 < kBt (kSumW y.2)
    · rw [if_pos c] at h
      cases h
      exact fun s hs => one (okX_mk ⟨fun _ => by omega, fun r => by omega, fun r => by omega, fun _ => rfl⟩) hs
    · rw [if_neg c] at h
      cases h
  rw [if_neg c0] at h
  by_cases c1 : kind = 1
  · rw [if_pos c1] at h
    obtain ⟨n1, h⟩ := kName_inr h
    have n2 := gn n1
    obtain ⟨y, h1, h⟩ := kThen_inr h
    cases h
    exact fun s hs => one (okX_mk ⟨fun _ => by omega, fun r => by omega, fun _ => rfl, fun r => by omega⟩) hs
  rw [if_neg c1] at h
  by_cases c2 : kind = 2
  · rw [if_pos c2] at h
    obtain ⟨y, h1, h⟩ := kThen_inr h
    cases h
    exact fun s hs => one (okX_mk ⟨fun r => by omega, fun _ => rfl, fun _ => rfl, fun r => by omega⟩) hs
  rw [if_neg c2] at h
  by_cases c3 : kind = 3
  · rw [if_pos c3] at h
    obtain ⟨y, h1, h⟩ := kThen_inr h
    obtain ⟨a1, a2, -⟩ := hex _ hp y h1
    obtain ⟨z, h2, h⟩ := kThen_inr h
    obtain ⟨b1, b2, b3, b4⟩ := hbr _ _ a2 z h2
    obtain ⟨w, h3, h⟩ := kThen_inr h
    cases h
    intro s hs
    rcases List.mem_cons.mp hs with hs | hs
    · rw [hs]
      exact okX_mk ⟨fun r => by omega, fun _ => rfl, fun _ => rfl, fun r => by omega⟩
    · rcases List.mem_append.mp hs with hs | hs
      · exact hq _ _ a2 z h2 s hs
      · exact hq _ _ b2 w h3 s hs
  rw [if_neg c3] at h
  by_cases c4 : kind = 4
  · rw [if_pos c4] at h
    obtain ⟨-, h⟩ := kNumb_inr h
    obtain ⟨z, h2, h⟩ := kThen_inr h
    cases h
    intro s hs
    rcases List.mem_cons.mp hs with hs | hs
    · rw [hs]
      exact okX_mk ⟨fun r => by omega, fun _ => rfl, fun r => by omega, fun _ => rfl⟩
    · exact hq _ _ g3 z h2 s hs
  rw [if_neg c4] at h
  obtain ⟨n1, h⟩ := kName_inr h
  have n2 := gn n1
  obtain ⟨-, h⟩ := kNumb_inr h
  obtain ⟨y, h1, h⟩ := kThen_inr h
  cases h
  exact fun s hs => one (okX_mk ⟨fun _ => by omega, fun r => by omega, fun r => by omega, fun r => by omega⟩) hs
theorem kStepB_x (h120 : m ≤ 120) (hT : ∀ j, j < 120 → 0 ≤ T j ∧ T j ≤ 255) {lev others : Int} {ex : Nat → kR (List Int)} (hex : kPr m ex) {br : Nat → Nat → kR (List kS)} (hbr : kPs m br) (hq : kXs m br) : kXs m (kStepB T m lev others ex br) := by
  intro k p hp x h
  obtain ⟨g1, g2, g3, g4, -⟩ := kTok_ok (T := T) h120 hT hp
  unfold kStepB at h
  by_cases c : tkS (kTok T m p) = 2 ∧ k < 16
  · rw [if_pos c] at h
    exact kRest_x h120 hT hex hbr hq g3 h
  · rw [if_neg c] at h
    cases h
theorem kStep_x (h120 : m ≤ 120) (hT : ∀ j, j < 120 → 0 ≤ T j ∧ T j ≤ 255) (others : Int) : ∀ d, kXs m (kStep T m others d) := by
  intro d
  induction d with
  | zero => exact kStepB_x h120 hT (kExp_pr h120 hT (kOne_pr h120 hT 0)) kNoBr_pr (fun _ _ _ _ h => by cases h)
  | succ d ih => exact kStepB_x h120 hT (kExp_pr h120 hT (kOne_pr h120 hT (d + 1))) (kBrace_pr h120 hT (kStep_pr h120 hT others d)) (kBrace_x h120 hT (kStep_pr h120 hT others d) ih)
/-- the steps of a text -/
theorem kProg_x (h120 : m ≤ 120) (hT : ∀ j, j < 120 → 0 ≤ T j ∧ T j ≤ 255) {others : Int} {y : Nat × List kS} (hq : kProg T m others = .inr y) : okN others (fun i => y.2.getD i kS0) y.2.length ∧ ∀ i, i < y.2.length → okX (y.2.getD i kS0) := by
  have hk : kBlock T m (kStep T m others 4) 0 0 = .inr y := by
    unfold kProg at hq
    cases hq2 : kBlock T m (kStep T m others 4) 0 0 with
    | inl b2 => rw [hq2] at hq; cases hq
    | inr y2 =>
      rw [hq2, kThen_r] at hq
      by_cases c : tkS (kTok T m y2.1) = 0
      · rw [if_pos c] at hq
        cases hq
        rfl
      · rw [if_neg c] at hq
        cases hq
  refine ⟨okN_of h120 hT hk, fun i hi => ?_⟩
  have := kBlock_x h120 hT (kStep_pr h120 hT others 4) (kStep_x h120 hT others 4) 0 0 (Nat.zero_le m) y hk
  rw [List.getD_eq_getElem?_getD, List.getElem?_eq_getElem hi]
  exact this _ (List.getElem_mem hi)
end KX
