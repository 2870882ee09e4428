/-! STEPS (own work): the spec, and that readings go on -/
/-- kind, name, number, steps in it with itself, where its second block begins (from itself), codes, lots, level -/
abbrev kS : Type := Int × Int × Int × Nat × Nat × List Int × List (Int × Int) × Int
abbrev sK (s : kS) : Int := s.1
abbrev sN (s : kS) : Int := s.2.1
abbrev sU (s : kS) : Int := s.2.2.1
abbrev sI (s : kS) : Nat := s.2.2.2.1
abbrev sO (s : kS) : Nat := s.2.2.2.2.1
abbrev sC (s : kS) : List Int := s.2.2.2.2.2.1
abbrev sL (s : kS) : List (Int × Int) := s.2.2.2.2.2.2.1
abbrev sV (s : kS) : Int := s.2.2.2.2.2.2.2
section KST
variable (T : Nat → Int) (m : Nat)
/-- further steps of a block; k stand already -/
def kBlk (f : Nat → Nat → kR (List kS)) : Nat → Nat → Nat → kR (List kS)
  | 0, _, p => .inr (p, [])
  | n + 1, k, p => if kSg (kTok T m p) 59 then
      (match f k (tkE (kTok T m p)) with
      | .inl b => .inl b
      | .inr x => (match kBlk f n (k + x.2.length) x.1 with
        | .inl b => .inl b
        | .inr y => .inr (y.1, x.2 ++ y.2)))
    else .inr (p, [])
def kBlock (f : Nat → Nat → kR (List kS)) (k p : Nat) : kR (List kS) := match f k p with
  | .inl b => .inl b
  | .inr x => (match kBlk T m f 121 (k + x.2.length) x.1 with
    | .inl b => .inl b
    | .inr y => .inr (y.1, x.2 ++ y.2))
def kBrace (f : Nat → Nat → kR (List kS)) (k p : Nat) : kR (List kS) :=
  if kSg (kTok T m p) 123 then
    (match kBlock T m f k (tkE (kTok T m p)) with
    | .inl b => .inl b
    | .inr x => if kSg (kTok T m x.1) 125 then .inr (tkE (kTok T m x.1), x.2) else .inl (tkB (kTok T m x.1)))
  else .inl (tkB (kTok T m p))
def kNoBr (_k p : Nat) : kR (List kS) := .inl (tkB (kTok T m p))
/-- a name, and what comes behind it -/
def kName {X : Type} (p : Nat) (g : Int → Nat → kR X) : kR X := if tkS (kTok T m p) = 1 then g (tkV (kTok T m p)) (tkE (kTok T m p)) else .inl (tkB (kTok T m p))
/-- a number below this, and what comes behind it -/
def kNumb {X : Type} (below : Int) (p : Nat) (g : Int → Nat → kR X) : kR X := if tkS (kTok T m p) = 3 ∧ tkV (kTok T m p) < below then g (tkV (kTok T m p)) (tkE (kTok T m p)) else .inl (tkB (kTok T m p))
def kThen {X Y : Type} (r : kR X) (g : Nat → X → kR Y) : kR Y := match r with
  | .inl b => .inl b
  | .inr x => g x.1 x.2
/-- what comes behind a step's word -/
def kRest (lev others : Int) (ex : Nat → kR (List Int)) (br : Nat → Nat → kR (List kS)) (kind : Int) (k p : Nat) : kR (List kS) :=
  if kind = 0 then kName T m p (fun v p => kThen (kLots T m p) (fun q c => if 0 < kBt (kSumW c) then .inr (q, [(0, v, (c.length : Int), 1, 1, [], c, lev)]) else .inl (tkB (kTok T m q))))
  else if kind = 1 then kName T m p (fun v p => kThen (ex p) (fun q c => .inr (q, [(1, v, -1, 1, 1, c, [], lev)])))
  else if kind = 2 then kThen (ex p) (fun q c => .inr (q, [(2, -1, -1, 1, 1, c, [], lev)]))
  else if kind = 3 then kThen (ex p) (fun q c => kThen (br (k + 1) q) (fun q y => kThen (br (k + 1 + y.length) q) (fun q z => .inr (q, (3, -1, -1, 1 + y.length + z.length, 1 + y.length, c, [], lev) :: (y ++ z)))))
  else if kind = 4 then kNumb T m 10 p (fun v p => kThen (br (k + 1) p) (fun q y => .inr (q, (4, -1, v, 1 + y.length, 1 + y.length, [], [], lev) :: y)))
  else kName T m p (fun v p => kNumb T m others p (fun u p => kThen (ex p) (fun q c => .inr (q, [(5, v, u, 1, 1, c, [], lev)]))))
def kStepB (lev others : Int) (ex : Nat → kR (List Int)) (br : Nat → Nat → kR (List kS)) (k p : Nat) : kR (List kS) :=
  if tkS (kTok T m p) = 2 ∧ k < 16 then kRest T m lev others ex br (tkV (kTok T m p)) k (tkE (kTok T m p)) else .inl (tkB (kTok T m p))
/-- a step, where so many may still be opened -/
def kStep (others : Int) : Nat → Nat → Nat → kR (List kS)
  | 0 => kStepB T m 4 others (kExp T m (kOne T m 0)) (kNoBr T m)
  | d + 1 => kStepB T m (4 - ((d + 1 : Nat) : Int)) others (kExp T m (kOne T m (d + 1))) (kBrace T m (kStep others d))
/-- a text -/
def kProg (others : Int) : kR (List kS) := kThen (kBlock T m (kStep T m others 4) 0 0) (fun q c => if tkS (kTok T m q) = 0 then .inr (q, c) else .inl (tkB (kTok T m q)))
end KST
/-- readings of steps go on -/
def kPs (m : Nat) (f : Nat → Nat → kR (List kS)) : Prop := ∀ k p, p ≤ m → ∀ x, f k p = .inr x → p + 1 ≤ x.1 ∧ x.1 ≤ m ∧ 1 ≤ x.2.length ∧ k + x.2.length ≤ 16
theorem kThen_inr {X Y : Type} {r : kR X} {g : Nat → X → kR Y} {y : Nat × Y} (h : kThen r g = .inr y) : ∃ x, r = .inr x ∧ g x.1 x.2 = .inr y := by
  cases r with
  | inl b => cases h
  | inr x => exact ⟨x, rfl, h⟩
section KSP
variable {T : Nat → Int} {m : Nat}
theorem kBlk_pr (h120 : m ≤ 120) (hT : ∀ j, j < 120 → 0 ≤ T j ∧ T j ≤ 255) {f : Nat → Nat → kR (List kS)} (hf : kPs m f) : ∀ n k p, p ≤ m → k ≤ 16 → ∀ x, kBlk T m f n k p = .inr x → p ≤ x.1 ∧ x.1 ≤ m ∧ k + x.2.length ≤ 16 := by
  intro n
  induction n with
  | zero => intro k p hp hk x h; cases h; exact ⟨Nat.le_refl _, hp, hk⟩
  | succ n ih =>
    intro k p hp hk x h
    obtain ⟨g1, g2, g3, g4, -⟩ := kTok_ok (T := T) h120 hT hp
    unfold kBlk at h
    by_cases c : kSg (kTok T m p) 59
    · rw [if_pos c] at h
      cases h1 : f k (tkE (kTok T m p)) with
      | inl b => rw [h1] at h; cases h
      | inr y =>
        rw [h1] at h
        obtain ⟨a1, a2, a3, a4⟩ := hf _ _ g3 y h1
        cases h2 : kBlk T m f n (k + y.2.length) y.1 with
        | inl b => simp only [h2] at h; cases h
        | inr z =>
          simp only [h2] at h
          obtain ⟨b1, b2, b3⟩ := ih _ y.1 a2 a4 z h2
          cases h
          refine ⟨by show p ≤ z.1; omega, b2, ?_⟩
          show k + (y.2 ++ z.2).length ≤ 16
          rw [List.length_append]
          omega
    · rw [if_neg c] at h
      cases h
      exact ⟨Nat.le_refl _, hp, hk⟩
theorem kBlock_pr (h120 : m ≤ 120) (hT : ∀ j, j < 120 → 0 ≤ T j ∧ T j ≤ 255) {f : Nat → Nat → kR (List kS)} (hf : kPs m f) : kPs m (kBlock T m f) := by
  intro k p hp x h
  unfold kBlock at h
  cases h1 : f k p with
  | inl b => rw [h1] at h; cases h
  | inr y =>
    rw [h1] at h
    obtain ⟨a1, a2, a3, a4⟩ := hf _ _ hp y h1
    cases h2 : kBlk T m f 121 (k + y.2.length) y.1 with
    | inl b => simp only [h2] at h; cases h
    | inr z =>
      simp only [h2] at h
      obtain ⟨b1, b2, b3⟩ := kBlk_pr h120 hT hf 121 _ y.1 a2 a4 z h2
      cases h
      refine ⟨by show p + 1 ≤ z.1; omega, b2, ?_, ?_⟩
      · show 1 ≤ (y.2 ++ z.2).length
        rw [List.length_append]
        omega
      · show k + (y.2 ++ z.2).length ≤ 16
        rw [List.length_append]
        omega
theorem kBrace_pr (h120 : m ≤ 120) (hT : ∀ j, j < 120 → 0 ≤ T j ∧ T j ≤ 255) {f : Nat → Nat → kR (List kS)} (hf : kPs m f) : kPs m (kBrace T m f) := by
  intro k p hp x h
  obtain ⟨g1, g2, g3, g4, -⟩ := kTok_ok (T := T) h120 hT hp
  unfold kBrace at h
  by_cases c : kSg (kTok T m p) 123
  · rw [if_pos c] at h
    cases h1 : kBlock T m f k (tkE (kTok T m p)) with
    | inl b => rw [h1] at h; cases h
    | inr y =>
      rw [h1] at h
      obtain ⟨a1, a2, a3, a4⟩ := kBlock_pr h120 hT hf _ _ g3 y h1
      obtain ⟨i1, i2, i3, i4, -⟩ := kTok_ok (T := T) h120 hT a2
      by_cases c2 : kSg (kTok T m y.1) 125
      · simp only [if_pos c2] at h
        cases h
        exact ⟨by show p + 1 ≤ tkE _; omega, i3, a3, a4⟩
      · simp only [if_neg c2] at h
        cases h
  · rw [if_neg c] at h
    cases h
theorem kName_inr {X : Type} {p : Nat} {g : Int → Nat → kR X} {x : Nat × X} (h : kName T m p g = .inr x) : tkS (kTok T m p) = 1 ∧ g (tkV (kTok T m p)) (tkE (kTok T m p)) = .inr x := by
  unfold kName at h
  by_cases c : tkS (kTok T m p) = 1
  · rw [if_pos c] at h
    exact ⟨c, h⟩
  · rw [if_neg c] at h
    cases h
theorem kNumb_inr {X : Type} {below : Int} {p : Nat} {g : Int → Nat → kR X} {x : Nat × X} (h : kNumb T m below p g = .inr x) : (tkS (kTok T m p) = 3 ∧ tkV (kTok T m p) < below) ∧ g (tkV (kTok T m p)) (tkE (kTok T m p)) = .inr x := by
  unfold kNumb at h
  by_cases c : tkS (kTok T m p) = 3 ∧ tkV (kTok T m p) < below
  · rw [if_pos c] at h
    exact ⟨c, h⟩
  · rw [if_neg c] at h
    cases h
end KSP
