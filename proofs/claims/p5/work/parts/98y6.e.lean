/-! FORMULAS, by position and code (own work): the spec, and the class -/
abbrev kR (X : Type) : Type := Nat ⊕ (Nat × X)
def kCase {X : Type} (r : kR X) (P : Nat → Prop) (Q : Nat × X → Prop) : Prop := match r with
  | .inl b => P b
  | .inr x => Q x
abbrev kSg (t : kT) (c : Int) : Prop := tkS t = 4 ∧ tkV t = c
section KS
variable (T : Nat → Int) (m : Nat)
def kLoop (f : Nat → kR (List Int)) (s1 s2 : Int) : Nat → Nat → kR (List Int)
  | 0, p => .inr (p, [])
  | n + 1, p => if kSg (kTok T m p) s1 ∨ kSg (kTok T m p) s2 then
      (match f (tkE (kTok T m p)) with
      | .inl b => .inl b
      | .inr x => (match kLoop f s1 s2 n x.1 with
        | .inl b => .inl b
        | .inr y => .inr (y.1, x.2 ++ ((200 + tkV (kTok T m p)) :: y.2))))
    else .inr (p, [])
/-- one, then signs and ones -/
def kRow (f : Nat → kR (List Int)) (s1 s2 : Int) (p : Nat) : kR (List Int) := match f p with
  | .inl b => .inl b
  | .inr x => (match kLoop T m f s1 s2 121 x.1 with
    | .inl b => .inl b
    | .inr y => .inr (y.1, x.2 ++ y.2))
def kExp (f : Nat → kR (List Int)) (p : Nat) : kR (List Int) := match kRow T m (kRow T m f 42 37) 43 45 p with
  | .inl b => .inl b
  | .inr x => if kSg (kTok T m x.1) 60 ∨ kSg (kTok T m x.1) 61 then
      (match kRow T m (kRow T m f 42 37) 43 45 (tkE (kTok T m x.1)) with
      | .inl b => .inl b
      | .inr y => .inr (y.1, x.2 ++ (y.2 ++ [200 + tkV (kTok T m x.1)])))
    else .inr x
/-- by how many may still be opened -/
def kOne : Nat → Nat → kR (List Int)
  | d, p =>
    if tkS (kTok T m p) = 3 then .inr (tkE (kTok T m p), [tkV (kTok T m p)])
    else if tkS (kTok T m p) = 1 then .inr (tkE (kTok T m p), [100 + tkV (kTok T m p)])
    else if kSg (kTok T m p) 45 ∨ kSg (kTok T m p) 40 then
      (match d with
      | 0 => .inl (tkB (kTok T m p))
      | d + 1 => if kSg (kTok T m p) 45 then
          (match kOne d (tkE (kTok T m p)) with
          | .inl b => .inl b
          | .inr x => .inr (x.1, x.2 ++ [150]))
        else
          (match kExp T m (kOne d) (tkE (kTok T m p)) with
          | .inl b => .inl b
          | .inr x => if kSg (kTok T m x.1) 41 then .inr (tkE (kTok T m x.1), x.2) else .inl (tkB (kTok T m x.1))))
    else .inl (tkB (kTok T m p))
end KS
theorem kKind_r {T : Nat → Int} {b e m : Nat} : -1 ≤ kKind T b e m ∧ kKind T b e m ≤ 5 := by
  unfold kKind
  repeat (first | (refine gi (P := fun z : Int => -1 ≤ z ∧ z ≤ 5) (fun _ => by decide) (fun _ => ?_)) | decide)
/-- what a token is -/
def kGood (m p : Nat) (t : kT) : Prop := p ≤ tkB t ∧ tkB t ≤ tkE t ∧ tkE t ≤ m ∧ (tkS t = 0 ∨ tkB t < tkE t) ∧ (0 ≤ tkS t ∧ tkS t ≤ 5) ∧ (0 ≤ tkV t ∧ tkV t ≤ 255) ∧ (tkS t = 1 → tkV t ≤ 5) ∧ (tkS t = 2 → tkV t ≤ 5) ∧ (tkS t = 3 → tkV t ≤ 99)
theorem kTok_ok {T : Nat → Int} {m p : Nat} (h120 : m ≤ 120) (hT : ∀ j, j < 120 → 0 ≤ T j ∧ T j ≤ 255) (hp : p ≤ m) : kGood m p (kTok T m p) := by
  obtain ⟨q1, q2⟩ := kSkip_le (T := T) (m := m) 120 p hp
  unfold kTok
  generalize kSkip T m 120 p = b at *
  unfold kTokB
  refine gi (P := kGood m p) (fun c => ?_) (fun c => ?_)
  · exact ⟨q1, Nat.le_refl _, q2, Or.inl rfl, (by show (0 : Int) ≤ 0 ∧ (0 : Int) ≤ 5; decide), (by show (0 : Int) ≤ 0 ∧ (0 : Int) ≤ 255; decide), fun h => absurd h (by show ¬ (0 : Int) = 1; decide), fun h => absurd h (by show ¬ (0 : Int) = 2; decide), fun h => absurd h (by show ¬ (0 : Int) = 3; decide)⟩
  have hb := hT b (by omega)
  have word : ∀ lo hi : Int, (lo ≤ T b ∧ T b ≤ hi) → b + 1 ≤ kRun T m lo hi 120 b ∧ kRun T m lo hi 120 b ≤ m := fun lo hi hl => by
    refine ⟨?_, (kRun_le 120 b q2).2⟩
    unfold kRun
    rw [if_pos ⟨by omega, hl⟩]
    exact (kRun_le _ _ (by omega)).1
  refine gi (P := kGood m p) (fun l1 => ?_) (fun l1 => ?_)
  · obtain ⟨w1, w2⟩ := word 97 122 l1
    generalize kRun T m 97 122 120 b = e at *
    have kr := kKind_r (T := T) (b := b) (e := e) (m := m)
    unfold kWd
    refine gi (P := kGood m p) (fun c1 => ?_) (fun c1 => gi (P := kGood m p) (fun c2 => ?_) (fun c2 => ?_))
    · exact ⟨q1, (by show b ≤ e; omega), w2, Or.inr (by show b < e; omega), (by show (0 : Int) ≤ 1 ∧ (1 : Int) ≤ 5; decide), (by show 0 ≤ T b - 97 ∧ T b - 97 ≤ 255; omega), fun _ => (by show T b - 97 ≤ 5; omega), fun h => absurd h (by show ¬ (1 : Int) = 2; decide), fun h => absurd h (by show ¬ (1 : Int) = 3; decide)⟩
    · exact ⟨q1, (by show b ≤ e; omega), w2, Or.inr (by show b < e; omega), (by show (0 : Int) ≤ 5 ∧ (5 : Int) ≤ 5; decide), (by show (0 : Int) ≤ 0 ∧ (0 : Int) ≤ 255; decide), fun h => absurd h (by show ¬ (5 : Int) = 1; decide), fun h => absurd h (by show ¬ (5 : Int) = 2; decide), fun h => absurd h (by show ¬ (5 : Int) = 3; decide)⟩
    · exact ⟨q1, (by show b ≤ e; omega), w2, Or.inr (by show b < e; omega), (by show (0 : Int) ≤ 2 ∧ (2 : Int) ≤ 5; decide), (by show 0 ≤ kKind T b e m ∧ kKind T b e m ≤ 255; omega), fun h => absurd h (by show ¬ (2 : Int) = 1; decide), fun _ => (by show kKind T b e m ≤ 5; omega), fun h => absurd h (by show ¬ (2 : Int) = 3; decide)⟩
  refine gi (P := kGood m p) (fun l2 => ?_) (fun l2 => gi (P := kGood m p) (fun l3 => ?_) (fun l3 => ?_))
  · obtain ⟨w1, w2⟩ := word 48 57 l2
    have w3 : b + 1 < kRun T m 48 57 120 b → 48 ≤ T (b + 1) ∧ T (b + 1) ≤ 57 := by
      unfold kRun
      rw [if_pos ⟨by omega, l2⟩]
      unfold kRun
      by_cases c : b + 1 < m ∧ (48 ≤ T (b + 1) ∧ T (b + 1) ≤ 57)
      · exact fun _ => c.2
      · rw [if_neg c]
        intro h
        omega
    generalize kRun T m 48 57 120 b = e at *
    have nr : 0 ≤ kNum T b e ∧ kNum T b e ≤ 99 := by
      unfold kNum
      by_cases c : e = b + 1
      · rw [if_pos c]
        omega
      · rw [if_neg c]
        have := w3 (by omega)
        omega
    unfold kNb
    refine gi (P := kGood m p) (fun c1 => ?_) (fun c1 => ?_)
    · exact ⟨q1, (by show b ≤ e; omega), w2, Or.inr (by show b < e; omega), (by show (0 : Int) ≤ 3 ∧ (3 : Int) ≤ 5; decide), (by show 0 ≤ kNum T b e ∧ kNum T b e ≤ 255; omega), fun h => absurd h (by show ¬ (3 : Int) = 1; decide), fun h => absurd h (by show ¬ (3 : Int) = 2; decide), fun _ => nr.2⟩
    · exact ⟨q1, (by show b ≤ e; omega), w2, Or.inr (by show b < e; omega), (by show (0 : Int) ≤ 5 ∧ (5 : Int) ≤ 5; decide), (by show (0 : Int) ≤ 0 ∧ (0 : Int) ≤ 255; decide), fun h => absurd h (by show ¬ (5 : Int) = 1; decide), fun h => absurd h (by show ¬ (5 : Int) = 2; decide), fun h => absurd h (by show ¬ (5 : Int) = 3; decide)⟩
  · exact ⟨q1, (by show b ≤ b + 1; omega), (by show b + 1 ≤ m; omega), Or.inr (by show b < b + 1; omega), (by show (0 : Int) ≤ 4 ∧ (4 : Int) ≤ 5; decide), hb, fun h => absurd h (by show ¬ (4 : Int) = 1; decide), fun h => absurd h (by show ¬ (4 : Int) = 2; decide), fun h => absurd h (by show ¬ (4 : Int) = 3; decide)⟩
  · exact ⟨q1, (by show b ≤ b + 1; omega), (by show b + 1 ≤ m; omega), Or.inr (by show b < b + 1; omega), (by show (0 : Int) ≤ 5 ∧ (5 : Int) ≤ 5; decide), (by show (0 : Int) ≤ 0 ∧ (0 : Int) ≤ 255; decide), fun h => absurd h (by show ¬ (5 : Int) = 1; decide), fun h => absurd h (by show ¬ (5 : Int) = 2; decide), fun h => absurd h (by show ¬ (5 : Int) = 3; decide)⟩
/-- readings go on -/
def kPr (m : Nat) (f : Nat → kR (List Int)) : Prop := ∀ p, p ≤ m → ∀ x, f p = .inr x → p + 1 ≤ x.1 ∧ x.1 ≤ m ∧ p + x.2.length ≤ x.1
theorem kLoop_pr {T : Nat → Int} {m : Nat} (h120 : m ≤ 120) (hT : ∀ j, j < 120 → 0 ≤ T j ∧ T j ≤ 255) {f : Nat → kR (List Int)} (hf : kPr m f) {s1 s2 : Int} : ∀ n p, p ≤ m → ∀ x, kLoop T m f s1 s2 n p = .inr x → p ≤ x.1 ∧ x.1 ≤ m ∧ p + x.2.length ≤ x.1 := by
  intro n
  induction n with
  | zero => intro p hp x h; cases h; exact ⟨Nat.le_refl _, hp, Nat.le_refl _⟩
  | succ n ih =>
    intro p hp x h
    unfold kLoop at h
    obtain ⟨g1, g2, g3, g4, -⟩ := kTok_ok h120 hT hp
    by_cases c : kSg (kTok T m p) s1 ∨ kSg (kTok T m p) s2
    · rw [if_pos c] at h
      have c4 : tkS (kTok T m p) = 4 := by
        rcases c with c | c
        · exact c.1
        · exact c.1
      have g5 : tkB (kTok T m p) < tkE (kTok T m p) := g4.resolve_left (by rw [c4]; decide)
      cases h1 : f (tkE (kTok T m p)) with
      | inl b => rw [h1] at h; cases h
      | inr y =>
        rw [h1] at h
        obtain ⟨a1, a2, a3⟩ := hf _ g3 y h1
        cases h2 : kLoop T m f s1 s2 n y.1 with
        | inl b => simp only [h2] at h; cases h
        | inr z =>
          simp only [h2] at h
          obtain ⟨b1, b2, b3⟩ := ih y.1 a2 z h2
          cases h
          refine ⟨by show p ≤ z.1; omega, b2, ?_⟩
          show p + (y.2 ++ (_ :: z.2)).length ≤ z.1
          rw [List.length_append, List.length_cons]
          omega
    · rw [if_neg c] at h
      cases h
      exact ⟨Nat.le_refl _, hp, Nat.le_refl _⟩
theorem kRow_pr {T : Nat → Int} {m : Nat} (h120 : m ≤ 120) (hT : ∀ j, j < 120 → 0 ≤ T j ∧ T j ≤ 255) {f : Nat → kR (List Int)} (hf : kPr m f) {s1 s2 : Int} : kPr m (kRow T m f s1 s2) := by
  intro p hp x h
  unfold kRow at h
  cases h1 : f p with
  | inl b => rw [h1] at h; cases h
  | inr y =>
    rw [h1] at h
    obtain ⟨a1, a2, a3⟩ := hf _ hp y h1
    cases h2 : kLoop T m f s1 s2 121 y.1 with
    | inl b => simp only [h2] at h; cases h
    | inr z =>
      simp only [h2] at h
      obtain ⟨b1, b2, b3⟩ := kLoop_pr h120 hT hf 121 y.1 a2 z h2
      cases h
      refine ⟨by show p + 1 ≤ z.1; omega, b2, ?_⟩
      show p + (y.2 ++ z.2).length ≤ z.1
      rw [List.length_append]
      omega
theorem kExp_pr {T : Nat → Int} {m : Nat} (h120 : m ≤ 120) (hT : ∀ j, j < 120 → 0 ≤ T j ∧ T j ≤ 255) {f : Nat → kR (List Int)} (hf : kPr m f) : kPr m (kExp T m f) := by
  have hr := kRow_pr h120 hT (kRow_pr h120 hT hf (s1 := 42) (s2 := 37)) (s1 := 43) (s2 := 45)
  intro p hp x h
  unfold kExp at h
  cases h1 : kRow T m (kRow T m f 42 37) 43 45 p with
  | inl b => rw [h1] at h; cases h
  | inr y =>
    rw [h1] at h
    obtain ⟨a1, a2, a3⟩ := hr _ hp y h1
    obtain ⟨g1, g2, g3, g4, -⟩ := kTok_ok h120 hT a2
    by_cases c : kSg (kTok T m y.1) 60 ∨ kSg (kTok T m y.1) 61
    · simp only [if_pos c] at h
      have c4 : tkS (kTok T m y.1) = 4 := by
        rcases c with c | c
        · exact c.1
        · exact c.1
      have g5 : tkB (kTok T m y.1) < tkE (kTok T m y.1) := g4.resolve_left (by rw [c4]; decide)
      cases h2 : kRow T m (kRow T m f 42 37) 43 45 (tkE (kTok T m y.1)) with
      | inl b => simp only [h2] at h; cases h
      | inr z =>
        simp only [h2] at h
        obtain ⟨b1, b2, b3⟩ := hr _ g3 z h2
        cases h
        refine ⟨by show p + 1 ≤ z.1; omega, b2, ?_⟩
        show p + (y.2 ++ (z.2 ++ [_])).length ≤ z.1
        rw [List.length_append, List.length_append, List.length_cons, List.length_nil]
        omega
    · simp only [if_neg c] at h
      cases h
      exact ⟨a1, a2, a3⟩
theorem kOne_pr {T : Nat → Int} {m : Nat} (h120 : m ≤ 120) (hT : ∀ j, j < 120 → 0 ≤ T j ∧ T j ≤ 255) : ∀ d, kPr m (kOne T m d) := by
  intro d
  induction d with
  | zero =>
    intro p hp x h
    obtain ⟨g1, g2, g3, g4, -⟩ := kTok_ok h120 hT hp
    unfold kOne at h
    by_cases c3 : tkS (kTok T m p) = 3
    · rw [if_pos c3] at h
      have g5 : tkB (kTok T m p) < tkE (kTok T m p) := g4.resolve_left (by rw [c3]; decide)
      cases h
      exact ⟨by show p + 1 ≤ tkE _; omega, g3, by show p + 1 ≤ tkE _; omega⟩
    rw [if_neg c3] at h
    by_cases c1 : tkS (kTok T m p) = 1
    · rw [if_pos c1] at h
      have g5 : tkB (kTok T m p) < tkE (kTok T m p) := g4.resolve_left (by rw [c1]; decide)
      cases h
      exact ⟨by show p + 1 ≤ tkE _; omega, g3, by show p + 1 ≤ tkE _; omega⟩
    rw [if_neg c1] at h
    split at h
    · cases h
    · cases h
  | succ d ih =>
    intro p hp x h
    obtain ⟨g1, g2, g3, g4, -⟩ := kTok_ok h120 hT hp
    unfold kOne at h
    by_cases c3 : tkS (kTok T m p) = 3
    · rw [if_pos c3] at h
      have g5 : tkB (kTok T m p) < tkE (kTok T m p) := g4.resolve_left (by rw [c3]; decide)
      cases h
      exact ⟨by show p + 1 ≤ tkE _; omega, g3, by show p + 1 ≤ tkE _; omega⟩
    rw [if_neg c3] at h
    by_cases c1 : tkS (kTok T m p) = 1
    · rw [if_pos c1] at h
      have g5 : tkB (kTok T m p) < tkE (kTok T m p) := g4.resolve_left (by rw [c1]; decide)
      cases h
      exact ⟨by show p + 1 ≤ tkE _; omega, g3, by show p + 1 ≤ tkE _; omega⟩
    rw [if_neg c1] at h
    by_cases c : kSg (kTok T m p) 45 ∨ kSg (kTok T m p) 40
    · rw [if_pos c] at h
      have c4 : tkS (kTok T m p) = 4 := by
        rcases c with c | c
        · exact c.1
        · exact c.1
      have g5 : tkB (kTok T m p) < tkE (kTok T m p) := g4.resolve_left (by rw [c4]; decide)
      by_cases cm : kSg (kTok T m p) 45
      · simp only [if_pos cm] at h
        cases h1 : kOne T m d (tkE (kTok T m p)) with
        | inl b => simp only [h1] at h; cases h
        | inr y =>
          simp only [h1] at h
          obtain ⟨a1, a2, a3⟩ := ih _ g3 y h1
          cases h
          refine ⟨by show p + 1 ≤ y.1; omega, a2, ?_⟩
          show p + (y.2 ++ [150]).length ≤ y.1
          rw [List.length_append, List.length_cons, List.length_nil]
          omega
      · simp only [if_neg cm] at h
        cases h1 : kExp T m (kOne T m d) (tkE (kTok T m p)) with
        | inl b => simp only [h1] at h; cases h
        | inr y =>
          simp only [h1] at h
          obtain ⟨a1, a2, a3⟩ := kExp_pr h120 hT ih _ g3 y h1
          obtain ⟨e1, e2, e3, e4, -⟩ := kTok_ok h120 hT a2
          by_cases cc : kSg (kTok T m y.1) 41
          · simp only [if_pos cc] at h
            cases h
            exact ⟨by show p + 1 ≤ tkE _; omega, e3, by show p + y.2.length ≤ tkE _; omega⟩
          · simp only [if_neg cc] at h
            cases h
    · rw [if_neg c] at h
      cases h
