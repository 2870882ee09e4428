/-! FORMULAS of the reference (own work): rows, comparisons, one -/
def gmLoop (inner : mA → Option (Int × mA)) (s1 s2 : Int) : Nat → mA → Int → Option (Int × mA)
  | 0, _, _ => none
  | n + 1, A, b1 => (Option.bind (f_Mo_isSign A s1) (fun q1 => (if g32 q1.1 then (if q1.1 = 0 then (Option.bind (f_Mo_isSign q1.2 s2) (fun q11 => (if g32 q11.1 then (if q11.1 = 0 then (some (b1, q11.2)) else (Option.bind (f_Mo_next q11.2 ) (fun q15 => (Option.bind (inner q15.2 ) (fun q17 => (Option.bind (f_Mo_node q17.2 (q11.2 0 0 26) 0 b1 q17.1) (fun q19 => (gmLoop inner s1 s2 n q19.2 q19.1)))))))) else none))) else (Option.bind (f_Mo_next q1.2 ) (fun q5 => (Option.bind (inner q5.2 ) (fun q7 => (Option.bind (f_Mo_node q7.2 (q1.2 0 0 26) 0 b1 q7.1) (fun q9 => (gmLoop inner s1 s2 n q9.2 q9.1)))))))) else none)))
theorem gmLoop_term (one : mA → Option (Int × mA)) : ∀ n A b1, f_Mo_term_5 one n A b1 = gmLoop one 42 37 n A b1 := by
  intro n
  induction n with
  | zero => intro A b1; rfl
  | succ n ih =>
    intro A b1
    rw [f_Mo_term_5, gmLoop]
    simp only [ih]
theorem gmLoop_sum (one : mA → Option (Int × mA)) : ∀ n A b1, f_Mo_sum_5 one n A b1 = gmLoop (f_Mo_term one) 43 45 n A b1 := by
  intro n
  induction n with
  | zero => intro A b1; rfl
  | succ n ih =>
    intro A b1
    rw [f_Mo_sum_5, gmLoop]
    simp only [ih]
theorem gmLoop1 {inner : mA → Option (Int × mA)} {s1 s2 : Int} {n : Nat} {M : mA} {b : Int} (h : M 0 0 31 = 1) : gmLoop inner s1 s2 (n + 1) M b = some (b, M) := by
  rw [gmLoop, m_dead h, obind, if_pos (by show g32 0; decide), if_pos (by show (0 : Int) = 0; rfl)]
  show Option.bind (f_Mo_isSign M s2) _ = _
  rw [m_dead h]
  rfl
section FR2
variable {P : Nat} {T : Nat → Int} {m : Nat} {op : Int}
theorem m_body {inner : mA → Option (Int × mA)} {f : Nat → kR (List Int)} (hin : mFn P T m op inner f) (hf : kPr m f) {M : mA} {p : Nat} (h : mE9 P T m M p) (ho : M 0 0 27 = op) (h4 : tkS (kTok T m p) = 4) (hv : 3 ≤ tkV (kTok T m p)) {b1 : Int} {c0 : List Int} (hb : b1 < M 0 0 30 ∧ nTr M P b1 c0) {α : Type} (g : Int → mA → Option α) :
    ∃ z M', (Option.bind (f_Mo_next M) (fun q5 => (Option.bind (inner q5.2) (fun q7 => (Option.bind (f_Mo_node q7.2 (M 0 0 26) 0 b1 q7.1) (fun q9 => g q9.1 q9.2)))))) = g z M' ∧ fN P M M' ∧ mI9 P T m M' ∧ M' 0 0 27 = op ∧ kCase (f (tkE (kTok T m p))) (fun b => M' 0 0 31 = 1 ∧ M' 0 0 24 = b) (fun x => mE9 P T m M' x.1 ∧ p + 1 ≤ x.1 ∧ x.1 ≤ m ∧ M' 0 0 30 ≤ M 0 0 30 + x.2.length + 1 ∧ (M' 0 0 31 = 0 → z < M' 0 0 30 ∧ nTr M' P z (c0 ++ (x.2 ++ [200 + tkV (kTok T m p)])))) := by
  obtain ⟨g1, g2, g3, g4, g5, g6, -⟩ := h.good
  have g7 : tkB (kTok T m p) < tkE (kTok T m p) := g4.resolve_left (by rw [h4]; decide)
  have h31 : M 0 0 31 = 0 := by
    rcases h.w with w | w
    · exact w.1
    · exact absurd w.2 (by rw [h4]; decide)
  have e26 : M 0 0 26 = tkV (kTok T m p) := h.2.1.2.2.2.1 (by omega) (by omega)
  have hnd := h.2.2.2
  have h120 := h.1.tx.1
  obtain ⟨M1, x1, x2, x3⟩ := m_adv h.1 h.2.1 h31 h.2.2.1 (by omega)
  have f1 : fN P M M1 := fN.ofM x2 (by decide)
  have ho1 : M1 0 0 27 = op := (x2 0 0 27 (fun r => absurd r.2.2 (by decide))).trans ho
  have n1 : M1 0 0 30 = M 0 0 30 := x2 0 0 30 (fun r => absurd r.2.2 (by decide))
  obtain ⟨z, M2, y1, y2, y3, y5, y4⟩ := hin M1 _ x3 ho1
  rw [x1, obind]
  show ∃ z M', Option.bind (inner M1) _ = _ ∧ _
  rw [y1, obind]
  show ∃ z' M', Option.bind (f_Mo_node M2 (M 0 0 26) 0 b1 z) _ = _ ∧ _
  cases hq : f (tkE (kTok T m p)) with
  | inl b =>
    rw [hq] at y4
    rw [m_node1 y4.1, obind]
    exact ⟨0, M2, rfl, f1.trans y2, y3, y5, y4⟩
  | inr x =>
    rw [hq] at y4
    obtain ⟨a1, a2, a3⟩ := y4
    obtain ⟨b1', b2, b3⟩ := hf _ g3 x hq
    rcases a1.w with ⟨w1, w2⟩ | ⟨w1, w2⟩
    · obtain ⟨v1, v2⟩ := a3 w1
      obtain ⟨M3, u1, u2, u3, u4, u5, u6, u7, u8, u9⟩ := m_node y3 w1 (by omega) (M 0 0 26) 0 b1 z
      rw [u1, obind]
      refine ⟨_, M3, rfl, (f1.trans y2).trans u2, u3, (u4 27 (by decide)).trans y5, ⟨u3, ?_, a1.2.2.1, ?_⟩, by omega, b2, by rw [u5]; omega, fun _ => ⟨by rw [u5]; omega, ?_⟩⟩
      · obtain ⟨d1, d2, d3, d4, d5⟩ := a1.2.1
        exact ⟨(u4 23 (by decide)).trans d1, (u4 24 (by decide)).trans d2, fun q => (u4 25 (by decide)).trans (d3 q), fun q1 q2 => (u4 26 (by decide)).trans (d4 q1 q2), (u4 31 (by decide)).trans d5⟩
      · rw [u5]
        omega
      · have t1 : nTr M3 P b1 c0 := u2.nd (by have := y2.1; omega) (y2.nd (by omega) (f1.nd (by omega) hb.2))
        have t2 : nTr M3 P z x.2 := u2.nd v1 v2
        have := y2.1
        rw [← e26]
        exact nTr.two y3.2.2.2.1 (by omega) (by have hg := h.good.2.2.2.2.2.1.2; omega) u6 u8 u9 (by omega) v1 t1 t2
    · rw [m_node1 w1, obind]
      exact ⟨0, M2, rfl, f1.trans y2, y3, y5, a1, by omega, b2, by omega, fun q => absurd q (by rw [w1]; decide)⟩
theorem m_loop {inner : mA → Option (Int × mA)} {f : Nat → kR (List Int)} (hin : mFn P T m op inner f) (hf : kPr m f) {s1 s2 : Int} (hs1 : 3 ≤ s1 ∧ s1 ≤ 255) (hs2 : 3 ≤ s2 ∧ s2 ≤ 255) : ∀ (r n p : Nat) (M : mA) (b1 : Int) (c0 : List Int), m < p + r → r < n → mE9 P T m M p → M 0 0 27 = op → (M 0 0 31 = 0 → b1 < M 0 0 30 ∧ nTr M P b1 c0) → ∃ z M', gmLoop inner s1 s2 n M b1 = some (z, M') ∧ fN P M M' ∧ mI9 P T m M' ∧ M' 0 0 27 = op ∧ kCase (kLoop T m f s1 s2 r p) (fun b => M' 0 0 31 = 1 ∧ M' 0 0 24 = b) (fun y => mE9 P T m M' y.1 ∧ M' 0 0 30 ≤ M 0 0 30 + y.2.length ∧ (M' 0 0 31 = 0 → z < M' 0 0 30 ∧ nTr M' P z (c0 ++ y.2))) := by
  intro r
  induction r with
  | zero => intro n p M b1 c0 h1 h2 h4; exact absurd h4.2.2.1 (by omega)
  | succ r ih =>
    intro n p M b1 c0 h1 h2 h4 h5 hb
    obtain ⟨n, rfl⟩ : ∃ k, n = k + 1 := ⟨n - 1, by omega⟩
    have go : kSg (kTok T m p) s1 ∨ kSg (kTok T m p) s2 → ∃ z M', (Option.bind (f_Mo_next M) (fun q5 => (Option.bind (inner q5.2) (fun q7 => (Option.bind (f_Mo_node q7.2 (M 0 0 26) 0 b1 q7.1) (fun q9 => gmLoop inner s1 s2 n q9.2 q9.1)))))) = some (z, M') ∧ fN P M M' ∧ mI9 P T m M' ∧ M' 0 0 27 = op ∧ kCase (kLoop T m f s1 s2 (r + 1) p) (fun b => M' 0 0 31 = 1 ∧ M' 0 0 24 = b) (fun y => mE9 P T m M' y.1 ∧ M' 0 0 30 ≤ M 0 0 30 + y.2.length ∧ (M' 0 0 31 = 0 → z < M' 0 0 30 ∧ nTr M' P z (c0 ++ y.2))) := fun q => by
      have c4 : tkS (kTok T m p) = 4 := by
        rcases q with q | q
        · exact q.1
        · exact q.1
      have cv : 3 ≤ tkV (kTok T m p) := by
        rcases q with q | q
        · rw [q.2]; exact hs1.1
        · rw [q.2]; exact hs2.1
      have h31 : M 0 0 31 = 0 := by
        rcases h4.w with w | w
        · exact w.1
        · exact absurd w.2 (by rw [c4]; decide)
      obtain ⟨z, M1, x1, x2, x3, x5, x4⟩ := m_body hin hf h4 h5 c4 cv (hb h31) (fun a b => gmLoop inner s1 s2 n b a)
      rw [x1]
      unfold kLoop
      rw [if_pos q]
      cases hq : f (tkE (kTok T m p)) with
      | inl b =>
        rw [hq] at x4
        obtain ⟨n, rfl⟩ : ∃ k, n = k + 1 := ⟨n - 1, by omega⟩
        exact ⟨z, M1, gmLoop1 x4.1, x2, x3, x5, x4⟩
      | inr x =>
        rw [hq] at x4
        obtain ⟨y1, y2, y3, y4, y5⟩ := x4
        obtain ⟨z, M2, w1, w2, w3, w5, w4⟩ := ih n x.1 M1 z (c0 ++ (x.2 ++ [200 + tkV (kTok T m p)])) (by omega) (by omega) y1 x5 y5
        refine ⟨z, M2, w1, x2.trans w2, w3, w5, ?_⟩
        dsimp only
        cases hq2 : kLoop T m f s1 s2 r x.1 with
        | inl b =>
          rw [hq2] at w4
          exact w4
        | inr y =>
          rw [hq2] at w4
          obtain ⟨v1, v2, v3⟩ := w4
          refine ⟨v1, ?_, fun q9 => ⟨(v3 q9).1, ?_⟩⟩
          · show M2 0 0 30 ≤ M 0 0 30 + ((x.2 ++ (_ :: y.2)).length : Nat)
            rw [List.length_append, List.length_cons]
            omega
          · have := (v3 q9).2
            rw [List.append_assoc, List.append_assoc] at this
            exact this
    have out : ¬ (kSg (kTok T m p) s1 ∨ kSg (kTok T m p) s2) → kCase (kLoop T m f s1 s2 (r + 1) p) (fun b => M 0 0 31 = 1 ∧ M 0 0 24 = b) (fun y => mE9 P T m M y.1 ∧ M 0 0 30 ≤ M 0 0 30 + y.2.length ∧ (M 0 0 31 = 0 → b1 < M 0 0 30 ∧ nTr M P b1 (c0 ++ y.2))) := fun hn => by
      unfold kLoop
      rw [if_neg hn]
      exact ⟨h4, by show M 0 0 30 ≤ M 0 0 30 + ((0 : Nat) : Int); omega, fun q => ⟨(hb q).1, by rw [List.append_nil]; exact (hb q).2⟩⟩
    rw [gmLoop, m_isSign h4 (by omega), obind, if_pos (by show g32 (if kSg (kTok T m p) s1 then 1 else 0); exact g32_if _)]
    by_cases k1 : kSg (kTok T m p) s1
    · rw [if_neg (fun h => (if0 _).mp h k1)]
      exact go (Or.inl k1)
    · rw [if_pos ((if0 _).mpr k1)]
      show ∃ z M', Option.bind (f_Mo_isSign M s2) _ = _ ∧ _
      rw [m_isSign h4 (by omega), obind, if_pos (by show g32 (if kSg (kTok T m p) s2 then 1 else 0); exact g32_if _)]
      by_cases k2 : kSg (kTok T m p) s2
      · rw [if_neg (fun h => (if0 _).mp h k2)]
        exact go (Or.inr k2)
      · rw [if_pos ((if0 _).mpr k2)]
        exact ⟨b1, M, rfl, fN.refl, h4.1, h5, out (fun q => q.elim k1 k2)⟩
theorem m_row {inner : mA → Option (Int × mA)} {f : Nat → kR (List Int)} (hin : mFn P T m op inner f) (hf : kPr m f) {s1 s2 : Int} (hs1 : 3 ≤ s1 ∧ s1 ≤ 255) (hs2 : 3 ≤ s2 ∧ s2 ≤ 255) : mFn P T m op (fun A => Option.bind (inner A) (fun q => gmLoop inner s1 s2 200 q.2 q.1)) (kRow T m f s1 s2) := by
  intro M p h h5
  obtain ⟨z, M1, x1, x2, x3, x5, x4⟩ := hin M p h h5
  show ∃ z M', Option.bind (inner M) _ = _ ∧ _
  rw [x1, obind]
  unfold kRow
  cases hq : f p with
  | inl b =>
    rw [hq] at x4
    exact ⟨z, M1, gmLoop1 x4.1, x2, x3, x5, x4⟩
  | inr x =>
    rw [hq] at x4
    obtain ⟨y1, y2, y3⟩ := x4
    have h120 := h.1.tx.1
    obtain ⟨z, M2, w1, w2, w3, w5, w4⟩ := m_loop hin hf hs1 hs2 121 200 x.1 M1 z x.2 (by omega) (by omega) y1 x5 y3
    refine ⟨z, M2, w1, x2.trans w2, w3, w5, ?_⟩
    dsimp only
    cases hq2 : kLoop T m f s1 s2 121 x.1 with
    | inl b =>
      rw [hq2] at w4
      exact w4
    | inr y =>
      rw [hq2] at w4
      obtain ⟨v1, v2, v3⟩ := w4
      refine ⟨v1, ?_, v3⟩
      show M2 0 0 30 ≤ M 0 0 30 + ((x.2 ++ y.2).length : Nat)
      rw [List.length_append]
      omega
theorem m_term {one : mA → Option (Int × mA)} {f : Nat → kR (List Int)} (hin : mFn P T m op one f) (hf : kPr m f) : mFn P T m op (f_Mo_term one) (kRow T m f 42 37) := by
  intro M p h h5
  obtain ⟨z, M', x1, x2⟩ := m_row hin hf (s1 := 42) (s2 := 37) (by decide) (by decide) M p h h5
  refine ⟨z, M', ?_, x2⟩
  rw [← x1]
  unfold f_Mo_term
  simp only [gmLoop_term]
theorem m_sum {one : mA → Option (Int × mA)} {f : Nat → kR (List Int)} (hin : mFn P T m op one f) (hf : kPr m f) (h120 : m ≤ 120) (hT : ∀ j, j < 120 → 0 ≤ T j ∧ T j ≤ 255) : mFn P T m op (f_Mo_sum one) (kRow T m (kRow T m f 42 37) 43 45) := by
  intro M p h h5
  obtain ⟨z, M', x1, x2⟩ := m_row (m_term hin hf) (kRow_pr h120 hT hf) (s1 := 43) (s2 := 45) (by decide) (by decide) M p h h5
  refine ⟨z, M', ?_, x2⟩
  rw [← x1]
  unfold f_Mo_sum
  simp only [gmLoop_sum]
theorem m_exp {one : mA → Option (Int × mA)} {f : Nat → kR (List Int)} (hin : mFn P T m op one f) (hf : kPr m f) (h120 : m ≤ 120) (hT : ∀ j, j < 120 → 0 ≤ T j ∧ T j ≤ 255) : mFn P T m op (f_Mo_expression one) (kExp T m f) := by
  have hsum := m_sum hin hf h120 hT
  have hpr := kRow_pr h120 hT (kRow_pr h120 hT hf (s1 := 42) (s2 := 37)) (s1 := 43) (s2 := 45)
  intro M p h h5
  obtain ⟨z, M1, x1, x2, x3, x5, x4⟩ := hsum M p h h5
  unfold f_Mo_expression
  rw [x1, obind]
  show ∃ z' M', Option.bind (f_Mo_isSign M1 60) _ = _ ∧ _
  unfold kExp
  cases hq : kRow T m (kRow T m f 42 37) 43 45 p with
  | inl b =>
    rw [hq] at x4
    rw [m_dead x4.1, obind, if_pos (by show g32 0; decide), if_pos (by show (0 : Int) = 0; rfl)]
    show ∃ z' M', Option.bind (f_Mo_isSign M1 61) _ = _ ∧ _
    rw [m_dead x4.1]
    exact ⟨z, M1, rfl, x2, x3, x5, x4⟩
  | inr x =>
    rw [hq] at x4
    obtain ⟨y1, y2, y3⟩ := x4
    dsimp only
    rw [m_isSign y1 (by decide), obind, if_pos (by show g32 (if kSg (kTok T m x.1) 60 then 1 else 0); exact g32_if _)]
    have go : kSg (kTok T m x.1) 60 ∨ kSg (kTok T m x.1) 61 → ∃ z' M', (Option.bind (f_Mo_next M1) (fun q5 => (Option.bind (f_Mo_sum one q5.2) (fun q7 => (Option.bind (f_Mo_node q7.2 (M1 0 0 26) 0 z q7.1) (fun q9 => some (q9.1, q9.2))))))) = some (z', M') ∧ mRes P T m op M z' M' (match kRow T m (kRow T m f 42 37) 43 45 (tkE (kTok T m x.1)) with | .inl b => .inl b | .inr y => .inr (y.1, x.2 ++ (y.2 ++ [200 + tkV (kTok T m x.1)]))) := fun q => by
      have c4 : tkS (kTok T m x.1) = 4 := by
        rcases q with q | q
        · exact q.1
        · exact q.1
      have cv : 3 ≤ tkV (kTok T m x.1) := by
        rcases q with q | q
        · rw [q.2]; decide
        · rw [q.2]; decide
      have h31 : M1 0 0 31 = 0 := by
        rcases y1.w with w | w
        · exact w.1
        · exact absurd w.2 (by rw [c4]; decide)
      obtain ⟨z', M2, w1, w2, w3, w5, w4⟩ := m_body hsum hpr y1 x5 c4 cv (y3 h31) (fun a b => some (a, b))
      rw [w1]
      cases hq2 : kRow T m (kRow T m f 42 37) 43 45 (tkE (kTok T m x.1)) with
      | inl b =>
        rw [hq2] at w4
        exact ⟨z', M2, rfl, x2.trans w2, w3, w5, w4⟩
      | inr y =>
        rw [hq2] at w4
        obtain ⟨v1, v2, v3, v4, v5⟩ := w4
        refine ⟨z', M2, rfl, x2.trans w2, w3, w5, v1, ?_, v5⟩
        show M2 0 0 30 ≤ M 0 0 30 + ((x.2 ++ (y.2 ++ [_])).length : Nat)
        rw [List.length_append, List.length_append, List.length_cons, List.length_nil]
        omega
    by_cases k1 : kSg (kTok T m x.1) 60
    · rw [if_neg (fun h => (if0 _).mp h k1)]
      simp only [if_pos (show kSg (kTok T m x.1) 60 ∨ kSg (kTok T m x.1) 61 from Or.inl k1)]
      exact go (Or.inl k1)
    · rw [if_pos ((if0 _).mpr k1)]
      show ∃ z M', Option.bind (f_Mo_isSign M1 61) _ = _ ∧ _
      rw [m_isSign y1 (by decide), obind, if_pos (by show g32 (if kSg (kTok T m x.1) 61 then 1 else 0); exact g32_if _)]
      by_cases k2 : kSg (kTok T m x.1) 61
      · rw [if_neg (fun h => (if0 _).mp h k2)]
        simp only [if_pos (show kSg (kTok T m x.1) 60 ∨ kSg (kTok T m x.1) 61 from Or.inr k2)]
        exact go (Or.inr k2)
      · rw [if_pos ((if0 _).mpr k2)]
        simp only [if_neg (show ¬ (kSg (kTok T m x.1) 60 ∨ kSg (kTok T m x.1) 61) from fun q => q.elim k1 k2)]
        exact ⟨z, M1, rfl, x2, x3, x5, y1, y2, y3⟩
end FR2
