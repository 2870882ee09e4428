/-! FORMULAS of the class: the loop over signs, rows, comparisons (own work) -/
section FL
variable {o s pr ca : Nat} {T : Nat → Int} {m : Nat} {op : Int}
/-- one sign, one more -/
theorem c_body {inner : mA → Nat → Nat → Option (Int × mA)} {f : Nat → kR (List Int)} (hin : cFn o s pr ca T m op inner f) (hf : kPr m f) {C : mA} {p : Nat} (h : cE o pr ca T m C p) (ho : C 3 o 5 = op) (h4 : tkS (kTok T m p) = 4) {α : Type} (g : Int → mA → Option α) :
    ∃ z C', (Option.bind (f_Read_advance C o) (fun q11 => (Option.bind (inner q11.2 o s) (fun q13 => (if 0 ≤ (q13.2 3 o 2) then (Option.bind (f_Prog_emit q13.2 ((q13.2 3 o 2).toNat) (200 + (C 3 o 8))) (fun q17 => g q13.1 q17.2)) else none))))) = g z C' ∧ fE o s pr ca C C' ∧ cI o pr ca T m C' ∧ kCase (f (tkE (kTok T m p))) (fun b => z = 0 ∧ C' 3 o 6 = b) (fun x => z = 1 ∧ cE o pr ca T m C' x.1 ∧ C' 3 o 5 = op ∧ p + 1 ≤ x.1 ∧ x.1 ≤ m ∧ eC s pr ca C C' (x.2 ++ [200 + tkV (kTok T m p)])) := by
  obtain ⟨g1, g2, g3, g4, g5, g6, -⟩ := h.good
  have g7 : tkB (kTok T m p) < tkE (kTok T m p) := g4.resolve_left (by rw [h4]; decide)
  have e8 : C 3 o 8 = tkV (kTok T m p) := h.2.1.2.2.2 (by omega) (by omega)
  obtain ⟨C1, x1, x2, x3⟩ := c_adv h
  have f1 : fE o s pr ca C C1 := fE.ofC x2 (by decide)
  have ho1 : C1 3 o 5 = op := (x2 3 o 5 (fun r => absurd r.2.2 (by decide))).trans ho
  have n1 : eC s pr ca C C1 [] := eC.nil (x2 2 pr 3 (fun r => absurd r.1 (by decide))) (x2 6 s 6 (fun r => absurd r.1 (by decide)))
  obtain ⟨z, C2, y1, y2, y3, y4⟩ := hin C1 _ x3 ho1
  obtain ⟨C3, w1, w2, w3, w4, w5⟩ := c_emit (s := s) y3 (200 + C 3 o 8) (by omega)
  have h0 := h.1.2.2.2.1
  have hp9 := h.2.2.2
  refine ⟨z, C3, ?_, (f1.trans y2).trans w2, w3, ?_⟩
  · rw [x1, obind]
    show Option.bind (inner C1 o s) _ = _
    rw [y1, obind]
    show (if 0 ≤ C2 3 o 2 then Option.bind (f_Prog_emit C2 (C2 3 o 2).toNat (200 + C 3 o 8)) _ else none) = _
    rw [y3.2.1, if_pos (by omega), Int.toNat_natCast, w1, obind]
  · cases hq : f (tkE (kTok T m p)) with
    | inl b =>
      rw [hq] at y4
      exact ⟨y4.1, (w4 6).trans y4.2⟩
    | inr x =>
      rw [hq] at y4
      obtain ⟨a1, a2, a3, a4⟩ := y4
      obtain ⟨b1, b2, b3⟩ := hf _ g3 x hq
      have c1 : C1 2 pr 3 = C 2 pr 3 := x2 2 pr 3 (fun r => absurd r.1 (by decide))
      have c2 := a4.1
      have h120 := h.1.tx.1
      have w6 := w5 (by rw [c2, c1]; omega)
      refine ⟨a1, ⟨w3, ?_, a2.2.2.1, ?_⟩, (w4 5).trans a3, by omega, b2, ?_⟩
      · obtain ⟨d1, d2, d3, d4⟩ := a2.2.1
        exact ⟨(w4 4).trans d1, (w4 6).trans d2, (w4 7).trans d3, fun q1 q2 => (w4 8).trans (d4 q1 q2)⟩
      · have := w6.1
        rw [this, c2, c1]
        show _ + ((1 : Nat) : Int) ≤ _
        omega
      · have k1 : eC s pr ca C C2 x.2 := eC.app (c := []) h0 n1 y2 a4
        rw [e8] at w6
        exact eC.app h0 k1 w2 w6
theorem c_loop {inner : mA → Nat → Nat → Option (Int × mA)} {f : Nat → kR (List Int)} (hin : cFn o s pr ca T m op inner f) (hf : kPr m f) {s1 s2 : Int} (hs1 : 0 ≤ s1 ∧ s1 ≤ 255) (hs2 : 0 ≤ s2 ∧ s2 ≤ 255) : ∀ (r n p i : Nat) (C : mA), m < p + r → r < n → i ≤ p → cE o pr ca T m C p → C 3 o 5 = op → ∃ z C', gLoop inner s1 s2 n C o s 1 i = some (z, C') ∧ cRes o s pr ca T m op C z C' (kLoop T m f s1 s2 r p) := by
  intro r
  induction r with
  | zero => intro n p i C h1 h2 h3 h4 h5; exact absurd h4.2.2.1 (by omega)
  | succ r ih =>
    intro n p i C h1 h2 h3 h4 h5
    obtain ⟨n, rfl⟩ : ∃ k, n = k + 1 := ⟨n - 1, by omega⟩
    obtain ⟨g1, g2, g3, g4, g5, g6, -⟩ := h4.good
    have h120 := h4.1.tx.1
    have out : ∀ C' : mA, C' = C → ¬ (kSg (kTok T m p) s1 ∨ kSg (kTok T m p) s2) → cRes o s pr ca T m op C 1 C' (kLoop T m f s1 s2 (r + 1) p) := fun C' e hn => by
      subst e
      unfold kLoop
      rw [if_neg hn]
      exact ⟨fE.refl, h4.1, rfl, h4, h5, eC.nil rfl rfl⟩
    rw [gLoop, if_pos (by unfold g32; omega)]
    by_cases c : (120 : Int) ≤ i
    · rw [if_pos c]
      refine ⟨1, C, rfl, out C rfl (fun q => ?_)⟩
      have c4 : tkS (kTok T m p) = 4 := by
        rcases q with q | q
        · exact q.1
        · exact q.1
      have := g4.resolve_left (by rw [c4]; decide)
      omega
    · rw [if_neg c, if_pos (by decide), if_neg (by decide), c_isSign h4 hs1, obind, if_pos (by show g32 (if kSg (kTok T m p) s1 then 1 else 0); exact g32_if _)]
      have go : kSg (kTok T m p) s1 ∨ kSg (kTok T m p) s2 → ∃ z C', (Option.bind (f_Read_advance C o) (fun q11 => (Option.bind (inner q11.2 o s) (fun q13 => (if 0 ≤ (q13.2 3 o 2) then (Option.bind (f_Prog_emit q13.2 ((q13.2 3 o 2).toNat) (200 + (C 3 o 8))) (fun q17 => gLoop inner s1 s2 n q17.2 o s q13.1 ((i : Int) + 1))) else none))))) = some (z, C') ∧ cRes o s pr ca T m op C z C' (kLoop T m f s1 s2 (r + 1) p) := fun q => by
        have c4 : tkS (kTok T m p) = 4 := by
          rcases q with q | q
          · exact q.1
          · exact q.1
        obtain ⟨z, C1, x1, x2, x3, x4⟩ := c_body hin hf h4 h5 c4 (fun a b => gLoop inner s1 s2 n b o s a ((i : Int) + 1))
        rw [x1]
        unfold kLoop
        rw [if_pos q]
        cases hq : f (tkE (kTok T m p)) with
        | inl b =>
          rw [hq] at x4
          obtain ⟨y1, y2⟩ := x4
          subst y1
          obtain ⟨n, rfl⟩ : ∃ k, n = k + 1 := ⟨n - 1, by omega⟩
          exact ⟨0, C1, gLoop0 (by omega), x2, x3, rfl, y2⟩
        | inr x =>
          rw [hq] at x4
          obtain ⟨y1, y2, y3, y4, y5, y6⟩ := x4
          subst y1
          obtain ⟨z, C2, w1, w2, w3, w4⟩ := ih n x.1 (i + 1) C1 (by omega) (by omega) (by omega) y2 y3
          refine ⟨z, C2, w1, x2.trans w2, w3, ?_⟩
          dsimp only
          cases hq2 : kLoop T m f s1 s2 r x.1 with
          | inl b =>
            rw [hq2] at w4
            exact w4
          | inr y =>
            rw [hq2] at w4
            obtain ⟨v1, v2, v3, v4⟩ := w4
            refine ⟨v1, v2, v3, ?_⟩
            have := eC.app h4.1.2.2.2.1 y6 w2 v4
            rw [List.append_assoc] at this
            exact this
      by_cases k1 : kSg (kTok T m p) s1
      · rw [if_neg (fun h => (if0 _).mp h k1)]
        exact go (Or.inl k1)
      · rw [if_pos ((if0 _).mpr k1)]
        show ∃ z C', Option.bind (f_Read_isSign C o s2) _ = _ ∧ _
        rw [c_isSign h4 hs2, obind, if_pos (by show g32 (if kSg (kTok T m p) s2 then 1 else 0); exact g32_if _)]
        by_cases k2 : kSg (kTok T m p) s2
        · rw [if_neg (fun h => (if0 _).mp h k2)]
          exact go (Or.inr k2)
        · rw [if_pos ((if0 _).mpr k2)]
          exact ⟨1, C, rfl, out C rfl (fun q => q.elim k1 k2)⟩
/-- one, then signs and ones -/
theorem c_row {inner : mA → Nat → Nat → Option (Int × mA)} {f : Nat → kR (List Int)} (hin : cFn o s pr ca T m op inner f) (hf : kPr m f) {s1 s2 : Int} (hs1 : 0 ≤ s1 ∧ s1 ≤ 255) (hs2 : 0 ≤ s2 ∧ s2 ≤ 255) : cFn o s pr ca T m op (fun A o s => Option.bind (inner A o s) (fun q => gLoop inner s1 s2 200 q.2 o s q.1 0)) (kRow T m f s1 s2) := by
  intro C p h h5
  obtain ⟨z, C1, x1, x2, x3, x4⟩ := hin C p h h5
  show ∃ z C', Option.bind (inner C o s) _ = _ ∧ _
  rw [x1, obind]
  unfold kRow
  cases hq : f p with
  | inl b =>
    rw [hq] at x4
    obtain ⟨y1, y2⟩ := x4
    subst y1
    exact ⟨0, C1, gLoop0 (by omega), x2, x3, rfl, y2⟩
  | inr x =>
    rw [hq] at x4
    obtain ⟨y1, y2, y3, y4⟩ := x4
    subst y1
    have h120 := h.1.tx.1
    obtain ⟨z, C2, w1, w2, w3, w4⟩ := c_loop hin hf hs1 hs2 121 200 x.1 0 C1 (by omega) (by omega) (by omega) y2 y3
    refine ⟨z, C2, w1, x2.trans w2, w3, ?_⟩
    dsimp only
    cases hq2 : kLoop T m f s1 s2 121 x.1 with
    | inl b =>
      rw [hq2] at w4
      exact w4
    | inr y =>
      rw [hq2] at w4
      obtain ⟨v1, v2, v3, v4⟩ := w4
      exact ⟨v1, v2, v3, eC.app h.1.2.2.2.1 y4 w2 v4⟩
theorem c_term {one : mA → Nat → Nat → Option (Int × mA)} {f : Nat → kR (List Int)} (hin : cFn o s pr ca T m op one f) (hf : kPr m f) : cFn o s pr ca T m op (f_Read_readTerm one) (kRow T m f 42 37) := by
  intro C p h h5
  obtain ⟨z, C', x1, x2⟩ := c_row hin hf (s1 := 42) (s2 := 37) (by decide) (by decide) C p h h5
  refine ⟨z, C', ?_, x2⟩
  rw [← x1]
  unfold f_Read_readTerm
  simp only [gLoop_term]
theorem c_sum {one : mA → Nat → Nat → Option (Int × mA)} {f : Nat → kR (List Int)} (hin : cFn o s pr ca T m op one f) (hf : kPr m f) (h120 : m ≤ 120) (hT : ∀ j, j < 120 → 0 ≤ T j ∧ T j ≤ 255) : cFn o s pr ca T m op (f_Read_readSum one) (kRow T m (kRow T m f 42 37) 43 45) := by
  intro C p h h5
  obtain ⟨z, C', x1, x2⟩ := c_row (c_term hin hf) (kRow_pr h120 hT hf) (s1 := 43) (s2 := 45) (by decide) (by decide) C p h h5
  refine ⟨z, C', ?_, x2⟩
  rw [← x1]
  unfold f_Read_readSum
  simp only [gLoop_sum]
theorem c_exp {one : mA → Nat → Nat → Option (Int × mA)} {f : Nat → kR (List Int)} (hin : cFn o s pr ca T m op one f) (hf : kPr m f) (h120 : m ≤ 120) (hT : ∀ j, j < 120 → 0 ≤ T j ∧ T j ≤ 255) : cFn o s pr ca T m op (f_Read_readComparison one) (kExp T m f) := by
  have hsum := c_sum hin hf h120 hT
  have hpr := kRow_pr h120 hT (kRow_pr h120 hT hf (s1 := 42) (s2 := 37)) (s1 := 43) (s2 := 45)
  intro C p h h5
  obtain ⟨z, C1, x1, x2, x3, x4⟩ := hsum C p h h5
  unfold f_Read_readComparison
  rw [x1, obind]
  show ∃ z' C', (if g32 z then if z = 0 then some (0, C1) else Option.bind (f_Read_isSign C1 o 60) _ else none) = _ ∧ _
  unfold kExp
  cases hq : kRow T m (kRow T m f 42 37) 43 45 p with
  | inl b =>
    rw [hq] at x4
    obtain ⟨y1, y2⟩ := x4
    subst y1
    exact ⟨0, C1, rfl, x2, x3, rfl, y2⟩
  | inr x =>
    rw [hq] at x4
    obtain ⟨y1, y2, y3, y4⟩ := x4
    subst y1
    rw [if_pos (by decide), if_neg (by decide), c_isSign y2 (by decide), obind, if_pos (by show g32 (if kSg (kTok T m x.1) 60 then 1 else 0); exact g32_if _)]
    have go : kSg (kTok T m x.1) 60 ∨ kSg (kTok T m x.1) 61 → ∃ z C', (Option.bind (f_Read_advance C1 o) (fun q11 => (Option.bind (f_Read_readSum one q11.2 o s) (fun q13 => (if 0 ≤ (q13.2 3 o 2) then (Option.bind (f_Prog_emit q13.2 ((q13.2 3 o 2).toNat) (200 + (C1 3 o 8))) (fun q17 => if q13.1 = 0 ∨ q13.1 = 1 then some (q13.1, q17.2) else none)) else none))))) = some (z, C') ∧ cRes o s pr ca T m op C z C' (match kRow T m (kRow T m f 42 37) 43 45 (tkE (kTok T m x.1)) with | .inl b => .inl b | .inr y => .inr (y.1, x.2 ++ (y.2 ++ [200 + tkV (kTok T m x.1)]))) := fun q => by
      have c4 : tkS (kTok T m x.1) = 4 := by
        rcases q with q | q
        · exact q.1
        · exact q.1
      obtain ⟨z, C2, w1, w2, w3, w4⟩ := c_body hsum hpr y2 y3 c4 (fun a b => if a = 0 ∨ a = 1 then some (a, b) else none)
      rw [w1]
      cases hq2 : kRow T m (kRow T m f 42 37) 43 45 (tkE (kTok T m x.1)) with
      | inl b =>
        rw [hq2] at w4
        obtain ⟨v1, v2⟩ := w4
        subst v1
        exact ⟨0, C2, rfl, x2.trans w2, w3, rfl, v2⟩
      | inr y =>
        rw [hq2] at w4
        obtain ⟨v1, v2, v3, v4, v5, v6⟩ := w4
        subst v1
        exact ⟨1, C2, rfl, x2.trans w2, w3, rfl, v2, v3, eC.app h.1.2.2.2.1 y4 w2 v6⟩
    by_cases k1 : kSg (kTok T m x.1) 60
    · rw [if_neg (fun h => (if0 _).mp h k1)]
      simp only [if_pos (show kSg (kTok T m x.1) 60 ∨ kSg (kTok T m x.1) 61 from Or.inl k1)]
      exact go (Or.inl k1)
    · rw [if_pos ((if0 _).mpr k1)]
      show ∃ z C', Option.bind (f_Read_isSign C1 o 61) _ = _ ∧ _
      rw [c_isSign y2 (by decide), obind, if_pos (by show g32 (if kSg (kTok T m x.1) 61 then 1 else 0); exact g32_if _)]
      by_cases k2 : kSg (kTok T m x.1) 61
      · rw [if_neg (fun h => (if0 _).mp h k2)]
        simp only [if_pos (show kSg (kTok T m x.1) 60 ∨ kSg (kTok T m x.1) 61 from Or.inr k2)]
        exact go (Or.inr k2)
      · rw [if_pos ((if0 _).mpr k2)]
        simp only [if_neg (show ¬ (kSg (kTok T m x.1) 60 ∨ kSg (kTok T m x.1) 61) from fun q => q.elim k1 k2)]
        exact ⟨1, C1, rfl, x2, x3, rfl, y2, y3, y4⟩
end FL
