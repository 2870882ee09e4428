/-! BLOCKS of the class (own work) -/
def cBr (o pr ca lv lw sa : Nat) (st : Nat → Nat) (others : Int) (T : Nat → Int) (m : Nat) (d : Nat) (fn : mA → Nat → Option (Int × mA)) (f : Nat → Nat → kR (List kS)) : Prop := ∀ C p k, cSt o pr ca lv lw sa st others T m C p k → C 3 o 5 = 4 - d → ∃ z C', fn C o = some (z, C') ∧ fS o pr ca lv lw st k C C' ∧ kCase (f k p) (fun b => z = 0 ∧ C' 3 o 6 = b) (fun x => z = 1 ∧ cSt o pr ca lv lw sa st others T m C' x.1 (k + x.2.length) ∧ C' 3 o 5 = 4 - d ∧ stAll pr ca lv lw st C' k x.2)
section CB
variable {o pr ca lv lw sa : Nat} {st : Nat → Nat} {others : Int} {T : Nat → Int} {m d : Nat}
theorem c_advS {C : mA} {p k : Nat} (h : cSt o pr ca lv lw sa st others T m C p k) : ∃ C', f_Read_advance C o = some (0, C') ∧ fC C C' o [4, 6, 7, 8] ∧ cSt o pr ca lv lw sa st others T m C' (tkE (kTok T m p)) k := by
  obtain ⟨C', x1, x2, x3⟩ := c_advL h.1
  exact ⟨C', x1, x2, h.go (k0 := 0) (fS.ofC x2 (by decide)) x3 (x2 2 pr 1 (fun r => absurd r.1 (by decide)))⟩
theorem c_blk (hst : ∀ i, i < 16 → ∀ j, j < 16 → st i = st j → i = j) {stp : mA → Nat → Option (Int × mA)} {f : Nat → Nat → kR (List kS)} (hs : cBr o pr ca lv lw sa st others T m d stp f) (hf : kPs m f) : ∀ (r n p k i : Nat) (C : mA), m < p + r → r < n → i ≤ p → cSt o pr ca lv lw sa st others T m C p k → C 3 o 5 = 4 - d → ∃ z C', f_Read_readBlock_11 stp n C o i = some (z, C') ∧ fS o pr ca lv lw st k C C' ∧ kCase (kBlk T m f r k p) (fun b => z = 0 ∧ C' 3 o 6 = b) (fun x => z = 1 ∧ cSt o pr ca lv lw sa st others T m C' x.1 (k + x.2.length) ∧ C' 3 o 5 = 4 - d ∧ stAll pr ca lv lw st C' k x.2) := by
  intro r
  induction r with
  | zero => intro n p k i C h1 h2 h3 h4 h5; exact absurd h4.1.1.2.2.1 (by omega)
  | succ r ih =>
    intro n p k i C h1 h2 h3 h4 h5
    obtain ⟨n, rfl⟩ : ∃ q, n = q + 1 := ⟨n - 1, by omega⟩
    obtain ⟨g1, g2, g3, g4, g5, g6, -⟩ := h4.1.1.good
    have h120 := h4.1.1.1.tx.1
    have out : ¬ kSg (kTok T m p) 59 → kCase (kBlk T m f (r + 1) k p) (fun b => (1 : Int) = 0 ∧ C 3 o 6 = b) (fun x => (1 : Int) = 1 ∧ cSt o pr ca lv lw sa st others T m C x.1 (k + x.2.length) ∧ C 3 o 5 = 4 - d ∧ stAll pr ca lv lw st C k x.2) := fun hn => by
      unfold kBlk
      rw [if_neg hn]
      exact ⟨rfl, h4, h5, stAll.nil⟩
    rw [f_Read_readBlock_11, if_pos (show g32 _ by unfold g32; omega)]
    by_cases c : (120 : Int) ≤ i
    · rw [if_pos c]
      refine ⟨1, C, rfl, fS.refl, out (fun q => ?_)⟩
      have := g4.resolve_left (by rw [q.1]; decide)
      omega
    · rw [if_neg c, c_isSign h4.1.1 (by decide), obind, if_pos (by show g32 (if kSg (kTok T m p) 59 then 1 else 0); exact g32_if _)]
      by_cases q : kSg (kTok T m p) 59
      · rw [if_neg (fun h => (if0 _).mp h q)]
        have g7 := g4.resolve_left (by rw [q.1]; decide)
        obtain ⟨C1, x1, x2, x3⟩ := c_advS h4
        show ∃ z C', Option.bind (f_Read_advance C o) _ = _ ∧ _
        rw [x1, obind]
        show ∃ z C', Option.bind (stp C1 o) _ = _ ∧ _
        have o1 : C1 3 o 5 = 4 - d := (x2 3 o 5 (fun r => absurd r.2.2 (by decide))).trans h5
        have f1 : fS o pr ca lv lw st k C C1 := fS.ofC x2 (by decide)
        obtain ⟨z, C2, y1, y2, y4⟩ := hs C1 _ k x3 o1
        rw [y1, obind]
        unfold kBlk
        rw [if_pos q]
        show ∃ z' C', (if g32 z then if z = 0 then some (0, C2) else f_Read_readBlock_11 stp n C2 o ((i : Int) + 1) else none) = _ ∧ _
        cases hq : f k (tkE (kTok T m p)) with
        | inl b =>
          rw [hq] at y4
          obtain ⟨w1, w2⟩ := y4
          subst w1
          exact ⟨0, C2, rfl, f1.trans y2 (Nat.le_refl _), rfl, w2⟩
        | inr x =>
          rw [hq] at y4
          obtain ⟨w1, w2, w3, w4⟩ := y4
          subst w1
          obtain ⟨b1, b2, b3, b4⟩ := hf _ _ g3 x hq
          rw [if_pos (by decide), if_neg (by decide), show (i : Int) + 1 = ((i + 1 : Nat) : Int) from rfl]
          obtain ⟨z, C3, v1, v2, v4⟩ := ih n x.1 (k + x.2.length) (i + 1) C2 (by omega) (by omega) (by omega) w2 w3
          refine ⟨z, C3, v1, (f1.trans y2 (Nat.le_refl _)).trans v2 (by omega), ?_⟩
          dsimp only
          cases hq2 : kBlk T m f r (k + x.2.length) x.1 with
          | inl b =>
            rw [hq2] at v4
            exact v4
          | inr y =>
            rw [hq2] at v4
            obtain ⟨u1, u2, u3, u4⟩ := v4
            refine ⟨u1, ?_, u3, (w4.keep hst v2 (Nat.le_refl _) b4).app u4⟩
            have e : k + (x.2 ++ y.2).length = k + x.2.length + y.2.length := by
              rw [List.length_append]
              omega
            show cSt o pr ca lv lw sa st others T m C3 y.1 (k + (x.2 ++ y.2).length)
            rw [e]
            exact u2
      · rw [if_pos ((if0 _).mpr q)]
        exact ⟨1, C, rfl, fS.refl, out q⟩
theorem c_block (hst : ∀ i, i < 16 → ∀ j, j < 16 → st i = st j → i = j) {stp : mA → Nat → Option (Int × mA)} {f : Nat → Nat → kR (List kS)} (hs : cBr o pr ca lv lw sa st others T m d stp f) (hf : kPs m f) : cBr o pr ca lv lw sa st others T m d (f_Read_readBlock stp) (kBlock T m f) := by
  intro C p k h h5
  have h120 := h.1.1.1.tx.1
  obtain ⟨z, C2, y1, y2, y4⟩ := hs C p k h h5
  unfold f_Read_readBlock
  rw [y1, obind]
  show ∃ z' C', (if g32 z then if z = 0 then some (0, C2) else f_Read_readBlock_11 stp 200 C2 o 0 else none) = _ ∧ _
  unfold kBlock
  cases hq : f k p with
  | inl b =>
    rw [hq] at y4
    obtain ⟨w1, w2⟩ := y4
    subst w1
    exact ⟨0, C2, rfl, y2, rfl, w2⟩
  | inr x =>
    rw [hq] at y4
    obtain ⟨w1, w2, w3, w4⟩ := y4
    subst w1
    obtain ⟨b1, b2, b3, b4⟩ := hf _ _ h.1.1.2.2.1 x hq
    rw [if_pos (by decide), if_neg (by decide)]
    obtain ⟨z, C3, v1, v2, v4⟩ := c_blk hst hs hf 121 200 x.1 (k + x.2.length) 0 C2 (by omega) (by omega) (by omega) w2 w3
    refine ⟨z, C3, v1, y2.trans v2 (by omega), ?_⟩
    dsimp only
    cases hq2 : kBlk T m f 121 (k + x.2.length) x.1 with
    | inl b =>
      rw [hq2] at v4
      exact v4
    | inr y =>
      rw [hq2] at v4
      obtain ⟨u1, u2, u3, u4⟩ := v4
      refine ⟨u1, ?_, u3, (w4.keep hst v2 (Nat.le_refl _) b4).app u4⟩
      have e : k + (x.2 ++ y.2).length = k + x.2.length + y.2.length := by
        rw [List.length_append]
        omega
      show cSt o pr ca lv lw sa st others T m C3 y.1 (k + (x.2 ++ y.2).length)
      rw [e]
      exact u2
end CB
