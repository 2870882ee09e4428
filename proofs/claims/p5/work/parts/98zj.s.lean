/-! STEPS of the class: draw, loop (own work) -/
section CBA
variable {o pr ca lv lw sa : Nat} {st : Nat → Nat} {others : Int} {T : Nat → Int} {m d : Nat}
theorem c_drawR {stp : mA → Nat → Option (Int × mA)} {ex : Nat → kR (List Int)} {br : Nat → Nat → kR (List kS)} {C : mA} {p k : Nat} (h : cSt o pr ca lv lw sa st others T m C p (k + 1)) (hn : stNew C (st k) 0 (4 - d)) (ho : C 3 o 5 = 4 - d) : ∃ z C', f_Read_readRest stp C o (st k) = some (z, C') ∧ fS o pr ca lv lw st k C C' ∧ kCase (kRest T m (4 - d) others ex br 0 k p) (fun b => z = 0 ∧ C' 3 o 6 = b) (fun x => z = 1 ∧ cSt o pr ca lv lw sa st others T m C' x.1 (k + x.2.length) ∧ C' 3 o 5 = 4 - d ∧ ∃ hd tl, x.2 = hd :: tl ∧ stIs pr ca lv lw st (mu C' 6 (st k) 3 ((x.2.length : Nat) : Int)) k hd ∧ stAll pr ca lv lw st C' (k + 1) tl) := by
  obtain ⟨n0, n1, n2, n3, n4, n5, n6, n7, n8, n12, n13⟩ := hn
  obtain ⟨z, C1, x1, x2, x3, x4⟩ := c_name (i := k) h (by omega)
  unfold f_Read_readRest
  rw [n0, if_pos (by decide), if_pos rfl, x1, obind]
  show ∃ z' C', (if g32 z then if z = 0 then some (0, C1) else Option.bind (f_Read_readLots C1 o (st k)) _ else none) = _ ∧ _
  have e : kRest T m (4 - d) others ex br 0 k p = kName T m p (fun v p => kThen (kLots T m p) (fun q c => if 0 < kBt (kSumW c) then .inr (q, [(0, v, (c.length : Int), 1, 1, [], c, 4 - (d : Int))]) else .inl (tkB (kTok T m q)))) := rfl
  rw [e]
  unfold kName
  rcases x4 with ⟨c, y1, y2, y3, y4, y5, y6⟩ | ⟨c, y1, y2⟩
  · subst y1
    rw [if_pos c, if_pos (by decide), if_neg (by decide)]
    obtain ⟨z, C2, v1, v2, v3, q2, v4⟩ := c_draw (i := k) y2 (by omega)
    have hc0 := y2.1.2.2.2.2.1
    rw [v1, obind]
    show ∃ z' C', (if g32 z then if z = 0 then some (0, C2) else some (1, C2) else none) = _ ∧ _
    have f2 := x2.trans v2 (Nat.le_refl k)
    dsimp only
    cases hq : kLots T m (tkE (kTok T m p)) with
    | inl b =>
      rw [hq] at v4
      obtain ⟨w1, w2⟩ := v4
      subst w1
      exact ⟨0, C2, rfl, f2, rfl, w2⟩
    | inr y =>
      rw [hq] at v4
      obtain ⟨u1, u2⟩ := v4
      unfold kThen
      dsimp only
      by_cases c9 : 0 < kBt (kSumW y.2)
      · obtain ⟨w1, w2, w3, w4, w5, w6, w7, w8⟩ := u1 c9
        rw [if_pos c9]
        subst w1
        refine ⟨1, C2, rfl, f2, rfl, w2, (v3.trans x3).trans ho, _, [], rfl, ?_, stAll.nil⟩
        refine stIs.mk9 rfl ?_ ?_ ?_ ?_ (fun q => absurd q (by show ¬ (0 : Int) = 3; decide)) ?_ ?_ ⟨?_, ?_, ?_⟩ (fun q _ => absurd rfl q) (fun _ => ⟨(C1 2 pr 6).toNat, ?_, ?_, w8⟩)
        · rw [w5 0 (by decide) (by decide) (by decide), y4 0 (by decide)]; exact n0
        · rw [w5 1 (by decide) (by decide) (by decide)]; exact y3
        · exact w3
        · rw [w5 4 (by decide) (by decide) (by decide), y4 4 (by decide)]; exact n4
        · rw [w5 6 (by decide) (by decide) (by decide), y4 6 (by decide), n6]
          rfl
        · rw [w4]
          rfl
        · rw [w5 8 (by decide) (by decide) (by decide), y4 8 (by decide)]; exact n8
        · rw [w5 12 (by decide) (by decide) (by decide), y4 12 (by decide)]; exact n12
        · rw [w5 13 (by decide) (by decide) (by decide), y4 13 (by decide)]; exact n13
        · rw [q2]
          omega
        · rw [w7]
          show (((C1 2 pr 6).toNat + y.2.length : Nat) : Int) ≤ _
          omega
      · obtain ⟨w1, w2⟩ := u2 c9
        rw [if_neg c9]
        subst w1
        exact ⟨0, C2, rfl, f2, rfl, w2⟩
  · subst y1
    rw [if_neg c]
    exact ⟨0, C1, rfl, x2, rfl, y2⟩
/-- loop NUMBER -/
theorem c_loopR (hst : ∀ i, i < 16 → ∀ j, j < 16 → st i = st j → i = j) {stp : mA → Nat → Option (Int × mA)} {ex : Nat → kR (List Int)} {br : Nat → Nat → kR (List kS)} (hb : cBr o pr ca lv lw sa st others T m d (f_Read_readBraces stp) br) (hpr : kPs m br) {C : mA} {p k : Nat} (h : cSt o pr ca lv lw sa st others T m C p (k + 1)) (hn : stNew C (st k) 4 (4 - d)) (ho : C 3 o 5 = 4 - d) : ∃ z C', f_Read_readRest stp C o (st k) = some (z, C') ∧ fS o pr ca lv lw st k C C' ∧ kCase (kRest T m (4 - d) others ex br 4 k p) (fun b => z = 0 ∧ C' 3 o 6 = b) (fun x => z = 1 ∧ cSt o pr ca lv lw sa st others T m C' x.1 (k + x.2.length) ∧ C' 3 o 5 = 4 - d ∧ ∃ hd tl, x.2 = hd :: tl ∧ stIs pr ca lv lw st (mu C' 6 (st k) 3 ((x.2.length : Nat) : Int)) k hd ∧ stAll pr ca lv lw st C' (k + 1) tl) := by
  obtain ⟨n0, n1, n2, n3, n4, n5, n6, n7, n8, n12, n13⟩ := hn
  have hk16 := h.2.2.2.1
  obtain ⟨g1, g2, g3, -⟩ := h.1.1.good
  obtain ⟨z, C1, x1, x2, x3, x4⟩ := c_numb (i := k) (below := 10) h (by omega) (by decide)
  unfold f_Read_readRest
  rw [n0, if_pos (by decide), if_neg (by decide), if_neg (by decide), if_neg (by decide), if_neg (by decide), if_pos rfl, x1, obind]
  show ∃ z' C', (if g32 z then if z = 0 then some (0, C1) else Option.bind (f_Read_readBraces stp C1 o) _ else none) = _ ∧ _
  have e : kRest T m (4 - d) others ex br 4 k p = kNumb T m 10 p (fun v p => kThen (br (k + 1) p) (fun q y => .inr (q, (4, -1, v, 1 + y.length, 1 + y.length, [], [], 4 - (d : Int)) :: y))) := rfl
  rw [e]
  unfold kNumb
  rcases x4 with ⟨c, y1, y2, y3, y4, y5, y6⟩ | ⟨c, y1, y2⟩
  · subst y1
    rw [if_pos c, if_pos (by decide), if_neg (by decide)]
    obtain ⟨z, C2, v1, v2, v4⟩ := hb C1 _ (k + 1) y2 (x3.trans ho)
    rw [v1, obind]
    show ∃ z' C', (if g32 z then if z = 0 then some (0, C2) else some (1, C2) else none) = _ ∧ _
    have f2 := x2.trans v2 (by omega)
    have el : ∀ j, C2 6 (st k) j = C1 6 (st k) j := fun j => v2.el hst (by omega) hk16 j
    dsimp only
    cases hq : br (k + 1) (tkE (kTok T m p)) with
    | inl b =>
      rw [hq] at v4
      obtain ⟨w1, w2⟩ := v4
      subst w1
      exact ⟨0, C2, rfl, f2, rfl, w2⟩
    | inr y =>
      rw [hq] at v4
      obtain ⟨w1, w2, w3, w4⟩ := v4
      subst w1
      have ek : k + 1 + y.2.length = k + (y.2.length + 1) := by omega
      rw [ek] at w2
      refine ⟨1, C2, rfl, f2, rfl, w2, w3, _, y.2, rfl, ?_, w4⟩
      refine stIs.mk9 ?_ ?_ ?_ ?_ ?_ (fun q => absurd q (by show ¬ (4 : Int) = 3; decide)) ?_ ?_ ⟨?_, ?_, ?_⟩ (fun _ q => absurd rfl q) (fun q => absurd q (by show ¬ (4 : Int) = 0; decide))
      · show ((y.2.length + 1 : Nat) : Int) = ((1 + y.2.length : Nat) : Int)
        omega
      · rw [el, y4 0 (by decide)]; exact n0
      · rw [el, y4 1 (by decide)]; exact n1
      · rw [el]; exact y3
      · rw [el, y4 4 (by decide)]; exact n4
      · rw [el, y4 6 (by decide), n6]
        rfl
      · rw [el, y4 7 (by decide), n7]
        rfl
      · rw [el, y4 8 (by decide)]; exact n8
      · rw [el, y4 12 (by decide)]; exact n12
      · rw [el, y4 13 (by decide)]; exact n13
  · subst y1
    rw [if_neg c]
    exact ⟨0, C1, rfl, x2, rfl, y2⟩
end CBA
