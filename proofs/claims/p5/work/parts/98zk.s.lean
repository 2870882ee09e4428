/-! STEPS of the class: run, if (own work) -/
section CBB
variable {o pr ca lv lw sa : Nat} {st : Nat → Nat} {others : Int} {T : Nat → Int} {m d : Nat}
/-- run NAME NUMBER E -/
theorem c_runR {stp : mA → Nat → Option (Int × mA)} {br : Nat → Nat → kR (List kS)} {C : mA} {p k : Nat} (hd : d ≤ 4) (hot : g32 others) (h : cSt o pr ca lv lw sa st others T m C p (k + 1)) (hn : stNew C (st k) 5 (4 - d)) (ho : C 3 o 5 = 4 - d) : ∃ z C', f_Read_readRest stp C o (st k) = some (z, C') ∧ fS o pr ca lv lw st k C C' ∧ kCase (kRest T m (4 - d) others (kExp T m (kOne T m d)) br 5 k p) (fun b => z = 0 ∧ C' 3 o 6 = b) (fun x => z = 1 ∧ cSt o pr ca lv lw sa st others T m C' x.1 (k + x.2.length) ∧ C' 3 o 5 = 4 - d ∧ ∃ hd tl, x.2 = hd :: tl ∧ stIs pr ca lv lw st (mu C' 6 (st k) 3 ((x.2.length : Nat) : Int)) k hd ∧ stAll pr ca lv lw st C' (k + 1) tl) := by
  obtain ⟨n0, n1, n2, n3, n4, n5, n6, n7, n8, n12, n13⟩ := hn
  obtain ⟨z, C1, x1, x2, x3, x4⟩ := c_name (i := k) h (by omega)
  unfold f_Read_readRest
  rw [n0, if_pos (by decide), if_neg (by decide), if_neg (by decide), if_neg (by decide), if_neg (by decide), if_neg (by decide), x1, obind]
  show ∃ z' C', (if g32 z then if z = 0 then some (0, C1) else Option.bind (f_Read_readNumber C1 o (st k) (C1 3 o 3)) _ else none) = _ ∧ _
  have e : kRest T m (4 - d) others (kExp T m (kOne T m d)) br 5 k p = kName T m p (fun v p => kNumb T m others p (fun u p => kThen (kExp T m (kOne T m d) p) (fun q c => .inr (q, [(5, v, u, 1, 1, c, [], 4 - (d : Int))])))) := rfl
  rw [e]
  unfold kName
  rcases x4 with ⟨c, y1, y2, y3, y4, y5, y6⟩ | ⟨c, y1, y2⟩
  · subst y1
    rw [if_pos c, if_pos (by decide), if_neg (by decide), y2.2.2.2.2.2]
    obtain ⟨z, C2, a1, a2, a3, a4⟩ := c_numb (i := k) y2 (by omega) hot
    rw [a1, obind]
    show ∃ z' C', (if g32 z then if z = 0 then some (0, C2) else Option.bind (f_Read_readFormula C2 o (st k)) _ else none) = _ ∧ _
    have f2 := x2.trans a2 (Nat.le_refl k)
    dsimp only
    unfold kNumb
    rcases a4 with ⟨c2, b1, b2, b3, b4, b5, b6⟩ | ⟨c2, b1, b2⟩
    · subst b1
      rw [if_pos c2, if_pos (by decide), if_neg (by decide)]
      obtain ⟨z, C3, v1, v2, v4⟩ := c_form (i := k) b2 (by omega) hd ((a3.trans x3).trans ho)
      have hc0 := b2.1.1.1.2.2.2.1
      rw [v1, obind]
      show ∃ z' C', (if g32 z then if z = 0 then some (0, C3) else some (1, C3) else none) = _ ∧ _
      have f3 := f2.trans v2 (Nat.le_refl k)
      dsimp only
      cases hq : kExp T m (kOne T m d) (tkE (kTok T m (tkE (kTok T m p)))) with
      | inl b =>
        rw [hq] at v4
        obtain ⟨w1, w2⟩ := v4
        subst w1
        exact ⟨0, C3, rfl, f3, rfl, w2⟩
      | inr x =>
        rw [hq] at v4
        obtain ⟨w1, w2, w3, w4, w5, w6, w7, w8, w9, w10⟩ := v4
        subst w1
        refine ⟨1, C3, rfl, f3, rfl, w2, w3, _, [], rfl, ?_, stAll.nil⟩
        refine stIs.mk9 rfl ?_ ?_ ?_ ?_ (fun q => absurd q (by show ¬ (5 : Int) = 3; decide)) ?_ ?_ ⟨?_, ?_, ?_⟩ (fun _ _ => ⟨(C2 2 pr 3).toNat, ?_, ?_, ?_, w9⟩) (fun q => absurd q (by show ¬ (5 : Int) = 0; decide))
        · rw [w7 0 (by decide) (by decide) (by decide), b4 0 (by decide), y4 0 (by decide)]; exact n0
        · rw [w7 1 (by decide) (by decide) (by decide), b4 1 (by decide)]; exact y3
        · rw [w7 2 (by decide) (by decide) (by decide)]; exact b3
        · rw [w7 4 (by decide) (by decide) (by decide), b4 4 (by decide), y4 4 (by decide)]; exact n4
        · rw [w6, b4 6 (by decide), y4 6 (by decide), n6]
        · rw [w7 7 (by decide) (by decide) (by decide), b4 7 (by decide), y4 7 (by decide), n7]
          rfl
        · rw [w7 8 (by decide) (by decide) (by decide), b4 8 (by decide), y4 8 (by decide)]; exact n8
        · rw [w7 12 (by decide) (by decide) (by decide), b4 12 (by decide), y4 12 (by decide)]; exact n12
        · rw [w7 13 (by decide) (by decide) (by decide), b4 13 (by decide), y4 13 (by decide)]; exact n13
        · rw [w4]; omega
        · rw [w5, w8]
          show _ = (((C2 2 pr 3).toNat + x.2.length : Nat) : Int)
          omega
        · rw [w8]
          show (((C2 2 pr 3).toNat + x.2.length : Nat) : Int) ≤ _
          omega
    · subst b1
      rw [if_neg c2]
      exact ⟨0, C2, rfl, f2, rfl, b2⟩
  · subst y1
    rw [if_neg c]
    exact ⟨0, C1, rfl, x2, rfl, y2⟩
end CBB
