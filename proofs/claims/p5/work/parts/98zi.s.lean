/-! STEPS of the class: what comes behind a step's word (own work) -/
section CB9
variable {o pr ca lv lw sa : Nat} {st : Nat → Nat} {others : Int} {T : Nat → Int} {m d : Nat}
theorem stIs.mk9 {C' : mA} {k : Nat} {z : Int} {s : kS} (hz : z = ((sI s : Nat) : Int)) (h0 : C' 6 (st k) 0 = sK s) (h1 : C' 6 (st k) 1 = sN s) (h2 : C' 6 (st k) 2 = sU s) (h4 : C' 6 (st k) 4 = sV s) (h5 : sK s = 3 → C' 6 (st k) 5 = ((k + sO s : Nat) : Int)) (h6 : C' 6 (st k) 6 = kSee 0 (sC s)) (h7 : C' 6 (st k) 7 = (if sK s = 0 then kBt (kSumW (sL s)) else 0)) (h8 : C' 6 (st k) 8 = 1 ∧ C' 6 (st k) 12 = 0 ∧ C' 6 (st k) 13 = -1) (hc : sK s ≠ 0 → sK s ≠ 4 → ∃ n : Nat, C' 6 (st k) 9 = n ∧ C' 6 (st k) 10 = ((n + (sC s).length : Nat) : Int) ∧ ((n + (sC s).length : Nat) : Int) ≤ C' 2 pr 3 ∧ codesAt C' ca n (sC s)) (hl : sK s = 0 → ∃ n : Nat, C' 6 (st k) 11 = n ∧ ((n + (sL s).length : Nat) : Int) ≤ C' 2 pr 6 ∧ lotsAt C' lv lw n (sL s)) : stIs pr ca lv lw st (mu C' 6 (st k) 3 z) k s := by
  have e : ∀ j, j ≠ 3 → mu C' 6 (st k) 3 z 6 (st k) j = C' 6 (st k) j := fun j hj => mu_ne _ _ (fun r => hj r.2.2)
  refine ⟨⟨by rw [e 0 (by decide)]; exact h0, by rw [e 1 (by decide)]; exact h1, by rw [e 2 (by decide)]; exact h2, by rw [mu_at]; exact hz, by rw [e 4 (by decide)]; exact h4⟩, fun q => by rw [e 5 (by decide)]; exact h5 q, by rw [e 6 (by decide)]; exact h6, by rw [e 7 (by decide)]; exact h7, by rw [e 8 (by decide), e 12 (by decide), e 13 (by decide)]; exact h8, fun q1 q2 => ?_, fun q => ?_⟩
  · rw [e 9 (by decide), e 10 (by decide)]
    exact hc q1 q2
  · rw [e 11 (by decide)]
    exact hl q
/-- see E -/
theorem c_see {stp : mA → Nat → Option (Int × mA)} {br : Nat → Nat → kR (List kS)} {C : mA} {p k : Nat} (hd : d ≤ 4) (h : cSt o pr ca lv lw sa st others T m C p (k + 1)) (hn : stNew C (st k) 2 (4 - d)) (ho : C 3 o 5 = 4 - d) : ∃ z C', f_Read_readRest stp C o (st k) = some (z, C') ∧ fS o pr ca lv lw st k C C' ∧ kCase (kRest T m (4 - d) others (kExp T m (kOne T m d)) br 2 k p) (fun b => z = 0 ∧ C' 3 o 6 = b) (fun x => z = 1 ∧ cSt o pr ca lv lw sa st others T m C' x.1 (k + x.2.length) ∧ C' 3 o 5 = 4 - d ∧ ∃ hd tl, x.2 = hd :: tl ∧ stIs pr ca lv lw st (mu C' 6 (st k) 3 ((x.2.length : Nat) : Int)) k hd ∧ stAll pr ca lv lw st C' (k + 1) tl) := by
  obtain ⟨n0, n1, n2, n3, n4, n5, n6, n7, n8, n12, n13⟩ := hn
  have hc0 := h.1.1.1.2.2.2.1
  obtain ⟨z, C1, x1, x2, x4⟩ := c_form (i := k) h (by omega) hd ho
  unfold f_Read_readRest
  rw [n0, if_pos (by decide), if_neg (by decide), if_neg (by decide), if_pos rfl, x1, obind]
  show ∃ z' C', (if z = 0 ∨ z = 1 then some (z, C1) else none) = _ ∧ _
  have e : kRest T m (4 - d) others (kExp T m (kOne T m d)) br 2 k p = kThen (kExp T m (kOne T m d) p) (fun q c => .inr (q, [(2, -1, -1, 1, 1, c, [], 4 - (d : Int))])) := rfl
  rw [e]
  cases hq : kExp T m (kOne T m d) p with
  | inl b =>
    rw [hq] at x4
    obtain ⟨y1, y2⟩ := x4
    subst y1
    exact ⟨0, C1, rfl, x2, rfl, y2⟩
  | inr x =>
    rw [hq] at x4
    obtain ⟨y1, y2, y3, y4, y5, y6, y7, y8, y9, y10⟩ := x4
    subst y1
    refine ⟨1, C1, rfl, x2, rfl, y2, y3, _, [], rfl, ?_, stAll.nil⟩
    refine stIs.mk9 rfl ?_ ?_ ?_ ?_ (fun q => absurd q (by show ¬ (2 : Int) = 3; decide)) ?_ ?_ ⟨?_, ?_, ?_⟩ (fun _ _ => ⟨(C 2 pr 3).toNat, ?_, ?_, ?_, y9⟩) (fun q => absurd q (by show ¬ (2 : Int) = 0; decide))
    · rw [y7 0 (by decide) (by decide) (by decide)]; exact n0
    · rw [y7 1 (by decide) (by decide) (by decide)]; exact n1
    · rw [y7 2 (by decide) (by decide) (by decide)]; exact n2
    · rw [y7 4 (by decide) (by decide) (by decide)]; exact n4
    · rw [y6, n6]
    · rw [y7 7 (by decide) (by decide) (by decide), n7]
      rfl
    · rw [y7 8 (by decide) (by decide) (by decide)]; exact n8
    · rw [y7 12 (by decide) (by decide) (by decide)]; exact n12
    · rw [y7 13 (by decide) (by decide) (by decide)]; exact n13
    · rw [y4]; omega
    · rw [y5, y8]
      show _ = (((C 2 pr 3).toNat + x.2.length : Nat) : Int)
      omega
    · rw [y8]
      show (((C 2 pr 3).toNat + x.2.length : Nat) : Int) ≤ _
      omega
/-- let NAME E -/
theorem c_let {stp : mA → Nat → Option (Int × mA)} {br : Nat → Nat → kR (List kS)} {C : mA} {p k : Nat} (hd : d ≤ 4) (h : cSt o pr ca lv lw sa st others T m C p (k + 1)) (hn : stNew C (st k) 1 (4 - d)) (ho : C 3 o 5 = 4 - d) : ∃ z C', f_Read_readRest stp C o (st k) = some (z, C') ∧ fS o pr ca lv lw st k C C' ∧ kCase (kRest T m (4 - d) others (kExp T m (kOne T m d)) br 1 k p) (fun b => z = 0 ∧ C' 3 o 6 = b) (fun x => z = 1 ∧ cSt o pr ca lv lw sa st others T m C' x.1 (k + x.2.length) ∧ C' 3 o 5 = 4 - d ∧ ∃ hd tl, x.2 = hd :: tl ∧ stIs pr ca lv lw st (mu C' 6 (st k) 3 ((x.2.length : Nat) : Int)) k hd ∧ stAll pr ca lv lw st C' (k + 1) tl) := by
  obtain ⟨n0, n1, n2, n3, n4, n5, n6, n7, n8, n12, n13⟩ := hn
  obtain ⟨z, C1, x1, x2, x3, x4⟩ := c_name (i := k) h (by omega)
  unfold f_Read_readRest
  rw [n0, if_pos (by decide), if_neg (by decide), if_pos rfl, x1, obind]
  show ∃ z' C', (if g32 z then if z = 0 then some (0, C1) else Option.bind (f_Read_readFormula C1 o (st k)) _ else none) = _ ∧ _
  have e : kRest T m (4 - d) others (kExp T m (kOne T m d)) br 1 k p = kName T m p (fun v p => kThen (kExp T m (kOne T m d) p) (fun q c => .inr (q, [(1, v, -1, 1, 1, c, [], 4 - (d : Int))]))) := rfl
  rw [e]
  unfold kName
  rcases x4 with ⟨c, y1, y2, y3, y4, y5, y6⟩ | ⟨c, y1, y2⟩
  · subst y1
    rw [if_pos c, if_pos (by decide), if_neg (by decide)]
    obtain ⟨z, C2, v1, v2, v4⟩ := c_form (i := k) y2 (by omega) hd (x3.trans ho)
    have hc0 := y2.1.1.1.2.2.2.1
    rw [v1, obind]
    show ∃ z' C', (if g32 z then if z = 0 then some (0, C2) else some (1, C2) else none) = _ ∧ _
    have f2 := x2.trans v2 (Nat.le_refl k)
    dsimp only
    cases hq : kExp T m (kOne T m d) (tkE (kTok T m p)) with
    | inl b =>
      rw [hq] at v4
      obtain ⟨w1, w2⟩ := v4
      subst w1
      exact ⟨0, C2, rfl, f2, rfl, w2⟩
    | inr x =>
      rw [hq] at v4
      obtain ⟨w1, w2, w3, w4, w5, w6, w7, w8, w9, w10⟩ := v4
      subst w1
      refine ⟨1, C2, rfl, f2, rfl, w2, w3, _, [], rfl, ?_, stAll.nil⟩
      refine stIs.mk9 rfl ?_ ?_ ?_ ?_ (fun q => absurd q (by show ¬ (1 : Int) = 3; decide)) ?_ ?_ ⟨?_, ?_, ?_⟩ (fun _ _ => ⟨(C1 2 pr 3).toNat, ?_, ?_, ?_, w9⟩) (fun q => absurd q (by show ¬ (1 : Int) = 0; decide))
      · rw [w7 0 (by decide) (by decide) (by decide), y4 0 (by decide)]; exact n0
      · rw [w7 1 (by decide) (by decide) (by decide)]; exact y3
      · rw [w7 2 (by decide) (by decide) (by decide), y4 2 (by decide)]; exact n2
      · rw [w7 4 (by decide) (by decide) (by decide), y4 4 (by decide)]; exact n4
      · rw [w6, y4 6 (by decide), n6]
      · rw [w7 7 (by decide) (by decide) (by decide), y4 7 (by decide), n7]
        rfl
      · rw [w7 8 (by decide) (by decide) (by decide), y4 8 (by decide)]; exact n8
      · rw [w7 12 (by decide) (by decide) (by decide), y4 12 (by decide)]; exact n12
      · rw [w7 13 (by decide) (by decide) (by decide), y4 13 (by decide)]; exact n13
      · rw [w4]; omega
      · rw [w5, w8]
        show _ = (((C1 2 pr 3).toNat + x.2.length : Nat) : Int)
        omega
      · rw [w8]
        show (((C1 2 pr 3).toNat + x.2.length : Nat) : Int) ≤ _
        omega
  · subst y1
    rw [if_neg c]
    exact ⟨0, C1, rfl, x2, rfl, y2⟩
end CB9
