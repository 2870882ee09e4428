/-! STEPS of the class: a step (own work) -/
section CBE
variable {o pr ca lv lw sa : Nat} {st : Nat → Nat} {others : Int} {T : Nat → Int} {m d : Nat}
theorem c_rest (hst : ∀ i, i < 16 → ∀ j, j < 16 → st i = st j → i = j) {stp : mA → Nat → Option (Int × mA)} {br : Nat → Nat → kR (List kS)} (hb : cBr o pr ca lv lw sa st others T m d (f_Read_readBraces stp) br) (hpr : kPs m br) {C : mA} {p k : Nat} {kind : Int} (hd : d ≤ 4) (hot : g32 others) (h : cSt o pr ca lv lw sa st others T m C p (k + 1)) (hk : 0 ≤ kind ∧ kind ≤ 5) (hn : stNew C (st k) kind (4 - d)) (ho : C 3 o 5 = 4 - d) : ∃ z C', f_Read_readRest stp C o (st k) = some (z, C') ∧ fS o pr ca lv lw st k C C' ∧ kCase (kRest T m (4 - d) others (kExp T m (kOne T m d)) br kind k p) (fun b => z = 0 ∧ C' 3 o 6 = b) (fun x => z = 1 ∧ cSt o pr ca lv lw sa st others T m C' x.1 (k + x.2.length) ∧ C' 3 o 5 = 4 - d ∧ ∃ hd tl, x.2 = hd :: tl ∧ stIs pr ca lv lw st (mu C' 6 (st k) 3 ((x.2.length : Nat) : Int)) k hd ∧ stAll pr ca lv lw st C' (k + 1) tl) := by
  have q : kind = 0 ∨ kind = 1 ∨ kind = 2 ∨ kind = 3 ∨ kind = 4 ∨ kind = 5 := by omega
  rcases q with rfl | rfl | rfl | rfl | rfl | rfl
  · exact c_drawR h hn ho
  · exact c_let hd h hn ho
  · exact c_see hd h hn ho
  · exact c_ifR hst hb hpr hd h hn ho
  · exact c_loopR hst hb hpr h hn ho
  · exact c_runR hd hot h hn ho
theorem c_step (hst : ∀ i, i < 16 → ∀ j, j < 16 → st i = st j → i = j) {stp : mA → Nat → Option (Int × mA)} {br : Nat → Nat → kR (List kS)} (hb : cBr o pr ca lv lw sa st others T m d (f_Read_readBraces stp) br) (hpr : kPs m br) (hd : d ≤ 4) (hot : g32 others) : cBr o pr ca lv lw sa st others T m d (f_Read_readStep stp) (kStepB T m (4 - d) others (kExp T m (kOne T m d)) br) := by
  intro C p k h ho
  have h120 := h.1.1.1.tx.1
  have hT := h.1.1.1.tx.2
  obtain ⟨g1, g2, g3, g4, g5, g6, g8, g9, g10⟩ := h.1.1.good
  obtain ⟨e4, e6, e7, e8⟩ := h.1.1.2.1
  have hk16 := h.2.2.2.1
  unfold f_Read_readStep kStepB
  rw [e7, if_pos (show g32 _ by unfold g32; omega)]
  by_cases c : tkS (kTok T m p) = 2
  · have g11 := g9 c
    rw [if_pos c, h.1.1.1.2.1, if_pos (by omega), Int.toNat_natCast, h.2.2.1, if_pos (show g32 _ by unfold g32; omega)]
    by_cases c2 : k < 16
    · rw [if_pos (show (k : Int) < 16 by omega), if_pos (show tkS (kTok T m p) = 2 ∧ k < 16 from ⟨c, c2⟩), e8 (by omega) (by omega), ho]
      obtain ⟨C1, x1, x2, x3, x4, x5, x6, x7⟩ := c_begin (kind := tkV (kTok T m p)) (lev := 4 - (d : Int)) h c2
      rw [x1, obind]
      obtain ⟨C2, y1, y2, y3⟩ := c_advS x4
      show ∃ z C', Option.bind (f_Read_advance C1 o) _ = _ ∧ _
      rw [y1, obind]
      show ∃ z C', Option.bind (f_Read_readRest stp C2 o ((st k : Nat) : Int).toNat) _ = _ ∧ _
      rw [Int.toNat_natCast]
      have n2 : stNew C2 (st k) (tkV (kTok T m p)) (4 - d) := by
        have e : ∀ j, C2 6 (st k) j = C1 6 (st k) j := fun j => y2 6 (st k) j (fun r => absurd r.1 (by decide))
        unfold stNew
        rw [e, e, e, e, e, e, e, e, e, e, e]
        exact x5
      have o2 : C2 3 o 5 = 4 - d := ((y2 3 o 5 (fun r => absurd r.2.2 (by decide))).trans (x3 5)).trans ho
      obtain ⟨z, C3, v1, v2, v4⟩ := c_rest hst hb hpr hd hot y3 ⟨g6.1, g11⟩ n2 o2
      have f2 : fS o pr ca lv lw st k C C2 := x2.trans (fS.ofC y2 (by decide)) (Nat.le_refl k)
      have p3 : C3 3 o 2 = pr := (v2.o3 2 (by decide)).trans y3.1.1.1.2.1
      have f3 : ∀ z9, fS o pr ca lv lw st k C (mu C3 6 (st k) 3 z9) := fun z9 => (f2.trans v2 (Nat.le_refl k)).trans (fS.st (by omega)) (Nat.le_refl k)
      rw [v1, obind]
      show ∃ z' C', (if 0 ≤ C3 3 o 2 then if z = 0 ∨ z = 1 then some (z, mu C3 6 (st k) 3 (C3 2 (C3 3 o 2).toNat 1 - (k : Int))) else none else none) = _ ∧ _
      rw [p3, if_pos (by omega), Int.toNat_natCast]
      cases hq : kRest T m (4 - d) others (kExp T m (kOne T m d)) br (tkV (kTok T m p)) k (tkE (kTok T m p)) with
      | inl b =>
        rw [hq] at v4
        obtain ⟨w1, w2⟩ := v4
        subst w1
        exact ⟨0, mu C3 6 (st k) 3 (C3 2 pr 1 - (k : Int)), rfl, f3 _, rfl, w2⟩
      | inr x =>
        rw [hq] at v4
        obtain ⟨w1, w2, w3, hd9, tl, w4, w5, w6⟩ := v4
        subst w1
        obtain ⟨-, -, -, b4⟩ := kRest_pr h120 hT (kExp_pr h120 hT (kOne_pr h120 hT d)) hpr g3 c2 hq
        have es : C3 2 pr 1 - (k : Int) = ((x.2.length : Nat) : Int) := by
          rw [w2.2.2.1]
          omega
        rw [es]
        refine ⟨1, mu C3 6 (st k) 3 ((x.2.length : Nat) : Int), rfl, f3 _, rfl, w2.st6, w3, ?_⟩
        rw [w4] at w5 b4 ⊢
        rw [List.length_cons] at b4
        exact stAll.cons w5 (w6.muS hst (by omega) (by omega))
    · rw [if_neg (show ¬ (k : Int) < 16 by omega), if_neg (show ¬ (tkS (kTok T m p) = 2 ∧ k < 16) from fun r => c2 r.2)]
      exact ⟨0, C, rfl, fS.refl, rfl, e6⟩
  · rw [if_neg c, if_neg (show ¬ (tkS (kTok T m p) = 2 ∧ k < 16) from fun r => c r.1)]
    exact ⟨0, C, rfl, fS.refl, rfl, e6⟩
end CBE
