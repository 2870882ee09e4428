/-! STEPS of the class: lots, a step begun, what stands of a step (own work) -/
section CS5
variable {o pr ca lv lw sa : Nat} {st : Nat → Nat} {others : Int} {T : Nat → Int} {m : Nat}
theorem fLs.p {s : Nat} {C C' : mA} (h : fLs o s pr lv lw C C') (j : Nat) (hj : j ≠ 6) : C' 2 pr j = C 2 pr j := h.2 2 pr j (fun r => by
  rcases r with (r | r | r) | r
  · exact absurd r.1 (by decide)
  · exact hj r.2.2
  · exact absurd r.1 (by decide)
  · exact absurd r.1 (by decide))
theorem fLs.s6 {s : Nat} {C C' : mA} (h : fLs o s pr lv lw C C') (j : Nat) (h2 : j ≠ 2) (h7 : j ≠ 7) (h11 : j ≠ 11) : C' 6 s j = C 6 s j := h.2 6 s j (fun r => by
  rcases r with (r | r | r) | r
  · exact absurd r.1 (by decide)
  · exact absurd r.1 (by decide)
  · exact absurd r.1 (by decide)
  · omega)
theorem c_draw {C : mA} {p k i : Nat} (h : cSt o pr ca lv lw sa st others T m C p k) (hi : i < k) : ∃ z C', f_Read_readLots C o (st i) = some (z, C') ∧ fS o pr ca lv lw st i C C' ∧ C' 3 o 5 = C 3 o 5 ∧ C' 6 (st i) 11 = C 2 pr 6 ∧ kCase (kLots T m p) (fun b => z = 0 ∧ C' 3 o 6 = b) (fun y => (0 < kBt (kSumW y.2) → z = 1 ∧ cSt o pr ca lv lw sa st others T m C' y.1 k ∧ C' 6 (st i) 2 = y.2.length ∧ C' 6 (st i) 7 = kBt (kSumW y.2) ∧ (∀ j, j ≠ 2 → j ≠ 7 → j ≠ 11 → C' 6 (st i) j = C 6 (st i) j) ∧ C' 2 pr 3 = C 2 pr 3 ∧ C' 2 pr 6 = C 2 pr 6 + y.2.length ∧ lotsAt C' lv lw (C 2 pr 6).toNat y.2) ∧ (¬ 0 < kBt (kSumW y.2) → z = 0 ∧ C' 3 o 6 = tkB (kTok T m y.1))) := by
  have hk := h.2.2.2.1
  obtain ⟨z, C', x1, x2, x3, x5, x4⟩ := c_lots (s := st i) h.1
  have f1 : fS o pr ca lv lw st i C C' := fS.ofLs (by omega) x2
  refine ⟨z, C', x1, f1, x3, x5, ?_⟩
  cases hq : kLots T m p with
  | inl b =>
    rw [hq] at x4
    exact x4
  | inr y =>
    rw [hq] at x4
    obtain ⟨u1, u2⟩ := x4
    refine ⟨fun q => ?_, u2⟩
    obtain ⟨t1, t2, t3, t4, t5, t6⟩ := u1 q
    exact ⟨t1, h.go f1 t2 (x2.p 1 (by decide)), t3, t4, fun j a b c => x2.s6 j a b c, x2.p 3 (by decide), t5, t6⟩
theorem c_stepAt {C : mA} {p k : Nat} (h : cSt o pr ca lv lw sa st others T m C p k) {i : Nat} (hi : i < 16) : f_Prog_stepAt C pr i = some (((st i : Nat) : Int), C) := by
  obtain ⟨a1, a2, a3, a4, a5, a6⟩ := h
  unfold f_Prog_stepAt
  rw [if_pos (show g32 _ by unfold g32; omega), if_neg (by omega), if_neg (by omega), if_pos (by omega), Int.toNat_natCast, a2, a5 i hi]
/-- a step as it is begun -/
def stNew (C : mA) (a : Nat) (kind lev : Int) : Prop := C 6 a 0 = kind ∧ C 6 a 1 = -1 ∧ C 6 a 2 = -1 ∧ C 6 a 3 = 1 ∧ C 6 a 4 = lev ∧ C 6 a 5 = 0 ∧ C 6 a 6 = 0 ∧ C 6 a 7 = 0 ∧ C 6 a 8 = 1 ∧ C 6 a 12 = 0 ∧ C 6 a 13 = -1
theorem c_begin {C : mA} {p k : Nat} {kind lev : Int} (h : cSt o pr ca lv lw sa st others T m C p k) (hk : k < 16) : ∃ C', f_Prog_beginStep C pr kind lev = some (((st k : Nat) : Int), C') ∧ fS o pr ca lv lw st k C C' ∧ (∀ j, C' 3 o j = C 3 o j) ∧ cSt o pr ca lv lw sa st others T m C' p (k + 1) ∧ stNew C' (st k) kind lev ∧ C' 2 pr 3 = C 2 pr 3 ∧ C' 2 pr 6 = C 2 pr 6 := by
  have e1 := c_stepAt h hk
  obtain ⟨a1, a2, a3, a4, a5, a6⟩ := h
  unfold f_Prog_beginStep
  rw [a3, e1, obind]
  show ∃ C', Option.bind (f_Step_begin C ((st k : Nat) : Int).toNat kind lev) _ = _ ∧ _
  rw [Int.toNat_natCast]
  unfold f_Step_begin
  rw [obind]
  generalize hB : (mu (mu (mu (mu (mu (mu (mu (mu (mu (mu (mu (mu (mu (mu C 6 (st k) 0 kind) 6 (st k) 4 lev) 6 (st k) 1 (-1)) 6 (st k) 2 (-1)) 6 (st k) 3 1) 6 (st k) 5 0) 6 (st k) 6 0) 6 (st k) 7 0) 6 (st k) 8 1) 6 (st k) 9 0) 6 (st k) 10 0) 6 (st k) 11 0) 6 (st k) 12 0) 6 (st k) 13 (-1)) = B
  have o6 : ∀ f a j, f ≠ 6 → B f a j = C f a j := fun f a j hf => by
    rw [← hB]
    simp only [mu_r, hf, false_and, if_false]
  have fB : fS o pr ca lv lw st k C B := by
    refine ⟨by rw [o6 _ _ _ (by decide)]; exact Int.le_refl _, by rw [o6 _ _ _ (by decide)]; exact Int.le_refl _, fun f a j q => ?_⟩
    by_cases hf : f = 6
    · subst hf
      have ha : a ≠ st k := fun r => q (Or.inr (Or.inr (Or.inr (Or.inr ⟨rfl, k, Nat.le_refl _, hk, r⟩))))
      rw [← hB]
      simp only [mu_r, ha, false_and, and_false, if_false]
    · exact o6 f a j hf
  have lB : cLt o pr ca lv lw T m B p := by
    rw [← hB]
    exact a1.st.st.st.st.st.st.st.st.st.st.st.st.st.st
  have n0 : ∀ j z, (B 6 (st k) j = z) → mu B 2 pr 1 ((k : Int) + 1) 6 (st k) j = z := fun j z e => by
    rw [mu_ne _ _ (fun r => absurd r.1 (by decide))]
    exact e
  have e21 : B 2 pr 1 = k := (o6 2 pr 1 (by decide)).trans a3
  have fF : fS o pr ca lv lw st k B (mu B 2 pr 1 ((k : Int) + 1)) := ⟨Int.le_refl _, Int.le_refl _, fun f a j q => mu_ne _ _ (fun r => q (Or.inr (Or.inl ⟨r.1, r.2.1, Or.inl r.2.2⟩)))⟩
  refine ⟨mu B 2 pr 1 ((k : Int) + 1), ?_, fB.trans fF (Nat.le_refl _), fun j => (o6 3 o j (by decide)), ⟨?_, ?_, mu_at _ _ _ _ _, by omega, fun i hi => ?_, (o6 3 o 3 (by decide)).trans a6⟩, ?_, o6 2 pr 3 (by decide), o6 2 pr 6 (by decide)⟩
  · show (if g32 (B 2 pr 1) then if 16 ≤ B 2 pr 1 then _ else some (((((st k : Nat) : Int).toNat : Nat) : Int), mu B 2 pr 1 (B 2 pr 1 + 1)) else none) = _
    rw [e21, if_pos (show g32 _ by unfold g32; omega), if_neg (by omega), Int.toNat_natCast]
  · obtain ⟨⟨⟨b1, c1, c2, c3, c4⟩, d1, d2, d3⟩, q1, q2, q3, q4, q5⟩ := lB
    exact ⟨⟨⟨b1, c1, c2, c3, c4⟩, d1, d2, d3⟩, q1, q2, q3, q4, q5⟩
  · show (B 2 pr 0).toNat = sa
    rw [o6 2 pr 0 (by decide)]
    exact a2
  · show (B 25 sa i).toNat = st i
    rw [o6 25 sa i (by decide)]
    exact a5 i hi
  · refine ⟨n0 0 _ ?_, n0 1 _ ?_, n0 2 _ ?_, n0 3 _ ?_, n0 4 _ ?_, n0 5 _ ?_, n0 6 _ ?_, n0 7 _ ?_, n0 8 _ ?_, n0 12 _ ?_, n0 13 _ ?_⟩ <;> (rw [← hB]; simp [mu_r])
end CS5
