/-! STEPS of the class: a formula (own work) -/
section CS4
variable {o pr ca lv lw sa : Nat} {st : Nat → Nat} {others : Int} {T : Nat → Int} {m : Nat}
/-- codes from here on -/
def codesAt (C : mA) (ca n : Nat) (c : List Int) : Prop := ∀ i, i < c.length → C 36 ca (n + i) = c.getD i 0
theorem fE.s6 {o s pr ca : Nat} {C C' : mA} (h : fE o s pr ca C C') (j : Nat) (hj : j ≠ 6) : C' 6 s j = C 6 s j := h.2 6 s j (fun r => by
  rcases r with r | r | r | r
  · exact absurd r.1 (by decide)
  · exact hj r.2.2
  · exact absurd r.1 (by decide)
  · exact absurd r.1 (by decide))
theorem c_form {C : mA} {p k i d : Nat} (h : cSt o pr ca lv lw sa st others T m C p k) (hi : i < k) (hd : d ≤ 4) (ho : C 3 o 5 = 4 - d) : ∃ z C', f_Read_readFormula C o (st i) = some (z, C') ∧ fS o pr ca lv lw st i C C' ∧ kCase (kExp T m (kOne T m d) p) (fun b => z = 0 ∧ C' 3 o 6 = b) (fun x => z = 1 ∧ cSt o pr ca lv lw sa st others T m C' x.1 k ∧ C' 3 o 5 = 4 - d ∧ C' 6 (st i) 9 = C 2 pr 3 ∧ C' 6 (st i) 10 = C' 2 pr 3 ∧ C' 6 (st i) 6 = kSee (C 6 (st i) 6) x.2 ∧ (∀ j, j ≠ 6 → j ≠ 9 → j ≠ 10 → C' 6 (st i) j = C 6 (st i) j) ∧ C' 2 pr 3 = C 2 pr 3 + x.2.length ∧ codesAt C' ca (C 2 pr 3).toNat x.2 ∧ C' 2 pr 6 = C 2 pr 6) := by
  have h120 := h.1.1.1.tx.1
  have hT := h.1.1.1.tx.2
  have hk := h.2.2.2.1
  have hI := h.1.1.1
  unfold f_Read_readFormula
  rw [hI.2.1, if_pos (by omega), Int.toNat_natCast]
  have h1 := (h.1.st (s := st i) (j := 9) (z := C 2 pr 3)).1
  obtain ⟨z, C1, x1, x2, x3, x4⟩ := c_exp (c_oneN (o := o) (s := st i) (pr := pr) (ca := ca) (T := T) (m := m) d hd 6 (by omega) h120 hT) (kOne_pr h120 hT d) h120 hT _ p h1 ho
  rw [x1, obind]
  show ∃ z' C', (if 0 ≤ C1 3 o 2 then if z = 0 ∨ z = 1 then some (z, mu C1 6 (st i) 10 (C1 2 (C1 3 o 2).toNat 3)) else none else none) = _ ∧ _
  rw [x3.2.1, if_pos (by omega), Int.toNat_natCast]
  have f1 : fS o pr ca lv lw st i C (mu C1 6 (st i) 10 (C1 2 pr 3)) := ((fS.st (by omega)).trans (fS.ofE (by omega) x2) (Nat.le_refl i)).trans (fS.st (by omega)) (Nat.le_refl i)
  cases hq : kExp T m (kOne T m d) p with
  | inl b =>
    rw [hq] at x4
    obtain ⟨y1, y2⟩ := x4
    subst y1
    exact ⟨0, mu C1 6 (st i) 10 (C1 2 pr 3), rfl, f1, rfl, y2⟩
  | inr x =>
    rw [hq] at x4
    obtain ⟨y1, y2, y3, y4⟩ := x4
    subst y1
    obtain ⟨b1, b2, b3⟩ := kExp_pr h120 hT (kOne_pr h120 hT d) _ h.1.1.2.2.1 x hq
    obtain ⟨-, q1, q2, q3, q4, q5⟩ := h.1
    have c6 : C1 2 pr 6 = C 2 pr 6 := (x2.p 6 (by decide)).trans rfl
    have l1 : cLt o pr ca lv lw T m C1 x.1 := ⟨y2, ((x2.p 4 (by decide)).trans rfl).trans q1, ((x2.p 5 (by decide)).trans rfl).trans q2, q3, by rw [c6]; exact q4, by rw [c6]; omega⟩
    refine ⟨1, mu C1 6 (st i) 10 (C1 2 pr 3), rfl, f1, rfl, h.go f1 l1.st ?_, y3, ?_, mu_at _ _ _ _ _, ?_, fun j j6 j9 j10 => ?_, y4.1, fun j hj => y4.2.1 j hj, c6⟩
    · show C1 2 pr 1 = _
      exact (x2.p 1 (by decide)).trans rfl
    · rw [mu_ne _ _ (fun r => absurd r.2.2 (by decide)), x2.s6 9 (by decide)]
      exact mu_at _ _ _ _ _
    · rw [mu_ne _ _ (fun r => absurd r.2.2 (by decide)), y4.2.2]
      rfl
    · rw [mu_ne _ _ (fun r => j10 r.2.2), x2.s6 j j6]
      exact mu_ne _ _ (fun r => j9 r.2.2)
end CS4
