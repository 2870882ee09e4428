/-! program() of the class and of the reference: alike (own work) -/
abbrev aOa (C : mA) (x : Nat) : Nat := (C 8 x 2).toNat
abbrev aPr (C : mA) (x p : Nat) : Nat := (C 21 (aOa C x) p).toNat
/-- the class as the reference has it: tape, programs, image -/
def R3 (x : Nat) (C A : mA) : Prop :=
  (C 8 x 1 = A 0 0 22 ∧ 0 ≤ A 0 0 22 ∧ A 0 0 22 ≤ 120) ∧ (C 8 x 3 = A 0 0 0 ∧ 0 ≤ A 0 0 0 ∧ A 0 0 0 ≤ 6) ∧
  (C 8 x 5 = 0 ∧ A 0 0 37 = -1 ∨ C 8 x 5 = 1 ∧ A 0 0 37 = C 8 x 7 ∧ 0 ≤ C 8 x 7 ∧ C 8 x 7 ≤ C 8 x 3) ∧
  (∀ j, j < 120 → C 20 (C 8 x 0).toNat j = A 9 0 j ∧ 0 ≤ A 9 0 j ∧ A 9 0 j ≤ 255) ∧
  (∀ p, p < 6 → 0 ≤ C 21 (aOa C x) p → cPg C (aPr C x p)) ∧
  (∀ p : Nat, (p : Int) < A 0 0 0 → 0 ≤ C 21 (aOa C x) p ∧ C 2 (aPr C x p) 8 = A 6 0 p ∧ C 2 (aPr C x p) 9 = A 7 0 p ∧ (0 ≤ A 6 0 p ∧ A 6 0 p ≤ 50) ∧ (0 ≤ A 7 0 p ∧ A 7 0 p ≤ 60) ∧ (C 2 (aPr C x p) 11 = 0 ∨ C 2 (aPr C x p) 11 = 1)) ∧
  (∀ p p', p < 6 → p' < 6 → p ≠ p' → 0 ≤ C 21 (aOa C x) p → 0 ≤ C 21 (aOa C x) p' → aPr C x p ≠ aPr C x p')
section RP
variable {D : va_G} {G : tG} {C A : mA} {w : jW} {x : Nat}
/-- what the content's addresses are -/
theorem hg_ta (hw : hW D G C w) (hx : G x = some 8) : G (C 8 x 0).toNat = some 20 := by
  obtain ⟨V, -, h⟩ := (hcell_O (rfl : tyO 8 = some (8, _))).mp (hw x 8 hx)
  exact (hv4 (τ' := 20) rfl rfl (h 0 _ rfl)).2
theorem hg_oa (hw : hW D G C w) (hx : G x = some 8) : G (aOa C x) = some 21 := by
  obtain ⟨V, -, h⟩ := (hcell_O (rfl : tyO 8 = some (8, _))).mp (hw x 8 hx)
  exact (hv4 (τ' := 21) rfl rfl (h 2 _ rfl)).2
theorem hg_pr (hw : hW D G C w) (hx : G x = some 8) {p : Nat} (hp : p < 6) (h0 : 0 ≤ C 21 (aOa C x) p) : G (aPr C x p) = some 2 := by
  obtain ⟨f, -, h⟩ := (hcell_R (t := 5) (rfl : tyO 21 = none) rfl).mp (hw _ 21 (hg_oa hw hx))
  exact (hv5 (τ' := 2) rfl rfl h0 (h p hp)).2
theorem hg_sa (hw : hW D G C w) {pr : Nat} (hp : G pr = some 2) : G (C 2 pr 0).toNat = some 25 := by
  obtain ⟨V, -, h⟩ := (hcell_O (rfl : tyO 2 = some (2, _))).mp (hw pr 2 hp)
  exact (hv4 (τ' := 25) rfl rfl (h 0 _ rfl)).2
/-- the places that the relation speaks of -/
def keepS (τ k : Nat) : Bool := match τ with
  | 8 => [0, 1, 2, 3, 5, 7].elem k
  | 2 => [0, 1, 2, 4, 5, 8, 9, 11].elem k
  | 6 => [0, 1, 2, 3, 6, 7].elem k
  | 20 => true
  | 21 => true
  | 25 => true
  | _ => false
theorem cPg.cg {C9 : mA} {pr : Nat} (h : cPg C pr) (h2 : ∀ k, k = 0 ∨ k = 2 ∨ k = 4 ∨ k = 5 → C9 2 pr k = C 2 pr k) (h25 : ∀ k, C9 25 (C 2 pr 0).toNat k = C 25 (C 2 pr 0).toNat k) : cPg C9 pr := by
  obtain ⟨a1, a2, a3, a4, a5⟩ := h
  refine ⟨by rw [h2 2 (by decide)]; exact a1, by rw [h2 4 (by decide)]; exact a2, by rw [h2 5 (by decide)]; exact a3, by rw [h2 4 (by decide), h2 5 (by decide)]; exact a4, fun i hi j hj e => ?_⟩
  rw [h2 0 (by decide), h25, h25] at e
  exact a5 i hi j hj e
theorem R3.keep {C9 A9 : mA} (hw : hW D G C w) (hx : G x = some 8) (h : R3 x C A) (hk : ∀ τ a k, G a = some τ → keepS τ k = true → C9 τ a k = C τ a k) (h0 : A9 0 0 0 = A 0 0 0 ∧ A9 0 0 22 = A 0 0 22 ∧ A9 0 0 37 = A 0 0 37) (h9 : ∀ j, j < 120 → A9 9 0 j = A 9 0 j) (h6 : ∀ p, p < 6 → A9 6 0 p = A 6 0 p ∧ A9 7 0 p = A 7 0 p) : R3 x C9 A9 := by
  obtain ⟨⟨a1, a2, a3⟩, ⟨b1, b2, b3⟩, c1, d1, e1, f1, g1⟩ := h
  have k8 : ∀ k, keepS 8 k = true → C9 8 x k = C 8 x k := fun k q => hk 8 x k hx q
  have eo : aOa C9 x = aOa C x := congrArg Int.toNat (k8 2 rfl)
  have k21 : ∀ p, C9 21 (aOa C x) p = C 21 (aOa C x) p := fun p => hk 21 _ p (hg_oa hw hx) rfl
  have ep : ∀ p, aPr C9 x p = aPr C x p := fun p => by
    show (C9 21 (aOa C9 x) p).toNat = _
    rw [eo, k21]
  unfold R3
  rw [k8 1 rfl, k8 3 rfl, k8 5 rfl, k8 7 rfl, k8 0 rfl, eo, h0.1, h0.2.1, h0.2.2]
  refine ⟨⟨a1, a2, a3⟩, ⟨b1, b2, b3⟩, c1, fun j hj => ?_, fun p hp q => ?_, fun p hp => ?_, fun p p' hp hp' hn q q' => ?_⟩
  · rw [hk 20 _ j (hg_ta hw hx) rfl, h9 j hj]
    exact d1 j hj
  · rw [k21] at q
    rw [ep]
    have gp := hg_pr hw hx hp q
    exact (e1 p hp q).cg (fun k hk2 => hk 2 _ k gp (by rcases hk2 with rfl | rfl | rfl | rfl <;> rfl)) (fun k => hk 25 _ k (hg_sa hw gp) rfl)
  · have hp6 : p < 6 := by omega
    obtain ⟨q1, q2, q3, q4, q5, q6⟩ := f1 p hp
    have gp := hg_pr hw hx hp6 q1
    rw [k21, ep, hk 2 _ 8 gp rfl, hk 2 _ 9 gp rfl, hk 2 _ 11 gp rfl, (h6 p hp6).1, (h6 p hp6).2]
    exact ⟨q1, q2, q3, q4, q5, q6⟩
  · rw [k21] at q q'
    rw [ep, ep]
    exact g1 p p' hp hp' hn q q'
/-- what the class has of elder programs -/
abbrev eB (A : mA) (u : Int) : Int := A 6 0 u.toNat
abbrev eT (A : mA) (u : Int) : Int := A 7 0 u.toNat
abbrev eS (C : mA) (x : Nat) (u : Int) : Int := C 2 (aPr C x u.toNat) 11
theorem R3.el {P : Nat} (h : R3 x C A) (hP : A 0 0 0 = P) (hP6 : P < 6) {C1 : mA} (h21 : ∀ u, u < P → C1 21 (aOa C x) u = C 21 (aOa C x) u) (h2 : ∀ u, u < P → ∀ k, C1 2 (aPr C x u) k = C 2 (aPr C x u) k) : cEl P (aOa C x) (aPr C x) (eB A) (eT A) (eS C x) C1 := ⟨hP6, fun u hu => by
  obtain ⟨q1, q2, q3, q4, q5, q6⟩ := h.2.2.2.2.2.1 u (by omega)
  rw [h21 u hu, h2 u hu, h2 u hu, h2 u hu]
  exact ⟨q1, rfl, ⟨q2, q3, rfl⟩, q4, q5, q6⟩⟩
/-- both answer alike, and stand alike again -/
theorem R3_program {P : Nat} {C1 C9 A9 : mA} {pr : Nat} {z z' : Int} (hw : hW D G C w) (hx : G x = some 8) (h : R3 x C A) (hP : A 0 0 0 = P) (hP6 : P < 6) (hC : ∀ τ a k, G a ≠ none → ¬ (τ = 21 ∧ a = aOa C x ∧ k = P) → C1 τ a k = C τ a k) (hs : C1 21 (aOa C x) P = pr) (hg : cPg C1 pr) (hne : ∀ p, p < 6 → p ≠ P → 0 ≤ C 21 (aOa C x) p → aPr C x p ≠ pr) (hc : cPq P (A 9 0) (A 0 0 22).toNat x pr C1 (aPr C x) (eB A) (eT A) (eS C x) z C9) (hm : mPg P (A 9 0) (A 0 0 22).toNat A (eB A) (eT A) z' A9) : z = z' ∧ (-2147483648 ≤ z ∧ z ≤ 2147483647) ∧ R3 x C9 A9 := by
  obtain ⟨c1, c2, c3⟩ := hc
  obtain ⟨m1, m2, m3⟩ := hm
  have hR := h
  obtain ⟨⟨a1, a2, a3⟩, ⟨b1, b2, b3⟩, i1, d1, e1, f1, g1⟩ := h
  have nx : G x ≠ none := by rw [hx]; exact fun q => by cases q
  have no : G (aOa C x) ≠ none := by rw [hg_oa hw hx]; exact fun q => by cases q
  have nt : G (C 8 x 0).toNat ≠ none := by rw [hg_ta hw hx]; exact fun q => by cases q
  -- the class
  have x8 : ∀ k, k ≠ 1 → k ≠ 3 → C9 8 x k = C 8 x k := fun k q1 q3 => by
    rw [c1 8 x k (fun r => by
      rcases r with r | r | r
      · unfold dF at r; omega
      · omega
      · omega), hC 8 x k nx (fun r => by omega)]
  have eo : aOa C9 x = aOa C x := congrArg Int.toNat (x8 2 (by decide) (by decide))
  have k21 : ∀ p, C9 21 (aOa C x) p = C1 21 (aOa C x) p := fun p => c1 21 _ p (fun r => by
    rcases r with r | r | r
    · unfold dF at r; omega
    · omega
    · omega)
  have k21o : ∀ p, p ≠ P → C9 21 (aOa C x) p = C 21 (aOa C x) p := fun p q => by
    rw [k21, hC 21 _ p no (fun r => q r.2.2)]
  have k21P : C9 21 (aOa C x) P = pr := (k21 P).trans hs
  have epo : ∀ p, p ≠ P → aPr C9 x p = aPr C x p := fun p q => by
    show (C9 21 (aOa C9 x) p).toNat = _
    rw [eo, k21o p q]
  have epP : aPr C9 x P = pr := by
    show (C9 21 (aOa C9 x) P).toNat = _
    rw [eo, k21P]
    omega
  have k2 : ∀ p, p < 6 → p ≠ P → 0 ≤ C 21 (aOa C x) p → ∀ k, C9 2 (aPr C x p) k = C 2 (aPr C x p) k := fun p hp q q0 k => by
    have n2 := hne p hp q q0
    rw [c1 2 _ k (fun r => by
      rcases r with r | r | r
      · unfold dF at r; omega
      · omega
      · omega), hC 2 _ k (by rw [hg_pr hw hx hp q0]; exact fun q => by cases q) (fun r => by omega)]
  have k25 : ∀ a k, C9 25 a k = C1 25 a k := fun a k => c1 25 a k (fun r => by
    rcases r with r | r | r
    · unfold dF at r; omega
    · omega
    · omega)
  have pgo : ∀ p, p < 6 → p ≠ P → 0 ≤ C 21 (aOa C x) p → cPg C9 (aPr C x p) := fun p hp q q0 => (e1 p hp q0).cg (fun k _ => k2 p hp q q0 k) (fun k => by
    rw [k25, hC 25 _ k (by rw [hg_sa hw (hg_pr hw hx hp q0)]; exact fun q => by cases q) (fun r => by omega)])
  have pgP : cPg C9 pr := hg.cg (fun k hk => c1 2 pr k (fun r => by
    rcases r with r | r | r
    · unfold dF at r; omega
    · omega
    · omega)) (fun k => k25 _ k)
  -- the reference
  have n0 : ∀ f j, f = 6 ∨ f = 7 → j ≠ P → A9 f 0 j = A f 0 j := fun f j hf hj => m1 f 0 j (fun r => by
    rcases r with r | r | r | r
    · unfold dG at r; omega
    · omega
    · omega
    · omega)
  have n9 : ∀ j, A9 9 0 j = A 9 0 j := fun j => m1 9 0 j (fun r => by
    rcases r with r | r | r | r
    · unfold dG at r; omega
    · omega
    · omega
    · omega)
  have n37 : A9 0 0 37 = A 0 0 37 := m1 0 0 37 (fun r => by
    rcases r with r | r | r | r
    · unfold dG at r; omega
    · omega
    · omega
    · omega)
  -- with this many programs, and what the newest has
  have fin : ∀ n : Int, C9 8 x 3 = n → A9 0 0 0 = n → (n = P ∨ n = P + 1 ∧ (C9 2 pr 8 = A9 6 0 P ∧ C9 2 pr 9 = A9 7 0 P ∧ (0 ≤ A9 6 0 P ∧ A9 6 0 P ≤ 50) ∧ (0 ≤ A9 7 0 P ∧ A9 7 0 P ≤ 60) ∧ (C9 2 pr 11 = 0 ∨ C9 2 pr 11 = 1))) → R3 x C9 A9 := fun n q1 q2 q3 => by
    unfold R3
    rw [q1, q2, m2, c2, n37, x8 5 (by decide) (by decide), x8 7 (by decide) (by decide), x8 0 (by decide) (by decide), eo]
    refine ⟨⟨rfl, Int.le_refl _, by decide⟩, ⟨rfl, by omega, by omega⟩, ?_, fun j hj => ?_, fun p hp q => ?_, fun p hp => ?_, fun p p' hp hp' hn q q' => ?_⟩
    · rcases i1 with i1 | ⟨i1, i2, i3, i4⟩
      · exact Or.inl i1
      · exact Or.inr ⟨i1, i2, i3, by omega⟩
    · rw [c1 20 _ j (fun r => by
        rcases r with r | r | r
        · unfold dF at r; omega
        · omega
        · omega), hC 20 _ j nt (fun r => by omega), n9]
      exact d1 j hj
    · by_cases e : p = P
      · rw [e, epP]
        exact pgP
      · rw [k21o p e] at q
        rw [epo p e]
        exact pgo p hp e q
    · by_cases e : p = P
      · rw [e]
        rcases q3 with q3 | ⟨q3, q4⟩
        · omega
        · rw [epP, k21P]
          exact ⟨by omega, q4⟩
      · have hp9 : (p : Int) < A 0 0 0 := by omega
        obtain ⟨r1, r2, r3, r4, r5, r6⟩ := f1 p hp9
        rw [k21o p e, epo p e, k2 p (by omega) e r1, k2 p (by omega) e r1, k2 p (by omega) e r1, n0 6 p (Or.inl rfl) e, n0 7 p (Or.inr rfl) e]
        exact ⟨r1, r2, r3, r4, r5, r6⟩
    · by_cases e : p = P
      · by_cases e' : p' = P
        · omega
        · rw [k21o p' e'] at q'
          rw [e, epP, epo p' e']
          exact (hne p' hp' e' q').symm
      · rw [k21o p e] at q
        by_cases e' : p' = P
        · rw [e', epP, epo p e]
          exact hne p hp e q
        · rw [k21o p' e'] at q'
          rw [epo p e, epo p' e']
          exact g1 p p' hp hp' hn q q'
  have hT : ∀ j, j < 120 → 0 ≤ A 9 0 j ∧ A 9 0 j ≤ 255 := fun j hj => (d1 j hj).2
  cases hq : kProg (A 9 0) (A 0 0 22).toNat P with
  | inl b =>
    rw [hq] at c3 m3
    have hb := kProg_fl (by omega) hT hq
    obtain ⟨s1, s2⟩ := c3
    obtain ⟨t1, t2⟩ := m3
    exact ⟨s1.trans t1.symm, by omega, fin P s2 t2 (Or.inl rfl)⟩
  | inr y =>
    rw [hq] at c3 m3
    rcases c3 with ⟨s0, s1, s2⟩ | ⟨s0, s1, s2, s3, s4, s5, s6, -⟩
    · rcases m3 with ⟨t0, t1, t2⟩ | ⟨t0, -⟩
      · exact ⟨s1.trans t1.symm, by omega, fin P s2 t2 (Or.inl rfl)⟩
      · exact absurd s0 t0
    · rcases m3 with ⟨t0, -⟩ | ⟨t0, t1, t2, t3, t4, t5, -⟩
      · exact absurd t0 s0
      · refine ⟨s1.trans t1.symm, by omega, fin ((P : Int) + 1) s2 t2 (Or.inr ⟨rfl, s3.trans t4.symm, s4.trans t5.symm, ?_, ?_, s5⟩)⟩
        · rw [t4, ← s3]
          refine ⟨s6.1, ?_⟩
          rw [s3]
          omega
        · rw [t5, ← s4]
          refine ⟨s6.2.1, ?_⟩
          rw [s4]
          omega
end RP
