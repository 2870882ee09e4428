/-! the steps of the programs, alike (own work) -/
abbrev sAd (C : mA) (pr i : Nat) : Nat := (C 25 (C 2 pr 0).toNat i).toNat
def stR (C : mA) (pr : Nat) (A : mA) (p : Nat) : Prop := C 2 pr 1 = A 5 0 p ∧ (0 ≤ A 5 0 p ∧ A 5 0 p ≤ 16) ∧ ∀ i : Nat, (i : Int) < A 5 0 p → C 6 (sAd C pr i) 0 = A 34 p i ∧ (0 ≤ A 34 p i ∧ A 34 p i ≤ 5)
def S6 (x : Nat) (C A : mA) : Prop := (∀ p : Nat, (p : Int) < A 0 0 0 → stR C (aPr C x p) A p) ∧ ∀ p p', p < 6 → p' < 6 → p ≠ p' → 0 ≤ C 21 (aOa C x) p → 0 ≤ C 21 (aOa C x) p' → ∀ i, i < 16 → ∀ j, j < 16 → sAd C (aPr C x p) i ≠ sAd C (aPr C x p') j
def R6 (x : Nat) (C A : mA) : Prop := R3 x C A ∧ S6 x C A
section R6S
variable {D : va_G} {G : tG} {C A C9 A9 : mA} {w w' : jW} {x : Nat} {ad : mAd}
theorem S6.cg (h : R6 x C A) (k8 : C9 8 x 2 = C 8 x 2) (k21 : ∀ p, C9 21 (aOa C x) p = C 21 (aOa C x) p) (k2 : ∀ p, p < 6 → 0 ≤ C 21 (aOa C x) p → ∀ k, k < 2 → C9 2 (aPr C x p) k = C 2 (aPr C x p) k) (k25 : ∀ p, p < 6 → 0 ≤ C 21 (aOa C x) p → ∀ i, C9 25 (C 2 (aPr C x p) 0).toNat i = C 25 (C 2 (aPr C x p) 0).toNat i) (k6 : ∀ p, p < 6 → 0 ≤ C 21 (aOa C x) p → ∀ i, i < 16 → C9 6 (sAd C (aPr C x p) i) 0 = C 6 (sAd C (aPr C x p) i) 0) (m0 : A9 0 0 0 ≤ A 0 0 0) (m5 : ∀ p : Nat, (p : Int) < A 0 0 0 → A9 5 0 p = A 5 0 p) (m34 : ∀ p : Nat, (p : Int) < A 0 0 0 → ∀ i : Nat, (i : Int) < A 5 0 p → A9 34 p i = A 34 p i) : S6 x C9 A9 := by
  obtain ⟨h3, hs, hd⟩ := h
  have eo : aOa C9 x = aOa C x := congrArg Int.toNat k8
  have ep : ∀ p, aPr C9 x p = aPr C x p := fun p => by
    show (C9 21 (aOa C9 x) p).toNat = _
    rw [eo, k21]
  have es : ∀ p, p < 6 → 0 ≤ C 21 (aOa C x) p → ∀ i, sAd C9 (aPr C x p) i = sAd C (aPr C x p) i := fun p hp q i => by
    show (C9 25 (C9 2 (aPr C x p) 0).toNat i).toNat = _
    rw [k2 p hp q 0 (by decide), k25 p hp q]
  refine ⟨fun p hp => ?_, fun p p' hp hp' hn q q' i hi j hj => ?_⟩
  · have hp9 : (p : Int) < A 0 0 0 := by omega
    have b3 := h3.2.1.2.2
    have hp6 : p < 6 := by omega
    have q := (h3.2.2.2.2.2.1 p hp9).1
    obtain ⟨u1, u2, u3⟩ := hs p hp9
    rw [ep]
    unfold stR
    rw [m5 p hp9, k2 p hp6 q 1 (by decide)]
    refine ⟨u1, u2, fun i hi => ?_⟩
    rw [es p hp6 q, k6 p hp6 q i (by omega), m34 p hp9 i hi]
    exact u3 i hi
  · rw [eo, k21] at q q'
    rw [ep, ep, es p hp q, es p' hp' q']
    exact hd p p' hp hp' hn q q' i hi j hj
theorem hg_st (hw : hW D G C w) {pr : Nat} (hp : G pr = some 2) {i : Nat} (hi : i < 16) : G (sAd C pr i) = some 6 := by
  obtain ⟨f, -, h⟩ := (hcell_R (t := 7) (rfl : tyO 25 = none) rfl).mp (hw _ 25 (hg_sa hw hp))
  exact (hv4 (τ' := 6) rfl rfl (h i hi)).2
theorem R6.keep (hw : hW D G C w) (hx : G x = some 8) (h : R6 x C A) (hk : ∀ τ a k, G a = some τ → keepS τ k = true → C9 τ a k = C τ a k) (h0 : A9 0 0 0 = A 0 0 0 ∧ A9 0 0 22 = A 0 0 22 ∧ A9 0 0 37 = A 0 0 37) (h9 : ∀ j, j < 120 → A9 9 0 j = A 9 0 j) (h6 : ∀ p, p < 6 → A9 6 0 p = A 6 0 p ∧ A9 7 0 p = A 7 0 p) (h5 : ∀ p, A9 5 0 p = A 5 0 p) (h34 : ∀ p i, A9 34 p i = A 34 p i) : R6 x C9 A9 := ⟨h.1.keep hw hx hk h0 h9 h6, S6.cg h (hk 8 x 2 hx rfl) (fun p => hk 21 _ p (hg_oa hw hx) rfl) (fun p hp q k hk2 => hk 2 _ k (hg_pr hw hx hp q) (by
  rcases (show k = 0 ∨ k = 1 by omega) with rfl | rfl <;> rfl)) (fun p hp q i => hk 25 _ i (hg_sa hw (hg_pr hw hx hp q)) rfl) (fun p hp q i hi => hk 6 _ 0 (hg_st hw (hg_pr hw hx hp q) hi) rfl) (by rw [h0.1]; exact Int.le_refl _) (fun p _ => h5 p) (fun p _ i _ => h34 p i)⟩
theorem R6.cA (h : R6 x C A) (h0 : A9 0 0 0 = A 0 0 0 ∧ A9 0 0 22 = A 0 0 22 ∧ A9 0 0 37 = A 0 0 37) (h9 : ∀ j, j < 120 → A9 9 0 j = A 9 0 j) (h6 : ∀ p : Nat, (p : Int) < A 0 0 0 → A9 6 0 p = A 6 0 p ∧ A9 7 0 p = A 7 0 p) (h5 : ∀ p : Nat, (p : Int) < A 0 0 0 → A9 5 0 p = A 5 0 p) (h34 : ∀ p : Nat, (p : Int) < A 0 0 0 → ∀ i : Nat, (i : Int) < A 5 0 p → A9 34 p i = A 34 p i) : R6 x C A9 := ⟨h.1.cA h0 h9 h6, S6.cg h rfl (fun _ => rfl) (fun _ _ _ _ _ => rfl) (fun _ _ _ _ => rfl) (fun _ _ _ _ _ => rfl) (by rw [h0.1]; exact Int.le_refl _) h5 h34⟩
theorem m_jIk {A' : mA} {f k c n a b : Nat} (hs : mfam f = (c, 0, n, a, b)) (hk : k < c) (h : mW D ad A w) (h' : mW D ad A' w') (hj : jAg D w w') {j : Nat} (hjn : j < n) : Int32.ofInt (A f k j) = Int32.ofInt (A' f k j) := by
  obtain ⟨B, H0, H, j1, j2⟩ := hj
  have k9 : k < mcnt f := by
    show k < (mfam f).1
    rw [hs]
    exact hk
  have q := jat_arr2 (j1.at ((mcell_I hs).mp (h.2 f k k9))) (j2.at ((mcell_I hs).mp (h'.2 f k k9)))
  exact Value.int.inj (arrV_eq (c := D.1 100) (c' := D.1 100) (n := n) (n' := n) (f := fun j => .int (Int32.ofInt (A f k j))) (g := fun j => .int (Int32.ofInt (A' f k j))) q hjn hjn)
theorem R6.jA (h : R6 x C A9) (hT : mTy A) (hm : mW D ad A w) (hm' : mW D ad A9 w') (hj : jAg D w w') : R6 x C A := by
  have k := h.1.jA hT hm hm' hj
  have e0 : A 0 0 0 = A9 0 0 0 := k.2.1.1.symm.trans h.1.2.1.1
  have b3 := h.1.2.1.2.2
  have hs := h.2.1
  refine ⟨k, S6.cg h rfl (fun _ => rfl) (fun _ _ _ _ _ => rfl) (fun _ _ _ _ => rfl) (fun _ _ _ _ _ => rfl) (by rw [e0]; exact Int.le_refl _) (fun p hp => ?_) (fun p hp i hi => ?_)⟩
  · have t5 : 0 ≤ A 5 0 p ∧ A 5 0 p ≤ 16 := hT 5 0 p
    have u2 := (hs p hp).2.1
    exact i32_inj (m_jIk (f := 5) (n := 6) rfl (by decide) hm hm' hj (by omega)) (by omega) (by omega)
  · have t34 : -1 ≤ A 34 p i ∧ A 34 p i ≤ 255 := hT 34 p i
    obtain ⟨-, u2, u3⟩ := hs p hp
    have u4 := (u3 i hi).2
    exact i32_inj (m_jIk (f := 34) (n := 16) rfl (by omega) hm hm' hj (by omega)) (by omega) (by omega)
/-- both answer program alike, and stand alike again, the steps too -/
theorem R6_program {P : Nat} {C1 : mA} {pr : Nat} {z z' : Int} (hw : hW D G C w) (hx : G x = some 8) (h : R6 x C A) (hP : A 0 0 0 = P) (hP6 : P < 6) (hC : ∀ τ a k, G a ≠ none → ¬ (τ = 21 ∧ a = aOa C x ∧ k = P) → C1 τ a k = C τ a k) (hs : C1 21 (aOa C x) P = pr) (hg : cPg C1 pr) (hne : ∀ p, p < 6 → p ≠ P → 0 ≤ C 21 (aOa C x) p → aPr C x p ≠ pr) (hd : ∀ p, p < 6 → p ≠ P → 0 ≤ C 21 (aOa C x) p → ∀ i, i < 16 → ∀ j, j < 16 → sAd C (aPr C x p) i ≠ sAd C1 pr j) (hc : cPq P (A 9 0) (A 0 0 22).toNat x pr C1 (aPr C x) (eB A) (eT A) (eS C x) z C9) (hm : mPg P (A 9 0) (A 0 0 22).toNat A (eB A) (eT A) z' A9) : z = z' ∧ (-2147483648 ≤ z ∧ z ≤ 2147483647) ∧ R6 x C9 A9 := by
  obtain ⟨k1, k2, k3⟩ := R3_program hw hx h.1 hP hP6 hC hs hg hne hc hm
  refine ⟨k1, k2, k3, ?_⟩
  obtain ⟨c1, c2, c3⟩ := hc
  obtain ⟨m1, m2, m3⟩ := hm
  obtain ⟨h3, h4, h5⟩ := h
  obtain ⟨⟨a1, a2, a3⟩, ⟨b1, b2, b3⟩, i1, d1, e1, f1, g1⟩ := id h3
  have nx : G x ≠ none := by rw [hx]; exact fun q => by cases q
  have no : G (aOa C x) ≠ none := by rw [hg_oa hw hx]; exact fun q => by cases q
  have x82 : C9 8 x 2 = C 8 x 2 := by
    rw [c1 8 x 2 (fun r => by
      rcases r with r | r | r
      · unfold dF at r; omega
      · omega
      · omega), hC 8 x 2 nx (fun r => by omega)]
  have eo : aOa C9 x = aOa C x := congrArg Int.toNat x82
  have k21 : ∀ p, C9 21 (aOa C x) p = C1 21 (aOa C x) p := fun p => c1 21 _ p (fun r => by
    rcases r with r | r | r
    · unfold dF at r; omega
    · omega
    · omega)
  have k21o : ∀ p, p ≠ P → C9 21 (aOa C x) p = C 21 (aOa C x) p := fun p q => by
    rw [k21, hC 21 _ p no (fun r => q r.2.2)]
  have epo : ∀ p, p ≠ P → aPr C9 x p = aPr C x p := fun p q => by
    show (C9 21 (aOa C9 x) p).toNat = _
    rw [eo, k21o p q]
  have epP : aPr C9 x P = pr := by
    show (C9 21 (aOa C9 x) P).toNat = _
    rw [eo, k21, hs]
    omega
  have k25 : ∀ a k, C9 25 a k = C1 25 a k := fun a k => c1 25 a k (fun r => by
    rcases r with r | r | r
    · unfold dF at r; omega
    · omega
    · omega)
  have kp0 : C9 2 pr 0 = C1 2 pr 0 := c1 2 pr 0 (fun r => by
    rcases r with r | r | r
    · unfold dF at r; omega
    · omega
    · omega)
  have esP : ∀ i, sAd C9 pr i = sAd C1 pr i := fun i => by
    show (C9 25 (C9 2 pr 0).toNat i).toNat = _
    rw [kp0, k25]
  have k2 : ∀ p, p < 6 → p ≠ P → 0 ≤ C 21 (aOa C x) p → ∀ k, C9 2 (aPr C x p) k = C 2 (aPr C x p) k := fun p hp q q0 k => by
    have n2 := hne p hp q q0
    rw [c1 2 _ k (fun r => by
      rcases r with r | r | r
      · unfold dF at r; omega
      · omega
      · omega), hC 2 _ k (by rw [hg_pr hw hx hp q0]; exact fun q => by cases q) (fun r => by omega)]
  have eso : ∀ p, p < 6 → p ≠ P → 0 ≤ C 21 (aOa C x) p → ∀ i, sAd C9 (aPr C x p) i = sAd C (aPr C x p) i := fun p hp q q0 i => by
    show (C9 25 (C9 2 (aPr C x p) 0).toNat i).toNat = _
    rw [k2 p hp q q0, k25, hC 25 _ i (by rw [hg_sa hw (hg_pr hw hx hp q0)]; exact fun q => by cases q) (fun r => by omega)]
  have k6 : ∀ p, p < 6 → p ≠ P → 0 ≤ C 21 (aOa C x) p → ∀ i, i < 16 → C9 6 (sAd C (aPr C x p) i) 0 = C 6 (sAd C (aPr C x p) i) 0 := fun p hp q q0 i hi => by
    rw [c1 6 _ 0 (fun r => by
      rcases r with r | r | r
      · rcases r with r | r | r | r | ⟨-, j, hj, r⟩ | r
        · omega
        · omega
        · omega
        · omega
        · exact hd p hp q q0 i hi j hj r
        · omega
      · omega
      · omega), hC 6 _ 0 (by rw [hg_st hw (hg_pr hw hx hp q0) hi]; exact fun q => by cases q) (fun r => by omega)]
  have n5 : ∀ j, j ≠ P → A9 5 0 j = A 5 0 j := fun j hj => m1 5 0 j (fun r => by
    rcases r with r | r | r | r
    · unfold dG at r; omega
    · omega
    · omega
    · omega)
  have n34 : ∀ p i, p ≠ P → A9 34 p i = A 34 p i := fun p i hp => m1 34 p i (fun r => by
    rcases r with r | r | r | r
    · unfold dG at r; omega
    · omega
    · omega
    · omega)
  have hT : ∀ j, j < 120 → 0 ≤ A 9 0 j ∧ A 9 0 j ≤ 255 := fun j hj => (d1 j hj).2
  -- the newest program's
  have new : A9 0 0 0 = P ∨ A9 0 0 0 = (P : Int) + 1 ∧ stR C9 pr A9 P := by
    cases hq : kProg (A 9 0) (A 0 0 22).toNat P with
    | inl b =>
      rw [hq] at m3
      exact Or.inl m3.2
    | inr y =>
      rw [hq] at c3 m3
      rcases m3 with ⟨-, -, t2⟩ | ⟨t0, t1, t2, t3, -, -, t6, -⟩
      · exact Or.inl t2
      · refine Or.inr ⟨t2, ?_⟩
        rcases c3 with ⟨s0, -⟩ | ⟨-, -, -, -, -, -, -, C3, C8, s7, s8, s9, s10⟩
        · exact absurd s0 t0
        · have hk : kBlock (A 9 0) (A 0 0 22).toNat (kStep (A 9 0) (A 0 0 22).toNat P 4) 0 0 = .inr y := by
            unfold kProg at hq
            cases hq2 : kBlock (A 9 0) (A 0 0 22).toNat (kStep (A 9 0) (A 0 0 22).toNat P 4) 0 0 with
            | inl b2 => rw [hq2] at hq; cases hq
            | inr y2 =>
              rw [hq2, kThen_r] at hq
              by_cases c : tkS (kTok (A 9 0) (A 0 0 22).toNat y2.1) = 0
              · rw [if_pos c] at hq
                cases hq
                rfl
              · rw [if_neg c] at hq
                cases hq
          have ok := okN_of (by omega) hT hk
          have ok1 := ok.1
          unfold stR
          refine ⟨?_, by rw [t3]; omega, fun i hi => ?_⟩
          · rw [s10, t3]
            show C8 2 pr 1 = _
            rw [s9.1 2 pr 1 (fun r => by
              rcases r with r | r
              · omega
              · omega)]
            exact s7
          · have hi9 : i < y.2.length := by omega
            have q1 := (s8 i hi9).1.1
            rw [Nat.zero_add] at q1
            have q2 := (t6 i hi9).1.1.1
            rw [Nat.zero_add] at q2
            have q3 := (ok.2.2 i hi9).1.1
            have q4 : C9 6 (sAd C9 pr i) 0 = sK (y.2.getD i kS0) := by
              rw [esP, s10]
              show C8 6 (sAd C1 pr i) 0 = _
              rw [s9.1 6 _ 0 (fun r => by
                rcases r with r | r
                · omega
                · omega)]
              exact q1
            rw [q4, q2]
            exact ⟨rfl, q3⟩
  refine ⟨fun p hp => ?_, fun p p' hp hp' hn q q' i hi j hj => ?_⟩
  · by_cases e : p = P
    · rw [e, epP]
      rcases new with n | n
      · omega
      · exact n.2
    · have hp9 : (p : Int) < A 0 0 0 := by
        rcases new with n | n <;> omega
      have q0 := (f1 p hp9).1
      obtain ⟨u1, u2, u3⟩ := h4 p hp9
      rw [epo p e]
      unfold stR
      rw [n5 p e, k2 p (by omega) e q0]
      refine ⟨u1, u2, fun i hi => ?_⟩
      rw [eso p (by omega) e q0, k6 p (by omega) e q0 i (by omega), n34 p i e]
      exact u3 i hi
  · by_cases e : p = P
    · by_cases e' : p' = P
      · omega
      · rw [eo, k21o p' e'] at q'
        rw [e, epP, epo p' e', esP, eso p' hp' e' q']
        exact (hd p' hp' e' q' j hj i hi).symm
    · rw [eo, k21o p e] at q
      by_cases e' : p' = P
      · rw [e', epP, epo p e, esP, eso p hp e q]
        exact hd p hp e q i hi j hj
      · rw [eo, k21o p' e'] at q'
        rw [epo p e, epo p' e', eso p hp e q, eso p' hp' e' q']
        exact h5 p p' hp hp' hn q q' i hi j hj
end R6S
