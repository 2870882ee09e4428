/-! program() of both: alike in full (own work, by program from 98zzq) -/
section R9P
variable {D : va_G} {G : tG} {C A C9 A9 : mA} {w w' : jW} {x : Nat} {ad : mAd}
theorem R9_program {P : Nat} {C1 : mA} {pr : Nat} {z z' : Int} (hw : hW D G C w) (hx : G x = some 8) (h : R9 x C A) (hP : A 0 0 0 = P) (hP6 : P < 6) (hC : ∀ τ a k, G a ≠ none → ¬ (τ = 21 ∧ a = aOa C x ∧ k = P) → C1 τ a k = C τ a k) (hs : C1 21 (aOa C x) P = pr) (hg : cPg C1 pr) (hne : ∀ p, p < 6 → p ≠ P → 0 ≤ C 21 (aOa C x) p → aPr C x p ≠ pr) (hd : ∀ p, p < 6 → p ≠ P → 0 ≤ C 21 (aOa C x) p → ∀ i, i < 16 → ∀ j, j < 16 → sAd C (aPr C x p) i ≠ sAd C1 pr j) (hx2 : ∀ p, p < 6 → p ≠ P → 0 ≤ C 21 (aOa C x) p → xd C (aPr C x p) C1 pr) (hc : cPq P (A 9 0) (A 0 0 22).toNat x pr C1 (aPr C x) (eB A) (eT A) (eS C x) z C9) (hm : mPg P (A 9 0) (A 0 0 22).toNat A (eB A) (eT A) z' A9) : z = z' ∧ (-2147483648 ≤ z ∧ z ≤ 2147483647) ∧ R9 x C9 A9 := by
  obtain ⟨k1, k2, k3⟩ := R6_program hw hx h.1 hP hP6 hC hs hg hne hd hc hm
  refine ⟨k1, k2, k3, ?_⟩
  obtain ⟨c1, c2, c3⟩ := hc
  obtain ⟨m1, m2, m3⟩ := hm
  obtain ⟨⟨h3, -, h5⟩, hP9, hT9, hX9⟩ := h
  obtain ⟨⟨a1, a2, a3⟩, ⟨b1, b2, b3⟩, i1, d1, e1, f1, g1⟩ := id h3
  have nx : G x ≠ none := by rw [hx]; exact fun q => by cases q
  have no : G (aOa C x) ≠ none := by rw [hg_oa hw hx]; exact fun q => by cases q
  have x82 : C9 8 x 2 = C 8 x 2 := by
    rw [c1 8 x 2 (fun r => by
      rcases r with r | r | r
      · unfold dF at r; omega
      · omega
      · omega), hC 8 x 2 nx (fun r => by omega)]
  have eo : aOa C9 x = aOa C x := congrArg Int.toNat x82
  have k21 : ∀ p, C9 21 (aOa C x) p = C1 21 (aOa C x) p := fun p => c1 21 _ p (fun r => by
    rcases r with r | r | r
    · unfold dF at r; omega
    · omega
    · omega)
  have k21o : ∀ p, p ≠ P → C9 21 (aOa C x) p = C 21 (aOa C x) p := fun p q => by
    rw [k21, hC 21 _ p no (fun r => q r.2.2)]
  have epo : ∀ p, p ≠ P → aPr C9 x p = aPr C x p := fun p q => by
    show (C9 21 (aOa C9 x) p).toNat = _
    rw [eo, k21o p q]
  have epP : aPr C9 x P = pr := by
    show (C9 21 (aOa C9 x) P).toNat = _
    rw [eo, k21, hs]
    omega
  have k25 : ∀ a k, C9 25 a k = C1 25 a k := fun a k => c1 25 a k (fun r => by
    rcases r with r | r | r
    · unfold dF at r; omega
    · omega
    · omega)
  have kp0 : C9 2 pr 0 = C1 2 pr 0 := c1 2 pr 0 (fun r => by
    rcases r with r | r | r
    · unfold dF at r; omega
    · omega
    · omega)
  have esP : ∀ i, sAd C9 pr i = sAd C1 pr i := fun i => by
    show (C9 25 (C9 2 pr 0).toNat i).toNat = _
    rw [kp0, k25]
  have k2 : ∀ p, p < 6 → p ≠ P → 0 ≤ C 21 (aOa C x) p → ∀ k, C9 2 (aPr C x p) k = C 2 (aPr C x p) k := fun p hp q q0 k => by
    have n2 := hne p hp q q0
    rw [c1 2 _ k (fun r => by
      rcases r with r | r | r
      · unfold dF at r; omega
      · omega
      · omega), hC 2 _ k (by rw [hg_pr hw hx hp q0]; exact fun q => by cases q) (fun r => by omega)]
  have eso : ∀ p, p < 6 → p ≠ P → 0 ≤ C 21 (aOa C x) p → ∀ i, sAd C9 (aPr C x p) i = sAd C (aPr C x p) i := fun p hp q q0 i => by
    show (C9 25 (C9 2 (aPr C x p) 0).toNat i).toNat = _
    rw [k2 p hp q q0, k25, hC 25 _ i (by rw [hg_sa hw (hg_pr hw hx hp q0)]; exact fun q => by cases q) (fun r => by omega)]
  have k6 : ∀ p, p < 6 → p ≠ P → 0 ≤ C 21 (aOa C x) p → ∀ i, i < 16 → ∀ k, C9 6 (sAd C (aPr C x p) i) k = C 6 (sAd C (aPr C x p) i) k := fun p hp q q0 i hi k => by
    rw [c1 6 _ k (fun r => by
      rcases r with r | r | r
      · rcases r with r | r | r | r | ⟨-, j, hj, r⟩ | r
        · omega
        · omega
        · omega
        · omega
        · exact hd p hp q q0 i hi j hj r
        · omega
      · omega
      · omega), hC 6 _ k (by rw [hg_st hw (hg_pr hw hx hp q0) hi]; exact fun q => by cases q) (fun r => by omega)]
  have k36 : ∀ p, p < 6 → p ≠ P → 0 ≤ C 21 (aOa C x) p → ∀ i, C9 36 (C 2 (aPr C x p) 2).toNat i = C 36 (C 2 (aPr C x p) 2).toNat i := fun p hp q q0 i => by
    have d := (hx2 p hp q q0).1
    rw [c1 36 _ i (fun r => by
      rcases r with r | r | r
      · rcases r with r | r | r | r | r | r
        · omega
        · omega
        · exact d r.2
        · omega
        · omega
        · omega
      · omega
      · omega), hC 36 _ i (by rw [(hg_co hw (hg_pr hw hx hp q0)).1]; exact fun q => by cases q) (fun r => by omega)]
  have k27 : ∀ p, p < 6 → p ≠ P → 0 ≤ C 21 (aOa C x) p → ∀ a j, a = (C 2 (aPr C x p) 4).toNat ∨ a = (C 2 (aPr C x p) 5).toNat → C9 27 a j = C 27 a j := fun p hp q q0 a j ha => by
    obtain ⟨d1, d2, d3, d4⟩ := (hx2 p hp q q0).2.1
    obtain ⟨-, g4, g5⟩ := hg_co hw (hg_pr hw hx hp q0)
    rw [c1 27 a j (fun r => by
      rcases r with r | r | r
      · rcases r with r | r | r | ⟨-, r⟩ | r | r
        · omega
        · omega
        · omega
        · omega
        · omega
        · omega
      · omega
      · omega), hC 27 a j (by
        rcases ha with rfl | rfl
        · rw [g4]; exact fun q => by cases q
        · rw [g5]; exact fun q => by cases q) (fun r => by omega)]
  have k4 : ∀ a, C9 4 a 0 = C1 4 a 0 := fun a => c1 4 a 0 (fun r => by
    rcases r with r | r | r
    · unfold dF at r; omega
    · omega
    · omega)
  have kp : ∀ k, k = 0 ∨ k = 2 ∨ k = 4 ∨ k = 5 ∨ k = 12 → C9 2 pr k = C1 2 pr k := fun k hk => c1 2 pr k (fun r => by
    rcases r with r | r | r
    · unfold dF at r; omega
    · omega
    · omega)
  have x8 : ∀ k, k = 4 ∨ k = 5 ∨ k = 6 → C9 8 x k = C 8 x k := fun k hk => by
    rw [c1 8 x k (fun r => by
      rcases r with r | r | r
      · unfold dF at r; omega
      · omega
      · omega), hC 8 x k nx (fun r => by omega)]
  -- the reference
  have n0 : ∀ f j, f = 5 ∨ f = 6 ∨ f = 7 → j ≠ P → A9 f 0 j = A f 0 j := fun f j hf hj => m1 f 0 j (fun r => by
    rcases r with r | r | r | r
    · unfold dG at r; omega
    · omega
    · omega
    · omega)
  have n34 : ∀ f p i, 34 ≤ f → f ≤ 46 → p ≠ P → A9 f p i = A f p i := fun f p i h1 h2 hp => m1 f p i (fun r => by
    rcases r with r | r | r | r
    · unfold dG at r; omega
    · omega
    · omega
    · omega)
  have n8 : ∀ f j, f = 8 ∨ f = 10 → A9 f 0 j = A f 0 j := fun f j hf => m1 f 0 j (fun r => by
    rcases r with r | r | r | r
    · unfold dG at r; omega
    · omega
    · omega
    · omega)
  have hT : ∀ j, j < 120 → 0 ≤ A 9 0 j ∧ A 9 0 j ≤ 255 := fun j hj => (d1 j hj).2
  -- what the elder programs come to
  have el : el9 x P C9 A9 (aPr C x) (eB A) (eT A) (eS C x) := fun u hu => by
    have hu9 : (u : Int) < A 0 0 0 := by omega
    rw [epo u (by omega), n0 6 u (by decide) (by omega), n0 7 u (by decide) (by omega), k2 u (by omega) (by omega) (f1 u hu9).1]
    exact ⟨rfl, rfl, rfl, rfl⟩
  -- the newest program's
  have new : A9 0 0 0 = P ∨ A9 0 0 0 = (P : Int) + 1 ∧ ∃ N c, pg9 x P C9 A9 N c := by
    cases hq : kProg (A 9 0) (A 0 0 22).toNat P with
    | inl b =>
      rw [hq] at m3
      exact Or.inl m3.2
    | inr y =>
      rw [hq] at c3 m3
      rcases m3 with ⟨-, -, t2⟩ | ⟨t0, t1, t2, t3, t4, t5, t6, ⟨t7, t8⟩, -⟩
      · exact Or.inl t2
      · refine Or.inr ⟨t2, ?_⟩
        rcases c3 with ⟨s0, -⟩ | ⟨-, -, -, -, -, -, ⟨-, -, u3, u6, u10, u11, -, -⟩, C3, C8, s7, s8, s9, s10⟩
        · exact absurd s0 t0
        · obtain ⟨ok, okx⟩ := kProg_x (by omega) hT hq
          have ok1 := ok.1
          have w6 : ∀ i k, k ≠ 7 → k ≠ 8 → k ≠ 12 → k ≠ 13 → C9 6 (sAd C1 pr i) k = C3 6 (sAd C1 pr i) k := fun i k q1 q2 q3 q4 => by
            rw [s10]
            show C8 6 (sAd C1 pr i) k = _
            exact s9.1 6 _ k (fun r => by
              rcases r with r | r
              · omega
              · omega)
          have w2 : ∀ k, k < 8 → C9 2 pr k = C3 2 pr k := fun k hk => by
            rw [s10]
            show C8 2 pr k = _
            exact s9.1 2 pr k (fun r => by
              rcases r with r | r
              · omega
              · omega)
          have w36 : ∀ f a k, f = 36 ∨ f = 27 → C9 f a k = C3 f a k := fun f a k hf => by
            rw [s10, mu_ne _ _ (fun r => by omega)]
            exact s9.1 f a k (fun r => by
              rcases r with r | r
              · omega
              · omega)
          refine ⟨y.2.length, fun i => y.2.getD i kS0, ⟨ok, okx⟩, ⟨?_, fun i hi => ?_⟩, ⟨t3, fun i hi => ?_⟩, aPr C x, eB A, eT A, eS C x, el, fun i hi => ?_, t4, t5, ?_, ?_⟩
          · rw [epP, w2 1 (by decide)]
            exact s7
          · rw [epP]
            have st := s8 i hi
            rw [Nat.zero_add] at st
            obtain ⟨q1, q2, q3, -, -, q6, q7⟩ := st
            show cS9 C9 pr i (y.2.getD i kS0)
            unfold cS9
            rw [esP, w6 i 0 (by decide) (by decide) (by decide) (by decide), w6 i 1 (by decide) (by decide) (by decide) (by decide), w6 i 2 (by decide) (by decide) (by decide) (by decide), w6 i 3 (by decide) (by decide) (by decide) (by decide), w6 i 4 (by decide) (by decide) (by decide) (by decide), w6 i 5 (by decide) (by decide) (by decide) (by decide), w6 i 6 (by decide) (by decide) (by decide) (by decide), w6 i 9 (by decide) (by decide) (by decide) (by decide), w6 i 10 (by decide) (by decide) (by decide) (by decide), w6 i 11 (by decide) (by decide) (by decide) (by decide), kp 2 (by decide), kp 4 (by decide), kp 5 (by decide)]
            refine ⟨q1, q2, q3, fun p1 p2 => ?_, fun p1 => ?_⟩
            · obtain ⟨n, b1, b2, b3, b4⟩ := q6 p1 p2
              rw [w2 3 (by decide)] at u3
              exact ⟨n, b1, b2, by omega, fun j hj => by rw [w36 36 _ _ (Or.inl rfl)]; exact b4 j hj⟩
            · obtain ⟨n, b1, b2, b3⟩ := q7 p1
              rw [w2 6 (by decide)] at u6
              exact ⟨n, b1, by omega, fun j hj => by rw [w36 27 _ _ (Or.inr rfl), w36 27 _ _ (Or.inr rfl)]; exact b3 j hj⟩
          · obtain ⟨⟨g1, g2, g3, g4⟩, g5, g6⟩ := t6 i hi
            rw [Nat.zero_add] at g1 g2 g3 g4 g5 g6
            show mS9 A9 P i (y.2.getD i kS0)
            refine ⟨⟨g1.1, g1.2.1, g1.2.2, g5, fun _ => g6⟩, fun p1 p2 => ?_, g3, fun p1 => ?_⟩
            · obtain ⟨b1, b2⟩ := g2 p1 p2
              exact ⟨by omega, b2⟩
            · obtain ⟨n, b1, b2, b3⟩ := g4 p1
              exact ⟨n, b1, by omega, b3⟩
          · obtain ⟨q7, q8, q12, q13⟩ := s9.2 i (Nat.zero_le i) hi
            rw [epP, esP, s10]
            exact ⟨q7, q8, q12, q13⟩
          · rw [epP]
            exact u10
          · rw [epP]
            exact u11
  refine ⟨fun p hp => ?_, ?_, fun p p' hp hp' hn q q' => ?_⟩
  · by_cases e : p = P
    · rw [e]
      rcases new with n | n
      · omega
      · exact n.2
    · have hp9 : (p : Int) < A 0 0 0 := by
        rcases new with n | n <;> omega
      have hpP : p < P := by omega
      obtain ⟨N, c, q⟩ := hP9 p hp9
      have pe : ∀ u, u ≤ p → u < 6 ∧ u ≠ P ∧ 0 ≤ C 21 (aOa C x) u := fun u hu => ⟨by omega, by omega, (f1 u (by omega)).1⟩
      obtain ⟨p6, pn, p0⟩ := pe p (Nat.le_refl p)
      exact ⟨N, c, q.cg p6 (fun u hu => epo u (pe u hu).2.1) (fun u hu k _ => k2 u (pe u hu).1 (pe u hu).2.1 (pe u hu).2.2 k) (fun j => by rw [k25, hC 25 _ j (by rw [hg_sa hw (hg_pr hw hx p6 p0)]; exact fun q => by cases q) (fun r => by omega)]) (fun i hi k _ => k6 p p6 pn p0 i hi k) (k36 p p6 pn p0) (k27 p p6 pn p0) (n0 5 p (by decide) pn) (fun u hu => ⟨n0 6 u (by decide) (pe u hu).2.1, n0 7 u (by decide) (pe u hu).2.1⟩) (fun f j h1 h2 _ _ _ => n34 f p j h1 h2 pn)⟩
  · exact hT9.cg (fun k hk => x8 k hk) (fun j _ => ⟨n8 8 j (Or.inl rfl), n8 10 j (Or.inr rfl)⟩)
  · have r4 : ∀ p, p < 6 → p ≠ P → 0 ≤ C 21 (aOa C x) p → C9 4 (C 2 (aPr C x p) 12).toNat 0 = C 4 (C 2 (aPr C x p) 12).toNat 0 := fun p hp q q0 => by
      rw [k4, hC 4 _ 0 (by rw [hg_ru hw (hg_pr hw hx hp q0)]; exact fun q => by cases q) (fun r => by omega)]
    have rP : C9 4 (C1 2 pr 12).toNat 0 = C1 4 (C1 2 pr 12).toNat 0 := k4 _
    have sw : ∀ {C C' : mA} {r r' : Nat}, xd C r C' r' → xd C' r' C r := fun {C C' r r'} d => ⟨d.1.symm, ⟨d.2.1.1.symm, d.2.1.2.2.1.symm, d.2.1.2.1.symm, d.2.1.2.2.2.symm⟩, d.2.2.symm⟩
    by_cases e : p = P
    · by_cases e' : p' = P
      · omega
      · rw [eo, k21o p' e'] at q'
        rw [e, epP, epo p' e']
        exact (sw (hx2 p' hp' e' q')).cg (fun k hk => kp k (Or.inr hk)) rP (fun k _ => k2 p' hp' e' q' k) (r4 p' hp' e' q')
    · rw [eo, k21o p e] at q
      by_cases e' : p' = P
      · rw [e', epP, epo p e]
        exact (hx2 p hp e q).cg (fun k _ => k2 p hp e q k) (r4 p hp e q) (fun k hk => kp k (Or.inr hk)) rP
      · rw [eo, k21o p' e'] at q'
        rw [epo p e, epo p' e']
        exact (hX9 p p' hp hp' hn q q').cg (fun k _ => k2 p hp e q k) (r4 p hp e q) (fun k _ => k2 p' hp' e' q' k) (r4 p' hp' e' q')
end R9P
section PQ9
variable {D : va_G} {G : tG} {C0 : mA} {w : jW} {x P : Nat}
/-- what program() leaves, beside what the reference's leaves -/
def cPo9 (G : tG) (D : va_G) (x P : Nat) (A : mA) (v : Option Value) (w9 : jW) : Prop := ∃ (z : Int) (G1 : tG) (C9 : mA), v = some (.int (Int32.ofInt z)) ∧ (∀ a τ, G a = some τ → G1 a = some τ) ∧ hW D G1 C9 w9 ∧ ∀ z' A9, mPg P (A 9 0) (A 0 0 22).toNat A (eB A) (eT A) z' A9 → z = z' ∧ (-2147483648 ≤ z ∧ z ≤ 2147483647) ∧ R9 x C9 A9
theorem cs_program9 (l : Launch) (B : Nat) (H0 : Heap) {A : mA} (hO : WOK D G w) (hb : bud G w) (hw : hW D G C0 w) (gx : G x = some 8) (hR : R9 x C0 A) (eP : A 0 0 0 = P) (hP : P < 6) : ∃ mc ms, mc ≤ KC - w.2.1 ∧ ms ≤ KS - w.2.2 ∧ jMet l D B H0 y_CS_program b_CS_program 3 (some .int) 1860 74100 mc ms [.ref x] w (cPo9 G D x P A) := by
  have hR0 := hR.1.1
  obtain ⟨⟨a1, a2, a3⟩, ⟨b1, b2, b3⟩, i1, d1, e1, f1, g1⟩ := hR0
  have e3 : C0 8 x 3 = P := b1.trans eP
  have em : A 0 0 22 = (((A 0 0 22).toNat : Nat) : Int) := (Int.toNat_of_nonneg a2).symm
  have hT : ∀ j, j < 120 → 0 ≤ A 9 0 j ∧ A 9 0 j ≤ 255 := fun j hj => (d1 j hj).2
  have nx : G x ≠ none := by rw [gx]; exact fun q => by cases q
  have no : G (aOa C0 x) ≠ none := by rw [hg_oa hw gx]; exact fun q => by cases q
  have nt : G (C0 8 x 0).toNat ≠ none := by rw [hg_ta hw gx]; exact fun q => by cases q
  -- the method's end, from its Program on
  have go : ∀ (C1 : mA) (pr : Nat) (_ : ∀ τ a k, G a ≠ none → ¬ (τ = 21 ∧ a = aOa C0 x ∧ k = P) → C1 τ a k = C0 τ a k) (_ : C1 21 (aOa C0 x) P = pr) (_ : cPg C1 pr) (_ : ∀ p, p < 6 → p ≠ P → 0 ≤ C0 21 (aOa C0 x) p → aPr C0 x p ≠ pr) (_ : ∀ p, p < 6 → p ≠ P → 0 ≤ C0 21 (aOa C0 x) p → ∀ i, i < 16 → ∀ j, j < 16 → sAd C0 (aPr C0 x p) i ≠ sAd C1 pr j) (_ : ∀ p, p < 6 → p ≠ P → 0 ≤ C0 21 (aOa C0 x) p → xd C0 (aPr C0 x p) C1 pr), ∃ z C9, f_CS_program_44 C1 x pr = some (z, C9) ∧ ∀ z' A9, mPg P (A 9 0) (A 0 0 22).toNat A (eB A) (eT A) z' A9 → z = z' ∧ (-2147483648 ≤ z ∧ z ≤ 2147483647) ∧ R9 x C9 A9 := fun C1 pr hC hs hg hne hd hx2 => by
    have x8 : ∀ k, C1 8 x k = C0 8 x k := fun k => hC 8 x k nx (fun r => by omega)
    have eo : aOa C1 x = aOa C0 x := congrArg Int.toNat (x8 2)
    obtain ⟨z, C9, q1, q2⟩ := c_prog44 (P := P) (m := (A 0 0 22).toNat) (x := x) (pr := pr) (oa := aOa C0 x) (T := A 9 0) (pE := aPr C0 x) (bE := eB A) (tE := eT A) (sE := eS C0 x) (C := C1) hP (by omega) hT (fun j hj => by
      rw [x8, hC 20 _ j nt (fun r => by omega)]
      exact (d1 j hj).1) (by rw [x8, a1]; exact em) ((x8 3).trans e3) eo hg (hR.1.1.el eP hP (fun u hu => hC 21 _ u no (fun r => by omega)) (fun u hu k => hC 2 _ k (by
      have h0 := (f1 u (by omega)).1
      rw [hg_pr hw gx (by omega) h0]
      exact fun q => by cases q) (fun r => by omega))) (fun u hu => hne u (by omega) (by omega) (f1 u (by omega)).1)
    exact ⟨z, C9, q1, fun z' A9 hm => R9_program hw gx hR eP hP hC hs hg hne hd hx2 q2 hm⟩
  by_cases hn : 0 ≤ C0 21 (aOa C0 x) P
  · obtain ⟨z, C9, q1, q2⟩ := go C0 (aPr C0 x P) (fun _ _ _ _ _ => rfl) (Int.toNat_of_nonneg hn).symm (e1 P hP hn) (fun p hp q h0 => g1 p P hp hP q h0 hn) (fun p hp q h0 i hi j hj => hR.1.2.2 p P hp hP q h0 hn i hi j hj) (fun p hp q h0 => hR.2.2.2 p P hp hP q h0 hn)
    refine ⟨0, 0, Nat.zero_le _, Nat.zero_le _, j_met (by decide) (Nat.le_of_ble_eq_true rfl) (fun g C Rm Y E => ?_)⟩
    show JJ g w 0 [(0, .ref x)] []
    refine j_prog0 C hw gx e3 hP (fun q => absurd q (by omega)) (fun _ => ?_)
    exact hx_CS_program_44 (q := w.2) C0 x (aPr C0 x P) gx (hg_pr hw gx hP hn) z C9 q1 C Rm Y E ⟨Nat.le_refl _, Nat.le_refl _⟩ ⟨Nat.le_refl _, Nat.le_refl _⟩ (fun w' h1 _ => ⟨z, G, C9, rfl, fun _ _ h => h, h1, q2⟩) w hw rfl
  · have hposq : 0 < qu (some 21) (w.1 (aOa C0 x)) := by
      obtain ⟨f, hcell, hel⟩ := (hcell_R (t := 5) (rfl : tyO 21 = none) rfl).mp (hw _ 21 (hg_oa hw gx))
      have h9 := hel P hP
      have h9 : (C0 21 (aOa C0 x) P < 0 ∧ va_rf (f P) = .null) ∨ (0 ≤ C0 21 (aOa C0 x) P ∧ va_rf (f P) = .ref (aPr C0 x P) ∧ G (aPr C0 x P) = some 2) := h9
      have hf0 : f P = none := by
        rcases h9 with h9 | h9
        · exact x_null h9.2
        · omega
      rw [hcell]
      show 0 < nulls 6 f
      rw [nulls_one (q := 0) hP hf0]
      omega
    obtain ⟨room1, room2⟩ := hb.room2 (hg_oa hw gx) hposq
    refine ⟨26, 739, by omega, by omega, j_met (by decide) (Nat.le_of_ble_eq_true rfl) (fun g C Rm Y E => ?_)⟩
    show JJ g w 0 [(0, .ref x)] []
    refine j_prog0 C hw gx e3 hP (fun _ => ?_) (fun q => absurd q hn)
    refine j_prog26 C Rm (by decide) (by decide) (Nat.le_refl _) (Nat.le_refl _) Y hO hb hw gx rfl e3 hP (by omega) (fun q G1 C1 w9 hO9 hgo hw1 hk hC hs hgq hnew => ?_)
    obtain ⟨z, C9, q1, q2⟩ := go C1 q hC hs hnew.1 (fun p hp _ h0 e => by
      have g9 := hg_pr hw gx hp h0
      rw [e, hnew.2.1] at g9
      cases g9) (fun p hp _ h0 i hi j hj e => by
      have g9 := hg_st hw (hg_pr hw gx hp h0) hi
      rw [e, hnew.2.2.2.2.2.2.2.2 j hj] at g9
      cases g9) (fun p hp _ h0 => by
      have gp := hg_pr hw gx hp h0
      obtain ⟨g2, g4, g5⟩ := hg_co hw gp
      have g28 : G (C0 4 (C0 2 (aPr C0 x p) 12).toNat 0).toNat = some 28 := by
        obtain ⟨V, -, h⟩ := (hcell_O (rfl : tyO 4 = some (4, _))).mp (hw _ 4 (hg_ru hw gp))
        exact (hv4 (τ' := 28) rfl rfl (h 0 _ rfl)).2
      obtain ⟨-, -, -, n2, n4, n5, -, n28, -⟩ := hnew
      have ne : ∀ {a b τ : Nat}, G a = some τ → G b = none → a ≠ b := fun {a b τ} h1 h2 e => by
        rw [e, h2] at h1
        cases h1
      exact ⟨ne g2 n2, ⟨ne g4 n4, ne g4 n5, ne g5 n4, ne g5 n5⟩, ne g28 n28⟩)
    refine JJ.loc [(0, .ref x), (1, .ref q)] ⟨rfl, rfl, trivial⟩ ?_
    exact hx_CS_program_44 (q := w9.2) C1 x q (hgo _ _ gx) hgq z C9 q1 C Rm Y E (by rw [hk.1, hk.2]; exact ⟨Nat.le_refl _, Nat.le_refl _⟩) (by rw [hk.1, hk.2]; exact ⟨Nat.le_refl _, Nat.le_refl _⟩) (fun w' h1 _ => ⟨z, G1, C9, rfl, hgo, h1, q2⟩) w9 hw1 rfl
end PQ9
