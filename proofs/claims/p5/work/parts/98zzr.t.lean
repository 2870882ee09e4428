/-! program, feed, image, back of both, the steps too (own work, by program from tl, tp, tq, tr) -/
section PQ6
variable {D : va_G} {G : tG} {C0 : mA} {w : jW} {x P : Nat}
/-- what program() leaves, beside what the reference's leaves -/
def cPo6 (G : tG) (D : va_G) (x P : Nat) (A : mA) (v : Option Value) (w9 : jW) : Prop := ∃ (z : Int) (G1 : tG) (C9 : mA), v = some (.int (Int32.ofInt z)) ∧ (∀ a τ, G a = some τ → G1 a = some τ) ∧ hW D G1 C9 w9 ∧ ∀ z' A9, mPg P (A 9 0) (A 0 0 22).toNat A (eB A) (eT A) z' A9 → z = z' ∧ (-2147483648 ≤ z ∧ z ≤ 2147483647) ∧ R6 x C9 A9
theorem cs_program6 (l : Launch) (B : Nat) (H0 : Heap) {A : mA} (hO : WOK D G w) (hb : bud G w) (hw : hW D G C0 w) (gx : G x = some 8) (hR : R6 x C0 A) (eP : A 0 0 0 = P) (hP : P < 6) : ∃ mc ms, mc ≤ KC - w.2.1 ∧ ms ≤ KS - w.2.2 ∧ jMet l D B H0 y_CS_program b_CS_program 3 (some .int) 1860 74100 mc ms [.ref x] w (cPo6 G D x P A) := by
  have hR0 := hR.1
  obtain ⟨⟨a1, a2, a3⟩, ⟨b1, b2, b3⟩, i1, d1, e1, f1, g1⟩ := hR0
  have e3 : C0 8 x 3 = P := b1.trans eP
  have em : A 0 0 22 = (((A 0 0 22).toNat : Nat) : Int) := (Int.toNat_of_nonneg a2).symm
  have hT : ∀ j, j < 120 → 0 ≤ A 9 0 j ∧ A 9 0 j ≤ 255 := fun j hj => (d1 j hj).2
  have nx : G x ≠ none := by rw [gx]; exact fun q => by cases q
  have no : G (aOa C0 x) ≠ none := by rw [hg_oa hw gx]; exact fun q => by cases q
  have nt : G (C0 8 x 0).toNat ≠ none := by rw [hg_ta hw gx]; exact fun q => by cases q
  -- the method's end, from its Program on
  have go : ∀ (C1 : mA) (pr : Nat) (_ : ∀ τ a k, G a ≠ none → ¬ (τ = 21 ∧ a = aOa C0 x ∧ k = P) → C1 τ a k = C0 τ a k) (_ : C1 21 (aOa C0 x) P = pr) (_ : cPg C1 pr) (_ : ∀ p, p < 6 → p ≠ P → 0 ≤ C0 21 (aOa C0 x) p → aPr C0 x p ≠ pr) (_ : ∀ p, p < 6 → p ≠ P → 0 ≤ C0 21 (aOa C0 x) p → ∀ i, i < 16 → ∀ j, j < 16 → sAd C0 (aPr C0 x p) i ≠ sAd C1 pr j), ∃ z C9, f_CS_program_44 C1 x pr = some (z, C9) ∧ ∀ z' A9, mPg P (A 9 0) (A 0 0 22).toNat A (eB A) (eT A) z' A9 → z = z' ∧ (-2147483648 ≤ z ∧ z ≤ 2147483647) ∧ R6 x C9 A9 := fun C1 pr hC hs hg hne hd => by
    have x8 : ∀ k, C1 8 x k = C0 8 x k := fun k => hC 8 x k nx (fun r => by omega)
    have eo : aOa C1 x = aOa C0 x := congrArg Int.toNat (x8 2)
    obtain ⟨z, C9, q1, q2⟩ := c_prog44 (P := P) (m := (A 0 0 22).toNat) (x := x) (pr := pr) (oa := aOa C0 x) (T := A 9 0) (pE := aPr C0 x) (bE := eB A) (tE := eT A) (sE := eS C0 x) (C := C1) hP (by omega) hT (fun j hj => by
      rw [x8, hC 20 _ j nt (fun r => by omega)]
      exact (d1 j hj).1) (by rw [x8, a1]; exact em) ((x8 3).trans e3) eo hg (hR.1.el eP hP (fun u hu => hC 21 _ u no (fun r => by omega)) (fun u hu k => hC 2 _ k (by
      have h0 := (f1 u (by omega)).1
      rw [hg_pr hw gx (by omega) h0]
      exact fun q => by cases q) (fun r => by omega))) (fun u hu => hne u (by omega) (by omega) (f1 u (by omega)).1)
    exact ⟨z, C9, q1, fun z' A9 hm => R6_program hw gx hR eP hP hC hs hg hne hd q2 hm⟩
  by_cases hn : 0 ≤ C0 21 (aOa C0 x) P
  · obtain ⟨z, C9, q1, q2⟩ := go C0 (aPr C0 x P) (fun _ _ _ _ _ => rfl) (Int.toNat_of_nonneg hn).symm (e1 P hP hn) (fun p hp q h0 => g1 p P hp hP q h0 hn) (fun p hp q h0 i hi j hj => hR.2.2 p P hp hP q h0 hn i hi j hj)
    refine ⟨0, 0, Nat.zero_le _, Nat.zero_le _, j_met (by decide) (Nat.le_of_ble_eq_true rfl) (fun g C Rm Y E => ?_)⟩
    show JJ g w 0 [(0, .ref x)] []
    refine j_prog0 C hw gx e3 hP (fun q => absurd q (by omega)) (fun _ => ?_)
    exact hx_CS_program_44 (q := w.2) C0 x (aPr C0 x P) gx (hg_pr hw gx hP hn) z C9 q1 C Rm Y E ⟨Nat.le_refl _, Nat.le_refl _⟩ ⟨Nat.le_refl _, Nat.le_refl _⟩ (fun w' h1 _ => ⟨z, G, C9, rfl, fun _ _ h => h, h1, q2⟩) w hw rfl
  · have hposq : 0 < qu (some 21) (w.1 (aOa C0 x)) := by
      obtain ⟨f, hcell, hel⟩ := (hcell_R (t := 5) (rfl : tyO 21 = none) rfl).mp (hw _ 21 (hg_oa hw gx))
      have h9 := hel P hP
      have h9 : (C0 21 (aOa C0 x) P < 0 ∧ va_rf (f P) = .null) ∨ (0 ≤ C0 21 (aOa C0 x) P ∧ va_rf (f P) = .ref (aPr C0 x P) ∧ G (aPr C0 x P) = some 2) := h9
      have hf0 : f P = none := by
        rcases h9 with h9 | h9
        · exact x_null h9.2
        · omega
      rw [hcell]
      show 0 < nulls 6 f
      rw [nulls_one (q := 0) hP hf0]
      omega
    obtain ⟨room1, room2⟩ := hb.room2 (hg_oa hw gx) hposq
    refine ⟨26, 739, by omega, by omega, j_met (by decide) (Nat.le_of_ble_eq_true rfl) (fun g C Rm Y E => ?_)⟩
    show JJ g w 0 [(0, .ref x)] []
    refine j_prog0 C hw gx e3 hP (fun _ => ?_) (fun q => absurd q hn)
    refine j_prog26 C Rm (by decide) (by decide) (Nat.le_refl _) (Nat.le_refl _) Y hO hb hw gx rfl e3 hP (by omega) (fun q G1 C1 w9 hO9 hgo hw1 hk hC hs hgq hnew => ?_)
    obtain ⟨z, C9, q1, q2⟩ := go C1 q hC hs hnew.1 (fun p hp _ h0 e => by
      have g9 := hg_pr hw gx hp h0
      rw [e, hnew.2.1] at g9
      cases g9) (fun p hp _ h0 i hi j hj e => by
      have g9 := hg_st hw (hg_pr hw gx hp h0) hi
      rw [e, hnew.2.2.2.2.2.2.2.2 j hj] at g9
      cases g9)
    refine JJ.loc [(0, .ref x), (1, .ref q)] ⟨rfl, rfl, trivial⟩ ?_
    exact hx_CS_program_44 (q := w9.2) C1 x q (hgo _ _ gx) hgq z C9 q1 C Rm Y E (by rw [hk.1, hk.2]; exact ⟨Nat.le_refl _, Nat.le_refl _⟩) (by rw [hk.1, hk.2]; exact ⟨Nat.le_refl _, Nat.le_refl _⟩) (fun w' h1 _ => ⟨z, G1, C9, rfl, hgo, h1, q2⟩) w9 hw1 rfl
end PQ6
/-- a face of the class: it answers z, and stands by B9 -/
def cFace6 (l : Launch) (D : va_G) (B : Nat) (H0 : Heap) (y : MethodName) (cc : ByteArray) (ml fr lo : Nat) (av : List Value) (G : tG) (w : jW) (x : Nat) (z : Int) (B9 : mA) : Prop :=
  ∃ (mc ms : Nat) (P2 : Option Value → jW → Prop), mc ≤ KC - w.2.1 ∧ ms ≤ KS - w.2.2 ∧ jMet l D B H0 y cc ml (some .int) fr lo mc ms av w P2 ∧ ∀ v w', P2 v w' → v = some (.int (Int32.ofInt z)) ∧ ∃ (G1 : tG) (C1 : mA), (∀ a τ, G a = some τ → G1 a = some τ) ∧ hW D G1 C1 w' ∧ R6 x C1 B9
/-- a face of the reference: it answers z, and what stood by B9 stands by it -/
def mFace6 (l : Launch) (D : va_G) (B : Nat) (H0 : Heap) (y : MethodName) (cc : ByteArray) (ml fr lo : Nat) (av : List Value) (ad : mAd) (w : jW) (x : Nat) (z : Int) (B9 : mA) : Prop :=
  ∃ P2 : Option Value → jW → Prop, jMet l D B H0 y cc ml (some .int) fr lo 0 0 av w P2 ∧ ∀ v w', P2 v w' → v = some (.int (Int32.ofInt z)) ∧ ∃ A9 : mA, mW D ad A9 w' ∧ mfr ad w w' ∧ mTy A9 ∧ mI A9 ∧ ∀ C1, R6 x C1 B9 → R6 x C1 A9
section BF6
variable {D : va_G} {G : tG} {ad : mAd} {C A : mA} {w : jW} {x : Nat}
theorem b6_program (l : Launch) (B : Nat) (H0 : Heap) (hO : WOK D G w) (hb : bud G w) (hw : hW D G C w) (gx : G x = some 8) (hR : R6 x C A) (hT : mTy A) (hI : mI A) (hS : mStr D ad) : ∃ z B9, cFace6 l D B H0 y_CS_program b_CS_program 3 1860 74100 [.ref x] G w x z B9 ∧ ∀ w1, mW D ad A w1 → mFace6 l D B H0 y_Mo_program b_Mo_program 2 1705 66620 [.ref (ad 0 0)] ad w1 x z B9 := by
  obtain ⟨⟨a1, a2, a3⟩, ⟨b1, b2, b3⟩, i1, d1, e1, f1, g1⟩ := id hR.1
  obtain ⟨P, eP⟩ : ∃ P : Nat, A 0 0 0 = P := ⟨(A 0 0 0).toNat, by omega⟩
  have key : ∃ z B9, f_Mo_program A = some (z, B9) ∧ cFace6 l D B H0 y_CS_program b_CS_program 3 1860 74100 [.ref x] G w x z B9 := by
    by_cases hP : P < 6
    · have t25 : 0 ≤ A 0 0 25 ∧ A 0 0 25 ≤ 4 := hT 0 0 25
      obtain ⟨z, B9, m1, m2⟩ := m_program (P := P) (m := (A 0 0 22).toNat) (T := A 9 0) (bE := eB A) (tE := eT A) eP hP ⟨by omega, by omega, fun j hj => ⟨rfl, (d1 j hj).2⟩⟩ (by unfold g32; omega) (fun u hu => ⟨rfl, (f1 u (by omega)).2.2.2.1⟩) (fun u hu => ⟨rfl, (f1 u (by omega)).2.2.2.2.1⟩)
      obtain ⟨mc, ms, r1, r2, r3⟩ := cs_program6 l B H0 hO hb hw gx hR eP hP
      refine ⟨z, B9, m1, mc, ms, _, r1, r2, r3, fun v w' p => ?_⟩
      obtain ⟨z2, G1, C9, h1, h2, h3, h4⟩ := p
      obtain ⟨k1, k2, k3⟩ := h4 z B9 m2
      exact ⟨by rw [h1, k1], G1, C9, h2, h3, k3⟩
    · have e6 : A 0 0 0 = 6 := by omega
      refine ⟨-4, A, ?_, 0, 0, _, Nat.zero_le _, Nat.zero_le _, cs_prog6 l B H0 hw gx (b1.trans e6), fun v w' p => ⟨p.1, G, C, fun _ _ h => h, by rw [p.2]; exact hw, hR⟩⟩
      unfold f_Mo_program
      rw [e6, if_pos (by decide), if_pos rfl]
  obtain ⟨z, B9, m1, k1⟩ := key
  refine ⟨z, B9, k1, fun w1 hm => ⟨_, jMet_both (fr := 1705) (lo := 66620) (q_program l D B H0 ad A hS hT hI w1 hm) (x_Mo_program l D B H0 ad A hS z B9 m1 w1 hm) (by decide) (by decide) (by decide) (by decide) (by decide) (by decide), fun v w2 p => ?_⟩⟩
  obtain ⟨⟨v9, A9, -, ⟨z9, -, hT9, -, hI9, -⟩, hm9, hf9⟩, w', ⟨v8, A8, q1, ⟨q2, q3⟩, hm8, -⟩, hj⟩ := p
  subst q3
  exact ⟨by rw [q1, q2]; rfl, A9, hm9, hf9, hT9, hI9, fun C1 h => h.jA hT9 hm9 hm8 hj⟩
end BF6
section FE6
variable {C A : mA} {x : Nat} {n a b c d e : Int}
/-- both feed alike -/
theorem feed6_alike (hR : R6 x C A) (gn : g32 n) (ga : g32 a) (gb : g32 b) (gc : g32 c) (gd : g32 d) (ge : g32 e) : ∃ z C9 A9, f_CS_feed C x n a b c d e = some (z, C9) ∧ f_Mo_feed A n a b c d e = some (z, A9) ∧ R6 x C9 A9 := by
  obtain ⟨⟨a1, a2, a3⟩, ⟨b1, b2, b3⟩, i1, d1, e1, f1, g1⟩ := id hR.1
  rw [c_feedF gn ga gb gc gd ge (by rw [a1]; unfold g32; omega), m_feedF gn ga gb gc gd ge (fun _ _ => by unfold g32; omega)]
  by_cases ok : fOk n a b c d e
  · rw [if_pos ok, if_pos ok]
    by_cases fit : n ≤ 120 - C 8 x 1
    · rw [if_pos fit, if_pos (show A 0 0 22 + n ≤ 120 by omega)]
      have hn := ok.1
      obtain ⟨N, rfl⟩ : ∃ N : Nat, n = N := ⟨n.toNat, by omega⟩
      obtain ⟨m, em⟩ : ∃ m : Nat, A 0 0 22 = m := ⟨(A 0 0 22).toNat, by omega⟩
      obtain ⟨C9, x1, x2, x3, x4⟩ := c_feed0 (x := x) (ta := (C 8 x 0).toNat) (m := m) (N := N) (a := a) (b := b) (c := c) (d := d) (e := e) (by omega) (by omega) N 0 10 C (by omega) (by omega) rfl (by rw [a1, em]; rfl)
      obtain ⟨A9, y1, y2, y3, y4⟩ := m_feed0 (m := m) (N := N) (a := a) (b := b) (c := c) (d := d) (e := e) (by omega) (by omega) N 0 10 A (by omega) (by omega) em
      refine ⟨_, C9, A9, x1, y1, ?_, S6.cg hR (x2 8 x 2 (fun r => by omega) (fun r => by omega)) (fun p => x2 21 _ p (fun r => by omega) (fun r => by omega)) (fun p _ _ k _ => x2 2 _ k (fun r => by omega) (fun r => by omega)) (fun p _ _ i => x2 25 _ i (fun r => by omega) (fun r => by omega)) (fun p _ _ i _ => x2 6 _ 0 (fun r => by omega) (fun r => by omega)) (by rw [y2 0 0 0 (fun r => by omega) (fun r => by omega)]; exact Int.le_refl _) (fun p _ => y2 5 0 p (fun r => by omega) (fun r => by omega)) (fun p _ i _ => y2 34 p i (fun r => by omega) (fun r => by omega))⟩
      have k8 : ∀ k, k ≠ 1 → C9 8 x k = C 8 x k := fun k q => x2 8 x k (fun r => by omega) (fun r => q r.2.2)
      have eo : aOa C9 x = aOa C x := congrArg Int.toNat (k8 2 (by decide))
      have k21 : ∀ p, C9 21 (aOa C x) p = C 21 (aOa C x) p := fun p => x2 21 _ p (fun r => by omega) (fun r => by omega)
      have ep : ∀ p, aPr C9 x p = aPr C x p := fun p => by
        show (C9 21 (aOa C9 x) p).toNat = _
        rw [eo, k21]
      have k2 : ∀ i k, C9 2 i k = C 2 i k := fun i k => x2 2 i k (fun r => by omega) (fun r => by omega)
      have m0 : ∀ j, j ≠ 22 → A9 0 0 j = A 0 0 j := fun j q => y2 0 0 j (fun r => by omega) (fun r => q r.2.2)
      unfold R3
      rw [x3, y3, k8 3 (by decide), k8 5 (by decide), k8 7 (by decide), k8 0 (by decide), eo, m0 0 (by decide), m0 37 (by decide)]
      refine ⟨⟨rfl, by omega, by omega⟩, ⟨b1, b2, b3⟩, i1, fun j hj => ?_, fun p hp q => ?_, fun p hp => ?_, fun p p' hp hp' hn q q' => ?_⟩
      · rw [x4 j, y4 j]
        by_cases q : m + 0 ≤ j ∧ j < m + N
        · rw [if_pos q, if_pos q]
          exact ⟨rfl, fSel_r ok _⟩
        · rw [if_neg q, if_neg q]
          exact d1 j hj
      · rw [k21] at q
        rw [ep]
        exact (e1 p hp q).cg (fun k _ => k2 _ k) (fun k => x2 25 _ k (fun r => by omega) (fun r => by omega))
      · rw [k21, ep, k2, k2, k2, y2 6 0 p (fun r => by omega) (fun r => by omega), y2 7 0 p (fun r => by omega) (fun r => by omega)]
        exact f1 p hp
      · rw [k21] at q q'
        rw [ep, ep]
        exact g1 p p' hp hp' hn q q'
    · rw [if_neg fit, if_neg (show ¬ A 0 0 22 + n ≤ 120 by omega)]
      exact ⟨_, _, _, rfl, rfl, hR⟩
  · rw [if_neg ok, if_neg ok]
    exact ⟨_, _, _, rfl, rfl, hR⟩
end FE6
section BF26
variable {D : va_G} {G : tG} {ad : mAd} {C A : mA} {w : jW} {x : Nat}
theorem b6_feed (l : Launch) (B : Nat) (H0 : Heap) (n a b c d e : Int32) (hw : hW D G C w) (gx : G x = some 8) (hR : R6 x C A) (hT : mTy A) (hI : mI A) (hS : mStr D ad) : ∃ z B9, cFace6 l D B H0 y_CS_feed b_CS_feed 8 1 21 [.ref x, .int n, .int a, .int b, .int c, .int d, .int e] G w x z B9 ∧ ∀ w1, mW D ad A w1 → mFace6 l D B H0 y_Mo_feed b_Mo_feed 8 920 23600 [.ref (ad 0 0), .int n, .int a, .int b, .int c, .int d, .int e] ad w1 x z B9 := by
  obtain ⟨z, C9, A9, h1, h2, h3⟩ := feed6_alike (n := n.toInt) (a := a.toInt) (b := b.toInt) (c := c.toInt) (d := d.toInt) (e := e.toInt) hR (ri n) (ri a) (ri b) (ri c) (ri d) (ri e)
  have eC : ∀ (ad : mAd) (f k : Nat), mSt ad [vr f k, vi n.toInt, vi a.toInt, vi b.toInt, vi c.toInt, vi d.toInt, vi e.toInt] = [.ref (ad f k), .int n, .int a, .int b, .int c, .int d, .int e] := fun ad f k => by
    show [Value.ref (ad f k), mc ad (vi n.toInt), mc ad (vi a.toInt), mc ad (vi b.toInt), mc ad (vi c.toInt), mc ad (vi d.toInt), mc ad (vi e.toInt)] = _
    simp only [ms_i]
  have kC := hx_CS_feed l D B H0 G C x n.toInt a.toInt b.toInt c.toInt d.toInt e.toInt gx z C9 h1 w hw
  rw [eC hid 8 x] at kC
  refine ⟨z, A9, ⟨0, 0, _, Nat.zero_le _, Nat.zero_le _, kC, fun v w' p => ?_⟩, fun w1 hm => ?_⟩
  · obtain ⟨v8, A8, q1, ⟨q2, q3⟩, hw8, -⟩ := p
    subst q3
    exact ⟨by rw [q1, q2]; rfl, G, A8, fun _ _ h => h, hw8, h3⟩
  · have k1 := q_feed l D B H0 ad A hT n.toInt a.toInt b.toInt c.toInt d.toInt e.toInt (ri n) (ri a) (ri b) (ri c) (ri d) (ri e) hI w1 hm
    have k2 := x_Mo_feed l D B H0 ad A n.toInt a.toInt b.toInt c.toInt d.toInt e.toInt hS z A9 h2 w1 hm
    rw [eC ad 0 0] at k1 k2
    refine ⟨_, jMet_both (fr := 920) (lo := 23600) k1 k2 (by decide) (by decide) (by decide) (by decide) (by decide) (by decide), fun v w2 p => ?_⟩
    obtain ⟨⟨v9, B9, -, ⟨z9, -, hT9, -, -, hI9⟩, hm9, hf9⟩, w', ⟨v8, A8, q1, ⟨q2, q3⟩, hm8, -⟩, hj⟩ := p
    subst q3
    exact ⟨by rw [q1, q2]; rfl, B9, hm9, hf9, hT9, hI9, fun C1 h => h.jA hT9 hm9 hm8 hj⟩
end BF26
section BF36
variable {D : va_G} {G : tG} {ad : mAd} {C A : mA} {w : jW} {x : Nat}
theorem b6_image (l : Launch) (B : Nat) (H0 : Heap) (hw : hW D G C w) (gx : G x = some 8) (hR : R6 x C A) (hT : mTy A) (hI : mI A) : ∃ z B9, cFace6 l D B H0 y_CS_image b_CS_image 1 0 0 [.ref x] G w x z B9 ∧ ∀ w1, mW D ad A w1 → mFace6 l D B H0 y_Mo_image b_Mo_image 1 920 23600 [.ref (ad 0 0)] ad w1 x z B9 := by
  obtain ⟨⟨a1, a2, a3⟩, ⟨b1, b2, b3⟩, i1, d1, e1, f1, g1⟩ := id hR.1
  obtain ⟨V, hV, hF⟩ := (hcell_O H8_ok).mp (hw x 8 gx)
  have v3 : V 3 = .int (Int32.ofInt (C 8 x 3)) := hint1 rfl (hF 3 _ rfl)
  have v4 : V 4 = .int (Int32.ofInt (C 8 x 4)) := hint1 rfl (hF 4 _ rfl)
  refine ⟨A 0 0 0, mu A 0 0 37 (A 0 0 0), ⟨0, 0, _, Nat.zero_le _, Nat.zero_le _, e_CS_image l D B H0 w x V _ _ hV v3 v4, fun v w' p => ?_⟩, fun w1 hm => ⟨_, q_image l D B H0 ad A hT hI w1 hm, fun v w2 p => ?_⟩⟩
  · obtain ⟨q1, ho⟩ := p
    refine ⟨by rw [q1, b1], G, mu (mu (mu C 8 x 5 1) 8 x 6 (C 8 x 4)) 8 x 7 (C 8 x 3), fun _ _ h => h, hW_onX hw gx ho (fun τ a q => by rw [mu_fk _ _ _ q, mu_fk _ _ _ q, mu_fk _ _ _ q]) (hv_upd (hv_upd (hv_upd hF (fun t ht => by cases ht; exact rfl)) (fun t ht => by cases ht; exact rfl)) (fun t ht => by cases ht; exact rfl)), ?_⟩
    refine ⟨⟨⟨a1, a2, a3⟩, ⟨b1, b2, b3⟩, Or.inr ⟨?_, ?_, ?_, ?_⟩, d1, fun p hp q => (e1 p hp q).cg (fun k _ => rfl) (fun k => rfl), f1, g1⟩, S6.cg hR rfl (fun _ => rfl) (fun _ _ _ _ _ => rfl) (fun _ _ _ _ => rfl) (fun _ _ _ _ _ => rfl) (Int.le_refl _) (fun _ _ => rfl) (fun _ _ _ _ => rfl)⟩
    · exact mu_at _ _ _ _ _
    · rw [mu_at, mu_at]
      exact b1.symm
    · rw [mu_at]
      omega
    · rw [mu_at]
      exact Int.le_refl _
  · obtain ⟨v9, A9, q1, ⟨z9, q2, hT9, hE9, q3, -, q4, hI9⟩, hm9, hf9⟩ := p
    refine ⟨by rw [q1, q2, q3]; rfl, A9, hm9, hf9, hT9, hI9, fun C1 h => h.cA ⟨hE9 0 0 0 rfl, hE9 0 0 22 rfl, ?_⟩ (fun j _ => hE9 9 0 j rfl) (fun p _ => ⟨hE9 6 0 p rfl, hE9 7 0 p rfl⟩) (fun p _ => hE9 5 0 p rfl) (fun p _ i _ => hE9 34 p i rfl)⟩
    rw [mu_at]
    exact q4
theorem b6_back (l : Launch) (B : Nat) (H0 : Heap) (hw : hW D G C w) (gx : G x = some 8) (hR : R6 x C A) (hT : mTy A) (hI : mI A) : ∃ z B9, cFace6 l D B H0 y_CS_back b_CS_back 1 0 0 [.ref x] G w x z B9 ∧ ∀ w1, mW D ad A w1 → mFace6 l D B H0 y_Mo_back b_Mo_back 1 920 23600 [.ref (ad 0 0)] ad w1 x z B9 := by
  obtain ⟨⟨a1, a2, a3⟩, ⟨b1, b2, b3⟩, i1, d1, e1, f1, g1⟩ := id hR.1
  obtain ⟨V, hV, hF⟩ := (hcell_O H8_ok).mp (hw x 8 gx)
  have v5 : V 5 = .int (Int32.ofInt (C 8 x 5)) := hint1 rfl (hF 5 _ rfl)
  have v6 : V 6 = .int (Int32.ofInt (C 8 x 6)) := hint1 rfl (hF 6 _ rfl)
  have v7 : V 7 = .int (Int32.ofInt (C 8 x 7)) := hint1 rfl (hF 7 _ rfl)
  have cC := e_CS_back l D B H0 w x V _ _ _ hV v5 v6 v7
  rcases i1 with ⟨i1, i2⟩ | ⟨i1, i2, i3, i4⟩
  · rw [i1] at cC
    refine ⟨-3, A, ⟨0, 0, _, Nat.zero_le _, Nat.zero_le _, cC, fun v w' p => ?_⟩, fun w1 hm => ⟨_, q_back2 l D B H0 ad A hT hI w1 hm, fun v w2 p => ?_⟩⟩
    · rcases p with ⟨-, q1, q2⟩ | ⟨q, -⟩
      · exact ⟨q1, G, C, fun _ _ h => h, by rw [q2]; exact hw, hR⟩
      · exact absurd rfl q
    · obtain ⟨v9, A9, q1, ⟨z9, q2, hT9, hE9, -, -, hI9, q4⟩, hm9, hf9⟩ := p
      have q5 : z9 = -3 ∧ A9 0 0 0 = A 0 0 0 := by omega
      exact ⟨by rw [q1, q2, q5.1]; rfl, A9, hm9, hf9, hT9, hI9, fun C1 h => h.cA ⟨q5.2, hE9 0 0 22 rfl, hE9 0 0 37 rfl⟩ (fun j _ => hE9 9 0 j rfl) (fun p _ => ⟨hE9 6 0 p rfl, hE9 7 0 p rfl⟩) (fun p _ => hE9 5 0 p rfl) (fun p _ i _ => hE9 34 p i rfl)⟩
  · rw [i1] at cC
    refine ⟨A 0 0 37, mu A 0 0 0 (A 0 0 37), ⟨0, 0, _, Nat.zero_le _, Nat.zero_le _, cC, fun v w' p => ?_⟩, fun w1 hm => ⟨_, q_back2 l D B H0 ad A hT hI w1 hm, fun v w2 p => ?_⟩⟩
    · rcases p with ⟨q, -⟩ | ⟨-, q1, ho⟩
      · exact absurd q (by decide)
      · refine ⟨by rw [q1, i2], G, mu (mu C 8 x 4 (C 8 x 6)) 8 x 3 (C 8 x 7), fun _ _ h => h, hW_onX hw gx ho (fun τ a q => by rw [mu_fk _ _ _ q, mu_fk _ _ _ q]) (hv_upd (hv_upd hF (fun t ht => by cases ht; exact rfl)) (fun t ht => by cases ht; exact rfl)), ?_⟩
        refine ⟨⟨⟨a1, a2, a3⟩, ⟨?_, ?_, ?_⟩, Or.inr ⟨i1, i2, i3, ?_⟩, d1, fun p hp q => (e1 p hp q).cg (fun k _ => rfl) (fun k => rfl), fun p hp => f1 p ?_, g1⟩, S6.cg hR rfl (fun _ => rfl) (fun _ _ _ _ _ => rfl) (fun _ _ _ _ => rfl) (fun _ _ _ _ _ => rfl) (by rw [mu_at]; omega) (fun _ _ => rfl) (fun _ _ _ _ => rfl)⟩
        · rw [mu_at, mu_at]
          exact i2.symm
        · rw [mu_at]
          omega
        · rw [mu_at]
          omega
        · rw [mu_at]
          exact Int.le_refl _
        · rw [mu_at] at hp
          omega
    · obtain ⟨v9, A9, q1, ⟨z9, q2, hT9, hE9, -, -, hI9, q4⟩, hm9, hf9⟩ := p
      have q5 : z9 = A 0 0 37 ∧ A9 0 0 0 = A 0 0 37 := by omega
      refine ⟨by rw [q1, q2, q5.1]; rfl, A9, hm9, hf9, hT9, hI9, fun C1 h => h.cA ⟨?_, hE9 0 0 22 rfl, hE9 0 0 37 rfl⟩ (fun j _ => hE9 9 0 j rfl) (fun p _ => ⟨hE9 6 0 p rfl, hE9 7 0 p rfl⟩) (fun p _ => hE9 5 0 p rfl) (fun p _ i _ => hE9 34 p i rfl)⟩
      rw [mu_at]
      exact q5.2
end BF36
