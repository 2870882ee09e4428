/-! program, feed, image, back, let of both: the relation in full (own work, by program from 98zzr) -/
/-- the reference behind image, behind back -/
def imB (A : mA) : mA := fun f k j => if f = 10 then A 8 0 j else mu A 0 0 37 (A 0 0 0) f k j
def bkB (A : mA) : mA := fun f k j => if f = 8 then A 10 0 j else mu A 0 0 0 (A 0 0 37) f k j
theorem imB_o {A : mA} {f k j : Nat} (h : f ≠ 10) (h0 : f ≠ 0) : imB A f k j = A f k j := by
  unfold imB
  rw [if_neg h, mu_ne _ _ (fun r => h0 r.1)]
theorem bkB_o {A : mA} {f k j : Nat} (h : f ≠ 8) (h0 : f ≠ 0) : bkB A f k j = A f k j := by
  unfold bkB
  rw [if_neg h, mu_ne _ _ (fun r => h0 r.1)]
theorem e34 {S : Nat → Nat → Nat → Bool} {f k j : Nat} (h1 : 34 ≤ f) (h2 : f ≤ 46) (h : (∀ k j, S 34 k j = false) ∧ (∀ k j, S 35 k j = false) ∧ (∀ k j, S 36 k j = false) ∧ (∀ k j, S 37 k j = false) ∧ (∀ k j, S 38 k j = false) ∧ (∀ k j, S 39 k j = false) ∧ (∀ k j, S 40 k j = false) ∧ (∀ k j, S 41 k j = false) ∧ (∀ k j, S 42 k j = false) ∧ (∀ k j, S 43 k j = false) ∧ (∀ k j, S 44 k j = false) ∧ (∀ k j, S 45 k j = false) ∧ (∀ k j, S 46 k j = false)) : S f k j = false := by
  obtain ⟨a34, a35, a36, a37, a38, a39, a40, a41, a42, a43, a44, a45, a46⟩ := h
  have c : f = 34 ∨ f = 35 ∨ f = 36 ∨ f = 37 ∨ f = 38 ∨ f = 39 ∨ f = 40 ∨ f = 41 ∨ f = 42 ∨ f = 43 ∨ f = 44 ∨ f = 45 ∨ f = 46 := by omega
  rcases c with rfl | rfl | rfl | rfl | rfl | rfl | rfl | rfl | rfl | rfl | rfl | rfl | rfl
  · exact a34 k j
  · exact a35 k j
  · exact a36 k j
  · exact a37 k j
  · exact a38 k j
  · exact a39 k j
  · exact a40 k j
  · exact a41 k j
  · exact a42 k j
  · exact a43 k j
  · exact a44 k j
  · exact a45 k j
  · exact a46 k j
theorem im34 {f k j : Nat} (h1 : 34 ≤ f) (h2 : f ≤ 46) : im f k j = false := e34 h1 h2 ⟨fun _ _ => rfl, fun _ _ => rfl, fun _ _ => rfl, fun _ _ => rfl, fun _ _ => rfl, fun _ _ => rfl, fun _ _ => rfl, fun _ _ => rfl, fun _ _ => rfl, fun _ _ => rfl, fun _ _ => rfl, fun _ _ => rfl, fun _ _ => rfl⟩
theorem bm34 {f k j : Nat} (h1 : 34 ≤ f) (h2 : f ≤ 46) : bm f k j = false := e34 h1 h2 ⟨fun _ _ => rfl, fun _ _ => rfl, fun _ _ => rfl, fun _ _ => rfl, fun _ _ => rfl, fun _ _ => rfl, fun _ _ => rfl, fun _ _ => rfl, fun _ _ => rfl, fun _ _ => rfl, fun _ _ => rfl, fun _ _ => rfl, fun _ _ => rfl⟩
theorem stm34 {f k j : Nat} (h1 : 34 ≤ f) (h2 : f ≤ 46) : stm f k j = false := e34 h1 h2 ⟨fun _ _ => rfl, fun _ _ => rfl, fun _ _ => rfl, fun _ _ => rfl, fun _ _ => rfl, fun _ _ => rfl, fun _ _ => rfl, fun _ _ => rfl, fun _ _ => rfl, fun _ _ => rfl, fun _ _ => rfl, fun _ _ => rfl, fun _ _ => rfl⟩
/-- a face of the class: it answers z, and stands by B9 -/
def cFace9 (l : Launch) (D : va_G) (B : Nat) (H0 : Heap) (y : MethodName) (cc : ByteArray) (ml fr lo : Nat) (av : List Value) (G : tG) (w : jW) (x : Nat) (z : Int) (B9 : mA) : Prop :=
  ∃ (mc ms : Nat) (P2 : Option Value → jW → Prop), mc ≤ KC - w.2.1 ∧ ms ≤ KS - w.2.2 ∧ jMet l D B H0 y cc ml (some .int) fr lo mc ms av w P2 ∧ ∀ v w', P2 v w' → v = some (.int (Int32.ofInt z)) ∧ ∃ (G1 : tG) (C1 : mA), (∀ a τ, G a = some τ → G1 a = some τ) ∧ hW D G1 C1 w' ∧ R9 x C1 B9
/-- a face of the reference: it answers z, and what stood by B9 stands by it -/
def mFace9 (l : Launch) (D : va_G) (B : Nat) (H0 : Heap) (y : MethodName) (cc : ByteArray) (ml fr lo : Nat) (av : List Value) (ad : mAd) (w : jW) (x : Nat) (z : Int) (B9 : mA) : Prop :=
  ∃ P2 : Option Value → jW → Prop, jMet l D B H0 y cc ml (some .int) fr lo 0 0 av w P2 ∧ ∀ v w', P2 v w' → v = some (.int (Int32.ofInt z)) ∧ ∃ A9 : mA, mW D ad A9 w' ∧ mfr ad w w' ∧ mTy A9 ∧ mI A9 ∧ ∀ C1, R9 x C1 B9 → R9 x C1 A9
section BF9
variable {D : va_G} {G : tG} {ad : mAd} {C A : mA} {w : jW} {x : Nat}
theorem b9_program (l : Launch) (B : Nat) (H0 : Heap) (hO : WOK D G w) (hb : bud G w) (hw : hW D G C w) (gx : G x = some 8) (hR : R9 x C A) (hT : mTy A) (hI : mI A) (hS : mStr D ad) : ∃ z B9, cFace9 l D B H0 y_CS_program b_CS_program 3 1860 74100 [.ref x] G w x z B9 ∧ ∀ w1, mW D ad A w1 → mFace9 l D B H0 y_Mo_program b_Mo_program 2 1705 66620 [.ref (ad 0 0)] ad w1 x z B9 := by
  obtain ⟨⟨a1, a2, a3⟩, ⟨b1, b2, b3⟩, i1, d1, e1, f1, g1⟩ := id hR.1.1
  obtain ⟨P, eP⟩ : ∃ P : Nat, A 0 0 0 = P := ⟨(A 0 0 0).toNat, by omega⟩
  have key : ∃ z B9, f_Mo_program A = some (z, B9) ∧ cFace9 l D B H0 y_CS_program b_CS_program 3 1860 74100 [.ref x] G w x z B9 := by
    by_cases hP : P < 6
    · have t25 : 0 ≤ A 0 0 25 ∧ A 0 0 25 ≤ 4 := hT 0 0 25
      obtain ⟨z, B9, m1, m2⟩ := m_program (P := P) (m := (A 0 0 22).toNat) (T := A 9 0) (bE := eB A) (tE := eT A) eP hP ⟨by omega, by omega, fun j hj => ⟨rfl, (d1 j hj).2⟩⟩ (by unfold g32; omega) (fun u hu => ⟨rfl, (f1 u (by omega)).2.2.2.1⟩) (fun u hu => ⟨rfl, (f1 u (by omega)).2.2.2.2.1⟩)
      obtain ⟨mc, ms, r1, r2, r3⟩ := cs_program9 l B H0 hO hb hw gx hR eP hP
      refine ⟨z, B9, m1, mc, ms, _, r1, r2, r3, fun v w' p => ?_⟩
      obtain ⟨z2, G1, C9, h1, h2, h3, h4⟩ := p
      obtain ⟨k1, k2, k3⟩ := h4 z B9 m2
      exact ⟨by rw [h1, k1], G1, C9, h2, h3, k3⟩
    · have e6 : A 0 0 0 = 6 := by omega
      refine ⟨-4, A, ?_, 0, 0, _, Nat.zero_le _, Nat.zero_le _, cs_prog6 l B H0 hw gx (b1.trans e6), fun v w' p => ⟨p.1, G, C, fun _ _ h => h, by rw [p.2]; exact hw, hR⟩⟩
      unfold f_Mo_program
      rw [e6, if_pos (by decide), if_pos rfl]
  obtain ⟨z, B9, m1, k1⟩ := key
  refine ⟨z, B9, k1, fun w1 hm => ⟨_, jMet_both (fr := 1705) (lo := 66620) (q_program l D B H0 ad A hS hT hI w1 hm) (x_Mo_program l D B H0 ad A hS z B9 m1 w1 hm) (by decide) (by decide) (by decide) (by decide) (by decide) (by decide), fun v w2 p => ?_⟩⟩
  obtain ⟨⟨v9, A9, -, ⟨z9, -, hT9, -, hI9, -⟩, hm9, hf9⟩, w', ⟨v8, A8, q1, ⟨q2, q3⟩, hm8, -⟩, hj⟩ := p
  subst q3
  exact ⟨by rw [q1, q2]; rfl, A9, hm9, hf9, hT9, hI9, fun C1 h => h.jA hT9 hm9 hm8 hj⟩
end BF9
section FE9
variable {C A : mA} {x : Nat} {n a b c d e : Int}
/-- both feed alike -/
theorem feed9_alike (hR : R9 x C A) (gn : g32 n) (ga : g32 a) (gb : g32 b) (gc : g32 c) (gd : g32 d) (ge : g32 e) : ∃ z C9 A9, f_CS_feed C x n a b c d e = some (z, C9) ∧ f_Mo_feed A n a b c d e = some (z, A9) ∧ R9 x C9 A9 := by
  obtain ⟨⟨a1, a2, a3⟩, ⟨b1, b2, b3⟩, i1, d1, e1, f1, g1⟩ := id hR.1.1
  rw [c_feedF gn ga gb gc gd ge (by rw [a1]; unfold g32; omega), m_feedF gn ga gb gc gd ge (fun _ _ => by unfold g32; omega)]
  by_cases ok : fOk n a b c d e
  · rw [if_pos ok, if_pos ok]
    by_cases fit : n ≤ 120 - C 8 x 1
    · rw [if_pos fit, if_pos (show A 0 0 22 + n ≤ 120 by omega)]
      have hn := ok.1
      obtain ⟨N, rfl⟩ : ∃ N : Nat, n = N := ⟨n.toNat, by omega⟩
      obtain ⟨m, em⟩ : ∃ m : Nat, A 0 0 22 = m := ⟨(A 0 0 22).toNat, by omega⟩
      obtain ⟨C9, x1, x2, x3, x4⟩ := c_feed0 (x := x) (ta := (C 8 x 0).toNat) (m := m) (N := N) (a := a) (b := b) (c := c) (d := d) (e := e) (by omega) (by omega) N 0 10 C (by omega) (by omega) rfl (by rw [a1, em]; rfl)
      obtain ⟨A9, y1, y2, y3, y4⟩ := m_feed0 (m := m) (N := N) (a := a) (b := b) (c := c) (d := d) (e := e) (by omega) (by omega) N 0 10 A (by omega) (by omega) em
      refine ⟨_, C9, A9, x1, y1, ⟨?_, S6.cg hR.1 (x2 8 x 2 (fun r => by omega) (fun r => by omega)) (fun p => x2 21 _ p (fun r => by omega) (fun r => by omega)) (fun p _ _ k _ => x2 2 _ k (fun r => by omega) (fun r => by omega)) (fun p _ _ i => x2 25 _ i (fun r => by omega) (fun r => by omega)) (fun p _ _ i _ => x2 6 _ 0 (fun r => by omega) (fun r => by omega)) (by rw [y2 0 0 0 (fun r => by omega) (fun r => by omega)]; exact Int.le_refl _) (fun p _ => y2 5 0 p (fun r => by omega) (fun r => by omega)) (fun p _ i _ => y2 34 p i (fun r => by omega) (fun r => by omega))⟩, hR.2.1.cg hR.1.1 (x2 8 x 2 (fun r => by omega) (fun r => by omega)) (fun p => x2 21 _ p (fun r => by omega) (fun r => by omega)) (fun p _ _ k _ => x2 2 _ k (fun r => by omega) (fun r => by omega)) (fun p _ _ i => x2 25 _ i (fun r => by omega) (fun r => by omega)) (fun p _ _ i _ k _ => x2 6 _ k (fun r => by omega) (fun r => by omega)) (fun p _ _ i => x2 36 _ i (fun r => by omega) (fun r => by omega)) (fun p _ _ a j _ => x2 27 a j (fun r => by omega) (fun r => by omega)) (by rw [y2 0 0 0 (fun r => by omega) (fun r => by omega)]; exact Int.le_refl _) (fun p _ => ⟨y2 5 0 p (fun r => by omega) (fun r => by omega), y2 6 0 p (fun r => by omega) (fun r => by omega), y2 7 0 p (fun r => by omega) (fun r => by omega)⟩) (fun p _ f j q1 q2 _ _ _ => y2 f p j (fun r => by omega) (fun r => by omega)), hR.2.2.1.cg (fun k hk => x2 8 x k (fun r => by omega) (fun r => by omega)) (fun j _ => ⟨y2 8 0 j (fun r => by omega) (fun r => by omega), y2 10 0 j (fun r => by omega) (fun r => by omega)⟩), hR.2.2.2.cg (x2 8 x 2 (fun r => by omega) (fun r => by omega)) (fun p => x2 21 _ p (fun r => by omega) (fun r => by omega)) (fun p _ _ k _ => x2 2 _ k (fun r => by omega) (fun r => by omega)) (fun p _ _ => x2 4 _ 0 (fun r => by omega) (fun r => by omega))⟩
      have k8 : ∀ k, k ≠ 1 → C9 8 x k = C 8 x k := fun k q => x2 8 x k (fun r => by omega) (fun r => q r.2.2)
      have eo : aOa C9 x = aOa C x := congrArg Int.toNat (k8 2 (by decide))
      have k21 : ∀ p, C9 21 (aOa C x) p = C 21 (aOa C x) p := fun p => x2 21 _ p (fun r => by omega) (fun r => by omega)
      have ep : ∀ p, aPr C9 x p = aPr C x p := fun p => by
        show (C9 21 (aOa C9 x) p).toNat = _
        rw [eo, k21]
      have k2 : ∀ i k, C9 2 i k = C 2 i k := fun i k => x2 2 i k (fun r => by omega) (fun r => by omega)
      have m0 : ∀ j, j ≠ 22 → A9 0 0 j = A 0 0 j := fun j q => y2 0 0 j (fun r => by omega) (fun r => q r.2.2)
      unfold R3
      rw [x3, y3, k8 3 (by decide), k8 5 (by decide), k8 7 (by decide), k8 0 (by decide), eo, m0 0 (by decide), m0 37 (by decide)]
      refine ⟨⟨rfl, by omega, by omega⟩, ⟨b1, b2, b3⟩, i1, fun j hj => ?_, fun p hp q => ?_, fun p hp => ?_, fun p p' hp hp' hn q q' => ?_⟩
      · rw [x4 j, y4 j]
        by_cases q : m + 0 ≤ j ∧ j < m + N
        · rw [if_pos q, if_pos q]
          exact ⟨rfl, fSel_r ok _⟩
        · rw [if_neg q, if_neg q]
          exact d1 j hj
      · rw [k21] at q
        rw [ep]
        exact (e1 p hp q).cg (fun k _ => k2 _ k) (fun k => x2 25 _ k (fun r => by omega) (fun r => by omega))
      · rw [k21, ep, k2, k2, k2, y2 6 0 p (fun r => by omega) (fun r => by omega), y2 7 0 p (fun r => by omega) (fun r => by omega)]
        exact f1 p hp
      · rw [k21] at q q'
        rw [ep, ep]
        exact g1 p p' hp hp' hn q q'
    · rw [if_neg fit, if_neg (show ¬ A 0 0 22 + n ≤ 120 by omega)]
      exact ⟨_, _, _, rfl, rfl, hR⟩
  · rw [if_neg ok, if_neg ok]
    exact ⟨_, _, _, rfl, rfl, hR⟩
end FE9
section BF29
variable {D : va_G} {G : tG} {ad : mAd} {C A : mA} {w : jW} {x : Nat}
theorem b9_feed (l : Launch) (B : Nat) (H0 : Heap) (n a b c d e : Int32) (hw : hW D G C w) (gx : G x = some 8) (hR : R9 x C A) (hT : mTy A) (hI : mI A) (hS : mStr D ad) : ∃ z B9, cFace9 l D B H0 y_CS_feed b_CS_feed 8 1 21 [.ref x, .int n, .int a, .int b, .int c, .int d, .int e] G w x z B9 ∧ ∀ w1, mW D ad A w1 → mFace9 l D B H0 y_Mo_feed b_Mo_feed 8 920 23600 [.ref (ad 0 0), .int n, .int a, .int b, .int c, .int d, .int e] ad w1 x z B9 := by
  obtain ⟨z, C9, A9, h1, h2, h3⟩ := feed9_alike (n := n.toInt) (a := a.toInt) (b := b.toInt) (c := c.toInt) (d := d.toInt) (e := e.toInt) hR (ri n) (ri a) (ri b) (ri c) (ri d) (ri e)
  have eC : ∀ (ad : mAd) (f k : Nat), mSt ad [vr f k, vi n.toInt, vi a.toInt, vi b.toInt, vi c.toInt, vi d.toInt, vi e.toInt] = [.ref (ad f k), .int n, .int a, .int b, .int c, .int d, .int e] := fun ad f k => by
    show [Value.ref (ad f k), mc ad (vi n.toInt), mc ad (vi a.toInt), mc ad (vi b.toInt), mc ad (vi c.toInt), mc ad (vi d.toInt), mc ad (vi e.toInt)] = _
    simp only [ms_i]
  have kC := hx_CS_feed l D B H0 G C x n.toInt a.toInt b.toInt c.toInt d.toInt e.toInt gx z C9 h1 w hw
  rw [eC hid 8 x] at kC
  refine ⟨z, A9, ⟨0, 0, _, Nat.zero_le _, Nat.zero_le _, kC, fun v w' p => ?_⟩, fun w1 hm => ?_⟩
  · obtain ⟨v8, A8, q1, ⟨q2, q3⟩, hw8, -⟩ := p
    subst q3
    exact ⟨by rw [q1, q2]; rfl, G, A8, fun _ _ h => h, hw8, h3⟩
  · have k1 := q_feed l D B H0 ad A hT n.toInt a.toInt b.toInt c.toInt d.toInt e.toInt (ri n) (ri a) (ri b) (ri c) (ri d) (ri e) hI w1 hm
    have k2 := x_Mo_feed l D B H0 ad A n.toInt a.toInt b.toInt c.toInt d.toInt e.toInt hS z A9 h2 w1 hm
    rw [eC ad 0 0] at k1 k2
    refine ⟨_, jMet_both (fr := 920) (lo := 23600) k1 k2 (by decide) (by decide) (by decide) (by decide) (by decide) (by decide), fun v w2 p => ?_⟩
    obtain ⟨⟨v9, B9, -, ⟨z9, -, hT9, -, -, hI9⟩, hm9, hf9⟩, w', ⟨v8, A8, q1, ⟨q2, q3⟩, hm8, -⟩, hj⟩ := p
    subst q3
    exact ⟨by rw [q1, q2]; rfl, B9, hm9, hf9, hT9, hI9, fun C1 h => h.jA hT9 hm9 hm8 hj⟩
end BF29
section BF39
variable {D : va_G} {G : tG} {ad : mAd} {C A : mA} {w : jW} {x : Nat}
theorem b9_image (l : Launch) (B : Nat) (H0 : Heap) (hw : hW D G C w) (gx : G x = some 8) (hR : R9 x C A) (hT : mTy A) (hI : mI A) : ∃ z B9, cFace9 l D B H0 y_CS_image b_CS_image 1 0 0 [.ref x] G w x z B9 ∧ ∀ w1, mW D ad A w1 → mFace9 l D B H0 y_Mo_image b_Mo_image 1 920 23600 [.ref (ad 0 0)] ad w1 x z B9 := by
  obtain ⟨⟨a1, a2, a3⟩, ⟨b1, b2, b3⟩, i1, d1, e1, f1, g1⟩ := id hR.1.1
  obtain ⟨V, hV, hF⟩ := (hcell_O H8_ok).mp (hw x 8 gx)
  have v3 : V 3 = .int (Int32.ofInt (C 8 x 3)) := hint1 rfl (hF 3 _ rfl)
  have v4 : V 4 = .int (Int32.ofInt (C 8 x 4)) := hint1 rfl (hF 4 _ rfl)
  refine ⟨A 0 0 0, imB A, ⟨0, 0, _, Nat.zero_le _, Nat.zero_le _, e_CS_image l D B H0 w x V _ _ hV v3 v4, fun v w' p => ?_⟩, fun w1 hm => ⟨_, q_image l D B H0 ad A hT hI w1 hm, fun v w2 p => ?_⟩⟩
  · obtain ⟨q1, ho⟩ := p
    refine ⟨by rw [q1, b1], G, mu (mu (mu C 8 x 5 1) 8 x 6 (C 8 x 4)) 8 x 7 (C 8 x 3), fun _ _ h => h, hW_onX hw gx ho (fun τ a q => by rw [mu_fk _ _ _ q, mu_fk _ _ _ q, mu_fk _ _ _ q]) (hv_upd (hv_upd (hv_upd hF (fun t ht => by cases ht; exact rfl)) (fun t ht => by cases ht; exact rfl)) (fun t ht => by cases ht; exact rfl)), ?_⟩
    refine ⟨⟨⟨⟨a1, a2, a3⟩, ⟨b1, b2, b3⟩, Or.inr ⟨?_, ?_, ?_, ?_⟩, d1, fun p hp q => (e1 p hp q).cg (fun k _ => rfl) (fun k => rfl), f1, g1⟩, S6.cg (A9 := imB A) hR.1 rfl (fun _ => rfl) (fun _ _ _ _ _ => rfl) (fun _ _ _ _ => rfl) (fun _ _ _ _ _ => rfl) (Int.le_refl _) (fun _ _ => rfl) (fun _ _ _ _ => rfl)⟩, hR.2.1.cg hR.1.1 rfl (fun _ => rfl) (fun _ _ _ _ _ => rfl) (fun _ _ _ _ => rfl) (fun _ _ _ _ _ _ _ => rfl) (fun _ _ _ _ => rfl) (fun _ _ _ _ _ _ => rfl) (Int.le_refl _) (fun _ _ => ⟨rfl, rfl, rfl⟩) (fun p _ f j q1 q2 _ _ _ => imB_o (by omega) (by omega)), ⟨hR.2.2.1.1, Or.inr ?_⟩, hR.2.2.2.cg rfl (fun _ => rfl) (fun _ _ _ _ _ => rfl) (fun _ _ _ => rfl)⟩
    · exact mu_at _ _ _ _ _
    · show mu A 0 0 37 (A 0 0 0) 0 0 37 = _
      rw [mu_at, mu_at]
      exact b1.symm
    · rw [mu_at]
      omega
    · rw [mu_at]
      exact Int.le_refl _
    · rw [mu_ne _ _ (fun r => absurd r.2.2 (by decide)), mu_at]
      exact hR.2.2.1.1.cg (fun j _ => if_pos rfl)
  · obtain ⟨v9, A9, q1, ⟨z9, q2, hT9, hE9, q3, q10, q4, hI9⟩, hm9, hf9⟩ := p
    refine ⟨by rw [q1, q2, q3]; rfl, A9, hm9, hf9, hT9, hI9, fun C1 h => h.cA ⟨hE9 0 0 0 rfl, hE9 0 0 22 rfl, ?_⟩ (fun j _ => hE9 9 0 j rfl) (fun j hj => ⟨hE9 8 0 j rfl, q10 j hj⟩) (fun p _ => ⟨hE9 5 0 p rfl, hE9 6 0 p rfl, hE9 7 0 p rfl⟩) (fun p _ f j q1 q2 _ _ _ => (hE9 f p j (im34 q1 q2)).trans (imB_o (by omega) (by omega)).symm)⟩
    show _ = mu A 0 0 37 (A 0 0 0) 0 0 37
    rw [mu_at]
    exact q4
theorem b9_back (l : Launch) (B : Nat) (H0 : Heap) (hw : hW D G C w) (gx : G x = some 8) (hR : R9 x C A) (hT : mTy A) (hI : mI A) : ∃ z B9, cFace9 l D B H0 y_CS_back b_CS_back 1 0 0 [.ref x] G w x z B9 ∧ ∀ w1, mW D ad A w1 → mFace9 l D B H0 y_Mo_back b_Mo_back 1 920 23600 [.ref (ad 0 0)] ad w1 x z B9 := by
  obtain ⟨⟨a1, a2, a3⟩, ⟨b1, b2, b3⟩, i1, d1, e1, f1, g1⟩ := id hR.1.1
  obtain ⟨V, hV, hF⟩ := (hcell_O H8_ok).mp (hw x 8 gx)
  have v5 : V 5 = .int (Int32.ofInt (C 8 x 5)) := hint1 rfl (hF 5 _ rfl)
  have v6 : V 6 = .int (Int32.ofInt (C 8 x 6)) := hint1 rfl (hF 6 _ rfl)
  have v7 : V 7 = .int (Int32.ofInt (C 8 x 7)) := hint1 rfl (hF 7 _ rfl)
  have cC := e_CS_back l D B H0 w x V _ _ _ hV v5 v6 v7
  rcases i1 with ⟨i1, i2⟩ | ⟨i1, i2, i3, i4⟩
  · rw [i1] at cC
    refine ⟨-3, A, ⟨0, 0, _, Nat.zero_le _, Nat.zero_le _, cC, fun v w' p => ?_⟩, fun w1 hm => ⟨_, q_back2 l D B H0 ad A hT hI w1 hm, fun v w2 p => ?_⟩⟩
    · rcases p with ⟨-, q1, q2⟩ | ⟨q, -⟩
      · exact ⟨q1, G, C, fun _ _ h => h, by rw [q2]; exact hw, hR⟩
      · exact absurd rfl q
    · obtain ⟨v9, A9, q1, ⟨z9, q2, hT9, hE9, -, q8, hI9, q4⟩, hm9, hf9⟩ := p
      have q5 : z9 = -3 ∧ A9 0 0 0 = A 0 0 0 := by omega
      exact ⟨by rw [q1, q2, q5.1]; rfl, A9, hm9, hf9, hT9, hI9, fun C1 h => h.cA ⟨q5.2, hE9 0 0 22 rfl, hE9 0 0 37 rfl⟩ (fun j _ => hE9 9 0 j rfl) (fun j hj => ⟨(q8 j hj).trans (if_pos i2), hE9 10 0 j rfl⟩) (fun p _ => ⟨hE9 5 0 p rfl, hE9 6 0 p rfl, hE9 7 0 p rfl⟩) (fun p _ f j q1 q2 _ _ _ => hE9 f p j (bm34 q1 q2))⟩
  · rw [i1] at cC
    refine ⟨A 0 0 37, bkB A, ⟨0, 0, _, Nat.zero_le _, Nat.zero_le _, cC, fun v w' p => ?_⟩, fun w1 hm => ⟨_, q_back2 l D B H0 ad A hT hI w1 hm, fun v w2 p => ?_⟩⟩
    · rcases p with ⟨q, -⟩ | ⟨-, q1, ho⟩
      · exact absurd q (by decide)
      · refine ⟨by rw [q1, i2], G, mu (mu C 8 x 4 (C 8 x 6)) 8 x 3 (C 8 x 7), fun _ _ h => h, hW_onX hw gx ho (fun τ a q => by rw [mu_fk _ _ _ q, mu_fk _ _ _ q]) (hv_upd (hv_upd hF (fun t ht => by cases ht; exact rfl)) (fun t ht => by cases ht; exact rfl)), ?_⟩
        have e00 : bkB A 0 0 0 = A 0 0 37 := (if_neg (by decide)).trans (mu_at _ _ _ _ _)
        refine ⟨⟨⟨⟨a1, a2, a3⟩, ⟨?_, ?_, ?_⟩, Or.inr ⟨i1, i2, i3, ?_⟩, d1, fun p hp q => (e1 p hp q).cg (fun k _ => rfl) (fun k => rfl), fun p hp => f1 p ?_, g1⟩, S6.cg (A9 := bkB A) hR.1 rfl (fun _ => rfl) (fun _ _ _ _ _ => rfl) (fun _ _ _ _ => rfl) (fun _ _ _ _ _ => rfl) (by rw [e00]; omega) (fun _ _ => rfl) (fun _ _ _ _ => rfl)⟩, hR.2.1.cg hR.1.1 rfl (fun _ => rfl) (fun _ _ _ _ _ => rfl) (fun _ _ _ _ => rfl) (fun _ _ _ _ _ _ _ => rfl) (fun _ _ _ _ => rfl) (fun _ _ _ _ _ _ => rfl) (by rw [e00]; omega) (fun _ _ => ⟨rfl, rfl, rfl⟩) (fun p _ f j q1 q2 _ _ _ => bkB_o (by omega) (by omega)), ⟨?_, ?_⟩, hR.2.2.2.cg rfl (fun _ => rfl) (fun _ _ _ _ _ => rfl) (fun _ _ _ => rfl)⟩
        · rw [mu_at, e00]
          exact i2.symm
        · rw [e00]
          omega
        · rw [e00]
          omega
        · rw [mu_at]
          exact Int.le_refl _
        · rw [e00] at hp
          omega
        · rw [mu_ne _ _ (fun r => absurd r.2.2 (by decide)), mu_at]
          exact (hR.2.2.1.2.resolve_left (by omega)).cg (fun j _ => if_pos rfl)
        · refine Or.inr ?_
          rw [mu_ne _ _ (fun r => absurd r.2.2 (by decide)), mu_ne _ _ (fun r => absurd r.2.2 (by decide))]
          exact (hR.2.2.1.2.resolve_left (by omega)).cg (fun j _ => bkB_o (by decide) (by decide))
    · obtain ⟨v9, A9, q1, ⟨z9, q2, hT9, hE9, -, q8, hI9, q4⟩, hm9, hf9⟩ := p
      have q5 : z9 = A 0 0 37 ∧ A9 0 0 0 = A 0 0 37 := by omega
      refine ⟨by rw [q1, q2, q5.1]; rfl, A9, hm9, hf9, hT9, hI9, fun C1 h => h.cA ⟨?_, hE9 0 0 22 rfl, hE9 0 0 37 rfl⟩ (fun j _ => hE9 9 0 j rfl) (fun j hj => ⟨(q8 j hj).trans (if_neg (by omega)), hE9 10 0 j rfl⟩) (fun p _ => ⟨hE9 5 0 p rfl, hE9 6 0 p rfl, hE9 7 0 p rfl⟩) (fun p _ f j q1 q2 _ _ _ => (hE9 f p j (bm34 q1 q2)).trans (bkB_o (by omega) (by omega)).symm)⟩
      show _ = mu A 0 0 0 (A 0 0 37) 0 0 0
      rw [mu_at]
      exact q5.2
end BF39
section LT9
variable {D : va_G} {G : tG} {ad : mAd} {C A : mA} {w : jW} {x : Nat}
theorem c_isName {A : mA} {n : Int} (g : g32 n) : f_CS_isName A n = some (if 0 ≤ n ∧ n < 6 then 1 else 0, A) := by
  unfold f_CS_isName
  rw [if_pos g]
  by_cases q1 : n < 0
  · rw [if_pos q1, if_neg (by omega)]
  rw [if_neg q1]
  by_cases q2 : 6 ≤ n
  · rw [if_pos q2, if_neg (by omega)]
  · rw [if_neg q2, if_pos (by omega)]
theorem c_isValue {A : mA} {n : Int} (g : g32 n) : f_CS_isValue A n = some (if 0 ≤ n ∧ n < 10 then 1 else 0, A) := by
  unfold f_CS_isValue
  rw [if_pos g]
  by_cases q1 : n < 0
  · rw [if_pos q1, if_neg (by omega)]
  rw [if_neg q1]
  by_cases q2 : 10 ≤ n
  · rw [if_pos q2, if_neg (by omega)]
  · rw [if_neg q2, if_pos (by omega)]
theorem c_digit {A : mA} {s n : Int} (h : 0 ≤ s ∧ s < 16777216) (hn : 0 ≤ n ∧ n < 6) : f_CS_digitAt A s n = some (nb9 s n.toNat, A) := by
  unfold f_CS_digitAt
  rw [dA_ok h hn]
/-- a state in which a name has another value -/
def wd (s n v : Int) : Int := iOr (iAnd s (iXor (iShl 15 ((5 - n) * 4)) (-1))) (iShl v ((5 - n) * 4))
theorem c_with {A : mA} {s n v : Int} : f_CS_withDigit A s n v = some (wd s n v, A) := rfl
theorem st9_wd {s n v : Int} {d : Nat → Int} (h : st9 s d) (hn : 0 ≤ n ∧ n < 6) (hv : 0 ≤ v ∧ v ≤ 9) : st9 (wd s n v) (fun j => if j = n.toNat then v else d j) := by
  obtain ⟨q1, q2⟩ := wD_ok (s := s) (n := n) (v := v) h.1 hn ⟨hv.1, by omega⟩
  refine ⟨q1, fun j hj => ?_⟩
  rw [show nb9 (wd s n v) j = _ from q2 j hj]
  show _ = (if j = n.toNat then v else d j) ∧ 0 ≤ (if j = n.toNat then v else d j) ∧ (if j = n.toNat then v else d j) ≤ 9
  by_cases e : j = n.toNat
  · rw [if_pos e, if_pos e]
    exact ⟨rfl, hv⟩
  · rw [if_neg e, if_neg e]
    exact h.2 j hj
abbrev lok (n v : Int) : Prop := 0 ≤ n ∧ n ≤ 5 ∧ 0 ≤ v ∧ v ≤ 9
theorem c_letF {n v : Int} (hR : R9 x C A) (gn : g32 n) (gv : g32 v) : f_CS_let C x n v = some (if lok n v then (A 8 0 n.toNat, mu C 8 x 4 (wd (C 8 x 4) n v)) else (-2, C)) := by
  unfold f_CS_let
  rw [c_isName gn, obind]
  by_cases q1 : 0 ≤ n ∧ n < 6
  · rw [if_pos q1, if_pos (show g32 (1 : Int) by decide), if_neg (show ¬ (1 : Int) = 0 by decide)]
    dsimp only
    rw [c_isValue gv, obind]
    by_cases q2 : 0 ≤ v ∧ v < 10
    · rw [if_pos q2, if_pos (show g32 (1 : Int) by decide), if_neg (show ¬ (1 : Int) = 0 by decide)]
      dsimp only
      rw [c_digit hR.2.2.1.1.1 q1, obind]
      dsimp only
      rw [c_with, obind, if_pos (show lok n v from ⟨q1.1, by omega, q2.1, by omega⟩), (hR.2.2.1.1.2 n.toNat (by omega)).1]
    · rw [if_neg q2, if_pos (show g32 (0 : Int) by decide), if_pos rfl, if_neg (fun r => q2 ⟨r.2.2.1, by have := r.2.2.2; omega⟩)]
  · rw [if_neg q1, if_pos (show g32 (0 : Int) by decide), if_pos rfl, if_neg (fun r => q1 ⟨r.1, by have := r.2.1; omega⟩)]
theorem let9_alike {n v : Int} (hw : hW D G C w) (gx : G x = some 8) (hR : R9 x C A) (gn : g32 n) (gv : g32 v) : ∃ z C9 A9, f_CS_let C x n v = some (z, C9) ∧ R9 x C9 A9 ∧ (z = if lok n v then A 8 0 n.toNat else -2) ∧ A9 = if lok n v then mu A 8 0 n.toNat v else A := by
  rw [c_letF hR gn gv]
  by_cases q : lok n v
  · rw [if_pos q, if_pos q, if_pos q]
    obtain ⟨q1, q2, q3, q4⟩ := q
    refine ⟨A 8 0 n.toNat, mu C 8 x 4 (wd (C 8 x 4) n v), mu A 8 0 n.toNat v, rfl, ⟨R6.keep hw gx hR.1 (fun τ a k _ h => mu_ne _ _ (fun r => ?_)) ⟨rfl, rfl, rfl⟩ (fun _ _ => rfl) (fun _ _ => ⟨rfl, rfl⟩) (fun _ => rfl) (fun _ _ => rfl), hR.2.1.cg hR.1.1 rfl (fun _ => rfl) (fun _ _ _ _ _ => rfl) (fun _ _ _ _ => rfl) (fun _ _ _ _ _ _ _ => rfl) (fun _ _ _ _ => rfl) (fun _ _ _ _ _ _ => rfl) (Int.le_refl _) (fun _ _ => ⟨rfl, rfl, rfl⟩) (fun p _ f j h1 h2 _ _ _ => mu_ne _ _ (fun r => by omega)), ⟨?_, ?_⟩, hR.2.2.2.cg rfl (fun _ => rfl) (fun _ _ _ _ _ => rfl) (fun _ _ _ => rfl)⟩, rfl, rfl⟩
    · rw [r.1, r.2.2] at h
      exact absurd h (by decide)
    · rw [mu_at]
      refine (st9_wd hR.2.2.1.1 ⟨q1, by omega⟩ ⟨q3, q4⟩).cg (fun j hj => ?_)
      by_cases e : j = n.toNat
      · rw [if_pos e, e, mu_at]
      · rw [if_neg e, mu_ne _ _ (fun r => e r.2.2)]
    · exact hR.2.2.1.2
  · rw [if_neg q, if_neg q, if_neg q]
    exact ⟨_, _, _, rfl, hR, rfl, rfl⟩
theorem b9_let (l : Launch) (B : Nat) (H0 : Heap) (n v : Int32) (hw : hW D G C w) (gx : G x = some 8) (hR : R9 x C A) (hT : mTy A) (hI : mI A) : ∃ z B9, cFace9 l D B H0 y_CS_let b_CS_let 4 2 42 [.ref x, .int n, .int v] G w x z B9 ∧ ∀ w1, mW D ad A w1 → mFace9 l D B H0 y_Mo_let_0 b_Mo_let_0 4 920 23600 [.ref (ad 0 0), .int n, .int v] ad w1 x z B9 := by
  obtain ⟨z, C9, A9, h1, h2, h3, h4⟩ := let9_alike (n := n.toInt) (v := v.toInt) hw gx hR (ri n) (ri v)
  have eC : ∀ (ad : mAd) (f k : Nat), mSt ad [vr f k, vi n.toInt, vi v.toInt] = [.ref (ad f k), .int n, .int v] := fun ad f k => by
    show [Value.ref (ad f k), mc ad (vi n.toInt), mc ad (vi v.toInt)] = _
    simp only [ms_i]
  have kC := hx_CS_let l D B H0 G C x n.toInt v.toInt gx z C9 h1 w hw
  rw [eC hid 8 x] at kC
  refine ⟨z, A9, ⟨0, 0, _, Nat.zero_le _, Nat.zero_le _, kC, fun v w' p => ?_⟩, fun w1 hm => ?_⟩
  · obtain ⟨v8, A8, q1, ⟨q2, q3⟩, hw8, -⟩ := p
    subst q3
    exact ⟨by rw [q1, q2]; rfl, G, A8, fun _ _ h => h, hw8, h2⟩
  · have k1 := q_letF l D B H0 ad A hT n.toInt v.toInt (ri n) (ri v) hI w1 hm
    rw [eC ad 0 0] at k1
    refine ⟨_, k1, fun v2 w2 p => ?_⟩
    obtain ⟨v9, B9, q1, ⟨z9, q2, hT9, hE9, q3, q4, hI9⟩, hm9, hf9⟩ := p
    refine ⟨by rw [q1, q2, q3, h3]; rfl, B9, hm9, hf9, hT9, hI9, fun C1 h => ?_⟩
    rw [h4] at h
    by_cases q : lok n.toInt v.toInt
    · rw [if_pos q] at h
      refine h.cA ⟨hE9 0 0 0 rfl, hE9 0 0 22 rfl, hE9 0 0 37 rfl⟩ (fun j _ => hE9 9 0 j rfl) (fun j hj => ⟨?_, hE9 10 0 j rfl⟩) (fun p _ => ⟨hE9 5 0 p rfl, hE9 6 0 p rfl, hE9 7 0 p rfl⟩) (fun p _ f j q1 q2 _ _ _ => (hE9 f p j (stm34 q1 q2)).trans (mu_ne _ _ (fun r => by omega)).symm)
      rw [q4 j]
      by_cases e : j = n.toInt.toNat
      · rw [if_pos ⟨q, e⟩, e, mu_at]
      · rw [if_neg (fun r => e r.2), mu_ne _ _ (fun r => e r.2.2)]
    · rw [if_neg q] at h
      refine h.cA ⟨hE9 0 0 0 rfl, hE9 0 0 22 rfl, hE9 0 0 37 rfl⟩ (fun j _ => hE9 9 0 j rfl) (fun j hj => ⟨?_, hE9 10 0 j rfl⟩) (fun p _ => ⟨hE9 5 0 p rfl, hE9 6 0 p rfl, hE9 7 0 p rfl⟩) (fun p _ f j q1 q2 _ _ _ => hE9 f p j (stm34 q1 q2))
      rw [q4 j, if_neg (fun r => q r.1)]
end LT9
