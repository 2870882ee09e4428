/-! the reference: two contracts of one call; program, feed, image, back of both (own work) -/
theorem i32_inj {x y : Int} (h : Int32.ofInt x = Int32.ofInt y) (hx : -2147483648 ≤ x ∧ x ≤ 2147483647) (hy : -2147483648 ≤ y ∧ y ≤ 2147483647) : x = y := by
  have e := congrArg Int32.toInt h
  rw [iR hx, iR hy] at e
  exact e
section MJ
variable {D : va_G} {ad : mAd} {A A' : mA} {w w' : jW}
theorem m_jI {f c n a b : Nat} (hs : mfam f = (c, 0, n, a, b)) (hk : 0 < c) (h : mW D ad A w) (h' : mW D ad A' w') (hj : jAg D w w') {j : Nat} (hjn : j < n) : Int32.ofInt (A f 0 j) = Int32.ofInt (A' f 0 j) := by
  obtain ⟨B, H0, H, j1, j2⟩ := hj
  have k : 0 < mcnt f := by
    show 0 < (mfam f).1
    rw [hs]
    exact hk
  have q := jat_arr2 (j1.at ((mcell_I hs).mp (h.2 f 0 k))) (j2.at ((mcell_I hs).mp (h'.2 f 0 k)))
  exact Value.int.inj (arrV_eq (c := D.1 100) (c' := D.1 100) (n := n) (n' := n) (f := fun j => .int (Int32.ofInt (A f 0 j))) (g := fun j => .int (Int32.ofInt (A' f 0 j))) q hjn hjn)
theorem m_jO {p : Nat} (hp : p < 43) {q0 : Nat} (hs : mfld 10 p = some q0) (h0 : q0 = 0) (h : mW D ad A w) (h' : mW D ad A' w') (hj : jAg D w w') : Int32.ofInt (A 0 0 p) = Int32.ofInt (A' 0 0 p) := by
  subst h0
  obtain ⟨B, H0, H, j1, j2⟩ := hj
  obtain ⟨V, e1, v1⟩ := (mcell_O (rfl : mfam 0 = (1, 4, 10, 0, 0))).mp (h.2 0 0 (by decide))
  obtain ⟨V', e2, v2⟩ := (mcell_O (rfl : mfam 0 = (1, 4, 10, 0, 0))).mp (h'.2 0 0 (by decide))
  have q := jat_O (c := 10) (n := 43) ⟨_, rfl, Nat.le_of_ble_eq_true rfl⟩ (j1.at e1) (j2.at e2) p hp
  have a1 : V p = .int (Int32.ofInt (A 0 0 p)) := v1 p 0 hs
  have a2 : V' p = .int (Int32.ofInt (A' 0 0 p)) := v2 p 0 hs
  rw [a1, a2] at q
  exact (Value.int.inj q).symm
end MJ
section R3A
variable {D : va_G} {G : tG} {ad : mAd} {C A A9 : mA} {w w' : jW} {x : Nat}
theorem R3.cA (h : R3 x C A) (h0 : A9 0 0 0 = A 0 0 0 ∧ A9 0 0 22 = A 0 0 22 ∧ A9 0 0 37 = A 0 0 37) (h9 : ∀ j, j < 120 → A9 9 0 j = A 9 0 j) (h6 : ∀ p : Nat, (p : Int) < A 0 0 0 → A9 6 0 p = A 6 0 p ∧ A9 7 0 p = A 7 0 p) : R3 x C A9 := by
  obtain ⟨a1, b1, c1, d1, e1, f1, g1⟩ := h
  unfold R3
  rw [h0.1, h0.2.1, h0.2.2]
  refine ⟨a1, b1, c1, fun j hj => ?_, e1, fun p hp => ?_, g1⟩
  · rw [h9 j hj]
    exact d1 j hj
  · rw [(h6 p hp).1, (h6 p hp).2]
    exact f1 p hp
theorem R3.jA (h : R3 x C A9) (hT : mTy A) (hm : mW D ad A w) (hm' : mW D ad A9 w') (hj : jAg D w w') : R3 x C A := by
  obtain ⟨⟨-, a2, a3⟩, ⟨b1, b2, b3⟩, c1, d1, -, f1, -⟩ := id h
  have t0 : 0 ≤ A 0 0 0 ∧ A 0 0 0 ≤ 6 := hT 0 0 0
  have t22 : 0 ≤ A 0 0 22 ∧ A 0 0 22 ≤ 120 := hT 0 0 22
  have t37 : -1 ≤ A 0 0 37 ∧ A 0 0 37 ≤ 6 := hT 0 0 37
  have r37 : -1 ≤ A9 0 0 37 ∧ A9 0 0 37 ≤ 6 := by omega
  have e0 : A 0 0 0 = A9 0 0 0 := i32_inj (m_jO (p := 0) (by decide) rfl rfl hm hm' hj) (by omega) (by omega)
  refine h.cA ⟨e0, i32_inj (m_jO (p := 22) (by decide) rfl rfl hm hm' hj) (by omega) (by omega), i32_inj (m_jO (p := 37) (by decide) rfl rfl hm hm' hj) (by omega) (by omega)⟩ (fun j hj9 => ?_) (fun p hp => ?_)
  · have t9 : 0 ≤ A 9 0 j ∧ A 9 0 j ≤ 255 := hT 9 0 j
    have d9 := (d1 j hj9).2
    exact i32_inj (m_jI (f := 9) rfl (by decide) hm hm' hj hj9) (by omega) (by omega)
  · obtain ⟨-, -, -, f6, f7, -⟩ := f1 p hp
    have t6 : -2147483648 ≤ A 6 0 p ∧ A 6 0 p ≤ 2147483647 := hT 6 0 p
    have t7 : -2147483648 ≤ A 7 0 p ∧ A 7 0 p ≤ 2147483647 := hT 7 0 p
    exact ⟨i32_inj (m_jI (f := 6) (n := 6) rfl (by decide) hm hm' hj (by omega)) t6 (by omega), i32_inj (m_jI (f := 7) (n := 6) rfl (by decide) hm hm' hj (by omega)) t7 (by omega)⟩
end R3A
/-- a face of the class: it answers z, and stands by B9 -/
def cFace (l : Launch) (D : va_G) (B : Nat) (H0 : Heap) (y : MethodName) (cc : ByteArray) (ml fr lo : Nat) (av : List Value) (G : tG) (w : jW) (x : Nat) (z : Int) (B9 : mA) : Prop :=
  ∃ (mc ms : Nat) (P2 : Option Value → jW → Prop), mc ≤ KC - w.2.1 ∧ ms ≤ KS - w.2.2 ∧ jMet l D B H0 y cc ml (some .int) fr lo mc ms av w P2 ∧ ∀ v w', P2 v w' → v = some (.int (Int32.ofInt z)) ∧ ∃ (G1 : tG) (C1 : mA), (∀ a τ, G a = some τ → G1 a = some τ) ∧ hW D G1 C1 w' ∧ R3 x C1 B9
/-- a face of the reference: it answers z, and what stood by B9 stands by it -/
def mFace (l : Launch) (D : va_G) (B : Nat) (H0 : Heap) (y : MethodName) (cc : ByteArray) (ml fr lo : Nat) (av : List Value) (ad : mAd) (w : jW) (x : Nat) (z : Int) (B9 : mA) : Prop :=
  ∃ P2 : Option Value → jW → Prop, jMet l D B H0 y cc ml (some .int) fr lo 0 0 av w P2 ∧ ∀ v w', P2 v w' → v = some (.int (Int32.ofInt z)) ∧ ∃ A9 : mA, mW D ad A9 w' ∧ mfr ad w w' ∧ mTy A9 ∧ mI A9 ∧ ∀ C1, R3 x C1 B9 → R3 x C1 A9
section BF
variable {D : va_G} {G : tG} {ad : mAd} {C A : mA} {w : jW} {x : Nat}
theorem both_program (l : Launch) (B : Nat) (H0 : Heap) (hO : WOK D G w) (hb : bud G w) (hw : hW D G C w) (gx : G x = some 8) (hR : R3 x C A) (hT : mTy A) (hI : mI A) (hS : mStr D ad) : ∃ z B9, cFace l D B H0 y_CS_program b_CS_program 3 1860 74100 [.ref x] G w x z B9 ∧ ∀ w1, mW D ad A w1 → mFace l D B H0 y_Mo_program b_Mo_program 2 1705 66620 [.ref (ad 0 0)] ad w1 x z B9 := by
  obtain ⟨⟨a1, a2, a3⟩, ⟨b1, b2, b3⟩, i1, d1, e1, f1, g1⟩ := id hR
  obtain ⟨P, eP⟩ : ∃ P : Nat, A 0 0 0 = P := ⟨(A 0 0 0).toNat, by omega⟩
  have key : ∃ z B9, f_Mo_program A = some (z, B9) ∧ cFace l D B H0 y_CS_program b_CS_program 3 1860 74100 [.ref x] G w x z B9 := by
    by_cases hP : P < 6
    · have t25 : 0 ≤ A 0 0 25 ∧ A 0 0 25 ≤ 4 := hT 0 0 25
      obtain ⟨z, B9, m1, m2⟩ := m_program (P := P) (m := (A 0 0 22).toNat) (T := A 9 0) (bE := eB A) (tE := eT A) eP hP ⟨by omega, by omega, fun j hj => ⟨rfl, (d1 j hj).2⟩⟩ (by unfold g32; omega) (fun u hu => ⟨rfl, (f1 u (by omega)).2.2.2.1⟩) (fun u hu => ⟨rfl, (f1 u (by omega)).2.2.2.2.1⟩)
      obtain ⟨mc, ms, r1, r2, r3⟩ := cs_program l B H0 hO hb hw gx hR eP hP
      refine ⟨z, B9, m1, mc, ms, _, r1, r2, r3, fun v w' p => ?_⟩
      obtain ⟨z2, G1, C9, h1, h2, h3, h4⟩ := p
      obtain ⟨k1, k2, k3⟩ := h4 z B9 m2
      exact ⟨by rw [h1, k1], G1, C9, h2, h3, k3⟩
    · have e6 : A 0 0 0 = 6 := by omega
      refine ⟨-4, A, ?_, 0, 0, _, Nat.zero_le _, Nat.zero_le _, cs_prog6 l B H0 hw gx (b1.trans e6), fun v w' p => ⟨p.1, G, C, fun _ _ h => h, by rw [p.2]; exact hw, hR⟩⟩
      unfold f_Mo_program
      rw [e6, if_pos (by decide), if_pos rfl]
  obtain ⟨z, B9, m1, k1⟩ := key
  refine ⟨z, B9, k1, fun w1 hm => ⟨_, jMet_both (fr := 1705) (lo := 66620) (q_program l D B H0 ad A hS hT hI w1 hm) (x_Mo_program l D B H0 ad A hS z B9 m1 w1 hm) (by decide) (by decide) (by decide) (by decide) (by decide) (by decide), fun v w2 p => ?_⟩⟩
  obtain ⟨⟨v9, A9, -, ⟨z9, -, hT9, -, hI9, -⟩, hm9, hf9⟩, w', ⟨v8, A8, q1, ⟨q2, q3⟩, hm8, -⟩, hj⟩ := p
  subst q3
  exact ⟨by rw [q1, q2]; rfl, A9, hm9, hf9, hT9, hI9, fun C1 h => h.jA hT9 hm9 hm8 hj⟩
end BF
