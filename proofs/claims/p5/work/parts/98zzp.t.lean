/-! image, back of both (own work) -/
section BF3
variable {D : va_G} {G : tG} {ad : mAd} {C A : mA} {w : jW} {x : Nat}
def H8 : List vT := match tyO 8 with
  | some o => o.2
  | none => []
theorem H8_ok : tyO 8 = some (8, H8) := rfl
theorem hW_onX {w1 : jW} {C1 : mA} {V1 : Nat → Value} (hw : hW D G C w) (gx : G x = some 8) (ho : onX w w1 x V1) (hC : ∀ τ a, ¬ (τ = 8 ∧ a = x) → C1 τ a = C τ a) (h : ∀ k t, H8[k]? = some t → hv G t (C1 8 x k) (V1 k)) : hW D G C1 w1 := fun a τ hg => by
  by_cases q : a = x
  · subst q
    rw [gx] at hg
    cases hg
    exact (hcell_O H8_ok).mpr ⟨V1, ho.1, h⟩
  · rw [ho.2.2 a q]
    exact hcell_congr (hC τ a (fun r => q r.2)) (hw a τ hg)
theorem hv_upd {C : mA} {V : Nat → Value} {p : Nat} {z : Int} {v : Value} (h : ∀ k t, H8[k]? = some t → hv G t (C 8 x k) (V k)) (hz : ∀ t, H8[p]? = some t → hv G t z v) : ∀ k t, H8[k]? = some t → hv G t (mu C 8 x p z 8 x k) (updV V p v k) := fun k t hk => by
  show hv G t (mu C 8 x p z 8 x k) (if k = p then v else V k)
  by_cases e : k = p
  · subst e
    rw [mu_at, if_pos rfl]
    exact hz t hk
  · rw [if_neg e, mu_ne C z (fun r => e r.2.2)]
    exact h k t hk
theorem both_image (l : Launch) (B : Nat) (H0 : Heap) (hw : hW D G C w) (gx : G x = some 8) (hR : R3 x C A) (hT : mTy A) (hI : mI A) : ∃ z B9, cFace l D B H0 y_CS_image b_CS_image 1 0 0 [.ref x] G w x z B9 ∧ ∀ w1, mW D ad A w1 → mFace l D B H0 y_Mo_image b_Mo_image 1 920 23600 [.ref (ad 0 0)] ad w1 x z B9 := by
  obtain ⟨⟨a1, a2, a3⟩, ⟨b1, b2, b3⟩, i1, d1, e1, f1, g1⟩ := id hR
  obtain ⟨V, hV, hF⟩ := (hcell_O H8_ok).mp (hw x 8 gx)
  have v3 : V 3 = .int (Int32.ofInt (C 8 x 3)) := hint1 rfl (hF 3 _ rfl)
  have v4 : V 4 = .int (Int32.ofInt (C 8 x 4)) := hint1 rfl (hF 4 _ rfl)
  refine ⟨A 0 0 0, mu A 0 0 37 (A 0 0 0), ⟨0, 0, _, Nat.zero_le _, Nat.zero_le _, e_CS_image l D B H0 w x V _ _ hV v3 v4, fun v w' p => ?_⟩, fun w1 hm => ⟨_, q_image l D B H0 ad A hT hI w1 hm, fun v w2 p => ?_⟩⟩
  · obtain ⟨q1, ho⟩ := p
    refine ⟨by rw [q1, b1], G, mu (mu (mu C 8 x 5 1) 8 x 6 (C 8 x 4)) 8 x 7 (C 8 x 3), fun _ _ h => h, hW_onX hw gx ho (fun τ a q => by rw [mu_fk _ _ _ q, mu_fk _ _ _ q, mu_fk _ _ _ q]) (hv_upd (hv_upd (hv_upd hF (fun t ht => by cases ht; exact rfl)) (fun t ht => by cases ht; exact rfl)) (fun t ht => by cases ht; exact rfl)), ?_⟩
    refine ⟨⟨a1, a2, a3⟩, ⟨b1, b2, b3⟩, Or.inr ⟨?_, ?_, ?_, ?_⟩, d1, fun p hp q => (e1 p hp q).cg (fun k _ => rfl) (fun k => rfl), f1, g1⟩
    · exact mu_at _ _ _ _ _
    · rw [mu_at, mu_at]
      exact b1.symm
    · rw [mu_at]
      omega
    · rw [mu_at]
      exact Int.le_refl _
  · obtain ⟨v9, A9, q1, ⟨z9, q2, hT9, hE9, q3, -, q4, hI9⟩, hm9, hf9⟩ := p
    refine ⟨by rw [q1, q2, q3]; rfl, A9, hm9, hf9, hT9, hI9, fun C1 h => h.cA ⟨hE9 0 0 0 rfl, hE9 0 0 22 rfl, ?_⟩ (fun j _ => hE9 9 0 j rfl) (fun p _ => ⟨hE9 6 0 p rfl, hE9 7 0 p rfl⟩)⟩
    rw [mu_at]
    exact q4
theorem both_back (l : Launch) (B : Nat) (H0 : Heap) (hw : hW D G C w) (gx : G x = some 8) (hR : R3 x C A) (hT : mTy A) (hI : mI A) : ∃ z B9, cFace l D B H0 y_CS_back b_CS_back 1 0 0 [.ref x] G w x z B9 ∧ ∀ w1, mW D ad A w1 → mFace l D B H0 y_Mo_back b_Mo_back 1 920 23600 [.ref (ad 0 0)] ad w1 x z B9 := by
  obtain ⟨⟨a1, a2, a3⟩, ⟨b1, b2, b3⟩, i1, d1, e1, f1, g1⟩ := id hR
  obtain ⟨V, hV, hF⟩ := (hcell_O H8_ok).mp (hw x 8 gx)
  have v5 : V 5 = .int (Int32.ofInt (C 8 x 5)) := hint1 rfl (hF 5 _ rfl)
  have v6 : V 6 = .int (Int32.ofInt (C 8 x 6)) := hint1 rfl (hF 6 _ rfl)
  have v7 : V 7 = .int (Int32.ofInt (C 8 x 7)) := hint1 rfl (hF 7 _ rfl)
  have cC := e_CS_back l D B H0 w x V _ _ _ hV v5 v6 v7
  rcases i1 with ⟨i1, i2⟩ | ⟨i1, i2, i3, i4⟩
  · rw [i1] at cC
    refine ⟨-3, A, ⟨0, 0, _, Nat.zero_le _, Nat.zero_le _, cC, fun v w' p => ?_⟩, fun w1 hm => ⟨_, q_back2 l D B H0 ad A hT hI w1 hm, fun v w2 p => ?_⟩⟩
    · rcases p with ⟨-, q1, q2⟩ | ⟨q, -⟩
      · exact ⟨q1, G, C, fun _ _ h => h, by rw [q2]; exact hw, hR⟩
      · exact absurd rfl q
    · obtain ⟨v9, A9, q1, ⟨z9, q2, hT9, hE9, -, -, hI9, q4⟩, hm9, hf9⟩ := p
      have q5 : z9 = -3 ∧ A9 0 0 0 = A 0 0 0 := by omega
      exact ⟨by rw [q1, q2, q5.1]; rfl, A9, hm9, hf9, hT9, hI9, fun C1 h => h.cA ⟨q5.2, hE9 0 0 22 rfl, hE9 0 0 37 rfl⟩ (fun j _ => hE9 9 0 j rfl) (fun p _ => ⟨hE9 6 0 p rfl, hE9 7 0 p rfl⟩)⟩
  · rw [i1] at cC
    refine ⟨A 0 0 37, mu A 0 0 0 (A 0 0 37), ⟨0, 0, _, Nat.zero_le _, Nat.zero_le _, cC, fun v w' p => ?_⟩, fun w1 hm => ⟨_, q_back2 l D B H0 ad A hT hI w1 hm, fun v w2 p => ?_⟩⟩
    · rcases p with ⟨q, -⟩ | ⟨-, q1, ho⟩
      · exact absurd q (by decide)
      · refine ⟨by rw [q1, i2], G, mu (mu C 8 x 4 (C 8 x 6)) 8 x 3 (C 8 x 7), fun _ _ h => h, hW_onX hw gx ho (fun τ a q => by rw [mu_fk _ _ _ q, mu_fk _ _ _ q]) (hv_upd (hv_upd hF (fun t ht => by cases ht; exact rfl)) (fun t ht => by cases ht; exact rfl)), ?_⟩
        refine ⟨⟨a1, a2, a3⟩, ⟨?_, ?_, ?_⟩, Or.inr ⟨i1, i2, i3, ?_⟩, d1, fun p hp q => (e1 p hp q).cg (fun k _ => rfl) (fun k => rfl), fun p hp => f1 p ?_, g1⟩
        · rw [mu_at, mu_at]
          exact i2.symm
        · rw [mu_at]
          omega
        · rw [mu_at]
          omega
        · rw [mu_at]
          exact Int.le_refl _
        · rw [mu_at] at hp
          omega
    · obtain ⟨v9, A9, q1, ⟨z9, q2, hT9, hE9, -, -, hI9, q4⟩, hm9, hf9⟩ := p
      have q5 : z9 = A 0 0 37 ∧ A9 0 0 0 = A 0 0 37 := by omega
      refine ⟨by rw [q1, q2, q5.1]; rfl, A9, hm9, hf9, hT9, hI9, fun C1 h => h.cA ⟨?_, hE9 0 0 22 rfl, hE9 0 0 37 rfl⟩ (fun j _ => hE9 9 0 j rfl) (fun p _ => ⟨hE9 6 0 p rfl, hE9 7 0 p rfl⟩)⟩
      rw [mu_at]
      exact q5.2
end BF3
