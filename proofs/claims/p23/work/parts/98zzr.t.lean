section BF4
variable {D : va_G} {G : tG} {ad : mAd} {C A : mA} {w : jW} {x : Nat}
def zct (A : mA) (n : Int) : Int := if n = 0 then A 0 0 0 else if n = 1 then A 0 0 22 else if n = 2 then hU (A 8 0) 6 else -2
theorem both_count (l : Launch) (B : Nat) (H0 : Heap) (n : Int32) {V : Nat → Value} (hV : w.1 x = some (.inr (8, V))) (hw : hW D G C w) (gx : G x = some 8) (hR : R3 x C A) (hT : mTy A) (hI : mI A) (hR4 : R4 V A) : ∃ z B9, cFace l D B H0 y_CS_count b_CS_count 2 2 62 [.ref x, .int n] G w x z B9 (fun _ _ => True) ∧ ∀ w1, mW D ad A w1 → mFace l D B H0 y_Mo_count b_Mo_count 2 920 23600 [.ref (ad 0 0), .int n] ad w1 x z B9 (mEq nm0 A) := by
  obtain ⟨⟨a1, a2, a3⟩, ⟨b1, b2, b3⟩, i1, d1, e1, f1, g1⟩ := id hR
  obtain ⟨s, si, kp, r1, r2, r3, r4, r5⟩ := id hR4
  obtain ⟨V', hV', hF⟩ := (hcell_O H8_ok).mp (hw x 8 gx)
  rw [hV] at hV'
  cases hV'
  have v1 : V 1 = .int (Int32.ofInt (C 8 x 1)) := hint1 rfl (hF 1 _ rfl)
  have v3 : V 3 = .int (Int32.ofInt (C 8 x 3)) := hint1 rfl (hF 3 _ rfl)
  refine ⟨zct A n.toInt, A, ⟨0, 0, _, Nat.zero_le _, Nat.zero_le _, e_CS_count l D B H0 w x V n _ _ _ hV v1 v3 r1, fun v w' p => ⟨?_, G, C, fun _ _ h => h, by rw [p.2]; exact hw, hR, trivial⟩⟩, fun w1 hm => ?_⟩
  · rw [p.1, a1, b1, dU_ok r4 6 (Nat.le_refl _)]
    unfold zct
    by_cases q0 : n = 0
    · subst q0
      rfl
    by_cases q1 : n = 1
    · subst q1
      rfl
    by_cases q2 : n = 2
    · subst q2
      rfl
    rw [if_neg q0, if_neg q1, if_neg q2, if_neg (show ¬ n.toInt = 0 from fun e => q0 (Int32.toInt_inj.mp (e.trans (show (0 : Int) = (0 : Int32).toInt by decide)))), if_neg (show ¬ n.toInt = 1 from fun e => q1 (Int32.toInt_inj.mp (e.trans (show (1 : Int) = (1 : Int32).toInt by decide)))), if_neg (show ¬ n.toInt = 2 from fun e => q2 (Int32.toInt_inj.mp (e.trans (show (2 : Int) = (2 : Int32).toInt by decide))))]
    rfl
  · have qM := q_count2 l D B H0 ad A hT n.toInt (ri n) hI w1 hm
    have eM : mSt ad [vr 0 0, vi n.toInt] = [.ref (ad 0 0), .int n] := by
      show [Value.ref (ad 0 0), mc ad (vi n.toInt)] = _
      simp only [ms_i]
    rw [eM] at qM
    refine ⟨_, qM, fun v w2 p => ?_⟩
    obtain ⟨v9, A9, q1, ⟨z9, q2, hT9, hE9, -, hI9, q4⟩, hm9, hf9⟩ := p
    have ez : z9 = zct A n.toInt := by
      unfold zct
      have eh : hU (A 8 0) 6 = ((((A 8 0 0 * 10 + A 8 0 1) * 10 + A 8 0 2) * 10 + A 8 0 3) * 10 + A 8 0 4) * 10 + A 8 0 5 := by
        show (((((0 * 10 + A 8 0 0) * 10 + A 8 0 1) * 10 + A 8 0 2) * 10 + A 8 0 3) * 10 + A 8 0 4) * 10 + A 8 0 5 = _
        omega
      rw [eh]
      rcases q4 with ⟨c, e⟩ | ⟨c, e⟩ | ⟨c, e⟩ | ⟨⟨c0, c1, c2⟩, e⟩
      · rw [if_pos c, e]
      · rw [if_neg (by omega), if_pos c, e]
      · rw [if_neg (by omega), if_neg (by omega), if_pos c, e]
      · rw [if_neg c0, if_neg c1, if_neg c2, e]
    exact ⟨by rw [q1, q2, ez]; rfl, A9, hm9, hf9, hT9, hI9, fun C1 h => h.cA ⟨hE9 0 0 0 rfl, hE9 0 0 22 rfl, hE9 0 0 37 rfl⟩ (fun j _ => hE9 9 0 j rfl) (fun p _ => ⟨hE9 6 0 p rfl, hE9 7 0 p rfl⟩), hE9⟩
end BF4
