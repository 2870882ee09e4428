/-! taken of both: alike (own work) -/
def cTk (A : mA) (o : Nat) (a0 a1 a2 : Int) : Option (Int × mA) := (if g32 a2 then (if a2 < 0 then (some ((-2), A)) else (if a2 ≤ 2 then (if g32 a1 then (if a1 < 0 then (some ((-12), A)) else (if (0 ≤ a0 ∧ a0 < ((6 : Nat) : Int)) then (if 0 ≤ (A 21 ((A 8 o 2).toNat) a0.toNat) then (if g32 (A 2 ((A 21 ((A 8 o 2).toNat) a0.toNat).toNat) 1) then (if a1 < (A 2 ((A 21 ((A 8 o 2).toNat) a0.toNat).toNat) 1) then (Option.bind (f_Prog_stepAt A ((A 21 ((A 8 o 2).toNat) a0.toNat).toNat) a1) (fun q18 => (Option.bind (f_CS_isOfGroup q18.2 (q18.2 6 q18.1.toNat 0) a2) (fun q21 => (if g32 q21.1 then (if q21.1 = 0 then (some ((-13), q21.2)) else (some ((q18.2 6 q18.1.toNat 0), q21.2))) else none))))) else (some ((-12), A))) else none) else none) else none)) else none) else (some ((-2), A)))) else none)
def mTk3 (A : mA) (a0 a1 a2 : Int) : Option (Int × mA) := (if (0 ≤ a1 ∧ a1 < ((16 : Nat) : Int)) then (if g32 a2 then (if a2 = 0 then (if g32 (A 34 a0.toNat a1.toNat) then (if (A 34 a0.toNat a1.toNat) < 2 then (some ((A 34 a0.toNat a1.toNat), A)) else (if (A 34 a0.toNat a1.toNat) = 5 then (some ((A 34 a0.toNat a1.toNat), A)) else (some ((-13), A)))) else none) else (if a2 = 1 then (if g32 (A 34 a0.toNat a1.toNat) then (if (A 34 a0.toNat a1.toNat) = 3 then (some ((A 34 a0.toNat a1.toNat), A)) else (if (A 34 a0.toNat a1.toNat) = 4 then (some ((A 34 a0.toNat a1.toNat), A)) else (some ((-13), A)))) else none) else (if g32 (A 34 a0.toNat a1.toNat) then (if (A 34 a0.toNat a1.toNat) = 0 then (some ((-13), A)) else (if (A 34 a0.toNat a1.toNat) = 4 then (some ((-13), A)) else (some ((A 34 a0.toNat a1.toNat), A)))) else none))) else none) else none)
def mTk2 (A : mA) (a0 a1 a2 : Int) : Option (Int × mA) := (if (0 ≤ a0 ∧ a0 < ((6 : Nat) : Int)) then (Option.bind (f_Mo_in A a1 0 ((A 5 0 a0.toNat) - 1)) (fun q10 => (if g32 q10.1 then (if q10.1 = 0 then some ((-12), q10.2) else mTk3 q10.2 a0 a1 a2) else none))) else none)
def mTk1 (A : mA) (a0 a1 a2 : Int) : Option (Int × mA) := Option.bind (f_Mo_in A a2 0 2) (fun q => if g32 q.1 then (if q.1 = 0 then some ((-2), q.2) else mTk2 q.2 a0 a1 a2) else none)
section TKN
variable {C A : mA} {x : Nat} {p s g : Int}
theorem stg {K : mA → Option (Int × mA)} {C : mA} {z : Int} {P : Prop} [Decidable P] : Option.bind (some ((if P then (1 : Int) else 0), C)) (fun q => if g32 q.1 then (if q.1 = 0 then some (z, q.2) else K q.2) else none) = if P then K C else some (z, C) := by
  by_cases h : P
  · rw [if_pos h, if_pos h]
    rfl
  · rw [if_neg h, if_neg h]
    rfl
theorem c_takenE : f_CS_taken C x p s g = Option.bind (f_CS_isProgram C x p) (fun q => if g32 q.1 then (if q.1 = 0 then some ((-2), q.2) else cTk q.2 x p s g) else none) := rfl
theorem m_takenE : f_Mo_taken A p s g = Option.bind (f_Mo_isProgram A p) (fun q => if g32 q.1 then (if q.1 = 0 then some ((-2), q.2) else mTk1 q.2 p s g) else none) := rfl
theorem c_isProg (hR : R3 x C A) (gp : g32 p) : f_CS_isProgram C x p = some (if 0 ≤ p ∧ p < A 0 0 0 then 1 else 0, C) := by
  obtain ⟨-, ⟨b1, b2, b3⟩, -, -, -, f1, -⟩ := hR
  unfold f_CS_isProgram
  rw [if_pos gp]
  by_cases q1 : p < 0
  · rw [if_pos q1, if_neg (by omega)]
  rw [if_neg q1, b1, if_pos (show g32 (A 0 0 0) by unfold g32; omega)]
  by_cases q2 : A 0 0 0 ≤ p
  · rw [if_pos q2, if_neg (by omega)]
  have q3 := (f1 p.toNat (by omega)).1
  rw [if_neg q2, if_neg (show ¬ 6 ≤ p by omega), if_pos (show 0 ≤ p ∧ p < ((6 : Nat) : Int) by omega), if_pos q3, if_pos (show 0 ≤ p ∧ p < A 0 0 0 by omega)]
theorem m_isProg (h : 0 ≤ A 0 0 0 ∧ A 0 0 0 ≤ 6) (gp : g32 p) : f_Mo_isProgram A p = some (if 0 ≤ p ∧ p < A 0 0 0 then 1 else 0, A) := by
  unfold f_Mo_isProgram
  rw [m_inF gp (by decide) (by unfold g32; omega), obind]
  by_cases q : 0 ≤ p ∧ p ≤ A 0 0 0 - 1
  · rw [if_pos q, if_pos (show 0 ≤ p ∧ p < A 0 0 0 by omega)]
    rfl
  · rw [if_neg q, if_neg (show ¬ (0 ≤ p ∧ p < A 0 0 0) by omega)]
    rfl
abbrev gTk (k g : Int) : Prop := g = 0 ∧ (k = 0 ∨ k = 1 ∨ k = 5) ∨ g = 1 ∧ (k = 3 ∨ k = 4) ∨ (g ≠ 0 ∧ g ≠ 1) ∧ (k = 1 ∨ k = 2 ∨ k = 3 ∨ k = 5)
theorem c_group {k : Int} (gk : g32 k) (gg : g32 g) : f_CS_isOfGroup C k g = some (if gTk k g then 1 else 0, C) := by
  unfold f_CS_isOfGroup
  rw [if_pos gg]
  by_cases g0 : g = 0
  · rw [if_pos g0, if_pos gk]
    by_cases k0 : k = 0
    · rw [if_pos k0, if_pos (Or.inl ⟨g0, Or.inl k0⟩)]
    rw [if_neg k0]
    by_cases k1 : k = 1
    · rw [if_pos k1, if_pos (Or.inl ⟨g0, Or.inr (Or.inl k1)⟩)]
    rw [if_neg k1]
    by_cases k5 : k = 5
    · rw [if_pos k5, if_pos (Or.inl ⟨g0, Or.inr (Or.inr k5)⟩)]
    rw [if_neg k5, if_neg (by unfold gTk; omega)]
  rw [if_neg g0]
  by_cases g1 : g = 1
  · rw [if_pos g1, if_pos gk]
    by_cases k3 : k = 3
    · rw [if_pos k3, if_pos (show gTk k g by unfold gTk; omega)]
    rw [if_neg k3]
    by_cases k4 : k = 4
    · rw [if_pos k4, if_pos (show gTk k g by unfold gTk; omega)]
    rw [if_neg k4, if_neg (by unfold gTk; omega)]
  rw [if_neg g1, if_pos gk]
  by_cases k1 : k = 1
  · rw [if_pos k1, if_pos (show gTk k g by unfold gTk; omega)]
  rw [if_neg k1]
  by_cases k2 : k = 2
  · rw [if_pos k2, if_pos (show gTk k g by unfold gTk; omega)]
  rw [if_neg k2]
  by_cases k3 : k = 3
  · rw [if_pos k3, if_pos (show gTk k g by unfold gTk; omega)]
  rw [if_neg k3]
  by_cases k5 : k = 5
  · rw [if_pos k5, if_pos (show gTk k g by unfold gTk; omega)]
  rw [if_neg k5, if_neg (by unfold gTk; omega)]
theorem c_stepA6 {pr : Nat} (h0 : 0 ≤ s) (h1 : s < 16) : f_Prog_stepAt C pr s = some (((sAd C pr s.toNat : Nat) : Int), C) := by
  unfold f_Prog_stepAt
  rw [if_pos (show g32 s by unfold g32; omega), if_neg (by omega), if_neg (by omega), if_pos (show 0 ≤ s ∧ s < ((16 : Nat) : Int) by omega)]
/-- what taken answers -/
def zTk (A : mA) (p s g : Int) : Int := if 0 ≤ p ∧ p < A 0 0 0 then (if 0 ≤ g ∧ g ≤ 2 then (if 0 ≤ s ∧ s < A 5 0 p.toNat then (if gTk (A 34 p.toNat s.toNat) g then A 34 p.toNat s.toNat else -13) else -12) else -2) else -2
theorem c_taken (hR : R6 x C A) (gp : g32 p) (gs : g32 s) (gg : g32 g) : f_CS_taken C x p s g = some (zTk A p s g, C) := by
  obtain ⟨-, ⟨b1, b2, b3⟩, -, -, -, f1, -⟩ := id hR.1
  rw [c_takenE, c_isProg hR.1 gp, stg (K := fun C => cTk C x p s g)]
  unfold zTk
  by_cases q1 : 0 ≤ p ∧ p < A 0 0 0
  · have q3 := (f1 p.toNat (by omega)).1
    obtain ⟨u1, u2, u3⟩ := hR.2.1 p.toNat (by omega)
    rw [if_pos q1, if_pos q1]
    unfold cTk
    rw [if_pos gg]
    by_cases q2 : g < 0
    · rw [if_pos q2, if_neg (show ¬ (0 ≤ g ∧ g ≤ 2) by omega)]
    rw [if_neg q2]
    by_cases q4 : g ≤ 2
    · rw [if_pos q4, if_pos (show 0 ≤ g ∧ g ≤ 2 by omega), if_pos gs]
      by_cases q5 : s < 0
      · rw [if_pos q5, if_neg (show ¬ (0 ≤ s ∧ s < A 5 0 p.toNat) by omega)]
      rw [if_neg q5, if_pos (show 0 ≤ p ∧ p < ((6 : Nat) : Int) by omega), if_pos q3, u1, if_pos (show g32 (A 5 0 p.toNat) by unfold g32; omega)]
      by_cases q6 : s < A 5 0 p.toNat
      · obtain ⟨v1, v2⟩ := u3 s.toNat (by omega)
        rw [if_pos q6, if_pos (show 0 ≤ s ∧ s < A 5 0 p.toNat by omega), c_stepA6 (by omega) (by omega), obind]
        show Option.bind (f_CS_isOfGroup C (C 6 (sAd C (aPr C x p.toNat) s.toNat) 0) g) _ = _
        rw [v1, c_group (by unfold g32; omega) gg, obind]
        by_cases q7 : gTk (A 34 p.toNat s.toNat) g
        · rw [if_pos q7, if_pos q7]
          show some (C 6 (sAd C (aPr C x p.toNat) s.toNat) 0, C) = _
          rw [v1]
        · rw [if_neg q7, if_neg q7]
          rfl
      · rw [if_neg q6, if_neg (show ¬ (0 ≤ s ∧ s < A 5 0 p.toNat) by omega)]
    · rw [if_neg q4, if_neg (show ¬ (0 ≤ g ∧ g ≤ 2) by omega)]
  · rw [if_neg q1, if_neg q1]
theorem m_taken (hR : R6 x C A) (gp : g32 p) (gs : g32 s) (gg : g32 g) : f_Mo_taken A p s g = some (zTk A p s g, A) := by
  obtain ⟨-, ⟨b1, b2, b3⟩, -, -, -, f1, -⟩ := id hR.1
  rw [m_takenE, m_isProg ⟨b2, b3⟩ gp, stg (K := fun A => mTk1 A p s g)]
  unfold zTk
  by_cases q1 : 0 ≤ p ∧ p < A 0 0 0
  · obtain ⟨u1, u2, u3⟩ := hR.2.1 p.toNat (by omega)
    rw [if_pos q1, if_pos q1]
    unfold mTk1
    rw [m_inF gg (by decide) (by decide), stg (K := fun A => mTk2 A p s g)]
    by_cases q2 : 0 ≤ g ∧ g ≤ 2
    · rw [if_pos q2, if_pos q2]
      unfold mTk2
      rw [if_pos (show 0 ≤ p ∧ p < ((6 : Nat) : Int) by omega), m_inF gs (by decide) (show g32 (A 5 0 p.toNat - 1) by unfold g32; omega), stg (K := fun A => mTk3 A p s g)]
      by_cases q3 : 0 ≤ s ∧ s < A 5 0 p.toNat
      · obtain ⟨-, v2⟩ := u3 s.toNat (by omega)
        rw [if_pos (show 0 ≤ s ∧ s ≤ A 5 0 p.toNat - 1 by omega), if_pos q3]
        unfold mTk3
        have gk : g32 (A 34 p.toNat s.toNat) := by unfold g32; omega
        rw [if_pos (show 0 ≤ s ∧ s < ((16 : Nat) : Int) by omega), if_pos gg, if_pos gk]
        by_cases g0 : g = 0
        · rw [if_pos g0]
          by_cases k1 : A 34 p.toNat s.toNat < 2
          · rw [if_pos k1, if_pos (show gTk (A 34 p.toNat s.toNat) g by unfold gTk; omega)]
          rw [if_neg k1]
          by_cases k5 : A 34 p.toNat s.toNat = 5
          · rw [if_pos k5, if_pos (show gTk (A 34 p.toNat s.toNat) g by unfold gTk; omega)]
          rw [if_neg k5, if_neg (show ¬ gTk (A 34 p.toNat s.toNat) g by unfold gTk; omega)]
        rw [if_neg g0]
        by_cases g1 : g = 1
        · rw [if_pos g1, if_pos gk]
          by_cases k3 : A 34 p.toNat s.toNat = 3
          · rw [if_pos k3, if_pos (show gTk (A 34 p.toNat s.toNat) g by unfold gTk; omega)]
          rw [if_neg k3]
          by_cases k4 : A 34 p.toNat s.toNat = 4
          · rw [if_pos k4, if_pos (show gTk (A 34 p.toNat s.toNat) g by unfold gTk; omega)]
          rw [if_neg k4, if_neg (show ¬ gTk (A 34 p.toNat s.toNat) g by unfold gTk; omega)]
        rw [if_neg g1, if_pos gk]
        by_cases k0 : A 34 p.toNat s.toNat = 0
        · rw [if_pos k0, if_neg (show ¬ gTk (A 34 p.toNat s.toNat) g by unfold gTk; omega)]
        rw [if_neg k0]
        by_cases k4 : A 34 p.toNat s.toNat = 4
        · rw [if_pos k4, if_neg (show ¬ gTk (A 34 p.toNat s.toNat) g by unfold gTk; omega)]
        rw [if_neg k4, if_pos (show gTk (A 34 p.toNat s.toNat) g by unfold gTk; omega)]
      · rw [if_neg (show ¬ (0 ≤ s ∧ s ≤ A 5 0 p.toNat - 1) by omega), if_neg q3]
    · rw [if_neg q2, if_neg q2]
  · rw [if_neg q1, if_neg q1]
end TKN
section BF66
variable {D : va_G} {G : tG} {ad : mAd} {C A : mA} {w : jW} {x : Nat}
theorem b6_taken (l : Launch) (B : Nat) (H0 : Heap) (p s g : Int32) (hw : hW D G C w) (gx : G x = some 8) (hR : R6 x C A) (hT : mTy A) (hI : mI A) (hS : mStr D ad) : ∃ z B9, cFace6 l D B H0 y_CS_taken b_CS_taken 5 1 21 [.ref x, .int p, .int s, .int g] G w x z B9 ∧ ∀ w1, mW D ad A w1 → mFace6 l D B H0 y_Mo_taken_1 b_Mo_taken_1 6 920 23600 [.ref (ad 0 0), .int p, .int s, .int g] ad w1 x z B9 := by
  have h1 := c_taken (p := p.toInt) (s := s.toInt) (g := g.toInt) hR (ri p) (ri s) (ri g)
  have h2 := m_taken (p := p.toInt) (s := s.toInt) (g := g.toInt) hR (ri p) (ri s) (ri g)
  have eC : ∀ (ad : mAd) (f k : Nat), mSt ad [vr f k, vi p.toInt, vi s.toInt, vi g.toInt] = [.ref (ad f k), .int p, .int s, .int g] := fun ad f k => by
    show [Value.ref (ad f k), mc ad (vi p.toInt), mc ad (vi s.toInt), mc ad (vi g.toInt)] = _
    simp only [ms_i]
  have kC := hx_CS_taken l D B H0 G C x p.toInt s.toInt g.toInt gx _ _ h1 w hw
  rw [eC hid 8 x] at kC
  refine ⟨zTk A p.toInt s.toInt g.toInt, A, ⟨0, 0, _, Nat.zero_le _, Nat.zero_le _, kC, fun v w' q => ?_⟩, fun w1 hm => ?_⟩
  · obtain ⟨v8, A8, q1, ⟨q2, q3⟩, hw8, -⟩ := q
    subst q3
    exact ⟨by rw [q1, q2]; rfl, G, A8, fun _ _ h => h, hw8, hR⟩
  · have k1 := q_takenF l D B H0 ad A hT p.toInt s.toInt g.toInt (ri p) (ri s) (ri g) hI w1 hm
    have k2 := x_Mo_taken l D B H0 ad A p.toInt s.toInt g.toInt hS _ _ h2 w1 hm
    rw [eC ad 0 0] at k1 k2
    refine ⟨_, jMet_both (fr := 920) (lo := 23600) k1 k2 (by decide) (by decide) (by decide) (by decide) (by decide) (by decide), fun v w2 q => ?_⟩
    obtain ⟨⟨v9, B9, -, ⟨z9, -, hT9, -, -, hI9⟩, hm9, hf9⟩, w', ⟨v8, A8, q1, ⟨q2, q3⟩, hm8, -⟩, hj⟩ := q
    subst q3
    exact ⟨by rw [q1, q2]; rfl, B9, hm9, hf9, hT9, hI9, fun C1 h => h.jA hT9 hm9 hm8 hj⟩
end BF66
