/-! generic faces; step of both: alike (own work) -/
def cSp (A : mA) (o : Nat) (a0 a1 a2 : Int) : Option (Int × mA) := (if g32 a2 then (if a2 < 0 then (some ((-2), A)) else (if a2 ≤ 5 then (if g32 a1 then (if a1 < 0 then (some ((-12), A)) else (if (0 ≤ a0 ∧ a0 < ((6 : Nat) : Int)) then (if 0 ≤ (A 21 ((A 8 o 2).toNat) a0.toNat) then (if g32 (A 2 ((A 21 ((A 8 o 2).toNat) a0.toNat).toNat) 1) then (if a1 < (A 2 ((A 21 ((A 8 o 2).toNat) a0.toNat).toNat) 1) then (Option.bind (f_Prog_stepAt A ((A 21 ((A 8 o 2).toNat) a0.toNat).toNat) a1) (fun q18 => (if a2 = 0 then (some ((q18.2 6 q18.1.toNat 0), q18.2)) else if a2 = 1 then (some ((q18.2 6 q18.1.toNat 1), q18.2)) else if a2 = 2 then (some ((q18.2 6 q18.1.toNat 3), q18.2)) else if a2 = 3 then (some ((q18.2 6 q18.1.toNat 7), q18.2)) else if a2 = 4 then (some ((q18.2 6 q18.1.toNat 6), q18.2)) else (some ((q18.2 6 q18.1.toNat 2), q18.2))))) else (some ((-12), A))) else none) else none) else none)) else none) else (some ((-2), A)))) else none)
def mSp3 (A : mA) (a0 a1 a2 : Int) : Option (Int × mA) := (if g32 a2 then (if a2 = 0 then (if (0 ≤ a1 ∧ a1 < ((16 : Nat) : Int)) then (some ((A 34 a0.toNat a1.toNat), A)) else none) else if a2 = 1 then (if (0 ≤ a1 ∧ a1 < ((16 : Nat) : Int)) then (some ((A 35 a0.toNat a1.toNat), A)) else none) else if a2 = 2 then (if (0 ≤ a1 ∧ a1 < ((16 : Nat) : Int)) then (some (((A 37 a0.toNat a1.toNat) - a1), A)) else none) else if a2 = 3 then (Option.bind (f_Mo_bitsOfStepN 20 A a0 a1) (fun q25 => (some (q25.1, q25.2)))) else if a2 = 4 then (if (0 ≤ a1 ∧ a1 < ((16 : Nat) : Int)) then (Option.bind (f_Mo_namesInN 121 A a0 (A 39 a0.toNat a1.toNat)) (fun q30 => (some (q30.1, q30.2)))) else none) else (if (0 ≤ a1 ∧ a1 < ((16 : Nat) : Int)) then (some ((A 36 a0.toNat a1.toNat), A)) else none)) else none)
def mSp2 (A : mA) (a0 a1 a2 : Int) : Option (Int × mA) := (if (0 ≤ a0 ∧ a0 < ((6 : Nat) : Int)) then (Option.bind (f_Mo_in A a1 0 ((A 5 0 a0.toNat) - 1)) (fun q10 => (if g32 q10.1 then (if q10.1 = 0 then some ((-12), q10.2) else mSp3 q10.2 a0 a1 a2) else none))) else none)
def mSp1 (A : mA) (a0 a1 a2 : Int) : Option (Int × mA) := Option.bind (f_Mo_in A a2 0 5) (fun q => if g32 q.1 then (if q.1 = 0 then some ((-2), q.2) else mSp2 q.2 a0 a1 a2) else none)
section FC9
variable {l : Launch} {D : va_G} {B : Nat} {H0 : Heap} {y : MethodName} {cc : ByteArray} {ml fr lo fr2 lo2 : Nat} {G : tG} {ad : mAd} {C C9 A A8 : mA} {w : jW} {x : Nat} {z : Int} {args : List mV} {av : List Value}
/-- a face of the class, out of its function -/
theorem cF9 (k : hMet l D B H0 G y cc ml (some .int) fr lo args C (fun v A' => v = some (vi z) ∧ A' = C9)) (hw : hW D G C w) (e : mSt hid args = av) (hR : R9 x C9 A8) : cFace9 l D B H0 y cc ml fr lo av G w x z A8 := by
  have kC := k w hw
  rw [e] at kC
  refine ⟨0, 0, _, Nat.zero_le _, Nat.zero_le _, kC, fun v w' q => ?_⟩
  obtain ⟨v8, A9, q1, ⟨q2, q3⟩, hw8, -⟩ := q
  subst q3
  exact ⟨by rw [q1, q2]; rfl, G, A9, fun _ _ h => h, hw8, hR⟩
/-- a face of the reference, out of its function and its safety -/
theorem mF9 {P1 : Option mV → mA → Prop} (k1 : mMet l D B H0 ad y cc ml (some .int) fr lo args A P1) (hP : ∀ v9 A9, P1 v9 A9 → mTy A9 ∧ mI A9) (k2 : mMet l D B H0 ad y cc ml (some .int) fr2 lo2 args A (fun v A' => v = some (vi z) ∧ A' = A8)) (hfr : fr2 ≤ fr) (hlo : lo2 ≤ lo) (e : mSt ad args = av) (w1 : jW) (hm : mW D ad A w1) : mFace9 l D B H0 y cc ml fr lo av ad w1 x z A8 := by
  have q1 := k1 w1 hm
  have q2 := k2 w1 hm
  rw [e] at q1 q2
  refine ⟨_, jMet_both (fr := fr) (lo := lo) q1 q2 (Nat.le_refl _) (Nat.le_refl _) hfr hlo (Nat.le_refl _) (Nat.le_refl _), fun v w2 q => ?_⟩
  obtain ⟨⟨v9, B9, -, h9, hm9, hf9⟩, w', ⟨v8, A9, p1, ⟨p2, p3⟩, hm8, -⟩, hj⟩ := q
  subst p3
  obtain ⟨hT9, hI9⟩ := hP _ _ h9
  exact ⟨by rw [p1, p2]; rfl, B9, hm9, hf9, hT9, hI9, fun C1 h => h.jA hT9 hm9 hm8 hj⟩
end FC9
section SPN
variable {C A : mA} {x : Nat} {p s g : Int}
theorem c_stepE : f_CS_step C x p s g = Option.bind (f_CS_isProgram C x p) (fun q => if g32 q.1 then (if q.1 = 0 then some ((-2), q.2) else cSp q.2 x p s g) else none) := rfl
theorem m_stepE : f_Mo_stepF A p s g = Option.bind (f_Mo_isProgram A p) (fun q => if g32 q.1 then (if q.1 = 0 then some ((-2), q.2) else mSp1 q.2 p s g) else none) := rfl
theorem mS9.b {A : mA} {p i : Nat} {s : kS} (h : mS9 A p i s) : mIsB p A i s := ⟨h.1.1, fun _ => h.1.2.2.1, h.2.2.2, h.1.2.2.2.1, h.1.2.2.2.2⟩
theorem step9_alike (hR : R9 x C A) (gp : g32 p) (gs : g32 s) (gg : g32 g) : ∃ z, f_CS_step C x p s g = some (z, C) ∧ f_Mo_stepF A p s g = some (z, A) := by
  obtain ⟨-, ⟨b1, b2, b3⟩, -, -, -, f1, -⟩ := id hR.1.1
  rw [c_stepE, c_isProg hR.1.1 gp, stg (K := fun C => cSp C x p s g), m_stepE, m_isProg ⟨b2, b3⟩ gp, stg (K := fun A => mSp1 A p s g)]
  by_cases q1 : 0 ≤ p ∧ p < A 0 0 0
  · have q3 := (f1 p.toNat (by omega)).1
    obtain ⟨u1, u2, u3⟩ := hR.1.2.1 p.toNat (by omega)
    obtain ⟨N, c, ⟨o1, o2⟩, ⟨v1, v2⟩, ⟨w1, w2⟩, pE, bE, tE, sE, el, wg, -, -, -, -⟩ := hR.2.1 p.toNat (by omega)
    rw [if_pos q1, if_pos q1]
    unfold cSp mSp1
    rw [if_pos gg, m_inF gg (by decide) (by decide), stg (K := fun A => mSp2 A p s g)]
    by_cases q2 : g < 0
    · rw [if_pos q2, if_neg (show ¬ (0 ≤ g ∧ g ≤ 5) by omega)]
      exact ⟨_, rfl, rfl⟩
    rw [if_neg q2]
    by_cases q4 : g ≤ 5
    · rw [if_pos q4, if_pos (show 0 ≤ g ∧ g ≤ 5 by omega), if_pos gs]
      have hm : mSp2 A p s g = if 0 ≤ s ∧ s ≤ A 5 0 p.toNat - 1 then mSp3 A p s g else some (-12, A) := by
        unfold mSp2
        rw [if_pos (show 0 ≤ p ∧ p < ((6 : Nat) : Int) by omega), m_inF gs (by decide) (show g32 (A 5 0 p.toNat - 1) by unfold g32; omega), stg (K := fun A => mSp3 A p s g)]
      rw [hm]
      by_cases q5 : s < 0
      · rw [if_pos q5, if_neg (show ¬ (0 ≤ s ∧ s ≤ A 5 0 p.toNat - 1) by omega)]
        exact ⟨_, rfl, rfl⟩
      rw [if_neg q5, if_pos (show 0 ≤ p ∧ p < ((6 : Nat) : Int) by omega), if_pos q3, u1, if_pos (show g32 (A 5 0 p.toNat) by unfold g32; omega)]
      by_cases q6 : s < A 5 0 p.toNat
      · obtain ⟨i, rfl⟩ : ∃ i : Nat, s = i := ⟨s.toNat, by omega⟩
        obtain ⟨P, rfl⟩ : ∃ P : Nat, p = P := ⟨p.toNat, by omega⟩
        simp only [Int.toNat_natCast] at *
        have hi : i < N := by omega
        have hP6 : P < 6 := by omega
        obtain ⟨⟨r0, r1, r2, r3, r4⟩, r5, r6, -, -⟩ := v2 i hi
        obtain ⟨⟨t0, t1, t2, t3, t4⟩, t5, t6, -⟩ := w2 i hi
        obtain ⟨x1, x2, x3, x4⟩ := o2 i hi
        rw [if_pos q6, if_pos (show 0 ≤ (i : Int) ∧ (i : Int) ≤ A 5 0 P - 1 by omega), c_stepA6 (by omega) (by omega), obind]
        unfold mSp3
        simp only [Int.toNat_natCast]
        rw [if_pos gg]
        by_cases g0 : g = 0
        · rw [if_pos g0, if_pos g0, if_pos (show 0 ≤ (i : Int) ∧ (i : Int) < ((16 : Nat) : Int) by omega), r0, t0]
          exact ⟨_, rfl, rfl⟩
        rw [if_neg g0, if_neg g0]
        by_cases g1 : g = 1
        · rw [if_pos g1, if_pos g1, if_pos (show 0 ≤ (i : Int) ∧ (i : Int) < ((16 : Nat) : Int) by omega), r1, t1]
          exact ⟨_, rfl, rfl⟩
        rw [if_neg g1, if_neg g1]
        by_cases g2 : g = 2
        · rw [if_pos g2, if_pos g2, if_pos (show 0 ≤ (i : Int) ∧ (i : Int) < ((16 : Nat) : Int) by omega), r3, t3]
          refine ⟨_, rfl, ?_⟩
          congr 2
          omega
        rw [if_neg g2, if_neg g2]
        by_cases g3 : g = 3
        · have hE : ∀ u : Nat, u < P → A 6 0 u = bE u ∧ 0 ≤ bE u ∧ bE u ≤ 50 := fun u hu => by
            obtain ⟨-, e2, -⟩ := el u hu
            obtain ⟨-, -, -, k6, -⟩ := f1 u (by omega)
            exact ⟨e2.symm, by omega, by omega⟩
          rw [if_pos g3, if_pos g3, (wg i hi).1, m_bitsB ⟨hP6, fun j hj => (w2 j hj).b⟩ o1 hE 20 i (by have := o1.1; omega) hi, obind]
          exact ⟨_, rfl, rfl⟩
        rw [if_neg g3, if_neg g3]
        by_cases g4 : g = 4
        · rw [if_pos g4, if_pos g4, if_pos (show 0 ≤ (i : Int) ∧ (i : Int) < ((16 : Nat) : Int) by omega), r6]
          by_cases k : sK (c i) = 0 ∨ sK (c i) = 4
          · rw [t6 k, m_names0 120, obind, x4 k]
            exact ⟨_, rfl, rfl⟩
          · obtain ⟨y1, n, y2⟩ := t5 (fun r => k (Or.inl r)) (fun r => k (Or.inr r))
            rw [m_namesIn hP6 n _ _ y2 y1 121 (by omega), obind]
            exact ⟨_, rfl, rfl⟩
        rw [if_neg g4, if_neg g4, if_pos (show 0 ≤ (i : Int) ∧ (i : Int) < ((16 : Nat) : Int) by omega), r2, t2]
        exact ⟨_, rfl, rfl⟩
      · rw [if_neg q6, if_neg (show ¬ (0 ≤ s ∧ s ≤ A 5 0 p.toNat - 1) by omega)]
        exact ⟨_, rfl, rfl⟩
    · rw [if_neg q4, if_neg (show ¬ (0 ≤ g ∧ g ≤ 5) by omega)]
      exact ⟨_, rfl, rfl⟩
  · rw [if_neg q1, if_neg q1]
    exact ⟨_, rfl, rfl⟩
end SPN
section SPF
variable {D : va_G} {G : tG} {ad : mAd} {C A : mA} {w : jW} {x : Nat}
theorem b9_step (l : Launch) (B : Nat) (H0 : Heap) (p s g : Int32) (hw : hW D G C w) (gx : G x = some 8) (hR : R9 x C A) (hT : mTy A) (hI : mI A) (hS : mStr D ad) : ∃ z B9, cFace9 l D B H0 y_CS_step b_CS_step 5 1 21 [.ref x, .int p, .int s, .int g] G w x z B9 ∧ ∀ w1, mW D ad A w1 → mFace9 l D B H0 y_Mo_step_1 b_Mo_step_1 4 910 23500 [.ref (ad 0 0), .int p, .int s, .int g] ad w1 x z B9 := by
  obtain ⟨z, h1, h2⟩ := step9_alike (p := p.toInt) (s := s.toInt) (g := g.toInt) hR (ri p) (ri s) (ri g)
  have eC : ∀ (ad : mAd) (f k : Nat), mSt ad [vr f k, vi p.toInt, vi s.toInt, vi g.toInt] = [.ref (ad f k), .int p, .int s, .int g] := fun ad f k => by
    show [Value.ref (ad f k), mc ad (vi p.toInt), mc ad (vi s.toInt), mc ad (vi g.toInt)] = _
    simp only [ms_i]
  exact ⟨z, A, cF9 (hx_CS_step l D B H0 G C x p.toInt s.toInt g.toInt gx _ _ h1) hw (eC hid 8 x) hR, fun w1 hm => mF9 (q_stepF l D B H0 ad A hT p.toInt s.toInt g.toInt (ri p) (ri s) (ri g) hI) (fun v9 A9 h => by
    obtain ⟨z9, -, hT9, -, -, hI9⟩ := h
    exact ⟨hT9, hI9⟩) (x_Mo_stepF l D B H0 ad A p.toInt s.toInt g.toInt hS _ _ h2) (by decide) (by decide) (eC ad 0 0) w1 hm⟩
end SPF
