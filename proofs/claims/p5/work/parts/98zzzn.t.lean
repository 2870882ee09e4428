/-! comes of both: its faces (own work) -/
section COM
variable {C A C' A' : mA} {x wk : Nat}
/-- the relation stands, where only what a run by a seed writes is written -/
theorem R9.sm {D : va_G} {G : tG} {w : jW} (hw : hW D G C w) (gx : G x = some 8) (hR : R9 x C A) (h : SM wk C A C' A') : R9 x C' A' := (R9.keepC hw gx hR (fun τ a k _ q => h.1 τ a k (fun r => by
  rcases r with r | r
  · rw [r] at q
    cases q
  · rw [r.1] at q
    cases q))).cA ⟨h.2.1 0 0 0 (fun r => by omega), h.2.1 0 0 22 (fun r => by omega), h.2.1 0 0 37 (fun r => by omega)⟩ (fun j _ => h.2.1 9 0 j (fun r => by omega)) (fun j _ => ⟨h.2.1 8 0 j (fun r => by omega), h.2.1 10 0 j (fun r => by omega)⟩) (fun p _ => ⟨h.2.1 5 0 p (fun r => by omega), h.2.1 6 0 p (fun r => by omega), h.2.1 7 0 p (fun r => by omega)⟩) (fun p _ f j h1 h2 _ _ _ => h.2.1 f p j (fun r => by omega))
/-- what COMES by a seed -/
theorem by_sim (hR : R9 x C A) {p : Nat} (hp : (p : Int) < A 0 0 0) (seed : Int) (wk : Nat) : ∃ r r' C' A', f_Walk_comingBy C wk (aPr C x p) (C 8 x 4) seed = some (r, C') ∧ f_Mo_comesBy A p seed = some (r', A') ∧ rl r r' ∧ SM wk C A C' A' := by
  have b3 := hR.1.1.2.1.2.2
  have hS : ∃ f : Nat → Nat × (Nat → kS), ∀ q : Nat, (q : Int) < A 0 0 0 → pg9 x q C A (f q).1 (f q).2 := by
    refine (Classical.skolem (α := Nat) (b := fun _ => Nat × (Nat → kS)) (p := fun q y => (q : Int) < A 0 0 0 → pg9 x q C A y.1 y.2)).mp (fun q => ?_)
    by_cases h : (q : Int) < A 0 0 0
    · obtain ⟨N, c, k⟩ := hR.2.1 q h
      exact ⟨(N, c), fun _ => k⟩
    · exact ⟨(0, fun _ => kS0), fun h2 => absurd h2 h⟩
  obtain ⟨f, hf⟩ := hS
  have H : ∀ q : Nat, q < (A 0 0 0).toNat → pg9 x q C A (f q).1 (f q).2 := fun q hq => hf q (by omega)
  have hp6 : p < 6 := by omega
  have Hp := H p (by omega)
  have hN := Hp.1.1.1
  have sm0 : SM wk C A (mu C 7 wk 3 seed) (mu A 0 0 36 seed) := ⟨fun f a j q => mu_ne _ _ (fun r => q (Or.inr r)), fun f a j q => mu_ne _ _ q, by rw [mu_at, mu_at]⟩
  obtain ⟨st1, -⟩ := hR.2.2.1
  have dg : ∀ j, j < 6 → 0 ≤ A 8 0 j ∧ A 8 0 j ≤ 9 := fun j hj => (st1.2 j hj).2
  have k := blk_sim (wk := wk) (fst := f_Walk_fsN 40) (cst := f_Mo_csN 40) (d := 0) (L := 0) hp6 Hp (fun j hj hL C1 A1 s t D y1 y2 y3 => sim (wk := wk) (Nn := fun q => (f q).1) (cc := fun q => (f q).2) H (by omega) 40 p j 0 0 C1 A1 s t D (by omega) hj hL (by omega) (by omega) (by omega) y1 y2 y3) 16 0 (f p).1 (mu C 7 wk 3 seed) (mu A 0 0 36 seed) (C 8 x 4) (dsum (A 8 0)) 0 20 20 Hp.1.1.2.1 (Nat.le_refl _) sm0 (Or.inr ⟨A 8 0, st1, tn9_sum dg⟩) (by omega) (by omega) (by omega)
  obtain ⟨r, r', C', A', k1, k2, k3, k4⟩ := k
  refine ⟨r, r', C', A', ?_, ?_, k3, k4⟩
  · unfold f_Walk_comingBy
    rw [Hp.2.1.1, c_fB (by decide)]
    have k1' : f_Walk_followBlock_21 (f_Walk_fsN 40) 20 (mu C 7 wk 3 seed) wk (aPr C x p) ((f p).1 : Int) 0 (C 8 x 4) 0 0 = some (r, C') := k1
    rw [k1', obind]
  · unfold f_Mo_comesBy
    have ss : f_Mo_startState (mu A 0 0 36 seed) = some (dsum (A 8 0), mu A 0 0 36 seed) := m_startState (A := mu A 0 0 36 seed) dg
    rw [if_pos (show 0 ≤ (p : Int) ∧ (p : Int) < ((6 : Nat) : Int) by omega), ss, obind]
    have k2' : f_Mo_come_7 (f_Mo_csN 40) 20 (mu A 0 0 36 seed) p ((f p).1 : Int) (dsum (A 8 0)) 0 = some (r', A') := k2
    simp only [Int.toNat_natCast]
    rw [Hp.2.2.1.1]
    show Option.bind (f_Mo_come_7 (f_Mo_csN 40) 20 (mu A 0 0 36 seed) p ((f p).1 : Int) (dsum (A 8 0)) 0) _ = _
    rw [k2', obind]
theorem comes9_alike {p n : Int} (hR : R9 x C A) (gp : g32 p) : ∃ z C' A', f_CS_comes C x p n = some (z, C') ∧ f_Mo_comes A p n = some (z, A') ∧ ((C' = C ∧ A' = A) ∨ SM (C 8 x 10).toNat C A C' A') := by
  obtain ⟨-, ⟨b1, b2, b3⟩, -, -, -, f1, -⟩ := id hR.1.1
  unfold f_CS_comes f_Mo_comes
  rw [c_isProg hR.1.1 gp, obind, m_isProg ⟨b2, b3⟩ gp, obind]
  by_cases q1 : 0 ≤ p ∧ p < A 0 0 0
  · rw [if_pos q1, if_pos (show g32 (1 : Int) by decide), if_neg (show ¬ (1 : Int) = 0 by decide), if_pos (show g32 (1 : Int) by decide), if_neg (show ¬ (1 : Int) = 0 by decide)]
    simp only []
    obtain ⟨P, rfl⟩ : ∃ P : Nat, p = P := ⟨p.toNat, by omega⟩
    have q3 := (f1 P (by omega)).1
    obtain ⟨r, r', C', A', k1, k2, k3, k4⟩ := by_sim hR q1.2 n (C 8 x 10).toNat
    obtain ⟨gr, gr', gi⟩ := k3.g
    simp only [Int.toNat_natCast]
    rw [if_pos (show 0 ≤ (P : Int) ∧ (P : Int) < ((6 : Nat) : Int) by omega), if_pos q3, k2, obind]
    have k1' : f_Walk_comingBy C (C 8 x 10).toNat (C 21 (C 8 x 2).toNat P).toNat (C 8 x 4) n = some (r, C') := k1
    rw [k1', obind, if_pos gr]
    rcases k3 with ⟨z1, z2⟩ | ⟨D, z1, z2⟩
    · rw [if_pos z1]
      exact ⟨-1, C', A', rfl, by rw [z2], Or.inr k4⟩
    · have n1 : ¬ r = -1 := by have := z1.1; omega
      rw [if_neg n1, c_unpacked z1, obind]
      exact ⟨dsum D, C', A', rfl, by rw [z2.sum], Or.inr k4⟩
  · rw [if_neg q1, if_pos (show g32 (0 : Int) by decide), if_pos rfl, if_pos (show g32 (0 : Int) by decide), if_pos rfl]
    exact ⟨_, C, A, rfl, rfl, Or.inl ⟨rfl, rfl⟩⟩
end COM
section MF9M
variable {l : Launch} {D : va_G} {B : Nat} {H0 : Heap} {y : MethodName} {cc : ByteArray} {ml fr lo fr1 lo1 fr2 lo2 : Nat} {ad : mAd} {A A8 : mA} {x : Nat} {z : Int} {args : List mV} {av : List Value}
/-- a face of the reference, out of its function and its safety, in more room -/
theorem mF9m {P1 : Option mV → mA → Prop} (k1 : mMet l D B H0 ad y cc ml (some .int) fr1 lo1 args A P1) (hP : ∀ v9 A9, P1 v9 A9 → mTy A9 ∧ mI A9) (k2 : mMet l D B H0 ad y cc ml (some .int) fr2 lo2 args A (fun v A' => v = some (vi z) ∧ A' = A8)) (hfr1 : fr1 ≤ fr) (hlo1 : lo1 ≤ lo) (hfr : fr2 ≤ fr) (hlo : lo2 ≤ lo) (e : mSt ad args = av) (w1 : jW) (hm : mW D ad A w1) : mFace9 l D B H0 y cc ml fr lo av ad w1 x z A8 := by
  have q1 := k1 w1 hm
  have q2 := k2 w1 hm
  rw [e] at q1 q2
  refine ⟨_, jMet_both (fr := fr) (lo := lo) q1 q2 hfr1 hlo1 hfr hlo (Nat.le_refl _) (Nat.le_refl _), fun v w2 q => ?_⟩
  obtain ⟨⟨v9, B9, -, h9, hm9, hf9⟩, w', ⟨v8, A9, p1, ⟨p2, p3⟩, hm8, -⟩, hj⟩ := q
  subst p3
  obtain ⟨hT9, hI9⟩ := hP _ _ h9
  exact ⟨by rw [p1, p2]; rfl, B9, hm9, hf9, hT9, hI9, fun C1 h => h.jA hT9 hm9 hm8 hj⟩
end MF9M
section COMF
variable {D : va_G} {G : tG} {ad : mAd} {C A : mA} {w : jW} {x : Nat}
theorem b9_comes (l : Launch) (B : Nat) (H0 : Heap) (p n : Int32) (hw : hW D G C w) (gx : G x = some 8) (hR : R9 x C A) (hT : mTy A) (hI : mI A) (hS : mStr D ad) : ∃ z B9, cFace9 l D B H0 y_CS_comes b_CS_comes 4 274 8211 [.ref x, .int p, .int n] G w x z B9 ∧ ∀ w1, mW D ad A w1 → mFace9 l D B H0 y_Mo_comes b_Mo_comes 3 920 29400 [.ref (ad 0 0), .int p, .int n] ad w1 x z B9 := by
  obtain ⟨z, C', A', h1, h2, h3⟩ := comes9_alike (p := p.toInt) (n := n.toInt) hR (ri p)
  have hR9 : R9 x C' A' := by
    rcases h3 with ⟨rfl, rfl⟩ | h3
    · exact hR
    · exact R9.sm hw gx hR h3
  have eC : ∀ (ad : mAd) (f k : Nat), mSt ad [vr f k, vi p.toInt, vi n.toInt] = [.ref (ad f k), .int p, .int n] := fun ad f k => by
    show [Value.ref (ad f k), mc ad (vi p.toInt), mc ad (vi n.toInt)] = _
    simp only [ms_i]
  exact ⟨z, A', cF9 (hx_CS_comes l D B H0 G C x p.toInt n.toInt gx _ _ h1) hw (eC hid 8 x) hR9, fun w1 hm => mF9m (q_comes l D B H0 ad A hT p.toInt n.toInt (ri p) (ri n) hI) (fun v9 A9 h => by
    obtain ⟨z9, -, hT9, -, -, hI9⟩ := h
    exact ⟨hT9, hI9⟩) (x_Mo_comes l D B H0 ad A p.toInt n.toInt hS _ _ h2) (by decide) (by decide) (by decide) (by decide) (eC ad 0 0) w1 hm⟩
end COMF
