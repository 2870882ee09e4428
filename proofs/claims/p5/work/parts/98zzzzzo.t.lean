/-! faces that ask for odds: told, left, odds of both (own work) -/
theorem orD_s {c : Nat → kS} {N : Nat} : ∀ p, p ≤ N → nmS c (N + 1) (p + 1) = iOr (nmS c N p) (iOr (kSee 0 (sC (c N))) (if sN (c N) = -1 then 0 else iShl 1 (sN (c N)))) := by
  intro p
  induction p with
  | zero => intro _; rfl
  | succ p ih =>
    intro h
    have e : N + 1 - 1 - (p + 1) = N - 1 - p := by omega
    show iOr (nmS c (N + 1) (p + 1)) (iOr (kSee 0 (sC (c (N + 1 - 1 - (p + 1))))) (if sN (c (N + 1 - 1 - (p + 1))) = -1 then 0 else iShl 1 (sN (c (N + 1 - 1 - (p + 1)))))) = iOr (iOr (nmS c N p) (iOr (kSee 0 (sC (c (N - 1 - p)))) (if sN (c (N - 1 - p)) = -1 then 0 else iShl 1 (sN (c (N - 1 - p)))))) _
    rw [ih (by omega), e, iOr_3, iOr_c (iOr (kSee 0 (sC (c N))) _), ← iOr_3]
section FTO
variable {A : mA} {P N : Nat} {c : Nat → kS}
/-- the names of a program, up from its first step -/
theorem m_names (hP : P < 6) (h5 : A 5 0 P = N) (hN : N ≤ 16) (hm : ∀ i, i < N → mS9 A P i (c i)) (hx : ∀ i, i < N → okX (c i)) (hn : ∀ i, i < N → sN (c i) = -1 ∨ 0 ≤ sN (c i) ∧ sN (c i) ≤ 5) : ∀ (F i : Nat), i ≤ N → N - i < F → f_Mo_told_86 F A P (nmS c i i) i = some (nmS c N N, A) := by
  intro F
  induction F with
  | zero => intro i _ h; omega
  | succ F ih =>
    intro i h1 h2
    unfold f_Mo_told_86
    rw [if_pos (show 0 ≤ (P : Int) ∧ (P : Int) < ((6 : Nat) : Int) by omega), if_pos (show g32 (i : Int) by unfold g32; omega), Int.toNat_natCast, h5, if_pos (show g32 (N : Int) by unfold g32; omega)]
    by_cases z : N ≤ i
    · have : i = N := by omega
      subst this
      rw [if_pos (Int.le_refl _)]
    · have hi : i < N := by omega
      rw [if_neg (show ¬ (N : Int) ≤ (i : Int) by omega), if_pos (show 0 ≤ (i : Int) ∧ (i : Int) < ((16 : Nat) : Int) by omega)]
      simp only [Int.toNat_natCast]
      rw [m_nin hP (hm i hi) (hx i hi), obind]
      dsimp only
      have e35 : A 35 P i = sN (c i) := (hm i hi).1.2.1
      have g35 : g32 (sN (c i)) := by have := hn i hi; unfold g32; omega
      rw [if_pos (show g32 (A 35 P i) by rw [e35]; exact g35), show ((i : Int) + 1) = ((i + 1 : Nat) : Int) by omega]
      have es := orD_s (c := c) (N := i) i (Nat.le_refl i)
      by_cases k : sN (c i) = -1
      · rw [if_pos k] at es
        rw [if_pos (show A 35 P i = -1 by rw [e35]; exact k), ← es]
        exact ih (i + 1) hi (by omega)
      · rw [if_neg k] at es
        rw [if_neg (show ¬ A 35 P i = -1 by rw [e35]; exact k), e35, ← es]
        exact ih (i + 1) hi (by omega)
end FTO
/-- an answer of both, and what stands behind it -/
def FB (x : Nat) (G : tG) (C A : mA) (T : xT) (sl hm k : Nat) (F : Option (Int × mA)) (W : wQ → Prop) : Prop := ∃ z A', F = some (z, A') ∧ odF A A' ∧ ∀ Q : wQ, (∀ (k' : Nat) (G' : tG) (C' : mA), R9 x C' A' → WX x G' C' A' T sl hm → (∀ a τ, G a = some τ → G' a = some τ) → oeF x C C' → rmK x C + k' = rmK x C' + k → Q z C' G' k') → W Q
section FBS
variable {D : va_G} {Gt G G' : tG} {C C' A A' : mA} {w : jW} {x sl hm k k' : Nat} {T : xT} {F : Option (Int × mA)} {W : wQ → Prop}
theorem oeF.refl : oeF x C C := fun _ _ _ _ => rfl
theorem oeF.trans {C'' : mA} (h : oeF x C C') (h' : oeF x C' C'') : oeF x C C'' := fun f a j q => by
  obtain ⟨e1, e2, e3, -⟩ := oe_pa h
  rw [h' f a j (by rw [e1, e2, e3]; exact q), h f a j q]
theorem FB.stop {z : Int} (h : R9 x C A) (hx : WX x G C A T sl hm) (hF : F = some (z, A)) (hW : ∀ Q : wQ, Q z C G k → W Q) : FB x G C A T sl hm k F W := ⟨z, A, hF, odF.refl, fun Q hQ => hW Q (hQ k G C h hx (fun _ _ q => q) oeF.refl rfl)⟩
/-- rows may be written -/
theorem WX.row (hw : hW D Gt C w) (gx : Gt x = some 8) (h0 : R9 x C A) (he : oeF x C C') (h : R9 x C' A') (hx : WX x G C' A' T sl hm) (hA : odF A A') {C'' : mA} (hf : ∀ f a j, f ≠ 23 → C'' f a j = C' f a j) : R9 x C'' A' ∧ WX x G C'' A' T sl hm ∧ oeF x C C'' ∧ rmK x C'' = rmK x C' := by
  have h1 : oeF x C' C'' := fun f a j q => hf f a j (by omega)
  have h2 : oeF x C C'' := he.trans h1
  obtain ⟨q1, q2, q3, q4, q5, q6⟩ := oe_pa h1
  have hfs : ∀ f a j, (f = 2 ∧ j < 13) ∨ f = 4 → C'' f a j = C' f a j := fun f a j z => hf f a j (by omega)
  obtain ⟨hp, ⟨hW, h7, h11⟩, hR, hCa, ⟨hEa, hEn⟩, hM⟩ := hx
  have hwmd : ∀ q, wMd x C'' q ↔ wMd x C' q := fun q => by unfold wMd; rw [q4, q6]
  have cw : ∀ {a : Nat} {l : List xE}, CWs C' a l → CWs C'' a l := fun hc => hc.cg (fun j => hf 0 _ j (by omega)) (fun j => hf 31 _ j (by omega)) (fun j => hf 32 _ j (by omega))
  have fre : ∀ L a, wFree C'' (wSp C' x) L a → wFree C' (wSp C' x) L a := fun L a ⟨i, z1, z2, z3, z4⟩ => ⟨i, z1, z2, by rw [← hf 35 _ i (by omega)]; exact z3, by rw [← hf 35 _ i (by omega)]; exact z4⟩
  refine ⟨R9.oe hw gx h0 h2 hA, ⟨WX.pg h hp h1 odF.refl, ⟨by rw [q2, q3]; exact hW.cg (fun a ha => ⟨hf 0 a 0 (by omega), hf 0 a 1 (by omega), by rw [hf 0 a 2 (by omega)]; exact (hW.2.1 a ha).2.2.2.2.1, by rw [hf 0 a 3 (by omega)]; exact (hW.2.1 a ha).2.2.2.2.2⟩) (fun j _ => hf 1 _ j (by omega)) (fun j => hf 33 _ j (by omega)) (fun i _ => hf 35 _ i (by omega)), by rw [q1, hf 7 _ 2 (by omega)]; exact h7, by rw [hf 8 x 11 (by clear h11; omega), hf 8 x 12 (by clear h11; omega)]; exact h11⟩, fun u u' hu hu' n m1 m2 => ?_, by rw [q5]; exact hCa.fr hfs (fun a j => hf 28 a j (by omega)) (fun a j => hf 29 a j (by omega)), ⟨?_, ?_⟩, hM⟩, h2, ?_⟩
  · rw [q5, (wSd.fr hfs _).1, (wSd.fr hfs _).1, (wSd.fr hfs _).2, (wSd.fr hfs _).2]
    exact hR u u' hu hu' n ((hwmd u).mp m1) ((hwmd u').mp m2)
  · rw [q5, q3]
    intro u hu m1 h1'
    rw [hf 2 _ 13 (by omega)] at h1' ⊢
    obtain ⟨⟨v1, v3⟩, v2⟩ := hEa u hu ((hwmd u).mp m1) h1'
    refine ⟨⟨v1, fun z => v3 (fre _ _ z)⟩, fun u' hu' m2 hn h2' => ?_⟩
    rw [hf 2 _ 13 (by omega)] at h2' ⊢
    exact v2 u' hu' ((hwmd u').mp m2) hn h2'
  · rw [q5]
    intro u hu
    rw [hf 2 _ 14 (by omega), hf 2 _ 13 (by omega), hf 2 _ 15 (by omega)]
    rcases hEn u hu with y | ⟨y1, y2, ⟨y3, l, y4, y5⟩ | y3⟩
    · exact Or.inl y
    · exact Or.inr ⟨y1, y2, Or.inl ⟨y3, l, y4, cw y5⟩⟩
    · exact Or.inr ⟨y1, y2, Or.inr y3⟩
  · unfold rmK
    rw [q3, q4, q5, show nul C'' (wSp C' x) = nul C' (wSp C' x) from nulN_cg 40 (fun i _ => hf 35 _ i (by omega)), nulN_cg (f := fun p => if 0 ≤ C' 21 (aOa C' x) p then C' 2 (aPr C' x p) 13 else 0) 6 (fun i _ => by
      show (if 0 ≤ C'' 21 (aOa C' x) i then C'' 2 (aPr C' x i) 13 else 0) = _
      rw [q6, hf 2 _ 13 (by omega)])]
theorem oC_many {o : Nat} (h : oQ A o) : A 1 o 2 = (((oC A o).length : Nat) : Int) := by
  have h1 := h.1
  have : (oC A o).length = (A 1 o 2).toNat := oC_len
  omega
theorem told_both (hw : hW D Gt C w) (gx : Gt x = some 8) (h : R9 x C A) (hx : WX x G C A T sl hm) {p v : Int} (gp : g32 p) (gv : g32 v) (hk : rmK x C ≤ k) : FB x G C A T sl hm k (f_Mo_told A p v) (w_CS_told k G C x p v) := by
  obtain ⟨-, ⟨b1, b2, b3⟩, -, -, -, f1, g1⟩ := id h.1.1
  have em : f_Mo_told A p v = if 0 ≤ p ∧ p < A 0 0 0 then (if 0 ≤ v ∧ v ≤ 6 then (if v = 0 then (if (0 ≤ p ∧ p < ((6 : Nat) : Int)) then (some ((A 5 0 p.toNat), A)) else none) else (if v = 1 then (if (0 ≤ p ∧ p < ((6 : Nat) : Int)) then (some ((A 6 0 p.toNat), A)) else none) else (if v = 2 then (Option.bind (f_Mo_seesN 7 A p) (fun q36 => (if g32 q36.1 then (if q36.1 = 0 then (some (0, q36.2)) else (some (1, q36.2))) else none))) else (if v = 6 then (if (0 ≤ p ∧ p < ((6 : Nat) : Int)) then (some ((A 7 0 p.toNat), A)) else none) else (if v = 3 then (f_Mo_told_86 310 A p 0 0) else (Option.bind (f_Mo_oddsO A p (-1)) (fun q27 => (if v = 4 then (if g32 (q27.2 0 0 34) then (if (q27.2 0 0 34) = 0 then (some (0, q27.2)) else (some (1, q27.2))) else none) else (if g32 (q27.2 0 0 34) then (if (q27.2 0 0 34) = 0 then (some ((q27.2 1 q27.1.toNat 2), q27.2)) else (some ((-6), q27.2))) else none))))))))) else some (-2, A)) else some (-2, A) := by
    unfold f_Mo_told
    rw [m_isProg ⟨b2, b3⟩ gp, obind]
    by_cases q1 : 0 ≤ p ∧ p < A 0 0 0
    · rw [if_pos q1, if_pos q1]
      dsimp only
      rw [if_pos (show g32 (1 : Int) by decide), if_neg (show ¬ (1 : Int) = 0 by decide), m_inF gv (by decide) (by decide), obind]
      by_cases q2 : 0 ≤ v ∧ v ≤ 6
      · rw [if_pos q2, if_pos q2]
        dsimp only
        rw [if_pos (show g32 (1 : Int) by decide), if_neg (show ¬ (1 : Int) = 0 by decide), if_pos gv]
      · rw [if_neg q2, if_neg q2]
        rfl
    · rw [if_neg q1, if_neg q1]
      rfl
  rw [em]
  have ew : ∀ Q : wQ, (if 0 ≤ p ∧ p < A 0 0 0 then (if 0 ≤ v ∧ v ≤ 6 then (if (0 ≤ p ∧ p < ((6 : Nat) : Int)) then (if 0 ≤ (C 21 ((C 8 x 2).toNat) p.toNat) then (if v = 0 then (Q (C 2 ((C 21 ((C 8 x 2).toNat) p.toNat).toNat) 1) C G k) else if v = 1 then (Q (C 2 ((C 21 ((C 8 x 2).toNat) p.toNat).toNat) 8) C G k) else if v = 2 then (if g32 (C 2 ((C 21 ((C 8 x 2).toNat) p.toNat).toNat) 11) then (if (C 2 ((C 21 ((C 8 x 2).toNat) p.toNat).toNat) 11) = 0 then (Q 0 C G k) else (Q 1 C G k)) else False) else if v = 3 then (Q (C 2 ((C 21 ((C 8 x 2).toNat) p.toNat).toNat) 10) C G k) else if v = 4 then (w_CS_endOf k G C x p (fun r19 A20 G21 k22 => (if 0 ≤ r19 then (Q 0 A20 G21 k22) else (Q 1 A20 G21 k22)))) else if v = 5 then (w_CS_endOf k G C x p (fun r30 A31 G32 k33 => (if 0 ≤ r30 then (Q (A31 0 r30.toNat 2) A31 G32 k33) else (Q (-6) A31 G32 k33)))) else (Q (C 2 ((C 21 ((C 8 x 2).toNat) p.toNat).toNat) 9) C G k)) else False) else False) else Q (-2) C G k) else Q (-2) C G k) → w_CS_told k G C x p v Q := fun Q hQ => by
    unfold w_CS_told
    refine ⟨_, c_isProg h.1.1 gp, ?_⟩
    by_cases q1 : 0 ≤ p ∧ p < A 0 0 0
    · rw [if_pos q1] at hQ ⊢
      dsimp only
      rw [if_pos (show g32 (1 : Int) by decide), if_neg (show ¬ (1 : Int) = 0 by decide), if_pos gv]
      by_cases q2 : v < 0
      · rw [if_neg (show ¬ (0 ≤ v ∧ v ≤ 6) by omega)] at hQ
        rw [if_pos q2]
        exact hQ
      · rw [if_neg q2]
        by_cases q3 : v ≤ 6
        · rw [if_pos (show 0 ≤ v ∧ v ≤ 6 by omega)] at hQ
          rw [if_pos q3]
          exact hQ
        · rw [if_neg (show ¬ (0 ≤ v ∧ v ≤ 6) by omega)] at hQ
          rw [if_neg q3]
          exact hQ
    · rw [if_neg q1] at hQ ⊢
      dsimp only
      rw [if_pos (show g32 (0 : Int) by decide), if_pos rfl]
      exact hQ
  have stop : ∀ {F : Option (Int × mA)} {W : wQ → Prop} {z : Int}, F = some (z, A) → (∀ Q : wQ, Q z C G k → W Q) → FB x G C A T sl hm k F W := fun hF hW => FB.stop h hx hF hW
  by_cases q1 : 0 ≤ p ∧ p < A 0 0 0
  · rw [if_pos q1]
    simp only [if_pos q1] at ew
    by_cases q2 : 0 ≤ v ∧ v ≤ 6
    · rw [if_pos q2]
      simp only [if_pos q2] at ew
      obtain ⟨P, rfl⟩ : ∃ P : Nat, p = P := ⟨p.toNat, by omega⟩
      have rp : 0 ≤ (P : Int) ∧ (P : Int) < ((6 : Nat) : Int) := by omega
      obtain ⟨r21, e8, e9, -, -, e11⟩ := f1 P q1.2
      simp only [if_pos rp, Int.toNat_natCast] at ew ⊢
      simp only [if_pos (show 0 ≤ C 21 (C 8 x 2).toNat P from r21)] at ew
      obtain ⟨⟨o1, o2⟩, ⟨v1, v2⟩, ⟨w1, w2⟩, pE, bE, tE, sE, el, wg, t1, t2, t3, t4⟩ := hx.1 P q1.2
      have x1 : C 2 (C 21 (C 8 x 2).toNat P).toNat 1 = A 5 0 P := v1.trans w1.symm
      by_cases c0 : v = 0
      · simp only [if_pos c0] at ew ⊢
        exact stop rfl (fun Q hQ => ew Q (by rw [x1]; exact hQ))
      simp only [if_neg c0] at ew ⊢
      by_cases c1 : v = 1
      · simp only [if_pos c1] at ew ⊢
        exact stop rfl (fun Q hQ => ew Q (by
          have e : C 2 (C 21 (C 8 x 2).toNat P).toNat 8 = A 6 0 P := e8
          rw [e]; exact hQ))
      simp only [if_neg c1] at ew ⊢
      by_cases c2 : v = 2
      · simp only [if_pos c2] at ew ⊢
        obtain ⟨s1, s2⟩ := m_sees h P 7 (by omega) q1.2
        have g11 : g32 (C 2 (aPr C x P) 11) := by unfold g32; omega
        rw [s1, obind]
        dsimp only
        rw [if_pos g11]
        by_cases z : C 2 (aPr C x P) 11 = 0
        · rw [if_pos z]
          exact stop rfl (fun Q hQ => ew Q (by rw [if_pos (show g32 (C 2 (C 21 (C 8 x 2).toNat P).toNat 11) from g11), if_pos (show C 2 (C 21 (C 8 x 2).toNat P).toNat 11 = 0 from z)]; exact hQ))
        · rw [if_neg z]
          exact stop rfl (fun Q hQ => ew Q (by rw [if_pos (show g32 (C 2 (C 21 (C 8 x 2).toNat P).toNat 11) from g11), if_neg (show ¬ C 2 (C 21 (C 8 x 2).toNat P).toNat 11 = 0 from z)]; exact hQ))
      simp only [if_neg c2] at ew ⊢
      by_cases c6 : v = 6
      · have n3 : ¬ v = 3 := by omega
        have n4 : ¬ v = 4 := by omega
        have n5 : ¬ v = 5 := by omega
        simp only [if_neg n3, if_neg n4, if_neg n5] at ew
        simp only [if_pos c6]
        exact stop rfl (fun Q hQ => ew Q (by
          have e : C 2 (C 21 (C 8 x 2).toNat P).toNat 9 = A 7 0 P := e9
          rw [e]; exact hQ))
      simp only [if_neg c6]
      by_cases c3 : v = 3
      · simp only [if_pos c3] at ew ⊢
        have mn := m_names (N := (T P).1) (c := (T P).2) (by omega) w1 o1.1 w2 o2 (fun i hi => (o1.2.2 i hi).1.2.2.2.2.2.2.2) 310 0 (Nat.zero_le _) (by have := o1.1; omega)
        have mn' : f_Mo_told_86 310 A P 0 0 = some (nmS (T P).2 (T P).1 (T P).1, A) := mn
        exact stop mn' (fun Q hQ => ew Q (by
          have e : C 2 (C 21 (C 8 x 2).toNat P).toNat 10 = nmS (T P).2 (T P).1 (T P).1 := t3
          rw [e]; exact hQ))
      simp only [if_neg c3] at ew ⊢
      obtain ⟨A', a1, a2, -, a3, a4, a5⟩ := both_end hw gx h hx q1.2 hk
      rw [a1, obind]
      dsimp only
      have g34 : g32 (A' 0 0 34) := by rcases a4 with ⟨y, -⟩ | y <;> rw [y] <;> decide
      have many := oC_many a3
      have e1n : ((1 : Int)).toNat = 1 := rfl
      rw [e1n]
      by_cases c4 : v = 4
      · simp only [if_pos c4] at ew ⊢
        rw [if_pos g34]
        rcases a4 with ⟨y, -⟩ | y
        · rw [if_pos y]
          refine ⟨0, A', rfl, a2, fun Q hQ => ew Q (a5 _ (fun r k' G' C' b1 b2 b3 b4 b5 b6 => ?_))⟩
          rcases b6 with ⟨-, b6⟩ | ⟨-, cr, l, b6, -⟩
          · omega
          · rw [b6, if_pos (Int.natCast_nonneg cr)]
            exact hQ k' G' C' b1 b2 b3 b4 b5
        · rw [if_neg (by omega)]
          refine ⟨1, A', rfl, a2, fun Q hQ => ew Q (a5 _ (fun r k' G' C' b1 b2 b3 b4 b5 b6 => ?_))⟩
          rcases b6 with ⟨b6, -⟩ | ⟨b6, -⟩
          · rw [b6, if_neg (by decide)]
            exact hQ k' G' C' b1 b2 b3 b4 b5
          · omega
      · have c5 : v = 5 := by omega
        simp only [if_neg c4, if_pos c5] at ew ⊢
        rw [if_pos g34]
        rcases a4 with ⟨y, -⟩ | y
        · rw [if_pos y]
          refine ⟨_, A', rfl, a2, fun Q hQ => ew Q (a5 _ (fun r k' G' C' b1 b2 b3 b4 b5 b6 => ?_))⟩
          rcases b6 with ⟨-, b6⟩ | ⟨-, cr, l, b6, b7, -, -, b8⟩
          · omega
          · rw [b6, if_pos (Int.natCast_nonneg cr), Int.toNat_natCast, b7.2.2.1, ← b8.length_eq, ← many]
            exact hQ k' G' C' b1 b2 b3 b4 b5
        · rw [if_neg (by omega)]
          refine ⟨-6, A', rfl, a2, fun Q hQ => ew Q (a5 _ (fun r k' G' C' b1 b2 b3 b4 b5 b6 => ?_))⟩
          rcases b6 with ⟨b6, -⟩ | ⟨b6, -⟩
          · rw [b6, if_neg (by decide)]
            exact hQ k' G' C' b1 b2 b3 b4 b5
          · omega
    · rw [if_neg q2]
      simp only [if_neg q2] at ew
      exact stop rfl ew
  · rw [if_neg q1]
    simp only [if_neg q1] at ew
    exact stop rfl ew
end FBS
