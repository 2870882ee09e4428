/-! whether two programs are alike, of both (own work) -/
section FAL
variable {D : va_G} {Gt G : tG} {C A : mA} {w : jW} {x sl hm k : Nat} {T : xT}
theorem WX.mem {A1 : mA} (h9 : R9 x C A) (hx : WX x G C A T sl hm) (hA : odF A A1) (hM : mCa T (mCn A) A1) : WX x G C A1 T sl hm := by
  obtain ⟨hp, h2, h3, h4, ⟨h5, h6⟩, -⟩ := id hx
  have e5 : mCn A1 = mCn A := by unfold mCn; rw [hA 0 0 0 (by omega)]
  exact ⟨WX.pg h9 hp (oeF.refl (C := C)) hA, h2, h3, by rw [e5]; exact h4, ⟨h5, by rw [e5]; exact h6⟩, by rw [e5]; exact hM⟩
set_option maxHeartbeats 2000000 in
theorem alike_both (hw : hW D Gt C w) (gx : Gt x = some 8) (h : R9 x C A) (hx : WX x G C A T sl hm) {p q : Int} (gp : g32 p) (gq : g32 q) (hk : rmK x C ≤ k) : FB x G C A T sl hm k (f_Mo_alike A p q) (w_CS_alike k G C x p q) := by
  obtain ⟨-, ⟨b1, b2, b3⟩, -⟩ := id h.1.1
  unfold f_Mo_alike w_CS_alike
  have g1 : g32 (1 : Int) := by decide
  have g0 : g32 (0 : Int) := by decide
  have n1 : ¬ (1 : Int) = 0 := by decide
  rw [m_isProg ⟨b2, b3⟩ gp, obind]
  by_cases q1 : 0 ≤ p ∧ p < A 0 0 0
  · rw [if_pos q1]
    dsimp only
    rw [if_pos g1, if_neg n1, m_isProg ⟨b2, b3⟩ gq, obind]
    by_cases q2 : 0 ≤ q ∧ q < A 0 0 0
    · rw [if_pos q2]
      dsimp only
      rw [if_pos g1, if_neg n1]
      obtain ⟨P, rfl⟩ : ∃ P : Nat, p = P := ⟨p.toNat, by omega⟩
      obtain ⟨P', rfl⟩ : ∃ P : Nat, q = P := ⟨q.toNat, by omega⟩
      obtain ⟨hT, hm', hE, hs, hmd⟩ := R10env h hx
      have hpc : P < mCn A := by unfold mCn; omega
      have h8 : ∀ j, j < 6 → 0 ≤ A 8 0 j ∧ A 8 0 j ≤ 9 := fun j hj => (h.2.2.1.1.2 j hj).2
      obtain ⟨A1, a1, a2, a3, a4, a5, a6, a7⟩ := m_odds hT hpc hm' hx.2.2.2.2.2 h8
      have h1 : R9 x C A1 := R9.oe hw gx h (oeF.refl (C := C)) a5
      have hx1 : WX x G C A1 T sl hm := hx.mem h a5 a2
      obtain ⟨o1, d1, c1⟩ := both_endH (k := k) (fun C' A' q1 q2 => R9.oe hw gx h q1 q2) h hx q1.2 hk a2 a4 a5
      obtain ⟨hT1, hm1, -⟩ := R10env h1 hx1
      have e10 : A1 0 0 0 = A 0 0 0 := a5 0 0 0 (by omega)
      have hpc' : P' < mCn A1 := by unfold mCn; rw [e10]; omega
      have e8 : ∀ j, A1 8 0 j = A 8 0 j := fun j => a5 8 0 j (by omega)
      have h33 : 0 ≤ A1 0 0 33 ∧ A1 0 0 33 ≤ 60 := by
        rcases d1 with ⟨y, -⟩ | y
        · have := a6 y; omega
        · have := a7 y; omega
      obtain ⟨u, hu⟩ : ∃ u : Nat, A1 0 0 33 = u := ⟨(A1 0 0 33).toNat, by omega⟩
      obtain ⟨r, A2, s1, rfl, s3, s4, s5, s6, s7⟩ := m_beside hT1 hpc' hm1 hx1.2.2.2.2.2 (fun j hj => by rw [e8]; exact h8 j hj) hu (by omega)
      have q2' : (P' : Int) < A1 0 0 0 := by rw [e10]; exact q2.2
      obtain ⟨o2, d2, -⟩ := both_endH (k := k) (fun C' A' q1 q2 => R9.oe hw gx h1 q1 q2) h1 hx1 q2' hk s3 s5 s6.od
      have hA2 : odF A A2 := a5.trans s6.od
      -- the second, behind the first
      have c2 : ∀ {C1 : mA} {G1 : tG} {k1 : Nat}, R9 x C1 A1 → WX x G1 C1 A1 T sl hm → oeF x C C1 → rmK x C + k1 = rmK x C1 + k → _ := fun {C1 G1 k1} v1 v2 v3 v4 => (both_endH (k := k1) (fun C' A' q1 q2 => R9.oe hw gx h (v3.trans q1) (a5.trans q2)) v1 v2 q2' (by omega) s3 s5 s6.od).2.2
      rw [a1, obind]
      dsimp only
      rw [s1, obind]
      dsimp only
      have g34 : g32 (A1 0 0 34) := by rcases d1 with ⟨y, -⟩ | y <;> rw [y] <;> decide
      have g34' : g32 (A2 0 0 34) := by rcases d2 with ⟨y, -⟩ | y <;> rw [y] <;> decide
      rw [if_pos g34]
      -- head of the class
      have head : ∀ Q : wQ, w_CS_endOf k G C x P (fun r30 A31 G32 k33 => (if 0 ≤ r30 then (w_CS_endOf k33 G32 A31 x P' (fun r40 A41 G42 k43 => (if 0 ≤ r40 then (if g32 (A41 0 r30.toNat 2) then (if (A41 0 r30.toNat 2) = 0 then (Q (-7) A41 G42 k43) else (if g32 (A41 0 r40.toNat 2) then (if (A41 0 r40.toNat 2) = 0 then (Q (-7) A41 G42 k43) else (w_CS_alike_65 20 k43 G42 A41 x r30.toNat r40.toNat 0 Q)) else False)) else False) else (Q (-6) A41 G42 k43)))) else (w_CS_endOf k33 G32 A31 x P' (fun r54 A55 G56 k57 => (if 0 ≤ r54 then (Q (-6) A55 G56 k57) else (Q (-6) A55 G56 k57)))))) → _ := fun Q hQ => (show (∃ q22, f_CS_isProgram C x P = some q22 ∧ (if g32 q22.1 then (if q22.1 = 0 then (Q (-2) q22.2 G k) else (∃ q26, f_CS_isProgram q22.2 x P' = some q26 ∧ (if g32 q26.1 then (if q26.1 = 0 then (Q (-2) q26.2 G k) else (w_CS_endOf k G q26.2 x P (fun r30 A31 G32 k33 => (if 0 ≤ r30 then (w_CS_endOf k33 G32 A31 x P' (fun r40 A41 G42 k43 => (if 0 ≤ r40 then (if g32 (A41 0 r30.toNat 2) then (if (A41 0 r30.toNat 2) = 0 then (Q (-7) A41 G42 k43) else (if g32 (A41 0 r40.toNat 2) then (if (A41 0 r40.toNat 2) = 0 then (Q (-7) A41 G42 k43) else (w_CS_alike_65 20 k43 G42 A41 x r30.toNat r40.toNat 0 Q)) else False)) else False) else (Q (-6) A41 G42 k43)))) else (w_CS_endOf k33 G32 A31 x P' (fun r54 A55 G56 k57 => (if 0 ≤ r54 then (Q (-6) A55 G56 k57) else (Q (-6) A55 G56 k57)))))))) else False))) else False)) from by
        refine ⟨_, c_isProg h.1.1 gp, ?_⟩
        rw [if_pos q1]
        dsimp only
        rw [if_pos g1, if_neg n1]
        refine ⟨_, c_isProg h.1.1 gq, ?_⟩
        rw [if_pos q2]
        dsimp only
        rw [if_pos g1, if_neg n1]
        exact hQ)
      rcases d1 with ⟨y1, gd1⟩ | y1
      · have hu2 : u = 2 := by have := a6 y1; omega
        subst hu2
        have many1 := oC_many (s6.oQ (k := 1) (by omega) o1)
        have eC1 := s6.oC (k := 1) (by omega)
        have many2 := oC_many o2
        rw [if_pos y1, if_pos g34']
        rcases d2 with ⟨y2, gd2⟩ | y2
        · rw [if_pos y2]
          have g112 : g32 (A2 1 1 2) := by have := (s6.oQ (k := 1) (by omega) o1).1; unfold g32; omega
          have g132 : g32 (A2 1 3 2) := by have o21 : 0 ≤ A2 1 3 2 ∧ A2 1 3 2 ≤ 301 := o2.1; unfold g32; omega
          have e3n : (((2 + 1 : Nat) : Int)).toNat = 3 := rfl
          have e1n : ((1 : Int)).toNat = 1 := rfl
          rw [e1n, e3n, if_pos g112]
          rw [eC1] at many1
          have many2' : A2 1 3 2 = (((oC A2 3).length : Nat) : Int) := many2
          -- behind both
          have both : ∀ (Q : wQ) (Wf : Int → Int → mA → tG → Nat → Prop), (∀ (C2 : mA) (G2 : tG) (k2 cr cr' : Nat) (l l' : List xE), CWs C2 cr l → CWs C2 cr' l' → gdL 50 l → gdL 50 l' → (oC A1 1).Perm l → (oC A2 3).Perm l' → (C2 8 x 11).toNat ≠ (C2 8 x 12).toNat → (∀ C', (∀ f a j, f ≠ 23 → C' f a j = C2 f a j) → R9 x C' A2 ∧ WX x G2 C' A2 T sl hm ∧ (∀ a τ, G a = some τ → G2 a = some τ) ∧ oeF x C C' ∧ rmK x C + k2 = rmK x C' + k) → Wf cr cr' C2 G2 k2) → w_CS_endOf k G C x P (fun r30 A31 G32 k33 => (if 0 ≤ r30 then (w_CS_endOf k33 G32 A31 x P' (fun r40 A41 G42 k43 => (if 0 ≤ r40 then Wf r30 r40 A41 G42 k43 else (Q (-6) A41 G42 k43)))) else (w_CS_endOf k33 G32 A31 x P' (fun r54 A55 G56 k57 => (if 0 ≤ r54 then (Q (-6) A55 G56 k57) else (Q (-6) A55 G56 k57)))))) := fun Q Wf hQ => by
            refine c1 _ (fun r k1 G1 C1 v1 v2 v3 v4 v5 v6 v7 => ?_)
            rcases v7 with ⟨-, v7⟩ | ⟨-, cr, l, v7, v8, v9, -, v10, v11, v12⟩
            · omega
            rw [v7, if_pos (Int.natCast_nonneg cr)]
            refine c2 v1 v2 v4 v5 _ (fun r' k2 G2 C2 w1 w2 w3 w4 w5 w6 w7 => ?_)
            rcases w7 with ⟨-, w7⟩ | ⟨-, cr', l', w7, w8, w9, -, w10, w11, w12⟩
            · omega
            rw [w7, if_pos (Int.natCast_nonneg cr')]
            obtain ⟨p1, p2, p3, p4, p5, p6⟩ := oe_pa v4
            obtain ⟨p1', p2', p3', p4', p5', p6'⟩ := oe_pa w4
            have hT9 := h.2.2.1.1
            have hss : vs9 (C 8 x 4) := vs9.of hT9
            have eud : ud (C 8 x 4) = dsum (A 8 0) := dsum_cg (fun j hj => (hT9.2 j hj).1)
            have hm1 : wMd x C1 P := (R10env v1 v2).2.2.2.2 P (by unfold mCn; rw [e10]; omega)
            have k1314 : C2 2 (aPr C x P) 13 = cr ∧ C2 2 (aPr C x P) 14 = C 8 x 4 := by
              by_cases z : P = P'
              · subst z
                rw [p5] at w6
                exact ⟨(w6.1 (by rw [v11]; exact Int.natCast_nonneg cr)).trans v11, w6.2.1.trans (v4 8 x 4 (by omega))⟩
              · rw [p5] at w6
                have e := w6.2.2 P z (by omega) hm1
                exact ⟨(e 13).trans v11, (e 14).trans v6.2.1⟩
            have hcr : CWs C2 cr l := by
              have e5 : mCn A2 = mCn A := by unfold mCn; rw [hA2 0 0 0 (by omega)]
              have hn := w2.2.2.2.2.1.2 P (by rw [e5]; exact hpc)
              rw [p5', p5, k1314.1, k1314.2] at hn
              rcases hn with z | ⟨-, -, ⟨-, l2, z1, z2⟩ | ⟨-, z⟩⟩
              · have := hss.1; omega
              · rw [eud, v12] at z1
                cases z1
                exact z2
              · rw [eud, v12] at z; cases z
            refine hQ C2 G2 k2 cr cr' l l' hcr w8 v9 w9 v10 w10 w2.2.1.2.2 (fun C' hf => ?_)
            obtain ⟨t1, t2, t3, t4⟩ := WX.row hw gx h (v4.trans w4) w1 w2 hA2 hf
            exact ⟨t1, t2, fun a τ z => w3 a τ (v3 a τ z), t3, by rw [t4]; omega⟩
          by_cases z1 : A2 1 1 2 = 0
          · rw [if_pos z1]
            refine ⟨_, A2, rfl, hA2, fun Q hQ => head Q (both Q _ (fun C2 G2 k2 cr cr' l l' m1 m2 m3 m4 m5 m6 m7 m8 => ?_))⟩
            have ml := m1.2.2.1
            have ml' := m2.2.2.1
            rw [Int.toNat_natCast, Int.toNat_natCast]
            have e0 : C2 0 cr 2 = 0 := by rw [ml, ← m5.length_eq]; omega
            rw [e0, if_pos g0, if_pos rfl]
            obtain ⟨t1, t2, t3, t4, t5⟩ := m8 C2 (fun _ _ _ _ => rfl)
            exact hQ k2 G2 C2 t1 t2 t3 t4 t5
          · rw [if_neg z1, if_pos g132]
            by_cases z2 : A2 1 3 2 = 0
            · rw [if_pos z2]
              refine ⟨_, A2, rfl, hA2, fun Q hQ => head Q (both Q _ (fun C2 G2 k2 cr cr' l l' m1 m2 m3 m4 m5 m6 m7 m8 => ?_))⟩
              have ml := m1.2.2.1
              have ml' := m2.2.2.1
              rw [Int.toNat_natCast, Int.toNat_natCast]
              have e0 : C2 0 cr 2 = A2 1 1 2 := by rw [ml, ← m5.length_eq]; omega
              have e1 : C2 0 cr' 2 = 0 := by rw [ml', ← m6.length_eq]; omega
              rw [e0, if_pos g112, if_neg z1, e1, if_pos g0, if_pos rfl]
              obtain ⟨t1, t2, t3, t4, t5⟩ := m8 C2 (fun _ _ _ _ => rfl)
              exact hQ k2 G2 C2 t1 t2 t3 t4 t5
            · rw [if_neg z2]
              have o1' := s6.oQ (k := 1) (by omega) o1
              have l1 : 0 < (oC A1 1).length := by omega
              have l2 : 0 < (oC A2 3).length := by omega
              obtain ⟨z, y3, y4⟩ := m_alOut (A := A2) (o := 1) (o' := 3) o1' (by rw [eC1]; exact gd1) (by rw [eC1]; exact l1) o2 gd2 l2 20 0 (by omega) (by omega)
              rw [eC1] at y4
              refine ⟨z, A2, y3, hA2, fun Q hQ => head Q (both Q _ (fun C2 G2 k2 cr cr' l l' m1 m2 m3 m4 m5 m6 m7 m8 => ?_))⟩
              have ml := m1.2.2.1
              have ml' := m2.2.2.1
              have L1 := m5.length_eq
              have L2 := m6.length_eq
              have e0 : C2 0 cr 2 = A2 1 1 2 := by rw [ml, ← L1]; omega
              have e1 : C2 0 cr' 2 = A2 1 3 2 := by rw [ml', ← L2]; omega
              rw [Int.toNat_natCast, Int.toNat_natCast, e0, if_pos g112, if_neg z1, e1, if_pos g132, if_neg z2]
              have cg := c_alOut (C0 := C2) (G := G2) (k := k2) (x := x) (cr := cr) (cr' := cr') (Q := Q) m1 m2 m3 (by rw [← L1]; exact l1) m4 (by rw [← L2]; exact l2) m7 (fun z9 C'' hz hf => by
                rw [← y4.uniq hz m5 m6]
                obtain ⟨t1, t2, t3, t4, t5⟩ := m8 C'' hf
                exact hQ k2 G2 C'' t1 t2 t3 t4 t5) 20 0 C2 (by decide) (by decide) (fun _ _ _ _ => rfl) (fun v' hv => absurd hv (Nat.not_lt_zero v'))
              exact cg
        · rw [if_neg (by omega)]
          refine ⟨_, A2, rfl, hA2, fun Q hQ => head Q (c1 _ (fun r k1 G1 C1 v1 v2 v3 v4 v5 v6 v7 => ?_))⟩
          rcases v7 with ⟨-, v7⟩ | ⟨-, cr, l, v7, -⟩
          · omega
          rw [v7, if_pos (Int.natCast_nonneg cr)]
          refine c2 v1 v2 v4 v5 _ (fun r' k2 G2 C2 w1 w2 w3 w4 w5 w6 w7 => ?_)
          rcases w7 with ⟨w7, -⟩ | ⟨w7, -⟩
          · rw [w7, if_neg (by decide)]
            exact hQ k2 G2 C2 w1 w2 (fun a τ z => w3 a τ (v3 a τ z)) (v4.trans w4) (by omega)
          · omega
      · rw [if_neg (by omega)]
        refine ⟨_, A2, rfl, hA2, fun Q hQ => head Q (c1 _ (fun r k1 G1 C1 v1 v2 v3 v4 v5 v6 v7 => ?_))⟩
        rcases v7 with ⟨v7, -⟩ | ⟨v7, -⟩
        · rw [v7, if_neg (by decide)]
          refine c2 v1 v2 v4 v5 _ (fun r' k2 G2 C2 w1 w2 w3 w4 w5 w6 w7 => ?_)
          have fin := hQ k2 G2 C2 w1 w2 (fun a τ z => w3 a τ (v3 a τ z)) (v4.trans w4) (by omega)
          by_cases y : 0 ≤ r'
          · rw [if_pos y]; exact fin
          · rw [if_neg y]; exact fin
        · omega
    · rw [if_neg q2]
      refine FB.stop h hx rfl (fun Q hQ => ⟨_, c_isProg h.1.1 gp, ?_⟩)
      rw [if_pos q1]
      dsimp only
      rw [if_pos g1, if_neg n1]
      refine ⟨_, c_isProg h.1.1 gq, ?_⟩
      rw [if_neg q2]
      dsimp only
      rw [if_pos g0, if_pos rfl]
      exact hQ
  · rw [if_neg q1]
    refine FB.stop h hx rfl (fun Q hQ => ⟨_, c_isProg h.1.1 gp, ?_⟩)
    rw [if_neg q1]
    dsimp only
    rw [if_pos g0, if_pos rfl]
    exact hQ
end FAL
