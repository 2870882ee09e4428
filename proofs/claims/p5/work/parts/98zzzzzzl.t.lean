/-! film: both faces (own work) -/
section YTA
variable {D : va_G} {Gt G : tG} {C A : mA} {w : jW} {x sl hm k : Nat} {T : xT}
set_option maxHeartbeats 1000000 in
theorem film_both (hw : hW D Gt C w) (gx : Gt x = some 8) (h : R9 x C A) (hx : WX x G C A T sl hm) (hS : SH x C A) {s p n : Int} (gs : g32 s) (gp : g32 p) (gn : g32 n) (hk : rmK x C ≤ k) : FL x G C A T sl hm k (f_Mo_film A s p n) (w_CS_film k G C x s p n) := by
  obtain ⟨-, ⟨b1, b2, b3⟩, -⟩ := id h.1.1
  unfold f_Mo_film w_CS_film
  have g1 : g32 (1 : Int) := by decide
  have g0 : g32 (0 : Int) := by decide
  have n1 : ¬ (1 : Int) = 0 := by decide
  rw [m_isSheet gs, obind]
  by_cases q0 : 0 ≤ s ∧ s < 4
  · rw [if_pos q0]
    dsimp only
    rw [if_pos g1, if_neg n1, m_isProg ⟨b2, b3⟩ gp, obind]
    by_cases q1 : 0 ≤ p ∧ p < A 0 0 0
    · rw [if_pos q1]
      dsimp only
      rw [if_pos g1, if_neg n1, m_isName gn, obind]
      by_cases q2 : 0 ≤ n ∧ n ≤ 5
      · have q2' : 0 ≤ n ∧ n < 6 := by omega
        rw [if_pos q2]
        dsimp only
        rw [if_pos g1, if_neg n1]
        obtain ⟨S, rfl⟩ : ∃ S : Nat, s = S := ⟨s.toNat, by omega⟩
        obtain ⟨P, rfl⟩ : ∃ P : Nat, p = P := ⟨p.toNat, by omega⟩
        obtain ⟨N, rfl⟩ : ∃ N : Nat, n = N := ⟨n.toNat, by omega⟩
        have hs : S < 4 := by omega
        have hn : N < 6 := by omega
        have pS : 0 ≤ (S : Int) ∧ (S : Int) < ((4 : Nat) : Int) := by omega
        obtain ⟨A', a1, a2, -, a3, a4, a5⟩ := both_end hw gx h hx q1.2 hk
        have h34 : A' 0 0 34 = 0 ∨ A' 0 0 34 = 1 := a4.elim (fun y => Or.inl y.1) Or.inr
        have hS1 : ∀ C1, oeF x C C1 → SH x C1 A' := fun C1 q => hS.cg (fun f a j y => q f a j (by omega)) (fun f a j y => a2 f a j (by omega))
        have head : ∀ Q : wQ, w_CS_endOf k G C x P (fun r23 A24 G25 k26 => (if 0 ≤ r23 then (if g32 (A24 0 r23.toNat 2) then (if (A24 0 r23.toNat 2) = 0 then (Q (-7) A24 G25 k26) else (∃ q36, f_Crowd_spread A24 r23.toNat N ((A24 8 x 11).toNat) = some q36 ∧ (if (0 ≤ (S : Int) ∧ (S : Int) < ((4 : Nat) : Int)) then (∃ q41, f_Sheet_become q36.2 ((q36.2 22 ((q36.2 8 x 8).toNat) (S : Int).toNat).toNat) 0 10 = some q41 ∧ (w_CS_film_87 20 k26 G25 q41.2 x r23.toNat ((q36.2 22 ((q36.2 8 x 8).toNat) (S : Int).toNat).toNat) 0 Q)) else False))) else False) else (Q (-6) A24 G25 k26))) → (∃ q11, f_CS_isSheet C S = some q11 ∧ (if g32 q11.1 then (if q11.1 = 0 then (Q (-2) q11.2 G k) else (∃ q15, f_CS_isProgram q11.2 x P = some q15 ∧ (if g32 q15.1 then (if q15.1 = 0 then (Q (-2) q15.2 G k) else (∃ q19, f_CS_isName q15.2 N = some q19 ∧ (if g32 q19.1 then (if q19.1 = 0 then (Q (-2) q19.2 G k) else (w_CS_endOf k G q19.2 x P (fun r23 A24 G25 k26 => (if 0 ≤ r23 then (if g32 (A24 0 r23.toNat 2) then (if (A24 0 r23.toNat 2) = 0 then (Q (-7) A24 G25 k26) else (∃ q36, f_Crowd_spread A24 r23.toNat N ((A24 8 x 11).toNat) = some q36 ∧ (if (0 ≤ (S : Int) ∧ (S : Int) < ((4 : Nat) : Int)) then (∃ q41, f_Sheet_become q36.2 ((q36.2 22 ((q36.2 8 x 8).toNat) (S : Int).toNat).toNat) 0 10 = some q41 ∧ (w_CS_film_87 20 k26 G25 q41.2 x r23.toNat ((q36.2 22 ((q36.2 8 x 8).toNat) (S : Int).toNat).toNat) 0 Q)) else False))) else False) else (Q (-6) A24 G25 k26))))) else False))) else False))) else False)) := fun Q hQ => by
          refine ⟨_, c_isSheet gs, ?_⟩
          rw [if_pos q0]
          dsimp only
          rw [if_pos g1, if_neg n1]
          refine ⟨_, c_isProg h.1.1 gp, ?_⟩
          rw [if_pos q1]
          dsimp only
          rw [if_pos g1, if_neg n1]
          refine ⟨_, c_isName gn, ?_⟩
          rw [if_pos q2']
          dsimp only
          rw [if_pos g1, if_neg n1]
          exact hQ
        rw [a1, obind]
        dsimp only
        rw [show ((1 : Int)).toNat = 1 from rfl, m_agn a3 h34, obind]
        dsimp only
        rcases a4 with ⟨y, gl⟩ | y
        · rw [if_neg (show ¬ A' 0 0 34 = 1 by omega)]
          by_cases z0 : (oC A' 1).length = 0
          · rw [if_pos z0, if_pos (show g32 (-7) by decide), if_neg (by decide)]
            refine ⟨-7, A', rfl, fun Q hQ => head Q (a5 _ (fun r k' G' C1 c1 c2 c3 c4 c5 c6 => ?_))⟩
            rcases c6 with ⟨-, c6⟩ | ⟨-, cr, l, c6, c7, c8, -, c9⟩
            · omega
            · rw [c6, if_pos (Int.natCast_nonneg cr), Int.toNat_natCast, if_pos c7.g2, c7.2.2.1, if_pos (show ((l.length : Nat) : Int) = 0 by have := c9.length_eq; omega)]
              exact hQ k' G' C1 c1 c2 (hS1 C1 c4) c3 c5
          · rw [if_neg z0, if_pos g0, if_pos rfl, if_pos pS, Int.toNat_natCast]
            obtain ⟨A1, hA1⟩ : ∃ A1, A1 = mu (mu A' 11 0 S 0) 12 0 S 10 := ⟨_, rfl⟩
            have f1 : ∀ f a j, ¬ ((f = 11 ∧ a = 0 ∧ j = S) ∨ (f = 12 ∧ a = 0 ∧ j = S)) → A1 f a j = A' f a j := fun f a j q => by rw [hA1, mu_ne _ _ (by omega), mu_ne _ _ (by omega)]
            have eo : oC A1 1 = oC A' 1 := oC_cg (f1 1 1 2 (by omega)) (fun i _ => ⟨f1 3 1 i (by omega), f1 4 1 i (by omega)⟩)
            have q' : oQ A1 1 := ⟨by rw [f1 1 1 2 (by omega)]; exact a3.1, by rw [eo]; exact a3.2.1, by rw [eo]; exact a3.2.2⟩
            obtain ⟨A2, t1, t2, t3⟩ := m_film67 (A := A1) (s := S) (n := N) (o := 1) hs hn q' (by rw [eo]; exact gl) (by rw [eo]; omega) 10 0 20 A1 (by decide) (by decide) (fun _ _ _ _ => rfl) (fun i hi => absurd hi (Nat.not_lt_zero i))
            rw [← hA1]
            have x11 : A2 11 0 S = 0 := by rw [t2 11 0 S (by omega), hA1, mu_ne _ _ (by omega), mu_at]
            have x12 : A2 12 0 S = 10 := by rw [t2 12 0 S (by omega), hA1, mu_at]
            have hA2 : ∀ f a j, ¬ ((f = 11 ∧ a = 0 ∧ j = S) ∨ (f = 12 ∧ a = 0 ∧ j = S) ∨ (f = 49 ∧ a = S)) → A2 f a j = A' f a j := fun f a j q => by rw [t2 f a j (by omega), f1 f a j (by omega)]
            refine ⟨10, A2, t1, fun Q hQ => head Q (a5 _ (fun r k' G' C1 c1 c2 c3 c4 c5 c6 => ?_))⟩
            rcases c6 with ⟨-, c6⟩ | ⟨-, cr, l, c6, c7, c8, -, c9⟩
            · omega
            have l0 : 0 < l.length := by have := c9.length_eq; omega
            have hSH := hS1 C1 c4
            obtain ⟨C2, s1, s2, s3⟩ := c_spread (C0 := C1) (cr := cr) (row := (C1 8 x 11).toNat) (nm := N) c7.g2 hn
            have f2 : ∀ f a j, f ≠ 23 → C2 f a j = C1 f a j := fun f a j q => s2 f a j (fun y => q y.1)
            have eS : (C2 22 ((C2 8 x 8).toNat) S).toNat = shA C1 x S := by
              show (C2 22 ((C2 8 x 8).toNat) S).toNat = (C1 22 ((C1 8 x 8).toNat) S).toNat
              rw [f2 8 x 8 (by decide), f2 22 _ S (by decide)]
            have eK : (C2 5 (shA C1 x S) 0).toNat = shK C1 x S := by
              show (C2 5 (shA C1 x S) 0).toNat = (C1 5 (shA C1 x S) 0).toNat
              rw [f2 5 _ 0 (by decide)]
            obtain ⟨C3, u1, u2, u3, u4, u5⟩ := c_become (C := C2) (sh := shA C1 x S) (a0 := 0) (a1 := 10)
            rw [eK] at u4 u5
            have hc3 : CWs C3 cr l := (c7.cg (fun j => f2 0 _ j (by decide)) (fun j => f2 31 _ j (by decide)) (fun j => f2 32 _ j (by decide))).cg (fun j => u5 0 _ j (by omega)) (fun j => u5 31 _ j (by omega)) (fun j => u5 32 _ j (by omega))
            have eK3 : (C3 5 (shA C1 x S) 0).toNat = shK C1 x S := by rw [u5 5 _ 0 (by omega)]; exact eK
            rw [c6, if_pos (Int.natCast_nonneg cr), Int.toNat_natCast, if_pos c7.g2, c7.2.2.1, if_neg (show ¬ ((l.length : Nat) : Int) = 0 by omega)]
            refine ⟨_, s1, ?_⟩
            dsimp only
            rw [if_pos pS, Int.toNat_natCast, eS]
            refine ⟨_, u1, ?_⟩
            dsimp only
            have key : ∀ F : Nat, 10 < F → w_CS_film_87 F k' G' C3 x cr (shA C1 x S) 0 Q := fun F hF => c_film (C0 := C3) (x := x) (n := N) (G := G') (k := k') (Q := Q) hc3 c8 l0 (fun v hv => by rw [u5 8 x 11 (by omega), f2 8 x 11 (by decide), u5 23 _ v (by omega)]; exact s3 l c7 v hv) u2 u3 (fun C4 v1 v2 => by
              rw [eK3] at v1 v2
              have f4 : ∀ f a j, ¬ (f = 5 ∨ f = 23 ∨ f = 24) → C4 f a j = C1 f a j := fun f a j q => by rw [v1 f a j (by omega), u5 f a j (by omega), f2 f a j (by omega)]
              obtain ⟨r1, r2, r3, r4⟩ := WX.rowG hw gx h c4.g c1 c2 a2 f4
              have fS : ∀ f a j, f ≠ 11 → f ≠ 12 → f ≠ 49 → A2 f a j = A' f a j := fun f a j z1 z2 z3 => hA2 f a j (fun q => by
                rcases q with q | q | q
                · exact z1 q.1
                · exact z2 q.1
                · exact z3 q.1)
              refine hQ k' G' C4 (r1.cS fS) (r2.cS r1 fS) ?_ c3 (by rw [r4]; exact c5)
              refine hSH.upd hs (fun f a j q y => by rw [v1 f a j (fun z => y (Or.inr z)), u5 f a j y, f2 f a j (by omega)]) (fun f a j _ y => hA2 f a j y) ⟨⟨?_, ?_⟩, ?_, ?_, fun j hj => ?_⟩
              · rw [v1 5 _ 1 (by omega), u2, x11]
              · rw [v1 5 _ 2 (by omega), u3, x12]
              · exact Or.inr (Or.inl x11)
              · rw [x12]; decide
              · rw [x12] at hj
                have rr := hun_r c8 l0 N j
                rw [t3 j (by omega), v2 j (by omega), eo, hun_perm c9, x11]
                exact ⟨by unfold g32; omega, Or.inl ⟨rfl, rr.1, by omega, Or.inl ⟨by omega, rfl⟩⟩⟩) 10 0 F C3 (by decide) hF (fun _ _ _ _ => rfl) (fun i hi => absurd hi (Nat.not_lt_zero i))
            exact key 20 (by decide)
        · rw [if_pos y, if_pos (show g32 (-6) by decide), if_neg (by decide)]
          refine ⟨-6, A', rfl, fun Q hQ => head Q (a5 _ (fun r k' G' C1 c1 c2 c3 c4 c5 c6 => ?_))⟩
          rcases c6 with ⟨c6, -⟩ | ⟨c6, -⟩
          · rw [c6, if_neg (by decide)]
            exact hQ k' G' C1 c1 c2 (hS1 C1 c4) c3 c5
          · omega
      · have q2' : ¬ (0 ≤ n ∧ n < 6) := by omega
        rw [if_neg q2]
        refine (FB.stop h hx rfl (fun Q hQ => ⟨_, c_isSheet gs, ?_⟩)) |> FB.fl hS
        rw [if_pos q0]
        dsimp only
        rw [if_pos g1, if_neg n1]
        refine ⟨_, c_isProg h.1.1 gp, ?_⟩
        rw [if_pos q1]
        dsimp only
        rw [if_pos g1, if_neg n1]
        refine ⟨_, c_isName gn, ?_⟩
        rw [if_neg q2']
        dsimp only
        rw [if_pos g0, if_pos rfl]
        exact hQ
    · rw [if_neg q1]
      refine (FB.stop h hx rfl (fun Q hQ => ⟨_, c_isSheet gs, ?_⟩)) |> FB.fl hS
      rw [if_pos q0]
      dsimp only
      rw [if_pos g1, if_neg n1]
      refine ⟨_, c_isProg h.1.1 gp, ?_⟩
      rw [if_neg q1]
      dsimp only
      rw [if_pos g0, if_pos rfl]
      exact hQ
  · rw [if_neg q0]
    refine (FB.stop h hx rfl (fun Q hQ => ⟨_, c_isSheet gs, ?_⟩)) |> FB.fl hS
    rw [if_neg q0]
    dsimp only
    rw [if_pos g0, if_pos rfl]
    exact hQ
end YTA
