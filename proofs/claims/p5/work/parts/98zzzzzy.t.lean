/-! odds of the reference, some names forgotten: steps (own work) -/
section YGA
variable {T : xT} {b : Int → Int} {cnt n : Nat} {mk : mA → Int → Int → Int → Nat → Int → Option (Int × mA)}
def skN (T : xT) (cnt u x : Nat) (B' : Int) (A : mA) (r : Nat) (A' : mA) : Prop := u ≤ r ∧ r < 200 ∧ mkF u A A' ∧ mCa T cnt A' ∧ g32 (A' 0 0 35) ∧ oQ A' r ∧ ((A' 0 0 34 = 0 ∧ gdL B' (oC A' r) ∧ tot (oC A' r) ≤ tot (oC A x) ∧ ∃ z : Nat, A' 0 0 33 = z ∧ r < z ∧ z ≤ u + 5) ∨ A' 0 0 34 = 1)
theorem skN_of {u x : Nat} {B' : Int} {A A' : mA} {X : List xE} (hu : u < 200) (hf : pF u A A') (hc : mCa T cnt A) (h34 : A 0 0 34 = 0) (h35 : g32 (A 0 0 35)) (h33 : A' 0 0 33 = ((u + 1 : Nat) : Int)) (hQ : oQ A' u) (hX : oC A' u = mcl [] X) (hg : ∀ q ∈ X, (0 ≤ q.1 ∧ q.1 ≤ 999999) ∧ 0 ≤ q.2 ∧ dv B' ∣ q.2) (ht : tot X ≤ tot (oC A x)) (hl : tot (oC A x) ≤ 1125899906842624) : skN T cnt u x B' A u A' := by
  obtain ⟨g1, g2⟩ := gd_mcl hg (by omega)
  rw [← hX] at g1 g2
  exact ⟨Nat.le_refl _, hu, mkF.p hf, hc.p hf, by rw [hf 0 0 35 (by omega)]; exact h35, hQ, Or.inl ⟨by rw [hf 0 0 34 (by omega)]; exact h34, g1, by omega, u + 1, h33, by omega, by omega⟩⟩
set_option maxHeartbeats 1000000 in
theorem sn_k3 (hT : TB T b cnt) (hM : MKn T b cnt mk n) {P i x u : Nat} {B v : Int} {A : mA} (hP : P < cnt) (hi : i < (T P).1) (k : sK ((T P).2 i) = 3) (hd : dep P (sV ((T P).2 i)) < n + 1) (hm : mTab T cnt A) (hc : mCa T cnt A) (hu : A 0 0 33 = u) (h195 : u + 1 + pB P (sV ((T P).2 i)) ≤ 195) (hx : x < u) (hQ : oQ A x) (hl : gdL B (oC A x)) (h300 : (oC A x).length ≤ 300) (hB : 0 ≤ B) (h50 : B + gv (Fb (T P).2 b) 16 i ≤ 50) (h34 : A 0 0 34 = 0) (h35 : g32 (A 0 0 35)) (hv : g32 v) : ∃ r A', f_Mo_choose mk A P i x v = some (((r : Nat) : Int), A') ∧ skN T cnt u x (B + gv (Fb (T P).2 b) 16 i) A r A' := by
  have hc6 := hT.1
  obtain ⟨ho, hX, -⟩ := hT.2 P hP
  have h16 := ho.1
  have hvn : ∀ j, j < (T P).1 → 0 ≤ gv (Fb (T P).2 b) 16 j := fun j hj => hT.gv_nn hP 16 j hj
  obtain ⟨⟨hk, hv9, hi1, h3, -⟩, h9⟩ := ho.2.2 i hi
  obtain ⟨o0, o1, o2, t1, t2⟩ := h3 k
  have hr := rg9_of (by omega) ho hX hi
  rw [gv_eq (F := Fb (T P).2 b) (Fb_c ho) h16 hi, Fb_3 k] at h50 ⊢
  have n1 := tsm_nn (v := gv (Fb (T P).2 b) 16) (c := (T P).2) 16 (i + 1) (i + sO ((T P).2 i)) (fun j q1 q2 => hvn j (by omega))
  have n2 := tsm_nn (v := gv (Fb (T P).2 b) 16) (c := (T P).2) 16 (i + sO ((T P).2 i)) (i + sI ((T P).2 i)) (fun j q1 q2 => hvn j (by omega))
  have hdp : dep P (sV ((T P).2 i) + 1) + 1 = dep P (sV ((T P).2 i)) := by unfold dep; omega
  have hbp : pB P (sV ((T P).2 i) + 1) + 4 = pB P (sV ((T P).2 i)) ∧ 1 ≤ pB P (sV ((T P).2 i) + 1) := by unfold pB; omega
  have pP : 0 ≤ (P : Int) ∧ (P : Int) < ((6 : Nat) : Int) := by omega
  have pi : 0 ≤ (i : Int) ∧ (i : Int) < ((16 : Nat) : Int) := by omega
  have ei : ((i : Int) + 1) = ((i + 1 : Nat) : Int) := by omega
  have hp : (oC A x).Perm (oC A x) := List.Perm.refl _
  obtain ⟨f, hf⟩ : ∃ f : xE → Bool, f = (fun q => xv ((T P).2 i) q.1 != 0) := ⟨_, rfl⟩
  obtain ⟨f', hf'⟩ : ∃ f' : xE → Bool, f' = (fun q => !(xv ((T P).2 i) q.1 != 0)) := ⟨_, rfl⟩
  have tff : tot ((oC A x).filter f) + tot ((oC A x).filter f') = tot (oC A x) := by
    have e : f' = fun q => !f q := by rw [hf, hf']
    rw [e]
    exact tot_split
  have lf : ∀ g : xE → Bool, ((oC A x).filter g).length ≤ 300 := fun g => Nat.le_trans (List.length_filter_le _ _) h300
  obtain ⟨A1, a1, a2, a3, a4, a5⟩ := m_spl (l := oC A x) (P := P) (i := i) (by omega) (by omega) ((hm P hP).2 i hi) hr (by omega) (by omega) hu (by omega) hx rfl hQ (gd_g64 hp hl) (b := 1) (Or.inr rfl) f (fun q => by rw [hf]; simp)
  have g1 : (oC A1 u).Perm ((oC A x).filter f) := by rw [a5]; exact mcl_good (hl.sub f) (lf f) (hp.filter f)
  have m1 : mkF u A A1 := mkF.p a2
  obtain ⟨A2, b1, b2, b3, b4, b5, b6⟩ := hM P (i + 1) (i + sO ((T P).2 i)) u (u + 1) (sV ((T P).2 i) + 1) B v A1 hP t1 (by omega) (by omega) (by omega) (hm.fr hT m1) (hc.p a2) a3 (by omega) (by omega) a4 ((hl.sub f).pm g1) (by rw [g1.length_eq]; exact lf f) hB (by omega) (by rw [a2 0 0 34 (by omega)]; exact h34) (by rw [a2 0 0 35 (by omega)]; exact h35) hv
  have m2 : mkF u A A2 := m1.trans (b2.up (by omega))
  unfold f_Mo_choose
  simp only [Int.toNat_natCast]
  rw [if_pos pP, if_pos pi, a1, obind, hm.k38 hP hi k, ei]
  dsimp only
  rw [Int.toNat_natCast, b1, obind]
  dsimp only
  rw [Int.toNat_natCast]
  rcases b6 with ⟨w0, w1, w2, w3, w4⟩ | w0
  · rw [if_pos (show g32 (A2 0 0 34) by rw [w0]; decide), if_pos w0]
    have hm2 := hm.fr hT m2
    have eL : oC A2 x = oC A x := m2.oC hx
    obtain ⟨A3, d1, d2, d3, d4, d5⟩ := m_spl (l := oC A x) (P := P) (i := i) (e := (T P).2 i) (by omega) (by omega) ((hm2 P hP).2 i hi) hr (by omega) (by omega) w3 (by omega) (show x < u + 2 by omega) eL (m2.oQ hx hQ) (gd_g64 hp hl) (b := 0) (Or.inl rfl) f' (fun q => by rw [hf']; simp)
    have g2 : (oC A3 (u + 1 + 1)).Perm ((oC A x).filter f') := by rw [d5]; exact mcl_good (hl.sub f') (lf f') (hp.filter f')
    have m3 : mkF u A A3 := m2.trans ((mkF.p d2).up (by omega))
    have e34 : A3 0 0 34 = 0 := (d2 0 0 34 (by omega)).trans w0
    obtain ⟨A4, e1, e2, e3, e4, e5, e6⟩ := hM P (i + sO ((T P).2 i)) (i + sI ((T P).2 i)) (u + 1 + 1) (u + 1 + 1 + 1) (sV ((T P).2 i) + 1) B v A3 hP t2 (by omega) (by omega) (by omega) (hm.fr hT m3) (b3.p d2) d3 (by omega) (by omega) d4 ((hl.sub f').pm g2) (by rw [g2.length_eq]; exact lf f') hB (by omega) e34 (by rw [d2 0 0 35 (by omega)]; exact b4) hv
    have m4 : mkF u A A4 := m3.trans (e2.up (by omega))
    rw [d1, obind, hm2.k38 hP hi k, hm2.k37 hP hi]
    dsimp only
    rw [Int.toNat_natCast, e1, obind]
    dsimp only
    rw [Int.toNat_natCast]
    rcases e6 with ⟨z0, z1, z2, z3, z4⟩ | z0
    · rw [if_pos (show g32 (A4 0 0 34) by rw [z0]; decide), if_pos z0]
      obtain ⟨A5, s1, s2, s3, s4, s5⟩ := m_tkn z3 (by omega)
      rw [s1, obind]
      dsimp only
      rw [Int.toNat_natCast]
      have m24 : mkF (u + 1 + 1) A2 A4 := (mkF.p d2).trans (e2.up (by omega))
      have ex : oC A5 (u + 1) = oC A2 (u + 1) := by rw [s2.oC (by omega), m24.oC (by omega)]
      have ey : oC A5 (u + 1 + 1 + 1) = oC A4 (u + 1 + 1 + 1) := s2.oC (by omega)
      have hx5 : oQ A5 (u + 1) := s2.oQ (by omega) (m24.oQ (by omega) b5)
      have hy5 : oQ A5 (u + 1 + 1 + 1) := s2.oQ (by omega) e5
      obtain ⟨A6, v1, v2, v3, v4⟩ := m_uni (mk := mk) (A := A5) (x := u + 1) (y := u + 1 + 1 + 1) (o := u + 1 + 1 + 1 + 1) hx5 hy5 (by omega) (by omega) (by rw [ex]; exact gd_g64 (List.Perm.refl _) w1) (by rw [ey]; exact gd_g64 (List.Perm.refl _) z1) 310 0 A5 (Nat.zero_le _) (by rw [ex]; omega) rOd.refl s5 (by rw [s4, List.take_zero]; rfl)
      rw [ex, ey] at v4
      rw [tot_perm g1] at w4
      rw [tot_perm g2] at z4
      have hl3 := hl.2.2
      obtain ⟨y1, y2⟩ := gd_mcl (B := B + max (tsm (gv (Fb (T P).2 b) 16) (T P).2 16 (i + 1) (i + sO ((T P).2 i))) (tsm (gv (Fb (T P).2 b) 16) (T P).2 16 (i + sO ((T P).2 i)) (i + sI ((T P).2 i)))) (X := oC A2 (u + 1) ++ oC A4 (u + 1 + 1 + 1)) (fun q hq => by
        rcases List.mem_append.mp hq with q1 | q1
        · exact (w1.mono (by omega)).vst q q1
        · exact (z1.mono (by omega)).vst q q1) (by rw [tot_app]; omega)
      rw [← v4, tot_app] at y2
      rw [← v4] at y1
      exact ⟨u + 1 + 1 + 1 + 1, A6, v1, by omega, by omega, (m4.trans ((mkF.p s2).up (by omega))).trans (mkF.r v2 (by omega)), (e3.p s2).cg (fun f x j q => v2 f x j (by omega)), by rw [v2 0 0 35 (by omega), s2 0 0 35 (by omega)]; exact e4, v3, Or.inl ⟨by rw [v2 0 0 34 (by omega), s2 0 0 34 (by omega)]; exact z0, y1, by omega, u + 1 + 1 + 1 + 1 + 1, (v2 0 0 33 (by omega)).trans s3, by omega, by omega⟩⟩
    · rw [if_pos (show g32 (A4 0 0 34) by rw [z0]; decide), if_neg (show ¬ A4 0 0 34 = 0 by rw [z0]; decide)]
      exact ⟨u + 1 + 1 + 1, A4, rfl, by omega, by omega, m4, e3, e4, e5, Or.inr z0⟩
  · rw [if_pos (show g32 (A2 0 0 34) by rw [w0]; decide), if_neg (show ¬ A2 0 0 34 = 0 by rw [w0]; decide)]
    exact ⟨u + 1, A2, rfl, by omega, by omega, m2, b3, b4, b5, Or.inr w0⟩
theorem lp55 (hT : TB T b cnt) {P i u nu j : Nat} {w v : Int} {A : mA} {c : mA → Int → Int → Int → Nat → Int → Int → Int → Option (Int × mA)} (hP : P < cnt) (hm : mTab T cnt A) (hi : i < (T P).1) {lv : Int} (ht : tl (T P).2 lv 16 (i + 1) (i + sI ((T P).2 i))) (he : i + sI ((T P).2 i) ≤ (T P).1) (hv : g32 v) (hnu : nu ≤ 9) : ∀ (r k F : Nat) (v9 : Int), r < F → (nu ≤ k + r) → k ≤ 20 → g32 v9 → ∃ v8, g32 v8 ∧ f_Mo_loop_55 mk c F A P i v u w nu j v9 k = Option.bind (mk A P ((i + 1 : Nat) : Int) ((i + sI ((T P).2 i) : Nat) : Int) u v8) (fun q7 => (Option.bind (f_Odds_becomes q7.2 u q7.1.toNat) (fun q10 => (c (mu q10.2 0 0 33 w) P i v u w nu ((j : Int) + 1))))) := by
  have hc6 := hT.1
  have h16 := (hT.2 P hP).1.1
  have pP : 0 ≤ (P : Int) ∧ (P : Int) < ((6 : Nat) : Int) := by omega
  have pi : 0 ≤ (i : Int) ∧ (i : Int) < ((16 : Nat) : Int) := by omega
  have ei : ((i : Int) + 1) = ((i + 1 : Nat) : Int) := by omega
  intro r
  induction r with
  | zero =>
    intro k F v9 hF hk h20 h9
    obtain ⟨F, rfl⟩ : ∃ q, F = q + 1 := ⟨F - 1, by omega⟩
    refine ⟨v9, h9, ?_⟩
    unfold f_Mo_loop_55
    simp only [Int.toNat_natCast]
    rw [if_pos (show g32 (k : Int) by unfold g32; omega), if_pos (show g32 (nu : Int) by unfold g32; omega), if_pos (show (nu : Int) ≤ k by omega), if_pos pP, if_pos pi, hm.k37 hP hi, ei]
  | succ r ih =>
    intro k F v9 hF hk h20 h9
    obtain ⟨F, rfl⟩ : ∃ q, F = q + 1 := ⟨F - 1, by omega⟩
    by_cases z : nu ≤ k
    · refine ⟨v9, h9, ?_⟩
      unfold f_Mo_loop_55
      simp only [Int.toNat_natCast]
      rw [if_pos (show g32 (k : Int) by unfold g32; omega), if_pos (show g32 (nu : Int) by unfold g32; omega), if_pos (show (nu : Int) ≤ k by omega), if_pos pP, if_pos pi, hm.k37 hP hi, ei]
    · have ek : ((k : Int) + 1) = ((k + 1 : Nat) : Int) := by omega
      unfold f_Mo_loop_55
      simp only [Int.toNat_natCast]
      rw [if_pos (show g32 (k : Int) by unfold g32; omega), if_pos (show g32 (nu : Int) by unfold g32; omega), if_neg (show ¬ (nu : Int) ≤ k by omega), if_pos hv, if_pos pP, if_pos pi, hm.k37 hP hi, ei]
      by_cases z2 : v = -1
      · rw [if_pos z2]
        exact ⟨v9, h9, rfl⟩
      · rw [if_neg z2]
        obtain ⟨v', w1, w2⟩ := m_nfA hT hm (a := i + 1) hP ht he h9
        rw [if_pos pP, if_pos pi, w1, obind, ek]
        exact ih (k + 1) F v' (by omega) (by omega) (by omega) w2
theorem lp_goN (hT : TB T b cnt) (hM : MKn T b cnt mk n) {P i u nu : Nat} {v : Int} (hP : P < cnt) (hi : i < (T P).1) (k : sK ((T P).2 i) = 4) (hd : dep P (sV ((T P).2 i)) < n + 1) (h195 : u + 1 + pB P (sV ((T P).2 i)) ≤ 195) (hnu : nu ≤ 9) (hv : g32 v) : ∀ (m F j : Nat) (B : Int) (A : mA), nu = j + m → m < F → mTab T cnt A → mCa T cnt A → A 0 0 33 = ((u + 1 : Nat) : Int) → oQ A u → gdL B (oC A u) → (oC A u).length ≤ 300 → 0 ≤ B → B + m * tsm (gv (Fb (T P).2 b) 16) (T P).2 16 (i + 1) (i + sI ((T P).2 i)) ≤ 50 → A 0 0 34 = 0 → g32 (A 0 0 35) →
    ∃ A', f_Mo_loop_31 mk F A P i v u ((u + 1 : Nat) : Int) nu j = some ((u : Int), A') ∧ bkN T cnt A u (u + 1) (B + m * tsm (gv (Fb (T P).2 b) 16) (T P).2 16 (i + 1) (i + sI ((T P).2 i))) A' := by
  have hc6 := hT.1
  obtain ⟨ho, hX, -⟩ := hT.2 P hP
  have h16 := ho.1
  have hvn : ∀ j, j < (T P).1 → 0 ≤ gv (Fb (T P).2 b) 16 j := fun j hj => hT.gv_nn hP 16 j hj
  obtain ⟨⟨hk, hv9, hi1, h3, h4, -⟩, h9⟩ := ho.2.2 i hi
  obtain ⟨o0, o1, t1⟩ := h4 k
  have n1 := tsm_nn (v := gv (Fb (T P).2 b) 16) (c := (T P).2) 16 (i + 1) (i + sI ((T P).2 i)) (fun j q1 q2 => hvn j (by omega))
  obtain ⟨t, ht⟩ : ∃ t : Int, t = tsm (gv (Fb (T P).2 b) 16) (T P).2 16 (i + 1) (i + sI ((T P).2 i)) := ⟨_, rfl⟩
  have hdp : dep P (sV ((T P).2 i) + 1) + 1 = dep P (sV ((T P).2 i)) := by unfold dep; omega
  have hbp : pB P (sV ((T P).2 i) + 1) + 4 = pB P (sV ((T P).2 i)) := by unfold pB; omega
  intro m
  induction m with
  | zero =>
    intro F j B A hj hF hm hc hu hQ hg h300 hB h50 h34 h35
    obtain ⟨F, rfl⟩ : ∃ q, F = q + 1 := ⟨F - 1, by omega⟩
    refine ⟨A, ?_, mkF.refl, hc, h35, hQ, Or.inl ⟨h34, hg.mono (by rw [← ht]; have : ((0 : Nat) : Int) * t = 0 := Int.zero_mul t; omega), h300, hu, Int.le_refl _⟩⟩
    unfold f_Mo_loop_31
    rw [if_pos (show g32 (j : Int) by unfold g32; omega), if_pos (show g32 (nu : Int) by unfold g32; omega), if_pos (show (nu : Int) ≤ j by omega)]
  | succ m ih =>
    intro F j B A hj hF hm hc hu hQ hg h300 hB h50 h34 h35
    obtain ⟨F, rfl⟩ : ∃ q, F = q + 1 := ⟨F - 1, by omega⟩
    rw [← ht] at h50 n1 ih ⊢
    have e50 : B + ((m + 1 : Nat) : Int) * t = (B + t) + (m : Int) * t := by
      rw [show ((m + 1 : Nat) : Int) = (m : Int) + 1 by omega, Int.add_mul]
      omega
    rw [e50] at h50 ⊢
    have hmt : 0 ≤ (m : Int) * t := Int.mul_nonneg (by omega) n1
    have hBt : B + tsm (gv (Fb (T P).2 b) 16) (T P).2 16 (i + 1) (i + sI ((T P).2 i)) ≤ 50 := by rw [← ht]; omega
    obtain ⟨v8, y1, y2⟩ := lp55 (mk := mk) (c := f_Mo_loop_31 mk F) (w := ((u + 1 : Nat) : Int)) (u := u) (j := j) hT hP hm hi t1 (by omega) hv hnu 10 (j + 1) 20 v (by decide) (by omega) (by omega) hv
    obtain ⟨A2, b1, b2, b3, b4, b5, b6⟩ := hM P (i + 1) (i + sI ((T P).2 i)) u (u + 1) (sV ((T P).2 i) + 1) B v8 A hP t1 (by omega) (by omega) (by omega) hm hc hu (by omega) (by omega) hQ hg h300 hB hBt h34 h35 y1
    obtain ⟨A3, d1, d2, d3, d4⟩ := o_bec (k := u) b5 (by omega)
    obtain ⟨A4, hA4⟩ : ∃ A4, A4 = mu A3 0 0 33 ((u + 1 : Nat) : Int) := ⟨_, rfl⟩
    have f4 : ∀ f x z, ¬ (f = 0 ∧ x = 0 ∧ z = 33) → A4 f x z = A3 f x z := fun f x z q => by rw [hA4, mu_ne _ _ (by omega)]
    have m4 : mkF u A A4 := ((b2.up (by omega)).trans (mkF.r d3 (Nat.le_refl _))).trans (fun f x z q => f4 f x z (by omega))
    have c4 : mCa T cnt A4 := (b3.cg (fun f x z q => d3 f x z (by omega))).cg (fun f x z q => f4 f x z (by omega))
    have oc4 : oC A4 u = oC A3 u := oC_cg (f4 1 u 2 (by omega)) (fun z _ => ⟨f4 3 u z (by omega), f4 4 u z (by omega)⟩)
    have oq4 : oQ A4 u := ⟨by rw [f4 1 u 2 (by omega)]; exact d4.1, by rw [oc4]; exact d4.2.1, by rw [oc4]; exact d4.2.2⟩
    have e34 : A4 0 0 34 = A2 0 0 34 := (f4 0 0 34 (by omega)).trans (d3 0 0 34 (by omega))
    have e35 : A4 0 0 35 = A2 0 0 35 := (f4 0 0 35 (by omega)).trans (d3 0 0 35 (by omega))
    have e33 : A4 0 0 33 = ((u + 1 : Nat) : Int) := by rw [hA4, mu_at]
    have ej : ((j : Int) + 1) = ((j + 1 : Nat) : Int) := by omega
    have step : f_Mo_loop_31 mk (F + 1) A P i v u ((u + 1 : Nat) : Int) nu j = f_Mo_loop_31 mk F A4 P i v u ((u + 1 : Nat) : Int) nu ((j + 1 : Nat) : Int) := by
      conv => lhs; unfold f_Mo_loop_31
      rw [if_pos (show g32 (j : Int) by unfold g32; omega), if_pos (show g32 (nu : Int) by unfold g32; omega), if_neg (show ¬ (nu : Int) ≤ j by omega), h34, if_pos (show g32 (0 : Int) by decide), if_pos rfl, ej]
      rw [y2, b1, obind]
      dsimp only
      rw [Int.toNat_natCast, d1, obind, hA4, ← ej]
    rw [step]
    rcases b6 with ⟨w0, w1, w2, w3, w4⟩ | w0
    · rw [← ht] at w1
      obtain ⟨A', g1, g2, g3, g4, g5, g6⟩ := ih F (j + 1) (B + t) A4 (by omega) (by omega) (hm.fr hT m4) c4 e33 oq4 (by rw [oc4, d2]; exact w1) (by rw [oc4, d2]; exact w2) (by omega) h50 (e34.trans w0) (by rw [e35]; exact b4)
      refine ⟨A', g1, m4.trans g2, g3, g4, g5, ?_⟩
      rw [oc4, d2] at g6
      rcases g6 with ⟨x1, x2, x3, x4, x5⟩ | x1
      · exact Or.inl ⟨x1, x2, x3, x4, by omega⟩
      · exact Or.inr x1
    · refine ⟨A4, ?_, m4, c4, by rw [e35]; exact b4, oq4, Or.inr (e34.trans w0)⟩
      obtain ⟨F, rfl⟩ : ∃ q, F = q + 1 := ⟨F - 1, by omega⟩
      unfold f_Mo_loop_31
      rw [if_pos (show g32 ((j + 1 : Nat) : Int) by unfold g32; omega), if_pos (show g32 (nu : Int) by unfold g32; omega)]
      by_cases y : (nu : Int) ≤ ((j + 1 : Nat) : Int)
      · rw [if_pos y]
      · rw [if_neg y, if_pos (show g32 (A4 0 0 34) by rw [e34, w0]; decide), if_neg (show ¬ A4 0 0 34 = 0 by rw [e34, w0]; decide)]
theorem sn_k4 (hT : TB T b cnt) (hM : MKn T b cnt mk n) {P i x u : Nat} {B v : Int} {A : mA} (hP : P < cnt) (hi : i < (T P).1) (k : sK ((T P).2 i) = 4) (hd : dep P (sV ((T P).2 i)) < n + 1) (hm : mTab T cnt A) (hc : mCa T cnt A) (hu : A 0 0 33 = u) (h195 : u + 1 + pB P (sV ((T P).2 i)) ≤ 195) (hx : x < u) (hQ : oQ A x) (hl : gdL B (oC A x)) (h300 : (oC A x).length ≤ 300) (hB : 0 ≤ B) (h50 : B + gv (Fb (T P).2 b) 16 i ≤ 50) (h34 : A 0 0 34 = 0) (h35 : g32 (A 0 0 35)) (hv : g32 v) : ∃ r A', f_Mo_loop mk A P i x v = some (((r : Nat) : Int), A') ∧ skN T cnt u x (B + gv (Fb (T P).2 b) 16 i) A r A' := by
  have hc6 := hT.1
  obtain ⟨ho, hX, -⟩ := hT.2 P hP
  have h16 := ho.1
  obtain ⟨⟨hk, hv9, hi1, h3, h4, -⟩, h9⟩ := ho.2.2 i hi
  obtain ⟨o0, o1, t1⟩ := h4 k
  rw [gv_eq (F := Fb (T P).2 b) (Fb_c ho) h16 hi, Fb_4 k] at h50 ⊢
  have pP : 0 ≤ (P : Int) ∧ (P : Int) < ((6 : Nat) : Int) := by omega
  have pi : 0 ≤ (i : Int) ∧ (i : Int) < ((16 : Nat) : Int) := by omega
  obtain ⟨nu, hnu⟩ : ∃ q : Nat, sU ((T P).2 i) = q := ⟨(sU ((T P).2 i)).toNat, by omega⟩
  rw [hnu] at h50 ⊢
  obtain ⟨A1, s1, s2, s3, s4, s5⟩ := m_tkn hu (by omega)
  obtain ⟨A2, d1, d2, d3, d4⟩ := o_bec (A := A1) (k := u) (a := x) (s2.oQ hx hQ) (by omega)
  have m2 : mkF u A A2 := (mkF.p s2).trans (mkF.r d3 (Nat.le_refl _))
  have e2 : oC A2 u = oC A x := by rw [d2, s2.oC hx]
  have e36 : A2 36 P i = (nu : Int) := by
    rw [← hnu]
    exact ((hm.fr hT m2 P hP).2 i hi).1.2.2.1
  have e33 : A2 0 0 33 = ((u + 1 : Nat) : Int) := (d3 0 0 33 (by omega)).trans s3
  obtain ⟨A', g1, g2, g3, g4, g5, g6⟩ := lp_goN (nu := nu) hT hM hP hi k hd h195 (by omega) hv nu 20 0 B A2 (by omega) (by omega) (hm.fr hT m2) ((hc.p s2).cg (fun f x z q => d3 f x z (by omega))) e33 d4 (by rw [e2]; exact hl) (by rw [e2]; exact h300) hB h50 (by rw [d3 0 0 34 (by omega), s2 0 0 34 (by omega)]; exact h34) (by rw [d3 0 0 35 (by omega), s2 0 0 35 (by omega)]; exact h35)
  rw [e2] at g6
  refine ⟨u, A', ?_, Nat.le_refl _, by omega, m2.trans g2, g3, g4, g5, ?_⟩
  · unfold f_Mo_loop
    simp only [Int.toNat_natCast]
    rw [s1, obind]
    dsimp only
    rw [Int.toNat_natCast, d1, obind, if_pos pP, if_pos pi]
    dsimp only
    rw [e33, e36]
    exact g1
  · rcases g6 with ⟨x1, x2, x3, x4, x5⟩ | x1
    · exact Or.inl ⟨x1, x2, x5, u + 1, x4, by omega, by omega⟩
    · exact Or.inr x1
end YGA
