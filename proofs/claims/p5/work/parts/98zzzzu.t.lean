/-! odds of the reference: LOOP as a step's work (own work) -/
section STK4
variable {T : xT} {b : Int → Int} {cnt n : Nat} {mk : mA → Int → Int → Int → Nat → Int → Option (Int × mA)}
theorem lp_wide {F nu j P i u : Nat} {w : Int} {A : mA} (hF : 0 < F) (hj : j ≤ 20) (hn : nu ≤ 9) (h34 : A 0 0 34 = 1) : f_Mo_loop_31 mk F A P i (-1) u w nu j = some ((u : Int), A) := by
  obtain ⟨F, rfl⟩ : ∃ q, F = q + 1 := ⟨F - 1, by omega⟩
  unfold f_Mo_loop_31
  rw [if_pos (show g32 (j : Int) by unfold g32; omega), if_pos (show g32 (nu : Int) by unfold g32; omega)]
  by_cases k : (nu : Int) ≤ j
  · rw [if_pos k]
  · rw [if_neg k, h34, if_pos (show g32 (1 : Int) by decide), if_neg (by decide)]
theorem lp_go (hT : TB T b cnt) (hM : MKs T b cnt mk n) {P i u nu : Nat} (hP : P < cnt) (hi : i < (T P).1) (k : sK ((T P).2 i) = 4) (hd : dep P (sV ((T P).2 i)) < n + 1) (h195 : u + pB P (sV ((T P).2 i)) ≤ 195) (hnu : nu ≤ 9) : ∀ (m F j : Nat) (B : Int) (A : mA) (l : List xE), nu = j + m → m < F → mTab T cnt A → mCa T cnt A → A 0 0 33 = ((u + 1 : Nat) : Int) → oQ A u → (oC A u).Perm l → l.length ≤ 300 → 0 ≤ B → gdL B l → B + m * tsm (gv (Fb (T P).2 b) 16) (T P).2 16 (i + 1) (i + sI ((T P).2 i)) ≤ 50 → A 0 0 34 = 0 → g32 (A 0 0 35) →
    ∃ A', f_Mo_loop_31 mk F A P i (-1) u ((u + 1 : Nat) : Int) nu j = some ((u : Int), A') ∧ mkF u A A' ∧ mCa T cnt A' ∧ g32 (A' 0 0 35) ∧ mkR A' u (sLp (sBk (sSt T 40 P) (T P).2 17 (i + 1) (i + sI ((T P).2 i))) m l) ∧ (A' 0 0 34 = 1 → A' 0 0 33 = ((u + 1 : Nat) : Int)) := by
  have hc6 := hT.1
  obtain ⟨ho, hX, -⟩ := hT.2 P hP
  have h16 := ho.1
  have hvn : ∀ j, j < (T P).1 → 0 ≤ gv (Fb (T P).2 b) 16 j := fun j hj => hT.gv_nn hP 16 j hj
  obtain ⟨⟨hk, hv, hi1, h3, h4, -⟩, h9⟩ := ho.2.2 i hi
  obtain ⟨o0, o1, t1⟩ := h4 k
  have n1 := tsm_nn (v := gv (Fb (T P).2 b) 16) (c := (T P).2) 16 (i + 1) (i + sI ((T P).2 i)) (fun j q1 q2 => hvn j (by omega))
  obtain ⟨t, ht⟩ : ∃ t : Int, t = tsm (gv (Fb (T P).2 b) 16) (T P).2 16 (i + 1) (i + sI ((T P).2 i)) := ⟨_, rfl⟩
  have hdp : dep P (sV ((T P).2 i) + 1) + 1 = dep P (sV ((T P).2 i)) := by unfold dep; omega
  have hbp : pB P (sV ((T P).2 i) + 1) + 4 = pB P (sV ((T P).2 i)) := by unfold pB; omega
  have pP : 0 ≤ (P : Int) ∧ (P : Int) < ((6 : Nat) : Int) := by omega
  have pi : 0 ≤ (i : Int) ∧ (i : Int) < ((16 : Nat) : Int) := by omega
  have ei : ((i : Int) + 1) = ((i + 1 : Nat) : Int) := by omega
  intro m
  induction m with
  | zero =>
    intro F j B A l hj hF hm hc hu hQ hp h300 hB hl h50 h34 h35
    obtain ⟨F, rfl⟩ : ∃ q, F = q + 1 := ⟨F - 1, by omega⟩
    refine ⟨A, ?_, mkF.refl, hc, h35, ⟨hQ, Or.inl ⟨h34, l, rfl, hp, by rw [hp.length_eq]; exact h300⟩⟩, fun q => by omega⟩
    unfold f_Mo_loop_31
    rw [if_pos (show g32 (j : Int) by unfold g32; omega), if_pos (show g32 (nu : Int) by unfold g32; omega), if_pos (show (nu : Int) ≤ j by omega)]
  | succ m ih =>
    intro F j B A l hj hF hm hc hu hQ hp h300 hB hl h50 h34 h35
    obtain ⟨F, rfl⟩ : ∃ q, F = q + 1 := ⟨F - 1, by omega⟩
    rw [← ht] at h50 n1 ih
    have e50 : B + ((m + 1 : Nat) : Int) * t = (B + t) + (m : Int) * t := by
      rw [show ((m + 1 : Nat) : Int) = (m : Int) + 1 by omega, Int.add_mul]
      omega
    rw [e50] at h50
    have hmt : 0 ≤ (m : Int) * t := Int.mul_nonneg (by omega) n1
    have hBt : B + tsm (gv (Fb (T P).2 b) 16) (T P).2 16 (i + 1) (i + sI ((T P).2 i)) ≤ 50 := by rw [← ht]; omega
    obtain ⟨A2, b1, b2, b3, b4, b5, b6, -⟩ := hM P (i + 1) (i + sI ((T P).2 i)) u (u + 1) (sV ((T P).2 i) + 1) B A l hP t1 (by omega) (by omega) (by omega) hm hc hu (by omega) (by omega) hQ hp h300 hB hl hBt h34 h35
    obtain ⟨c1, c2⟩ := b5
    obtain ⟨A3, d1, d2, d3, d4⟩ := o_bec (k := u) c1 (by omega)
    obtain ⟨A4, hA4⟩ : ∃ A4, A4 = mu A3 0 0 33 ((u + 1 : Nat) : Int) := ⟨_, rfl⟩
    have f4 : ∀ f x z, ¬ (f = 0 ∧ x = 0 ∧ z = 33) → A4 f x z = A3 f x z := fun f x z q => by rw [hA4, mu_ne _ _ (by omega)]
    have m4 : mkF u A A4 := ((b2.up (by omega)).trans (mkF.r d3 (Nat.le_refl _))).trans (fun f x z q => f4 f x z (by omega))
    have c4 : mCa T cnt A4 := (b3.cg (fun f x z q => d3 f x z (by omega))).cg (fun f x z q => f4 f x z (by omega))
    have oc4 : oC A4 u = oC A3 u := oC_cg (f4 1 u 2 (by omega)) (fun z _ => ⟨f4 3 u z (by omega), f4 4 u z (by omega)⟩)
    have oq4 : oQ A4 u := ⟨by rw [f4 1 u 2 (by omega)]; exact d4.1, by rw [oc4]; exact d4.2.1, by rw [oc4]; exact d4.2.2⟩
    have e34 : A4 0 0 34 = A2 0 0 34 := (f4 0 0 34 (by omega)).trans (d3 0 0 34 (by omega))
    have e35 : A4 0 0 35 = A2 0 0 35 := (f4 0 0 35 (by omega)).trans (d3 0 0 35 (by omega))
    have e33 : A4 0 0 33 = ((u + 1 : Nat) : Int) := by rw [hA4, mu_at]
    have ej : ((j : Int) + 1) = ((j + 1 : Nat) : Int) := by omega
    have step : f_Mo_loop_31 mk (F + 1) A P i (-1) u ((u + 1 : Nat) : Int) nu j = f_Mo_loop_31 mk F A4 P i (-1) u ((u + 1 : Nat) : Int) nu ((j + 1 : Nat) : Int) := by
      conv => lhs; unfold f_Mo_loop_31
      rw [if_pos (show g32 (j : Int) by unfold g32; omega), if_pos (show g32 (nu : Int) by unfold g32; omega), if_neg (show ¬ (nu : Int) ≤ j by omega), h34, if_pos (show g32 (0 : Int) by decide), if_pos rfl, ej]
      unfold f_Mo_loop_55
      simp only [Int.toNat_natCast]
      have body : Option.bind (mk A P ((i : Int) + 1) (A 37 P i) u (-1)) (fun q7 => Option.bind (f_Odds_becomes q7.2 u q7.1.toNat) (fun q10 => f_Mo_loop_31 mk F (mu q10.2 0 0 33 ((u + 1 : Nat) : Int)) P i (-1) u ((u + 1 : Nat) : Int) nu (((j : Int) + 1)))) = f_Mo_loop_31 mk F A4 P i (-1) u ((u + 1 : Nat) : Int) nu ((j + 1 : Nat) : Int) := by
        rw [hm.k37 hP hi, ei, b1, obind]
        show Option.bind (f_Odds_becomes A2 u (((u + 1 : Nat) : Int)).toNat) _ = _
        rw [Int.toNat_natCast, d1, obind, hA4, ← ej]
      rw [if_pos (show g32 ((j + 1 : Nat) : Int) by unfold g32; omega), if_pos (show g32 (nu : Int) by unfold g32; omega), if_pos (show g32 (-1 : Int) by decide), if_pos pP, if_pos pi, ← ej] 
      rw [← ej] at body
      by_cases y : (nu : Int) ≤ (j : Int) + 1
      · rw [if_pos y]
        exact body
      · rw [if_neg y, if_pos trivial]
        exact body
    rw [step]
    rcases c2 with ⟨w0, l1, w1, w2, w3⟩ | ⟨w0, w1⟩
    · obtain ⟨y1, -⟩ := gd_bk hT hP t1 (by omega) hB hl hBt w1
      rw [← ht] at y1
      obtain ⟨A', g1, g2, g3, g4, g5, g6⟩ := ih F (j + 1) (B + t) A4 l1 (by omega) (by omega) (hm.fr hT m4) c4 e33 oq4 (by rw [oc4, d2]; exact w2) (by rw [← w2.length_eq]; exact w3) (by omega) y1 h50 (e34.trans w0) (by rw [e35]; exact b4)
      refine ⟨A', g1, m4.trans g2, g3, g4, ?_, g6⟩
      unfold sLp
      rw [w1, obind]
      exact g5
    · refine ⟨A4, lp_wide (by omega) (by omega) hnu (e34.trans w0), m4, c4, by rw [e35]; exact b4, ⟨oq4, Or.inr ⟨e34.trans w0, ?_⟩⟩, fun _ => e33⟩
      unfold sLp
      rw [w1]
      rfl
theorem st_k4 (hT : TB T b cnt) (hM : MKs T b cnt mk n) {P i x u : Nat} {B : Int} {A : mA} {l : List xE} (hP : P < cnt) (hi : i < (T P).1) (k : sK ((T P).2 i) = 4) (hd : dep P (sV ((T P).2 i)) < n + 1) (hm : mTab T cnt A) (hc : mCa T cnt A) (hu : A 0 0 33 = u) (h195 : u + pB P (sV ((T P).2 i)) ≤ 195) (hx : x < u) (hQ : oQ A x) (hp : (oC A x).Perm l) (h300 : l.length ≤ 300) (hB : 0 ≤ B) (hl : gdL B l) (h50 : B + gv (Fb (T P).2 b) 16 i ≤ 50) (h34 : A 0 0 34 = 0) (h35 : g32 (A 0 0 35)) : ∃ r A', f_Mo_loop mk A P i x (-1) = some (((r : Nat) : Int), A') ∧ skR T cnt P i u A l r A' := by
  have hc6 := hT.1
  obtain ⟨ho, hX, -⟩ := hT.2 P hP
  have h16 := ho.1
  obtain ⟨⟨hk, hv, hi1, h3, h4, -⟩, h9⟩ := ho.2.2 i hi
  obtain ⟨o0, o1, t1⟩ := h4 k
  rw [gv_eq (F := Fb (T P).2 b) (Fb_c ho) h16 hi, Fb_4 k] at h50
  have pP : 0 ≤ (P : Int) ∧ (P : Int) < ((6 : Nat) : Int) := by omega
  have pi : 0 ≤ (i : Int) ∧ (i : Int) < ((16 : Nat) : Int) := by omega
  obtain ⟨nu, hnu⟩ : ∃ q : Nat, sU ((T P).2 i) = q := ⟨(sU ((T P).2 i)).toNat, by omega⟩
  rw [hnu] at h50
  have sp : sSt T 40 P i l = sLp (sBk (sSt T 40 P) (T P).2 17 (i + 1) (i + sI ((T P).2 i))) nu l := by
    have e9 : sBk (sSt T 40 P) (T P).2 17 (i + 1) (i + sI ((T P).2 i)) = sBk (sSt T 39 P) (T P).2 17 (i + 1) (i + sI ((T P).2 i)) := funext (fun l => (s39 hT hP t1 (by omega) (by omega) 17 l).symm)
    rw [e9]
    show sSt T (39 + 1) P i l = _
    conv => lhs; unfold sSt
    rw [if_neg (by omega), if_neg (by omega), if_neg (by omega), if_neg (by omega), if_pos k, hnu]
    rfl
  obtain ⟨A1, s1, s2, s3, s4, s5⟩ := m_tkn hu (by omega)
  obtain ⟨A2, d1, d2, d3, d4⟩ := o_bec (A := A1) (k := u) (a := x) (s2.oQ hx hQ) (by omega)
  have m2 : mkF u A A2 := (mkF.p s2).trans (mkF.r d3 (Nat.le_refl _))
  have e36 : A2 36 P i = (nu : Int) := by
    rw [← hnu]
    exact ((hm.fr hT m2 P hP).2 i hi).1.2.2.1
  have e33 : A2 0 0 33 = ((u + 1 : Nat) : Int) := (d3 0 0 33 (by omega)).trans s3
  obtain ⟨A', g1, g2, g3, g4, g5, g6⟩ := lp_go (nu := nu) hT hM hP hi k hd h195 (by omega) nu 20 0 B A2 l (by omega) (by omega) (hm.fr hT m2) ((hc.p s2).cg (fun f x z q => d3 f x z (by omega))) e33 d4 (by rw [d2, s2.oC hx]; exact hp) h300 hB hl h50 (by rw [d3 0 0 34 (by omega), s2 0 0 34 (by omega)]; exact h34) (by rw [d3 0 0 35 (by omega), s2 0 0 35 (by omega)]; exact h35)
  refine ⟨u, A', ?_, Nat.le_refl _, by unfold pB at h195; omega, m2.trans g2, g3, g4, g5.1, ?_, fun q => by rw [g6 q]; unfold pWi; omega⟩
  · unfold f_Mo_loop
    simp only [Int.toNat_natCast]
    rw [s1, obind]
    show Option.bind (f_Odds_becomes A1 ((u : Int)).toNat x) _ = _
    rw [Int.toNat_natCast, d1, obind, if_pos pP, if_pos pi]
    show f_Mo_loop_31 mk 20 A2 P i (-1) u (A2 0 0 33) (A2 36 P i) 0 = _
    rw [e33, e36]
    exact g1
  · rw [sp]
    rcases g5.2 with ⟨w0, l1, w1, w2, w3⟩ | w
    · refine Or.inl ⟨w0, ?_⟩
      rw [w1]
      exact ⟨g5.1.2.2, w2, w3⟩
    · exact Or.inr w
end STK4
