/-! how wide it gets: of both (own work) -/
section YHA
variable {T : xT} {b : Int → Int} {cnt : Nat}
theorem sn_all {n : Nat} {mk : mA → Int → Int → Int → Nat → Int → Option (Int × mA)} (hT : TB T b cnt) (hM : MKs T b cnt mk n) (hN : MKn T b cnt mk n) : STn T b cnt mk (n + 1) := by
  intro P i x u B v A hP hi hd hm hc hu h195 hx hQ hl h300 hB h50 h34 h35 hv9
  have hc6 := hT.1
  obtain ⟨ho, hX, -⟩ := hT.2 P hP
  have h16 := ho.1
  obtain ⟨⟨hk, hv, hi1, h3, h4, h5, h0, -⟩, h9⟩ := ho.2.2 i hi
  have hr := rg9_of (by omega) ho hX hi
  have hMS := (hm P hP).2 i hi
  have e34 : A 34 ((P : Int)).toNat ((i : Int)).toNat = sK ((T P).2 i) := hMS.1.1
  have pP : 0 ≤ (P : Int) ∧ (P : Int) < ((6 : Nat) : Int) := by omega
  have pi : 0 ≤ (i : Int) ∧ (i : Int) < ((16 : Nat) : Int) := by omega
  have ge := gv_eq (F := Fb (T P).2 b) (Fb_c ho) h16 hi
  unfold f_Mo_makeStep
  rw [if_pos pP, if_pos pi, e34, if_pos (show g32 (sK ((T P).2 i)) by unfold g32; omega)]
  have fin : ∀ {g : Option (Int × mA)}, (∃ r A', g = some (((r : Nat) : Int), A') ∧ skN T cnt u x (B + gv (Fb (T P).2 b) 16 i) A r A') → ∃ r A', Option.bind g (fun q6 => some (((q6.1.toNat : Nat) : Int), q6.2)) = some (((r : Nat) : Int), A') ∧ skN T cnt u x (B + gv (Fb (T P).2 b) 16 i) A r A' := fun ⟨r, A', h1, h2⟩ => ⟨r, A', by rw [h1, obind]; show some (((((r : Nat) : Int).toNat : Nat) : Int), A') = _; rw [Int.toNat_natCast], h2⟩
  have hq64 := gd_g64 (List.Perm.refl _) hl
  have h200 : u < 200 := by omega
  by_cases c0 : sK ((T P).2 i) = 0
  · rw [if_pos c0]
    rw [ge, Fb_0 c0] at h50
    obtain ⟨n0, q1, q2, q3⟩ := hMS.2.2.2 c0
    obtain ⟨⟨z1, z2⟩, z3⟩ := h0 c0
    have hn := (hX i hi).1 (Or.inl c0)
    obtain ⟨A', a1, a2, a3, a4, a5⟩ := m_drw (l := oC A x) (n0 := n0) (e := (T P).2 i) (P := P) (i := i) (u := u) (by omega) (by omega) (by rw [hMS.1.2.2.1, z2]) q1 hMS.1.2.1 q2 q3 z3 z1 (by omega) hu h200 hx rfl hQ (gd_perm (List.Perm.refl _) hl)
    obtain ⟨-, y2, y3⟩ := gd_draw hl z1 z3 h50
    exact fin ⟨u, A', a1, by rw [ge, Fb_0 c0]; exact skN_of h200 a2 hc h34 h35 a3 a4 a5 y2 y3 hl.2.2⟩
  rw [if_neg c0]
  by_cases c1 : sK ((T P).2 i) = 1
  · rw [if_pos c1]
    have hn := (hX i hi).1 (Or.inr (Or.inl c1))
    obtain ⟨A', a1, a2, a3, a4, a5⟩ := m_letO (l := oC A x) (e := (T P).2 i) (P := P) (i := i) (u := u) (by omega) (by omega) hMS hr c1 (by omega) hu h200 hx rfl hQ hq64
    have et : ∀ l : List xE, tot (l.map (xLet ((T P).2 i))) = tot l := fun l => by
      induction l with
      | nil => rfl
      | cons q l ihl =>
        rw [List.map_cons]
        simp only [tot]
        rw [ihl]
        rfl
    refine fin ⟨u, A', a1, ?_⟩
    rw [ge, Fb_o c0 (by omega) (by omega) (by omega), Int.add_zero]
    exact skN_of h200 a2 hc h34 h35 a3 a4 a5 (fun q hq => by
      obtain ⟨y, hy, rfl⟩ := List.mem_map.mp hq
      exact ⟨wth_r (hl.2.1 y hy).1 (by omega), (hl.vst y hy).2⟩) (by rw [et]; exact Int.le_refl _) hl.2.2
  rw [if_neg c1]
  by_cases c2 : sK ((T P).2 i) = 2
  · rw [if_pos c2]
    obtain ⟨A', a1, a2, a3, a4, a5⟩ := m_spl (l := oC A x) (e := (T P).2 i) (P := P) (i := i) (u := u) (by omega) (by omega) hMS hr (by omega) (by omega) hu h200 hx rfl hQ hq64 (b := 1) (Or.inr rfl) (fun q => xv ((T P).2 i) q.1 != 0) (fun q => by simp)
    refine fin ⟨u, A', a1, ?_⟩
    rw [ge, Fb_o c0 (by omega) (by omega) (by omega), Int.add_zero]
    exact skN_of h200 a2 hc h34 h35 a3 a4 a5 (fun q hq => hl.vst q (List.mem_filter.mp hq).1) (tot_filter (p := fun q => xv ((T P).2 i) q.1 != 0) hl.nn).2 hl.2.2
  rw [if_neg c2]
  by_cases c3 : sK ((T P).2 i) = 3
  · rw [if_pos c3]
    exact fin (sn_k3 hT hN hP hi c3 hd hm hc hu h195 hx hQ hl h300 hB h50 h34 h35 hv9)
  rw [if_neg c3]
  by_cases c4 : sK ((T P).2 i) = 4
  · rw [if_pos c4]
    exact fin (sn_k4 hT hN hP hi c4 hd hm hc hu h195 hx hQ hl h300 hB h50 h34 h35 hv9)
  rw [if_neg c4]
  have c5 : sK ((T P).2 i) = 5 := by omega
  obtain ⟨Q, A', a1, a2, a3, ⟨s1, s2, s3, s4, s5, s6, s7, -⟩, a5, a6⟩ := st_k5x hT hM hP hi c5 hd hm hc hu (by omega) hx hQ (List.Perm.refl _) h300 hB hl h50 h34 h35
  obtain ⟨-, -, -, hbQ0, hbQ1⟩ := hT.2 Q a2
  rw [ge, Fb_5 c5, a1] at h50
  obtain ⟨y2, y3⟩ := gd_run (e := (T P).2 i) (W := xW T Q) hl hB hbQ0 h50 (fun q _ => xW_ok hT a2 (by omega))
  have hl3 := hl.2.2
  obtain ⟨g1, g2⟩ := gd_mcl y2 (by omega)
  rw [← a6] at g1 g2
  refine fin ⟨u, A', a3, s1, s2, s3, s4, s5, s6, ?_⟩
  rw [ge, Fb_5 c5, a1]
  rcases s7 with ⟨y, -⟩ | ⟨y, -⟩
  · exact Or.inl ⟨y, g1, by omega, u + 1, a5, by omega, by omega⟩
  · exact Or.inr y
theorem mkn_all (hT : TB T b cnt) : ∀ n : Nat, MKn T b cnt (f_Mo_makeN n) n := by
  intro n
  induction n with
  | zero => intro P a e x u lv B v A hP ht he hlv hd; omega
  | succ n ih =>
    have h := mk_TN hT (sn_all hT (mk_all hT n) ih) (mk_T hT (st_all hT (mk_all hT n)))
    intro P a e x u lv B v A q1 q2 q3 q4 q5 q6 q7 q8 q9 q10 q11 q12 q13 q14 q15 q16 q17 q18
    exact h P a e x u lv B v A q1 q2 q3 q4 q5 q6 q7 q8 q9 q10 q11 q12 q13 q14 q15 q16 q17 q18
theorem m_oddsN (hT : TB T b cnt) {P : Nat} {v : Int} {A : mA} (hP : P < cnt) (hm : mTab T cnt A) (hc : mCa T cnt A) (h8 : ∀ j, j < 6 → 0 ≤ A 8 0 j ∧ A 8 0 j ≤ 9) (hv : g32 v) (nv : ¬ v = -1) : ∃ r A', f_Mo_oddsO A P v = some (r, A') ∧ mCa T cnt A' ∧ g32 (A' 0 0 35) ∧ odF A A' := by
  have hc6 := hT.1
  obtain ⟨ho, hX, hb, hb0, hb1⟩ := hT.2 P hP
  obtain ⟨A0, hA0⟩ : ∃ A0, A0 = mu (mu (mu A 0 0 33 0) 0 0 34 0) 0 0 35 1 := ⟨_, rfl⟩
  have f0 : ∀ f x z, ¬ (f = 0 ∧ x = 0 ∧ (z = 33 ∨ z = 34 ∨ z = 35)) → A0 f x z = A f x z := fun f x z q => by rw [hA0, mu_ne _ _ (by omega), mu_ne _ _ (by omega), mu_ne _ _ (by omega)]
  have e33 : A0 0 0 33 = ((0 : Nat) : Int) := by rw [hA0, mu_ne _ _ (by omega), mu_ne _ _ (by omega), mu_at]; rfl
  have e34 : A0 0 0 34 = 0 := by rw [hA0, mu_ne _ _ (by omega), mu_at]
  have e35 : A0 0 0 35 = 1 := by rw [hA0, mu_at]
  obtain ⟨A1, s1, s2, s3, s4, s5⟩ := m_tkn (A := A0) e33 (by omega)
  have e8 : A1 8 0 = A 8 0 := by
    funext j
    rw [s2 8 0 j (by omega), f0 8 0 j (by omega)]
  have st : f_Mo_startState A1 = some (dsum (A 8 0), A1) := by
    rw [← e8]
    exact m_startState (by rw [e8]; exact h8)
  have rt : 0 ≤ dsum (A 8 0) ∧ dsum (A 8 0) ≤ 999999 := (tn9_sum h8).1
  obtain ⟨A2, d1, d2, d3, d4⟩ := o_come (A := A1) (s := dsum (A 8 0)) (w := 1125899906842624) s5 rt (by decide)
  have c2 : oC A2 0 = [(dsum (A 8 0), 1125899906842624)] := by
    rw [d2, s4]
    rfl
  have m00 : odF A A0 := fun f x z q => f0 f x z (by omega)
  have m02 : odF A A2 := m00.trans (s2.od.trans d3.od)
  have hm2 := hm.od hT m02
  have hc2 : mCa T cnt A2 := ((hc.cg (fun f x z q => f0 f x z (by omega))).p s2).cg (fun f x z q => d3 f x z (by omega))
  have g2 : gdL 0 (oC A2 0) := by rw [c2]; exact gd_one rt
  obtain ⟨v', w1, w2⟩ := m_nfA hT hm2 (a := 0) hP ho.2.1 (Nat.le_refl _) hv
  obtain ⟨A3, x1, x2, x3, x4, x5, -, x6⟩ := m_forget (A := A2) (a := 0) (u := 1) (v := v') (B := 0) ((d3 0 0 33 (by omega)).trans s3) (by decide) (by decide) d4 g2
  have m03 : odF A A3 := m02.trans x2.od
  have hm3 := hm.od hT m03
  obtain ⟨A4, b1, b2, b3, b4, -⟩ := mkn_all hT 40 P 0 (T P).1 1 2 0 0 v A3 hP ho.2.1 (Nat.le_refl _) (Int.le_refl _) (by unfold dep; omega) hm3 (hc2.p x2) x3 (by unfold pB; omega) (by omega) x4 x5 (by
    rw [c2] at x6
    exact Nat.le_trans x6 (show 1 ≤ 300 by decide)) (Int.le_refl _) (by rw [← hb]; omega) (by rw [x2 0 0 34 (by omega), d3 0 0 34 (by omega), s2 0 0 34 (by omega)]; exact e34) (by rw [x2 0 0 35 (by omega), d3 0 0 35 (by omega), s2 0 0 35 (by omega), e35]; decide) hv
  refine ⟨2, A4, ?_, b3, b4, m03.trans b2.od⟩
  unfold f_Mo_oddsO f_Mo_oddsBeside
  simp only [Int.toNat_natCast]
  rw [← hA0, s1, obind]
  dsimp only
  rw [st, obind]
  dsimp only
  rw [Int.toNat_natCast, d1, obind, if_pos hv, if_neg nv, if_pos (show 0 ≤ (P : Int) ∧ (P : Int) < ((6 : Nat) : Int) by omega)]
  dsimp only
  have w1' : f_Mo_neededFromN 18 A2 P 0 ((T P).1 : Int) v = some (v', A2) := w1
  rw [(hm2 P hP).1, w1', obind]
  dsimp only
  have x1' : f_Mo_forget A2 0 v' = some (1, A3) := x1
  rw [x1', obind]
  dsimp only
  have b1' : f_Mo_makeN 40 A3 P 0 ((T P).1 : Int) 1 v = some (2, A4) := b1
  rw [show ((1 : Int)).toNat = 1 from rfl, (hm3 P hP).1, b1', obind, obind]
  rfl
end YHA
