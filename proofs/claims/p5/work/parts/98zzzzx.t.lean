/-! odds of the reference: all steps; make; odds of a program (own work) -/
section MKALL
variable {T : xT} {b : Int → Int} {cnt : Nat}
theorem st_all {n : Nat} {mk : mA → Int → Int → Int → Nat → Int → Option (Int × mA)} (hT : TB T b cnt) (hM : MKs T b cnt mk n) : STs T b cnt mk (n + 1) := by
  intro P i x u B A l hP hi hd hm hc hu h195 hx hQ hp h300 hB hl h50 h34 h35
  have hc6 := hT.1
  obtain ⟨ho, hX, -⟩ := hT.2 P hP
  have h16 := ho.1
  obtain ⟨⟨hk, hv, hi1, h3, h4, h5, h0, -⟩, h9⟩ := ho.2.2 i hi
  have hr := rg9_of (by omega) ho hX hi
  have hMS := (hm P hP).2 i hi
  have e34 : A 34 ((P : Int)).toNat ((i : Int)).toNat = sK ((T P).2 i) := hMS.1.1
  have pP : 0 ≤ (P : Int) ∧ (P : Int) < ((6 : Nat) : Int) := by omega
  have pi : 0 ≤ (i : Int) ∧ (i : Int) < ((16 : Nat) : Int) := by omega
  unfold f_Mo_makeStep
  rw [if_pos pP, if_pos pi, e34, if_pos (show g32 (sK ((T P).2 i)) by unfold g32; omega)]
  have fin : ∀ {g : Option (Int × mA)}, (∃ r A', g = some (((r : Nat) : Int), A') ∧ skR T cnt P i u A l r A') → ∃ r A', Option.bind g (fun q6 => some (((q6.1.toNat : Nat) : Int), q6.2)) = some (((r : Nat) : Int), A') ∧ skR T cnt P i u A l r A' := fun ⟨r, A', h1, h2⟩ => ⟨r, A', by rw [h1, obind]; show some (((((r : Nat) : Int).toNat : Nat) : Int), A') = _; rw [Int.toNat_natCast], h2⟩
  by_cases c0 : sK ((T P).2 i) = 0
  · rw [if_pos c0]
    obtain ⟨n0, q1, q2, q3⟩ := hMS.2.2.2 c0
    obtain ⟨⟨z1, z2⟩, z3⟩ := h0 c0
    have hn := (hX i hi).1 (Or.inl c0)
    obtain ⟨A', a1, a2⟩ := st_k0 (T := T) (B := B) (l := l) (n0 := n0) (e := (T P).2 i) (P := P) (i := i) (x := x) (by omega) (by omega) rfl c0 (by rw [hMS.1.2.2.1, z2]) q1 hMS.1.2.1 q2 q3 z3 z1 (by omega) hc hu (by omega) hx hQ hp hl h34 h35
    exact fin ⟨u, A', a1, a2⟩
  rw [if_neg c0]
  by_cases c1 : sK ((T P).2 i) = 1
  · rw [if_pos c1]
    have hn := (hX i hi).1 (Or.inr (Or.inl c1))
    obtain ⟨A', a1, a2⟩ := st_k1 (T := T) (B := B) (l := l) (e := (T P).2 i) (P := P) (i := i) (x := x) (by omega) (by omega) rfl hMS hr c1 (by omega) hc hu (by omega) hx hQ hp hl h34 h35
    exact fin ⟨u, A', a1, a2⟩
  rw [if_neg c1]
  by_cases c2 : sK ((T P).2 i) = 2
  · rw [if_pos c2]
    obtain ⟨A', a1, a2⟩ := st_k2 (T := T) (B := B) (l := l) (e := (T P).2 i) (P := P) (i := i) (x := x) (by omega) (by omega) rfl hMS hr c2 hc hu (by omega) hx hQ hp hl h34 h35
    exact fin ⟨u, A', a1, a2⟩
  rw [if_neg c2]
  by_cases c3 : sK ((T P).2 i) = 3
  · rw [if_pos c3]
    exact fin (st_k3 hT hM hP hi c3 hd hm hc hu h195 hx hQ hp h300 hB hl h50 h34 h35)
  rw [if_neg c3]
  by_cases c4 : sK ((T P).2 i) = 4
  · rw [if_pos c4]
    exact fin (st_k4 hT hM hP hi c4 hd hm hc hu h195 hx hQ hp h300 hB hl h50 h34 h35)
  rw [if_neg c4]
  exact fin (st_k5 hT hM hP hi (by omega) hd hm hc hu h195 hx hQ hp h300 hB hl h50 h34 h35)
theorem mk_all (hT : TB T b cnt) : ∀ n : Nat, MKs T b cnt (f_Mo_makeN n) n := by
  intro n
  induction n with
  | zero => intro P a e x u lv B A l hP ht he hlv hd; omega
  | succ n ih =>
    have h := mk_T hT (st_all hT ih)
    intro P a e x u lv B A l q1 q2 q3 q4 q5 q6 q7 q8 q9 q10 q11 q12 q13 q14 q15 q16 q17 q18
    exact h P a e x u lv B A l q1 q2 q3 q4 q5 q6 q7 q8 q9 q10 q11 q12 q13 q14 q15 q16 q17 q18
/-- what odds may change -/
def odF (A A' : mA) : Prop := ∀ f a j, ¬ ((f = 0 ∧ a = 0 ∧ (j = 33 ∨ j = 34 ∨ j = 35)) ∨ f = 1 ∨ f = 3 ∨ f = 4 ∨ f = 47 ∨ f = 48 ∨ f = 51) → A' f a j = A f a j
theorem odF.refl {A : mA} : odF A A := fun _ _ _ _ => rfl
theorem odF.trans {A A' A'' : mA} (h : odF A A') (h' : odF A' A'') : odF A A'' := fun f a j q => (h' f a j q).trans (h f a j q)
theorem mkF.od {u : Nat} {A A' : mA} (h : mkF u A A') : odF A A' := fun f a j q => h f a j (by omega)
theorem pF.od {u : Nat} {A A' : mA} (h : pF u A A') : odF A A' := fun f a j q => h f a j (by omega)
theorem rOd.od {k : Nat} {A A' : mA} (h : rOd A A' k) : odF A A' := fun f a j q => h f a j (by omega)
theorem mTab.od {A A' : mA} (h : mTab T cnt A) (hT : TB T b cnt) (hf : odF A A') : mTab T cnt A' := fun p hp => by
  obtain ⟨h1, h2⟩ := h p hp
  obtain ⟨ho, hx, -⟩ := hT.2 p hp
  have := hT.1
  refine ⟨by rw [hf 5 0 p (by omega)]; exact h1, fun i hi => ?_⟩
  have := ho.1
  exact (h2 i hi).fr (rg9_of (by omega) ho hx hi) (by omega) (fun f j q1 q2 => hf f p j (by omega))
/-- odds of a program beside others, at the number of odds in use -/
theorem m_beside (hT : TB T b cnt) {P u : Nat} {A : mA} (hP : P < cnt) (hm : mTab T cnt A) (hc : mCa T cnt A) (h8 : ∀ j, j < 6 → 0 ≤ A 8 0 j ∧ A 8 0 j ≤ 9) (hu : A 0 0 33 = u) (h195 : u ≤ 60) : ∃ r A', f_Mo_oddsBeside A P (-1) = some (((r : Nat) : Int), A') ∧ r = u + 1 ∧ mCa T cnt A' ∧ g32 (A' 0 0 35) ∧ mkR A' r (sEnd T 40 P (dsum (A 8 0))) ∧ mkF u A A' ∧ (A' 0 0 34 = 0 → A' 0 0 33 = ((u + 2 : Nat) : Int)) ∧ (A' 0 0 34 = 1 → 0 ≤ A' 0 0 33 ∧ A' 0 0 33 ≤ ((u + 19 : Nat) : Int)) := by
  have hc6 := hT.1
  obtain ⟨ho, hX, hb, hb0, hb1⟩ := hT.2 P hP
  obtain ⟨A0, hA0⟩ : ∃ A0, A0 = mu (mu A 0 0 34 0) 0 0 35 1 := ⟨_, rfl⟩
  have f0 : ∀ f x z, ¬ (f = 0 ∧ x = 0 ∧ (z = 34 ∨ z = 35)) → A0 f x z = A f x z := fun f x z q => by rw [hA0, mu_ne _ _ (by omega), mu_ne _ _ (by omega)]
  have e34 : A0 0 0 34 = 0 := by rw [hA0, mu_ne _ _ (by omega), mu_at]
  have e35 : A0 0 0 35 = 1 := by rw [hA0, mu_at]
  obtain ⟨A1, s1, s2, s3, s4, s5⟩ := m_tkn (A := A0) ((f0 0 0 33 (by omega)).trans hu) (by omega)
  have e8 : A1 8 0 = A 8 0 := by
    funext j
    rw [s2 8 0 j (by omega), f0 8 0 j (by omega)]
  have st : f_Mo_startState A1 = some (dsum (A 8 0), A1) := by
    rw [← e8]
    exact m_startState (by rw [e8]; exact h8)
  have rt : 0 ≤ dsum (A 8 0) ∧ dsum (A 8 0) ≤ 999999 := (tn9_sum h8).1
  obtain ⟨A2, d1, d2, d3, d4⟩ := o_come (A := A1) (s := dsum (A 8 0)) (w := 1125899906842624) s5 rt (by decide)
  have c2 : oC A2 u = [(dsum (A 8 0), 1125899906842624)] := by
    rw [d2, s4]
    rfl
  have m00 : mkF u A A0 := fun f x z q => f0 f x z (by omega)
  have m02 : mkF u A A2 := m00.trans ((mkF.p s2).trans (mkF.r d3 (Nat.le_refl _)))
  have hm2 := hm.fr hT m02
  have hc2 : mCa T cnt A2 := ((hc.cg (fun f x z q => f0 f x z (by omega))).p s2).cg (fun f x z q => d3 f x z (by omega))
  obtain ⟨A3, b1, b2, b3, b4, b5, b6⟩ := mk_all hT 40 P 0 (T P).1 u (u + 1) 0 0 A2 [(dsum (A 8 0), 1125899906842624)] hP ho.2.1 (Nat.le_refl _) (Int.le_refl _) (by unfold dep; omega) hm2 hc2 ((d3 0 0 33 (by omega)).trans s3) (by unfold pB; omega) (by omega) d4 (by rw [c2]) (by show 1 ≤ 300; decide) (Int.le_refl _) (gd_one rt) (by rw [← hb]; omega) (by rw [d3 0 0 34 (by omega), s2 0 0 34 (by omega)]; exact e34) (by rw [d3 0 0 35 (by omega), s2 0 0 35 (by omega), e35]; decide)
  refine ⟨u + 1, A3, ?_, rfl, b3, b4, b5, m02.trans (b2.up (by omega)), b6⟩
  unfold f_Mo_oddsBeside
  simp only [Int.toNat_natCast]
  rw [← hA0, s1, obind]
  show Option.bind (f_Mo_startState A1) _ = _
  rw [st, obind]
  show Option.bind (f_Odds_come A1 ((u : Int)).toNat (dsum (A 8 0)) 1125899906842624) _ = _
  rw [Int.toNat_natCast, d1, obind, if_pos (show g32 (-1) by decide), if_pos trivial, if_pos (show 0 ≤ (P : Int) ∧ (P : Int) < ((6 : Nat) : Int) by omega)]
  show Option.bind (f_Mo_makeN 40 A2 P 0 (A2 5 0 P) u (-1)) _ = _
  have b1' : f_Mo_makeN 40 A2 P 0 ((T P).1 : Int) u (-1) = some (((u + 1 : Nat) : Int), A3) := b1
  rw [(hm2 P hP).1, b1', obind]
  show some (((((u + 1 : Nat) : Int).toNat : Nat) : Int), A3) = _
  rw [Int.toNat_natCast]
theorem m_odds (hT : TB T b cnt) {P : Nat} {A : mA} (hP : P < cnt) (hm : mTab T cnt A) (hc : mCa T cnt A) (h8 : ∀ j, j < 6 → 0 ≤ A 8 0 j ∧ A 8 0 j ≤ 9) : ∃ A', f_Mo_oddsO A P (-1) = some (1, A') ∧ mCa T cnt A' ∧ g32 (A' 0 0 35) ∧ mkR A' 1 (sEnd T 40 P (dsum (A 8 0))) ∧ odF A A' ∧ (A' 0 0 34 = 0 → A' 0 0 33 = 2) ∧ (A' 0 0 34 = 1 → 0 ≤ A' 0 0 33 ∧ A' 0 0 33 ≤ 19) := by
  have f0 : ∀ f x z, ¬ (f = 0 ∧ x = 0 ∧ z = 33) → mu A 0 0 33 0 f x z = A f x z := fun f x z q => mu_ne _ _ (by omega)
  have hod : odF A (mu A 0 0 33 0) := fun f x z q => f0 f x z (by omega)
  have e8 : (mu A 0 0 33 0) 8 0 = A 8 0 := by
    funext j
    exact f0 8 0 j (by omega)
  obtain ⟨r, A', a1, a2, a3, a4, a5, a6, a7⟩ := m_beside hT (u := 0) hP (hm.od hT hod) (hc.cg (fun f x z q => f0 f x z (by omega))) (by rw [e8]; exact h8) (mu_at _ _ _ _ _) (by omega)
  subst a2
  refine ⟨A', ?_, a3, a4, by rw [← e8]; exact a5, hod.trans a6.od, a7⟩
  unfold f_Mo_oddsO
  rw [a1, obind]
  rfl
end MKALL
