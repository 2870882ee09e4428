/-! odds of the reference, some names forgotten: a block over its steps (own work) -/
section YFA
variable {T : xT} {b : Int → Int} {cnt n : Nat} {mk : mA → Int → Int → Int → Nat → Int → Option (Int × mA)}
/-- what a block with names forgotten leaves -/
def bkN (T : xT) (cnt : Nat) (A : mA) (o w : Nat) (B' : Int) (A' : mA) : Prop := mkF o A A' ∧ mCa T cnt A' ∧ g32 (A' 0 0 35) ∧ oQ A' o ∧ ((A' 0 0 34 = 0 ∧ gdL B' (oC A' o) ∧ (oC A' o).length ≤ 300 ∧ A' 0 0 33 = (w : Int) ∧ tot (oC A' o) ≤ tot (oC A o)) ∨ A' 0 0 34 = 1)
set_option maxHeartbeats 1000000 in
theorem mk_loopN (hT : TB T b cnt) (hS : STn T b cnt mk n) {P : Nat} (hP : P < cnt) {lv v : Int} (hd : dep P lv < n) (hv : g32 v) (nv : ¬ v = -1) : ∀ (m a e : Nat), m ≤ 16 → tl (T P).2 lv m a e → e ≤ (T P).1 → ∀ (F o w : Nat) (B : Int) (A : mA), e - a < F → mTab T cnt A → mCa T cnt A → A 0 0 33 = w → w = o + 1 → w + 1 + pB P lv ≤ 195 → oQ A o → gdL B (oC A o) → (oC A o).length ≤ 300 → 0 ≤ B → B + tsm (gv (Fb (T P).2 b) 16) (T P).2 m a e ≤ 50 → A 0 0 34 = 0 → g32 (A 0 0 35) →
    ∃ A', f_Mo_makeT_22 mk F A P e v o w a = some ((o : Int), A') ∧ bkN T cnt A o w (B + tsm (gv (Fb (T P).2 b) 16) (T P).2 m a e) A' := by
  have hc6 := hT.1
  obtain ⟨ho, hx, -⟩ := hT.2 P hP
  have hvn : ∀ j, j < (T P).1 → 0 ≤ gv (Fb (T P).2 b) 16 j := fun j hj => hT.gv_nn hP 16 j hj
  have h16 := ho.1
  have stop : ∀ (a : Nat) (F o w : Nat) (A : mA) (B : Int), a ≤ (T P).1 → 0 < F → mCa T cnt A → A 0 0 33 = w → oQ A o → gdL B (oC A o) → (oC A o).length ≤ 300 → A 0 0 34 = 0 → g32 (A 0 0 35) → ∃ A', f_Mo_makeT_22 mk F A P a v o w a = some ((o : Int), A') ∧ bkN T cnt A o w B A' := fun a F o w A B he hF hc hw hQ hg h300 h34 h35 => by
    obtain ⟨F, rfl⟩ : ∃ q, F = q + 1 := ⟨F - 1, by omega⟩
    unfold f_Mo_makeT_22
    rw [if_pos (show g32 (a : Int) by unfold g32; omega), if_pos (show g32 (a : Int) by unfold g32; omega), if_pos (Int.le_refl _)]
    exact ⟨A, rfl, mkF.refl, hc, h35, hQ, Or.inl ⟨h34, hg, h300, hw, Int.le_refl _⟩⟩
  intro m
  induction m with
  | zero =>
    intro a e h16 h he F o w B A hF hm hc hw hwo h195 hQ hg h300 hB h50 h34 h35
    have h : a = e := h
    subst h
    rw [tsm_nil, Int.add_zero]
    exact stop a F o w A B he (by omega) hc hw hQ hg h300 h34 h35
  | succ m ih =>
    intro a e hm16 h he F o w B A hF hm hc hw hwo h195 hQ hg h300 hB h50 h34 h35
    rcases h with h | ⟨h1, h2, h3, h4, h5, h6⟩
    · subst h
      rw [tsm_nil, Int.add_zero]
      exact stop a F o w A B he (by omega) hc hw hQ hg h300 h34 h35
    · obtain ⟨F, rfl⟩ : ∃ q, F = q + 1 := ⟨F - 1, by omega⟩
      have hi : a < (T P).1 := by omega
      have hva := hvn a hi
      unfold tsm at h50 ⊢
      rw [if_pos h1] at h50 ⊢
      have hrest := tsm_nn (v := gv (Fb (T P).2 b) 16) (c := (T P).2) m (a + sI ((T P).2 a)) e (fun j q1 q2 => hvn j (by omega))
      have hMS := (hm P hP).2 a hi
      have e34 : A 34 P a = sK ((T P).2 a) := hMS.1.1
      have e37 : A 37 P a = ((a + sI ((T P).2 a) : Nat) : Int) := hMS.1.2.2.2.1
      have hk := (ho.2.2 a hi).1.1
      have pP : 0 ≤ (P : Int) ∧ (P : Int) < ((6 : Nat) : Int) := by omega
      have pa : 0 ≤ (a : Int) ∧ (a : Int) < ((16 : Nat) : Int) := by omega
      have p1 : 1 ≤ pB P lv := by unfold pB; omega
      obtain ⟨v', w1, w2⟩ := m_nfA hT hm (a := a + sI ((T P).2 a)) hP (tl_16 h6 (by omega)) he hv
      -- behind a step or none
      have go : ∀ (A2 : mA) (z : Nat), mkF o A A2 → mCa T cnt A2 → A2 0 0 33 = z → z < 200 → o < z → oQ A2 o → gdL (B + gv (Fb (T P).2 b) 16 a) (oC A2 o) → g32 (A2 0 0 35) → tot (oC A2 o) ≤ tot (oC A o) → ∃ A', Option.bind (f_Mo_forget A2 o v') (fun q73 => (Option.bind (f_Odds_becomes q73.2 o q73.1.toNat) (fun q76 => (if g32 (q76.2 0 0 35) then (if g32 (q76.2 1 o 2) then (if (q76.2 1 o 2) ≤ 300 then (f_Mo_makeT_22 mk F (mu (mu (mu q76.2 0 0 33 (w : Int)) 0 0 35 (max (q76.2 0 0 35) (q76.2 1 o 2))) 0 0 34 0) P e v o w (q76.2 37 P a)) else (f_Mo_makeT_22 mk F (mu (mu (mu q76.2 0 0 33 (w : Int)) 0 0 35 (max (q76.2 0 0 35) (q76.2 1 o 2))) 0 0 34 1) P e v o w (q76.2 37 P a))) else none) else none)))) = some ((o : Int), A') ∧ bkN T cnt A o w (B + (gv (Fb (T P).2 b) 16 a + tsm (gv (Fb (T P).2 b) 16) (T P).2 m (a + sI ((T P).2 a)) e)) A' := fun A2 z y1 y2 y3 y4 y5 y6 y7 y8 y9 => by
        obtain ⟨A6, f1, f2, f3, f4, f5, f6, f7⟩ := mk_fgt (mk := mk) (T := T) (cnt := cnt) (P := P) (e := e) (o := o) (w := w) (a := a) (a' := a + sI ((T P).2 a)) (v := v) (v' := v') (F := F) y2 y3 y4 y5 y6 y7 y8 (by rw [y1 37 P a (by omega)]; exact e37)
        rw [f1]
        have m6 := y1.trans f2
        rcases f7 with ⟨z1, z2, z3, z4⟩ | z1
        · obtain ⟨A', b1, b2, b3, b4, b5, b6⟩ := ih (a + sI ((T P).2 a)) e (by omega) h6 he F o w (B + gv (Fb (T P).2 b) 16 a) A6 (by omega) (hm.fr hT m6) f3 f4 hwo h195 f6 z2 z3 (by omega) (by omega) z1 f5
          rw [Int.add_assoc] at b6
          refine ⟨A', b1, m6.trans b2, b3, b4, b5, ?_⟩
          rcases b6 with ⟨c1, c2, c3, c4, c5⟩ | c1
          · exact Or.inl ⟨c1, c2, c3, c4, by omega⟩
          · exact Or.inr c1
        · obtain ⟨F, rfl⟩ : ∃ q, F = q + 1 := ⟨F - 1, by omega⟩
          refine ⟨A6, ?_, m6, f3, f5, f6, Or.inr z1⟩
          unfold f_Mo_makeT_22
          rw [if_pos (show g32 ((a + sI ((T P).2 a) : Nat) : Int) by unfold g32; omega), if_pos (show g32 (e : Int) by unfold g32; omega)]
          by_cases y : (e : Int) ≤ ((a + sI ((T P).2 a) : Nat) : Int)
          · rw [if_pos y]
          · rw [if_neg y, z1, if_pos (show g32 (1 : Int) by decide), if_neg (by decide)]
      obtain ⟨r, A1, s1, s2, s3, s4, s5, s6, s7, s8⟩ := hS P a o w B v' A hP hi (by rw [h2]; exact hd) hm hc hw (by rw [h2]; omega) (by omega) hQ hg h300 hB (by omega) h34 h35 w2
      have stp : ∃ A', Option.bind (f_Mo_makeStep mk A P a o v') (fun q40 => (Option.bind (f_Odds_becomes q40.2 o q40.1.toNat) (fun q43 => (if g32 (q43.2 0 0 34) then (if (q43.2 0 0 34) = 0 then (Option.bind (f_Mo_forget q43.2 o v') (fun q73 => (Option.bind (f_Odds_becomes q73.2 o q73.1.toNat) (fun q76 => (if g32 (q76.2 0 0 35) then (if g32 (q76.2 1 o 2) then (if (q76.2 1 o 2) ≤ 300 then (f_Mo_makeT_22 mk F (mu (mu (mu q76.2 0 0 33 (w : Int)) 0 0 35 (max (q76.2 0 0 35) (q76.2 1 o 2))) 0 0 34 0) P e v o w (q76.2 37 P a)) else (f_Mo_makeT_22 mk F (mu (mu (mu q76.2 0 0 33 (w : Int)) 0 0 35 (max (q76.2 0 0 35) (q76.2 1 o 2))) 0 0 34 1) P e v o w (q76.2 37 P a))) else none) else none))))) else (some (((o : Nat) : Int), q43.2))) else none)))) = some ((o : Int), A') ∧ bkN T cnt A o w (B + (gv (Fb (T P).2 b) 16 a + tsm (gv (Fb (T P).2 b) 16) (T P).2 m (a + sI ((T P).2 a)) e)) A' := by
        obtain ⟨A2, t1, t2, t3, t4⟩ := o_bec (k := o) s7 (by omega)
        have m12 : mkF o A A2 := (s4.up (by omega)).trans (mkF.r t3 (Nat.le_refl _))
        have c2 : mCa T cnt A2 := s5.cg (fun f x j q => t3 f x j (by omega))
        have e34' : A2 0 0 34 = A1 0 0 34 := t3 0 0 34 (by omega)
        have e35' : A2 0 0 35 = A1 0 0 35 := t3 0 0 35 (by omega)
        rw [s1, obind]
        dsimp only
        rw [Int.toNat_natCast, t1, obind]
        dsimp only
        rcases s8 with ⟨x0, x1, x5, z, x2, x3, x4⟩ | x0
        · rw [if_pos (show g32 (A2 0 0 34) by rw [e34', x0]; decide), if_pos (show A2 0 0 34 = 0 by rw [e34', x0])]
          exact go A2 z m12 c2 ((t3 0 0 33 (by omega)).trans x2) (by omega) (by omega) t4 (by rw [t2]; exact x1) (by rw [e35']; exact s6) (by rw [t2]; exact x5)
        · rw [if_pos (show g32 (A2 0 0 34) by rw [e34', x0]; decide), if_neg (show ¬ A2 0 0 34 = 0 by rw [e34', x0]; decide)]
          exact ⟨A2, rfl, m12, c2, by rw [e35']; exact s6, t4, Or.inr (e34'.trans x0)⟩
      unfold f_Mo_makeT_22
      simp only [Int.toNat_natCast]
      rw [if_pos (show g32 (a : Int) by unfold g32; omega), if_pos (show g32 (e : Int) by unfold g32; omega), if_neg (show ¬ (e : Int) ≤ a by omega), h34, if_pos (show g32 (0 : Int) by decide), if_pos rfl, if_pos hv, if_neg nv, if_pos pP, if_pos pa, e37, w1, obind]
      dsimp only
      rw [if_pos (show g32 (A 34 P a) by rw [e34]; unfold g32; omega)]
      by_cases c5 : sK ((T P).2 a) = 5
      · rw [if_pos (show A 34 P a = 5 by rw [e34]; exact c5)]
        by_cases c6 : iAnd (iShr v' (A 35 P a)) 1 = 0
        · rw [if_pos c6]
          obtain ⟨sE, hs⟩ := m_seesA hT hm cnt (Nat.le_refl _)
          obtain ⟨u1, u2⟩ := (ho.2.2 a hi).1.2.2.2.2.2.1 c5
          obtain ⟨z1, z2⟩ := hs (sU ((T P).2 a)).toNat (by omega)
          have k := z2 7 (by omega)
          rw [Int.toNat_of_nonneg u1] at k z1
          have e36 : A 36 P a = sU ((T P).2 a) := hMS.1.2.2.1
          rw [e36, k, obind]
          dsimp only
          rw [if_pos (show g32 (sE (sU ((T P).2 a))) by unfold g32; omega)]
          by_cases c7 : sE (sU ((T P).2 a)) = 0
          · rw [if_pos c7, if_pos (show g32 (A 0 0 34) by rw [h34]; decide), if_pos h34]
            exact go A w mkF.refl hc hw (by omega) (by omega) hQ (hg.mono (by omega)) h35 (Int.le_refl _)
          · rw [if_neg c7]
            exact stp
        · rw [if_neg c6]
          exact stp
      · rw [if_neg (show ¬ A 34 P a = 5 by rw [e34]; exact c5)]
        exact stp
/-- make with names forgotten, over one step's work -/
theorem mk_TN (hT : TB T b cnt) (hS : STn T b cnt mk n) (hMs : MKs T b cnt (f_Mo_makeT mk) n) : MKn T b cnt (f_Mo_makeT mk) n := by
  intro P a e x u lv B v A hP ht he hlv hd hm hc hu h195 hx hQ hl h300 hB h50 h34 h35 hv
  by_cases nv : v = -1
  · rw [nv]
    exact hMs.nm hT hP ht he hlv hd hm hc hu h195 hx hQ hl h300 hB h50 h34 h35
  have h16 := (hT.2 P hP).1.1
  obtain ⟨A1, t1, t2, t3, t4, t5⟩ := m_tkn hu (by omega)
  obtain ⟨A2, s1, s2, s3, s4⟩ := o_bec (A := A1) (k := u) (a := x) (t2.oQ hx hQ) (by omega)
  have m2 : mkF u A A2 := (mkF.p t2).trans (mkF.r s3 (Nat.le_refl _))
  have e2 : oC A2 u = oC A x := by rw [s2, t2.oC hx]
  have e33 : A2 0 0 33 = ((u + 1 : Nat) : Int) := (s3 0 0 33 (by omega)).trans t3
  obtain ⟨A', b1, b2, b3, b4, b5, b6⟩ := mk_loopN hT hS hP hd hv nv 16 a e (Nat.le_refl _) ht he 20 u (u + 1) B A2 (by omega) (hm.fr hT m2) ((hc.p t2).cg (fun f x j q => s3 f x j (by omega))) e33 rfl (by omega) s4 (by rw [e2]; exact hl) (by rw [e2]; exact h300) hB h50 (by rw [s3 0 0 34 (by omega), t2 0 0 34 (by omega)]; exact h34) (by rw [s3 0 0 35 (by omega), t2 0 0 35 (by omega)]; exact h35)
  rw [e2] at b6
  refine ⟨A', ?_, m2.trans b2, b3, b4, b5, b6⟩
  unfold f_Mo_makeT
  rw [t1, obind]
  dsimp only
  rw [Int.toNat_natCast, s1, obind]
  dsimp only
  rw [e33]
  exact b1
end YFA
