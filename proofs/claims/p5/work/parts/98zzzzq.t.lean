/-! odds of the reference: a block over its steps (own work) -/
/-- one step's work: the statement -/
def STs (T : xT) (b : Int → Int) (cnt : Nat) (mk : mA → Int → Int → Int → Nat → Int → Option (Int × mA)) (n : Nat) : Prop :=
  ∀ (P i x u : Nat) (B : Int) (A : mA) (l : List xE), P < cnt → i < (T P).1 → dep P (sV ((T P).2 i)) < n → mTab T cnt A → mCa T cnt A → A 0 0 33 = u → u + pB P (sV ((T P).2 i)) ≤ 195 → x < u → oQ A x → (oC A x).Perm l → l.length ≤ 300 → 0 ≤ B → gdL B l → B + gv (Fb (T P).2 b) 16 i ≤ 50 → A 0 0 34 = 0 → g32 (A 0 0 35) →
    ∃ r A', f_Mo_makeStep mk A P i x (-1) = some (((r : Nat) : Int), A') ∧ u ≤ r ∧ r < 200 ∧ mkF u A A' ∧ mCa T cnt A' ∧ g32 (A' 0 0 35) ∧ oQ A' r ∧ ((A' 0 0 34 = 0 ∧ oR (oC A' r) (sSt T 40 P i l)) ∨ (A' 0 0 34 = 1 ∧ sSt T 40 P i l = none)) ∧ (A' 0 0 34 = 1 → 0 ≤ A' 0 0 33 ∧ A' 0 0 33 ≤ ((u + pWi (sV ((T P).2 i)) : Nat) : Int))
section BLKM
variable {T : xT} {b : Int → Int} {cnt n : Nat} {mk : mA → Int → Int → Int → Nat → Int → Option (Int × mA)}
theorem mk_loop (hT : TB T b cnt) (hS : STs T b cnt mk n) {P : Nat} (hP : P < cnt) {lv : Int} (hd : dep P lv < n) : ∀ (m a e : Nat), tl (T P).2 lv m a e → e ≤ (T P).1 → ∀ (F k o w : Nat) (B : Int) (A : mA) (l : List xE), e - a < F → e - a < k → mTab T cnt A → mCa T cnt A → A 0 0 33 = w → w = o + 1 → w + pB P lv ≤ 195 → oQ A o → (oC A o).Perm l → l.length ≤ 300 → 0 ≤ B → gdL B l → B + tsm (gv (Fb (T P).2 b) 16) (T P).2 m a e ≤ 50 → A 0 0 34 = 0 → g32 (A 0 0 35) →
    ∃ A', f_Mo_makeT_22 mk F A P e (-1) o w a = some ((o : Int), A') ∧ mkF o A A' ∧ mCa T cnt A' ∧ g32 (A' 0 0 35) ∧ mkR A' o (sBk (sSt T 40 P) (T P).2 k a e l) ∧ (A' 0 0 34 = 0 → A' 0 0 33 = (w : Int)) ∧ (A' 0 0 34 = 1 → 0 ≤ A' 0 0 33 ∧ A' 0 0 33 ≤ ((w + pWi lv : Nat) : Int)) := by
  have hc6 := hT.1
  obtain ⟨ho, hx, -⟩ := hT.2 P hP
  have hvn : ∀ j, j < (T P).1 → 0 ≤ gv (Fb (T P).2 b) 16 j := fun j hj => hT.gv_nn hP 16 j hj
  have h16 := ho.1
  have stop : ∀ (a : Nat) (F k o w : Nat) (A : mA) (l : List xE), a ≤ (T P).1 → 0 < F → 0 < k → mCa T cnt A → A 0 0 33 = w → oQ A o → (oC A o).Perm l → l.length ≤ 300 → A 0 0 34 = 0 → g32 (A 0 0 35) → ∃ A', f_Mo_makeT_22 mk F A P a (-1) o w a = some ((o : Int), A') ∧ mkF o A A' ∧ mCa T cnt A' ∧ g32 (A' 0 0 35) ∧ mkR A' o (sBk (sSt T 40 P) (T P).2 k a a l) ∧ (A' 0 0 34 = 0 → A' 0 0 33 = (w : Int)) ∧ (A' 0 0 34 = 1 → 0 ≤ A' 0 0 33 ∧ A' 0 0 33 ≤ ((w + pWi lv : Nat) : Int)) := fun a F k o w A l he hF hk hc hw hQ hp h300 h34 h35 => by
    obtain ⟨F, rfl⟩ : ∃ q, F = q + 1 := ⟨F - 1, by omega⟩
    obtain ⟨k, rfl⟩ : ∃ q, k = q + 1 := ⟨k - 1, by omega⟩
    unfold f_Mo_makeT_22 sBk
    rw [if_pos (show g32 (a : Int) by unfold g32; omega), if_pos (show g32 (a : Int) by unfold g32; omega), if_pos (Int.le_refl _), if_neg (Nat.lt_irrefl a)]
    exact ⟨A, rfl, mkF.refl, hc, h35, ⟨hQ, Or.inl ⟨h34, l, rfl, hp, by rw [hp.length_eq]; exact h300⟩⟩, fun _ => hw, fun q => by omega⟩
  intro m
  induction m with
  | zero =>
    intro a e h he F k o w B A l hF hk hm hc hw hwo h195 hQ hp h300 hB hl h50 h34 h35
    have h : a = e := h
    subst h
    exact stop a F k o w A l he (by omega) (by omega) hc hw hQ hp h300 h34 h35
  | succ m ih =>
    intro a e h he F k o w B A l hF hk hm hc hw hwo h195 hQ hp h300 hB hl h50 h34 h35
    rcases h with h | ⟨h1, h2, h3, h4, h5, h6⟩
    · subst h
      exact stop a F k o w A l he (by omega) (by omega) hc hw hQ hp h300 h34 h35
    · obtain ⟨F, rfl⟩ : ∃ q, F = q + 1 := ⟨F - 1, by omega⟩
      obtain ⟨k, rfl⟩ : ∃ q, k = q + 1 := ⟨k - 1, by omega⟩
      have hi : a < (T P).1 := by omega
      have hva := hvn a hi
      unfold tsm at h50
      rw [if_pos h1] at h50
      have hrest := tsm_nn (v := gv (Fb (T P).2 b) 16) (c := (T P).2) m (a + sI ((T P).2 a)) e (fun j q1 q2 => hvn j (by omega))
      obtain ⟨r, A1, s1, s2, s3, s4, s5, s6, s7, s8, s9⟩ := hS P a o w B A l hP hi (by rw [h2]; exact hd) hm hc hw (by rw [h2]; exact h195) (by omega) hQ hp h300 hB hl (by omega) h34 h35
      obtain ⟨A2, t1, t2, t3, t4⟩ := o_bec (k := o) s7 (by omega)
      have m12 : mkF o A A2 := (s4.up (by omega)).trans (mkF.r t3 (Nat.le_refl _))
      have c2 : mCa T cnt A2 := s5.cg (fun f x j q => t3 f x j (by omega))
      have e34 : A2 0 0 34 = A1 0 0 34 := t3 0 0 34 (by omega)
      have e35 : A2 0 0 35 = A1 0 0 35 := t3 0 0 35 (by omega)
      have hmT := hm.fr hT m12
      have e37 : A2 37 P a = ((a + sI ((T P).2 a) : Nat) : Int) := ((hmT P hP).2 a hi).1.2.2.2.1
      unfold f_Mo_makeT_22 sBk
      simp only [Int.toNat_natCast]
      rw [if_pos (show g32 (a : Int) by unfold g32; omega), if_pos (show g32 (e : Int) by unfold g32; omega), if_neg (show ¬ (e : Int) ≤ a by omega), h34, if_pos (show g32 (0 : Int) by decide), if_pos rfl, if_pos (show g32 (-1 : Int) by decide), if_pos trivial, if_pos h1, s1, obind]
      show ∃ A', Option.bind (f_Odds_becomes A1 o ((r : Nat) : Int).toNat) _ = _ ∧ _
      rw [Int.toNat_natCast, t1, obind]
      rcases s8 with ⟨w0, w1⟩ | ⟨w0, w1⟩
      · show ∃ A', (if g32 (A2 0 0 34) then (if A2 0 0 34 = 0 then (if g32 (A2 0 0 35) then (if g32 (A2 1 o 2) then (if A2 1 o 2 ≤ 300 then (if (0 ≤ (P : Int) ∧ (P : Int) < ((6 : Nat) : Int)) then (if (0 ≤ (a : Int) ∧ (a : Int) < ((16 : Nat) : Int)) then f_Mo_makeT_22 mk F (mu (mu (mu A2 0 0 33 w) 0 0 35 (max (A2 0 0 35) (A2 1 o 2))) 0 0 34 0) P e (-1) o w (A2 37 P a) else none) else none) else (if (0 ≤ (P : Int) ∧ (P : Int) < ((6 : Nat) : Int)) then (if (0 ≤ (a : Int) ∧ (a : Int) < ((16 : Nat) : Int)) then f_Mo_makeT_22 mk F (mu (mu (mu A2 0 0 33 w) 0 0 35 (max (A2 0 0 35) (A2 1 o 2))) 0 0 34 1) P e (-1) o w (A2 37 P a) else none) else none)) else none) else none) else some ((o : Int), A2)) else none) = _ ∧ _
        have pm := t4.1
        have hl2 : (oC A2 o).length = (A2 1 o 2).toNat := oC_len
        have g35 : g32 (max (A2 0 0 35) (A2 1 o 2)) := by rw [e35]; unfold g32 at s6 ⊢; omega
        rw [if_pos (show g32 (A2 0 0 34) by rw [e34, w0]; decide), if_pos (e34.trans w0), if_pos (show g32 (A2 0 0 35) by rw [e35]; exact s6), if_pos (show g32 (A2 1 o 2) by unfold g32; omega), e37]
        have pP : 0 ≤ (P : Int) ∧ (P : Int) < ((6 : Nat) : Int) := by omega
        have pa : 0 ≤ (a : Int) ∧ (a : Int) < ((16 : Nat) : Int) := by omega
        have f3 : ∀ z, mkF o A2 (mu (mu (mu A2 0 0 33 w) 0 0 35 (max (A2 0 0 35) (A2 1 o 2))) 0 0 34 z) := fun z f x j q => by rw [mu_ne _ _ (by omega), mu_ne _ _ (by omega), mu_ne _ _ (by omega)]
        have f3' : ∀ z f x j, ¬ (f = 0 ∧ x = 0) → mu (mu (mu A2 0 0 33 w) 0 0 35 (max (A2 0 0 35) (A2 1 o 2))) 0 0 34 z f x j = A2 f x j := fun z f x j q => by rw [mu_ne _ _ (by omega), mu_ne _ _ (by omega), mu_ne _ _ (by omega)]
        have oc3 : ∀ z, oC (mu (mu (mu A2 0 0 33 w) 0 0 35 (max (A2 0 0 35) (A2 1 o 2))) 0 0 34 z) o = oC A2 o := fun z => oC_cg (f3' z 1 o 2 (by omega)) (fun j _ => ⟨f3' z 3 o j (by omega), f3' z 4 o j (by omega)⟩)
        have oq3 : ∀ z, oQ (mu (mu (mu A2 0 0 33 w) 0 0 35 (max (A2 0 0 35) (A2 1 o 2))) 0 0 34 z) o := fun z => ⟨by rw [f3' z 1 o 2 (by omega)]; exact t4.1, by rw [oc3]; exact t4.2.1, by rw [oc3]; exact t4.2.2⟩
        have a33 : ∀ z, mu (mu (mu A2 0 0 33 w) 0 0 35 (max (A2 0 0 35) (A2 1 o 2))) 0 0 34 z 0 0 33 = (w : Int) := fun z => by rw [mu_ne _ _ (by omega), mu_ne _ _ (by omega), mu_at]
        have a35 : ∀ z, mu (mu (mu A2 0 0 33 w) 0 0 35 (max (A2 0 0 35) (A2 1 o 2))) 0 0 34 z 0 0 35 = max (A2 0 0 35) (A2 1 o 2) := fun z => by rw [mu_ne _ _ (by omega), mu_at]
        have c3 : ∀ z, mCa T cnt (mu (mu (mu A2 0 0 33 w) 0 0 35 (max (A2 0 0 35) (A2 1 o 2))) 0 0 34 z) := fun z => c2.cg (fun f x j q => f3' z f x j (by omega))
        cases hst : sSt T 40 P a l with
        | none =>
          rw [hst] at w1
          have w1 : 300 < (oC A1 r).length ∧ (oC A1 r).length ≤ 301 := w1
          rw [← t2] at w1
          rw [if_neg (show ¬ A2 1 o 2 ≤ 300 by omega), if_pos pP, if_pos pa]
          obtain ⟨F, rfl⟩ : ∃ q, F = q + 1 := ⟨F - 1, by omega⟩
          refine ⟨_, ?_, m12.trans (f3 1), c3 1, by rw [a35]; exact g35, ⟨oq3 1, Or.inr ⟨mu_at _ _ _ _ _, rfl⟩⟩, (fun q => by rw [mu_at] at q; cases q), fun _ => by rw [a33]; omega⟩
          unfold f_Mo_makeT_22
          rw [if_pos (show g32 ((a + sI ((T P).2 a) : Nat) : Int) by unfold g32; omega), if_pos (show g32 (e : Int) by unfold g32; omega)]
          by_cases y : (e : Int) ≤ ((a + sI ((T P).2 a) : Nat) : Int)
          · rw [if_pos y]
          · rw [if_neg y, mu_at, if_pos (show g32 (1 : Int) by decide), if_neg (by decide)]
        | some l' =>
          rw [hst] at w1
          have w1 : srt (oC A1 r) ∧ (oC A1 r).Perm l' ∧ (oC A1 r).length ≤ 300 := w1
          rw [← t2] at w1
          obtain ⟨g1, -⟩ := gd_st hT 40 P a hP hi B l l' hB hl (by omega) hst
          rw [if_pos (show A2 1 o 2 ≤ 300 by omega), if_pos pP, if_pos pa]
          obtain ⟨A', b1, b2, b3, b4, b5, b6⟩ := ih (a + sI ((T P).2 a)) e h6 he F k o w (B + gv (Fb (T P).2 b) 16 a) (mu (mu (mu A2 0 0 33 w) 0 0 35 (max (A2 0 0 35) (A2 1 o 2))) 0 0 34 0) l' (by omega) (by omega) (hmT.fr hT (f3 0)) (c3 0) (a33 0) hwo h195 (oq3 0) (by rw [oc3]; exact w1.2.1) (by rw [← w1.2.1.length_eq]; exact w1.2.2) (by omega) g1 (by omega) (mu_at _ _ _ _ _) (by rw [a35]; exact g35)
          exact ⟨A', b1, (m12.trans (f3 0)).trans b2, b3, b4, b5, b6⟩
      · show ∃ A', (if g32 (A2 0 0 34) then (if A2 0 0 34 = 0 then _ else some ((o : Int), A2)) else none) = _ ∧ _
        rw [if_pos (show g32 (A2 0 0 34) by rw [e34, w0]; decide), if_neg (show ¬ A2 0 0 34 = 0 by rw [e34, w0]; decide), w1]
        exact ⟨A2, rfl, m12, c2, by rw [e35]; exact s6, ⟨t4, Or.inr ⟨e34.trans w0, rfl⟩⟩, (fun q => by rw [e34, w0] at q; cases q), fun _ => by rw [t3 0 0 33 (by omega), ← h2]; exact s9 w0⟩
end BLKM
