/-! odds of the reference: RUN as a step's work, all of it (own work) -/
section STK6
variable {T : xT} {b : Int → Int} {cnt n : Nat} {mk : mA → Int → Int → Int → Nat → Int → Option (Int × mA)}
/-- weights of a run, nought where it is WIDE -/
def xW (T : xT) (Q : Nat) (d v : Int) : Int := xw ((sRn T 40 Q d).getD []) v
theorem xW_ok (hT : TB T b cnt) {Q : Nat} (hQ : Q < cnt) {d : Int} (hd : 0 ≤ d ∧ d ≤ 9) : okW (b Q) (fun v => xW T Q d ((v : Nat) : Int)) := by
  obtain ⟨ho, hX, hb, hb0, hb1⟩ := hT.2 Q hQ
  unfold xW
  cases h : sRn T 40 Q d with
  | none => exact okW_nil
  | some R =>
    obtain ⟨g, -⟩ := gd_bk hT hQ (B := 0) ho.2.1 (Nat.le_refl _) (Int.le_refl _) (gd_one (by omega)) (by rw [← hb]; omega) h
    rw [Int.zero_add, ← hb] at g
    exact okW_of g
theorem st_k5x (hT : TB T b cnt) (hM : MKs T b cnt mk n) {P i x u : Nat} {B : Int} {A : mA} {l : List xE} (hP : P < cnt) (hi : i < (T P).1) (k : sK ((T P).2 i) = 5) (hd : dep P (sV ((T P).2 i)) < n + 1) (hm : mTab T cnt A) (hc : mCa T cnt A) (hu : A 0 0 33 = u) (h195 : u + pB P (sV ((T P).2 i)) ≤ 195) (hx : x < u) (hQ : oQ A x) (hp : (oC A x).Perm l) (h300 : l.length ≤ 300) (hB : 0 ≤ B) (hl : gdL B l) (h50 : B + gv (Fb (T P).2 b) 16 i ≤ 50) (h34 : A 0 0 34 = 0) (h35 : g32 (A 0 0 35)) : ∃ (Q : Nat) (A' : mA), sU ((T P).2 i) = (Q : Int) ∧ Q < cnt ∧ f_Mo_run mk A P i x = some ((u : Int), A') ∧ skR T cnt P i u A l u A' ∧ A' 0 0 33 = ((u + 1 : Nat) : Int) ∧ oC A' u = mcl [] ((oC A x).flatMap (xRun ((T P).2 i) (xW T Q))) := by
  have hc6 := hT.1
  obtain ⟨ho, hX, -⟩ := hT.2 P hP
  have h16 := ho.1
  obtain ⟨⟨hk, hv, hi1, h3, h4, h5, -⟩, h9⟩ := ho.2.2 i hi
  have hr := rg9_of (by omega) ho hX hi
  rw [gv_eq (F := Fb (T P).2 b) (Fb_c ho) h16 hi, Fb_5 k] at h50
  obtain ⟨u1, u2⟩ := h5 k
  have hn := (hX i hi).1 (Or.inr (Or.inr k))
  obtain ⟨e, he⟩ : ∃ e, e = (T P).2 i := ⟨_, rfl⟩
  rw [← he] at k hr u1 u2 h50 hn hd h195 hv
  obtain ⟨Q, hQe⟩ : ∃ q : Nat, sU e = q := ⟨(sU e).toNat, by omega⟩
  rw [hQe] at h50
  have hQc : Q < cnt := by omega
  obtain ⟨hoQ, hXQ, hbQ, hbQ0, hbQ1⟩ := hT.2 Q hQc
  have pP : 0 ≤ (P : Int) ∧ (P : Int) < ((6 : Nat) : Int) := by omega
  have pi : 0 ≤ (i : Int) ∧ (i : Int) < ((16 : Nat) : Int) := by omega
  have pQ : 0 ≤ (Q : Int) ∧ (Q : Int) < ((6 : Nat) : Int) := by omega
  have dQ : dep Q 0 < n := by unfold dep at hd ⊢; omega
  have uQ : (u + 1) + 2 + pB Q 0 ≤ 195 := by unfold pB at h195 ⊢; omega
  obtain ⟨ok, hok⟩ : ∃ ok : xE → Bool, ok = (fun q => (sRn T 40 Q (xv e q.1 % 10)).isSome) := ⟨_, rfl⟩
  have sp : sSt T 40 P i l = if l.all ok = true then cap9 (l.flatMap (xRun e (xW T Q))) else none := by
    have e9 : ∀ d, sRn T 39 Q d = sRn T 40 Q d := fun d => sRn_f hT hQc (by omega) (by omega) d
    have e8 : sSt T (39 + 1) P i l = if l.all (fun q => (sRn T 39 Q (xv e q.1 % 10)).isSome) = true then cap9 (l.flatMap (xRun e (fun d v => xw ((sRn T 39 Q d).getD []) v))) else none := by
      conv => lhs; unfold sSt
      rw [← he, if_neg (by omega), if_neg (by omega), if_neg (by omega), if_neg (by omega), if_neg (by omega), hQe]
      rfl
    show sSt T (39 + 1) P i l = _
    rw [e8, hok]
    simp only [e9]
    rfl
  have hlen : (oC A x).length = (A 1 x 2).toNat := oC_len
  have h1x := hQ.1
  have go : ∀ (F j : Nat) (M : mA), j ≤ (oC A x).length → (oC A x).length - j < F → mkF u A M → mCa T cnt M → M 0 0 33 = ((u + 1 : Nat) : Int) → g32 (M 0 0 35) → oQ M u → oC M u = mcl [] (((oC A x).take j).flatMap (xRun e (xW T Q))) → (M 0 0 34 = if ((oC A x).take j).all ok = true then 0 else 1) →
      ∃ A', f_Mo_run_19 mk F M P i x u Q j = some ((u : Int), A') ∧ mkF u A A' ∧ mCa T cnt A' ∧ g32 (A' 0 0 35) ∧ oQ A' u ∧ oC A' u = mcl [] ((oC A x).flatMap (xRun e (xW T Q))) ∧ (A' 0 0 34 = if (oC A x).all ok = true then 0 else 1) ∧ A' 0 0 33 = ((u + 1 : Nat) : Int) := by
    intro F
    induction F with
    | zero => intro j M _ h; omega
    | succ F ih =>
      intro j M h1 h2 hf hcM h33 h35M hQM hC h34M
      have hmM := hm.fr hT hf
      unfold f_Mo_run_19
      simp only [Int.toNat_natCast]
      rw [hf 1 x 2 (by omega), if_pos (show g32 (j : Int) by unfold g32; omega), if_pos (show g32 (A 1 x 2) by unfold g32; omega)]
      by_cases z : (oC A x).length ≤ j
      · rw [if_pos (show A 1 x 2 ≤ (j : Int) by omega)]
        rw [List.take_of_length_le z] at hC h34M
        exact ⟨M, rfl, hf, hcM, h35M, hQM, hC, h34M, h33⟩
      · have hj : j < (oC A x).length := by omega
        obtain ⟨q, hq⟩ : ∃ q, q = (oC A x)[j] := ⟨_, rfl⟩
        have e1 := oC_at hj
        rw [← hq] at e1
        have hqm : q ∈ oC A x := by rw [hq]; exact List.getElem_mem hj
        have hst := hQ.2.1 q hqm
        have hql := hp.mem_iff.mp hqm
        have hwq := gd_perm hp hl q hqm
        have hMB : mS9 M P i e := by rw [he]; exact (hmM P hP).2 i hi
        obtain ⟨x1, x2, x3, x4⟩ := m_xv (by omega) hMB (by omega) (by omega) (tn9_r hst)
        have hd0 : 0 ≤ xv e q.1 % 10 ∧ xv e q.1 % 10 ≤ 9 := by omega
        obtain ⟨D, hD⟩ : ∃ D : Nat, xv e q.1 % 10 = D := ⟨(xv e q.1 % 10).toNat, by omega⟩
        have z34 : M 0 0 34 = 0 ∨ M 0 0 34 = 1 := by rw [h34M]; split <;> omega
        obtain ⟨A1, t1, t2, t3, t4, t5, t6, t7⟩ := m_tellX hT hM (Q := Q) (D := D) (w := u + 1) hQc dQ (by omega) hmM hcM h33 uQ z34 h35M
        have told : A1 48 Q D = (if ok q = true then 0 else 1) ∧ ∀ v : Nat, v < 10 → A1 51 (Q * 10 + D) v = xW T Q (xv e q.1 % 10) ((v : Nat) : Int) := by
          rw [hok]
          show A1 48 Q D = (if (sRn T 40 Q (xv e q.1 % 10)).isSome = true then 0 else 1) ∧ _
          unfold xW
          rw [hD]
          rcases t3 Q hQc D (by omega) with r | ⟨-, ⟨r1, r2, r3⟩ | ⟨r1, R, r2, r3⟩⟩
          · omega
          · rw [r2]
            refine ⟨r1, fun v hv => ?_⟩
            rw [r3 v hv]
            simp [xw, tot]
          · rw [r2]
            exact ⟨r1, fun v hv => r3 v hv⟩
        have ez : iOr (A1 0 0 34) (A1 48 Q D) = if ((oC A x).take (j + 1)).all ok = true then 0 else 1 := by
          rw [t5, h34M, told.1, iOr_if, take_s hj, List.all_append, ← hq, show [q].all ok = ok q by simp]
        have zz : iOr (A1 0 0 34) (A1 48 Q D) = 0 ∨ iOr (A1 0 0 34) (A1 48 Q D) = 1 := by rw [ez]; split <;> omega
        obtain ⟨A2, hA2⟩ : ∃ A2, A2 = mu A1 0 0 34 (iOr (A1 0 0 34) (A1 48 Q D)) := ⟨_, rfl⟩
        have f2 : ∀ f a z, ¬ (f = 0 ∧ a = 0 ∧ z = 34) → A2 f a z = A1 f a z := fun f a z q => by rw [hA2, mu_ne _ _ (by omega)]
        have m2 : mkF u A A2 := (hf.trans (t2.up (by omega))).trans (fun f a z q => f2 f a z (by omega))
        have m12 : mkF (u + 1) M A2 := t2.trans (fun f a z q => f2 f a z (by omega))
        have c2 : mCa T cnt A2 := t3.cg (fun f a z q => f2 f a z (by omega))
        rw [if_neg (show ¬ A 1 x 2 ≤ (j : Int) by omega), if_pos pP, if_pos pi, if_pos (show 0 ≤ (j : Int) ∧ (j : Int) < ((301 : Nat) : Int) by omega), hf 3 x j (by omega), ← e1.1, x1, obind]
        show ∃ A', Option.bind (f_Mo_digit M (xv e q.1)) _ = _ ∧ _
        rw [m_digit x2, obind]
        show ∃ A', Option.bind (f_Mo_tell mk M Q (xv e q.1 % 10)) _ = _ ∧ _
        rw [hD, t1, obind]
        show ∃ A', (if (0 ≤ (Q : Int) ∧ (Q : Int) < ((6 : Nat) : Int)) then (if (0 ≤ (D : Int) ∧ (D : Int) < ((10 : Nat) : Int)) then (if ((iOr (A1 0 0 34) (A1 48 Q D)) = 0 ∨ (iOr (A1 0 0 34) (A1 48 Q D)) = 1) then (f_Mo_run_83 mk (f_Mo_run_19 mk F) 310 (mu A1 0 0 34 (iOr (A1 0 0 34) (A1 48 Q D))) P i x u Q j D 0) else none) else none) else none) = _ ∧ _
        rw [if_pos pQ, if_pos (by omega), if_pos zz, ← hA2]
        have a2 : oC A2 u = oC M u := m12.oC (by omega)
        refine r83 (mk := mk) (A0 := A2) (e := e) (P := P) (i := i) (x := x) (u := u) (Q := Q) (j := j) (D := D) (B := B) (b' := b Q) (q := q) (W := xW T Q) (X := ((oC A x).take j).flatMap (xRun e (xW T Q))) (K := fun r => ∃ A', r = some ((u : Int), A') ∧ mkF u A A' ∧ mCa T cnt A' ∧ g32 (A' 0 0 35) ∧ oQ A' u ∧ oC A' u = mcl [] ((oC A x).flatMap (xRun e (xW T Q))) ∧ (A' 0 0 34 = if (oC A x).all ok = true then 0 else 1) ∧ A' 0 0 33 = ((u + 1 : Nat) : Int)) (c19 := f_Mo_run_19 mk F) (by omega) (by omega) (by omega) (by omega) (by omega) (by omega) hB hbQ0 h50 (by omega) (by rw [m2 3 x j (by omega), e1.1]) (by rw [m2 4 x j (by omega), e1.2]) ?_ (fun v hv => by rw [f2 51 _ v (by omega)]; exact told.2 v hv) (xW_ok hT hQc hd0) hst hwq (hl.2.1 q hql).2.2 (fun M' y1 y2 y3 => ?_) 310 0 A2 (by omega) (by omega) rOd.refl (m12.oQ (by omega) hQM) (by rw [List.take_zero, List.append_nil, a2]; exact hC)
        · rw [f2 35 P i (by omega), t2 35 P i (by omega)]
          exact hMB.1.2.1
        · have ej : ((j : Int) + 1) = ((j + 1 : Nat) : Int) := by omega
          rw [ej]
          refine ih (j + 1) M' hj (by omega) (m2.trans (mkF.r y1 (Nat.le_refl _))) (c2.cg (fun f a z q => y1 f a z (by omega))) ?_ ?_ y2 ?_ ?_
          · rw [y1 0 0 33 (by omega), f2 0 0 33 (by omega)]
            exact t4
          · rw [y1 0 0 35 (by omega), f2 0 0 35 (by omega), t6]
            exact h35M
          · rw [y3, take_s hj, List.flatMap_append, ← hq]
            simp
          · rw [y1 0 0 34 (by omega), hA2, mu_at]
            exact ez
  obtain ⟨A1, s1, s2, s3, s4, s5⟩ := m_tkn hu (by omega)
  have m1 : mkF u A A1 := mkF.p s2
  have e36 : A1 36 P i = (Q : Int) := by
    rw [← hQe, he]
    exact ((hm.fr hT m1 P hP).2 i hi).1.2.2.1
  obtain ⟨A', g1, g2, g3, g4, g5, g6, g7, g8⟩ := go 310 0 A1 (Nat.zero_le _) (by omega) m1 (hc.p s2) s3 (by rw [s2 0 0 35 (by omega)]; exact h35) s5 (by rw [s4]; rfl) (by rw [s2 0 0 34 (by omega), h34]; simp)
  refine ⟨Q, A', by rw [← he]; exact hQe, hQc, ?_, ⟨Nat.le_refl _, by unfold pB at h195; omega, g2, g3, g4, g5, ?_, fun _ => by rw [g8]; unfold pWi; omega⟩, g8, by rw [← he]; exact g6⟩
  · unfold f_Mo_run
    simp only [Int.toNat_natCast]
    rw [s1, obind, if_pos pP, if_pos pi]
    show f_Mo_run_19 mk 310 A1 P i x ((u : Int)).toNat (A1 36 P i) 0 = _
    rw [Int.toNat_natCast, e36]
    exact g1
  · have ea : (oC A x).all ok = l.all ok := by
      rw [Bool.eq_iff_iff, List.all_eq_true, List.all_eq_true]
      exact ⟨fun h q hq => h q (hp.mem_iff.mpr hq), fun h q hq => h q (hp.mem_iff.mp hq)⟩
    rw [ea] at g7
    rw [sp]
    by_cases ka : l.all ok = true
    · rw [if_pos ka] at g7 ⊢
      exact Or.inl ⟨g7, oR_of g6 (flat_perm hp)⟩
    · rw [if_neg ka] at g7 ⊢
      exact Or.inr ⟨g7, rfl⟩
theorem st_k5 (hT : TB T b cnt) (hM : MKs T b cnt mk n) {P i x u : Nat} {B : Int} {A : mA} {l : List xE} (hP : P < cnt) (hi : i < (T P).1) (k : sK ((T P).2 i) = 5) (hd : dep P (sV ((T P).2 i)) < n + 1) (hm : mTab T cnt A) (hc : mCa T cnt A) (hu : A 0 0 33 = u) (h195 : u + pB P (sV ((T P).2 i)) ≤ 195) (hx : x < u) (hQ : oQ A x) (hp : (oC A x).Perm l) (h300 : l.length ≤ 300) (hB : 0 ≤ B) (hl : gdL B l) (h50 : B + gv (Fb (T P).2 b) 16 i ≤ 50) (h34 : A 0 0 34 = 0) (h35 : g32 (A 0 0 35)) : ∃ r A', f_Mo_run mk A P i x = some (((r : Nat) : Int), A') ∧ skR T cnt P i u A l r A' := by
  obtain ⟨Q, A', -, -, h1, h2, -⟩ := st_k5x hT hM hP hi k hd hm hc hu h195 hx hQ hp h300 hB hl h50 h34 h35
  exact ⟨u, A', h1, h2⟩
end STK6
