/-! STEPS of the reference (own work): loop, if -/
section ML5
variable {P : Nat} {T : Nat → Int} {m d k : Nat}
def gmLoopS (stp : mA → Option (Int × mA)) (P k : Nat) (M : mA) : Option (Int × mA) := Option.bind (f_Mo_takes M 3 0 9) (fun q84 => Option.bind (f_Mo_inBraces stp (mu q84.2 36 P k q84.1)) (fun q93 => some (0, mu (mu q93.2 38 P k (q93.2 0 0 28)) 37 P k (q93.2 0 0 28))))
theorem m_loopR {others : Int} {ex : Nat → kR (List Int)} {stp : mA → Option (Int × mA)} {br : Nat → Nat → kR (List kS)} (hb : mBr P T m d (f_Mo_inBraces stp) br) (hbs : kBrS T m br) {M : mA} {p : Nat} (h : mTk P T m M p (k + 1)) (hn : mNew P k M 4) (ho : M 0 0 27 = 4 - d) : ∃ M', gmLoopS stp P k M = some (0, M') ∧ mRs P T m d k M M' (kRest T m (4 - d) others ex br 4 k p) := by
  obtain ⟨n4, n5, n6, n9, n10⟩ := hn
  obtain ⟨z, M1, x1, x2, x3⟩ := m_takes h.1 (so := 3) (lo := 0) (hi := 9) (Or.inr rfl) (by decide) (by decide)
  obtain ⟨g1, g2, g3, g4, g5, g6, g8, -⟩ := h.1.good
  unfold gmLoopS
  rw [x1, obind]
  show ∃ M', Option.bind (f_Mo_inBraces stp (mu M1 36 P k z)) _ = _ ∧ _
  have e : kRest T m (4 - d) others ex br 4 k p = kNumb T m 10 p (fun v p => kThen (br (k + 1) p) (fun q y => .inr (q, (4, -1, v, 1 + y.length, 1 + y.length, [], [], 4 - (d : Int)) :: y))) := rfl
  rw [e]
  unfold kNumb
  have f1 : fT P k M (mu M1 36 P k z) := (fT.ofM x2 (by decide)).trans (fT.row (by decide) (Nat.le_refl k)) (Nat.le_refl k)
  rcases x3 with ⟨c, cz, y1⟩ | ⟨c, cz, y1, y2⟩
  · rw [if_pos (⟨c.1, by omega⟩ : tkS (kTok T m p) = 3 ∧ tkV (kTok T m p) < 10)]
    have a0 := h.1.alive (by rw [c.1]; decide)
    have s1 : mTk P T m (mu M1 36 P k z) (tkE (kTok T m p)) (k + 1) := (h.goM x2 y1 (by omega) (fun _ => a0)).row (by decide)
    obtain ⟨M3, v1, v2, v4⟩ := hb (mu M1 36 P k z) _ (k + 1) s1 ((x2 0 0 27 (fun r => absurd r.2.2 (by decide))).trans ho)
    rw [v1, obind]
    dsimp only
    have f3 : fT P k M M3 := f1.trans v2 (by omega)
    cases hq : br (k + 1) (tkE (kTok T m p)) with
    | inl b =>
      rw [hq] at v4
      exact ⟨_, rfl, m_flt1 f3 v4.1 v4.2⟩
    | inr y =>
      rw [hq] at v4
      obtain ⟨t1, t2, t3⟩ := v4
      have er : ∀ f, 34 ≤ f ∧ f ≤ 40 ∧ f ≠ 36 → M3 f P k = M f P k := fun f q => by
        rw [v2.low (by omega) (by omega), mu_ne _ _ (fun r => by omega)]
        exact x2.row f P k (by omega)
      have e36 : M3 36 P k = z := (v2.low (by decide) (by omega)).trans (mu_at _ _ _ _ _)
      have ek : k + 1 + y.2.length = k + (y.2.length + 1) := by omega
      rw [ek] at t1
      refine ⟨_, rfl, m_fin (M4 := mu M3 38 P k (M3 0 0 28)) (y := y.2) (f3.trans (fT.row (by decide) (Nat.le_refl k)) (Nat.le_refl k)) (t1.row (by decide)) t2 rfl (fun q => ⟨mPre.wr (by decide) (Or.inr (Or.inr rfl)) ?_, ?_, (t3 q).wr (by decide) (by omega)⟩)⟩
      · refine ⟨⟨?_, ?_, ?_⟩, fun _ q1 => absurd rfl q1, fun _ => ?_, fun q1 => absurd q1 (by show ¬ (4 : Int) = 0; decide)⟩
        · rw [er 34 (by decide)]
          exact n4
        · rw [er 35 (by decide)]
          exact n5
        · rw [e36]
          exact cz
        · rw [er 39 (by decide)]
          exact n9
      · obtain ⟨-, -, b3⟩ := t1.2.1 q
        rw [mu_at, b3]
        show ((k + (y.2.length + 1) : Nat) : Int) = ((k + (1 + y.2.length) : Nat) : Int)
        omega
  · rw [if_neg (fun r => c ⟨r.1, by omega, by omega⟩), m_bracesD (show mu M1 36 P k z 0 0 31 = 1 from y1), obind]
    exact ⟨_, rfl, m_flt1 (M3 := mu (mu M1 36 P k z) 0 0 31 1) (f1.trans fT.w1 (Nat.le_refl k)) (mu_at _ _ _ _ _) y2⟩
def gmIf (stp : mA → Option (Int × mA)) (P k : Nat) (M : mA) : Option (Int × mA) := Option.bind (f_Mo_expression (f_Mo_oneN 6) M) (fun q67 => Option.bind (f_Mo_inBraces stp (mu q67.2 39 P k q67.1)) (fun q70 => Option.bind (f_Mo_inBraces stp (mu q70.2 38 P k (q70.2 0 0 28))) (fun q74 => some (0, mu q74.2 37 P k (q74.2 0 0 28)))))
theorem m_ifR {others : Int} {stp : mA → Option (Int × mA)} {br : Nat → Nat → kR (List kS)} (hb : mBr P T m d (f_Mo_inBraces stp) br) (hbs : kBrS T m br) {M : mA} {p : Nat} (hd : d ≤ 4) (h : mTk P T m M p (k + 1)) (hn : mNew P k M 3) (ho : M 0 0 27 = 4 - d) : ∃ M', gmIf stp P k M = some (0, M') ∧ mRs P T m d k M M' (kRest T m (4 - d) others (kExp T m (kOne T m d)) br 3 k p) := by
  obtain ⟨n4, n5, n6, n9, n10⟩ := hn
  obtain ⟨u, M1, x1, x2, x3, x5, x4⟩ := m_form hd h ho
  unfold gmIf
  rw [x1, obind]
  show ∃ M', Option.bind (f_Mo_inBraces stp (mu M1 39 P k u)) _ = _ ∧ _
  have e : kRest T m (4 - d) others (kExp T m (kOne T m d)) br 3 k p = kThen (kExp T m (kOne T m d) p) (fun q c => kThen (br (k + 1) q) (fun q y => kThen (br (k + 1 + y.length) q) (fun q z => .inr (q, (3, -1, -1, 1 + y.length + z.length, 1 + y.length, c, [], 4 - (d : Int)) :: (y ++ z))))) := rfl
  rw [e]
  have f1 : fT P k M (mu M1 39 P k u) := x2.trans (fT.row (by decide) (Nat.le_refl k)) (Nat.le_refl k)
  cases hq : kExp T m (kOne T m d) p with
  | inl b =>
    rw [hq] at x4
    rw [m_bracesD (show mu M1 39 P k u 0 0 31 = 1 from x4.1), obind]
    obtain ⟨M2, b1⟩ : ∃ M2, M2 = mu (mu M1 39 P k u) 0 0 31 1 := ⟨_, rfl⟩
    rw [← b1]
    show ∃ M', Option.bind (f_Mo_inBraces stp (mu M2 38 P k (M2 0 0 28))) _ = _ ∧ _
    have k1 : M2 0 0 31 = 1 := by
      rw [b1]
      exact mu_at _ _ _ _ _
    have k2 : M2 0 0 24 = b := by
      rw [b1]
      exact x4.2
    have f2 : fT P k M M2 := by
      rw [b1]
      exact f1.trans fT.w1 (Nat.le_refl k)
    rw [m_bracesD (show mu M2 38 P k (M2 0 0 28) 0 0 31 = 1 from k1), obind]
    exact ⟨_, rfl, m_flt (M4 := mu (mu M2 38 P k (M2 0 0 28)) 0 0 31 1) ((f2.trans (fT.row (by decide) (Nat.le_refl k)) (Nat.le_refl k)).trans fT.w1 (Nat.le_refl k)) (mu_at _ _ _ _ _) k2⟩
  | inr x =>
    rw [hq] at x4
    obtain ⟨t1, t2, t3, t4⟩ := x4
    rw [kThen_r]
    obtain ⟨M3, v1, v2, v4⟩ := hb (mu M1 39 P k u) x.1 (k + 1) (t1.row (by decide)) x5
    rw [v1, obind]
    show ∃ M', Option.bind (f_Mo_inBraces stp (mu M3 38 P k (M3 0 0 28))) _ = _ ∧ _
    have f3 : fT P k M (mu M3 38 P k (M3 0 0 28)) := (f1.trans v2 (by omega)).trans (fT.row (by decide) (Nat.le_refl k)) (Nat.le_refl k)
    cases hq2 : br (k + 1) x.1 with
    | inl b =>
      rw [hq2] at v4
      rw [m_bracesD (show mu M3 38 P k (M3 0 0 28) 0 0 31 = 1 from v4.1), obind]
      exact ⟨_, rfl, m_flt (M4 := mu (mu M3 38 P k (M3 0 0 28)) 0 0 31 1) (f3.trans fT.w1 (Nat.le_refl k)) (mu_at _ _ _ _ _) v4.2⟩
    | inr y =>
      rw [hq2] at v4
      obtain ⟨w1, w2, w3⟩ := v4
      rw [kThen_r]
      have a1 : M1 0 0 31 = 0 := t1.1.alive (hbs _ _ _ hq2)
      obtain ⟨-, q1, q2⟩ := t4 a1
      obtain ⟨M4, s1, s2, s4⟩ := hb (mu M3 38 P k (M3 0 0 28)) y.1 (k + 1 + y.2.length) (w1.row (by decide)) w2
      rw [s1, obind]
      dsimp only
      have f4 : fT P k M M4 := f3.trans s2 (by omega)
      cases hq3 : br (k + 1 + y.2.length) y.1 with
      | inl b =>
        rw [hq3] at s4
        exact ⟨_, rfl, m_flt f4 s4.1 s4.2⟩
      | inr w =>
        rw [hq3] at s4
        obtain ⟨r1, r2, r3⟩ := s4
        have a3 : M3 0 0 31 = 0 := w1.1.alive (hbs _ _ _ hq3)
        have ek : k + 1 + y.2.length + w.2.length = k + ((y.2 ++ w.2).length + 1) := by
          rw [List.length_append]
          omega
        rw [ek] at r1
        have er : ∀ f, 34 ≤ f ∧ f ≤ 40 ∧ f ≠ 38 ∧ f ≠ 39 → M4 f P k = M f P k := fun f q => by
          rw [s2.low (by omega) (by omega), mu_ne _ _ (fun r => by omega), v2.low (by omega) (by omega), mu_ne _ _ (fun r => by omega), x3 f P k (by omega) (by omega)]
        have e39 : M4 39 P k = u := by
          rw [s2.low (by decide) (by omega), mu_ne _ _ (fun r => absurd r.1 (by decide)), v2.low (by decide) (by omega)]
          exact mu_at _ _ _ _ _
        have e38 : M4 38 P k = M3 0 0 28 := (s2.low (by decide) (by omega)).trans (mu_at _ _ _ _ _)
        have n30 : M1 0 0 30 ≤ M4 0 0 30 := Int.le_trans v2.2.1 s2.2.1
        refine ⟨_, rfl, m_fin (y := y.2 ++ w.2) f4 r1 r2 ?_ (fun q => ⟨?_, ?_, ?_⟩)⟩
        · show 1 + y.2.length + w.2.length = 1 + (y.2 ++ w.2).length
          rw [List.length_append]
          omega
        · refine ⟨⟨?_, ?_, ?_⟩, fun _ _ => ?_, fun q5 => ?_, fun q5 => absurd q5 (by show ¬ (3 : Int) = 0; decide)⟩
          · rw [er 34 (by decide)]
            exact n4
          · rw [er 35 (by decide)]
            exact n5
          · rw [er 36 (by decide)]
            exact n6
          · rw [e39]
            refine ⟨Int.lt_of_lt_of_le q1 n30, ?_⟩
            have z1 := (fT.row (P := P) (k := k) (f := 39) (i := k) (M := M1) (z := u) (by decide) (Nat.le_refl k)).nd q1 q2
            have z2 := v2.nd (show u < mu M1 39 P k u 0 0 30 from q1) z1
            have z3 := (fT.row (P := P) (k := k) (f := 38) (i := k) (M := M3) (z := M3 0 0 28) (by decide) (Nat.le_refl k)).nd (Int.lt_of_lt_of_le q1 v2.2.1) z2
            exact s2.nd (show u < mu M3 38 P k (M3 0 0 28) 0 0 30 from Int.lt_of_lt_of_le q1 v2.2.1) z3
          · exact absurd q5 (by show ¬ ((3 : Int) = 0 ∨ (3 : Int) = 4); decide)
        · obtain ⟨-, -, b3⟩ := w1.2.1 a3
          rw [e38, b3]
          show ((k + 1 + y.2.length : Nat) : Int) = ((k + (1 + y.2.length) : Nat) : Int)
          omega
        · exact (((w3 a3).wr (by decide) (by omega)).keep s2 (Nat.le_refl _)).app (r3 q)
end ML5
/-! STEPS of the reference (own work): a step, all depths -/
section ML6
variable {P : Nat} {T : Nat → Int} {m d : Nat}
theorem m_rest {stp : mA → Option (Int × mA)} {br : Nat → Nat → kR (List kS)} (hb : mBr P T m d (f_Mo_inBraces stp) br) (hbs : kBrS T m br) {M : mA} {p k : Nat} {kind : Int} (hd : d ≤ 4) (h : mTk P T m M p (k + 1)) (hk : 0 ≤ kind ∧ kind ≤ 5) (hn : mNew P k M kind) (ho : M 0 0 27 = 4 - d) : ∃ M', (if kind = 0 then gmDraw P k M else if kind = 1 then gmLet P k M else if kind = 5 then gmRun P k M else if kind = 4 then gmLoopS stp P k M else if kind = 2 then gmSee P k M else gmIf stp P k M) = some (0, M') ∧ mRs P T m d k M M' (kRest T m (4 - d) P (kExp T m (kOne T m d)) br kind k p) := by
  have q : kind = 0 ∨ kind = 1 ∨ kind = 2 ∨ kind = 3 ∨ kind = 4 ∨ kind = 5 := by omega
  rcases q with rfl | rfl | rfl | rfl | rfl | rfl
  · exact m_drawR h hn ho
  · exact m_letR hd h hn ho
  · exact m_seeR hd h hn ho
  · exact m_ifR hb hbs hd h hn ho
  · exact m_loopR hb hbs h hn ho
  · exact m_runR hd h hn ho
theorem m_stepB {stp : mA → Option (Int × mA)} {br : Nat → Nat → kR (List kS)} (hb : mBr P T m d (f_Mo_inBraces stp) br) (hbs : kBrS T m br) (hd : d ≤ 4) : mBr P T m d (f_Mo_stepT stp) (kStepB T m (4 - d) P (kExp T m (kOne T m d)) br) := by
  intro M p k h ho
  obtain ⟨g1, g2, g3, g4, g5, g6, g8, g9, g10⟩ := h.1.good
  obtain ⟨e3, e4, e5, e6, e7⟩ := h.1.2.1
  have hP := h.1.1.2.2.1
  have hP0 := h.1.1.2.1
  have h16 := h.2.2
  have flt : ∀ (r : kR (List kS)), r = .inl (tkB (kTok T m p)) → mRs P T m d k M (mu M 0 0 31 1) r := fun r e => by
    rw [e]
    exact ⟨fT.w1, mu_at _ _ _ _ _, e4⟩
  unfold f_Mo_stepT kStepB
  rcases h.1.w with ⟨w1, w2⟩ | ⟨w1, w2⟩
  · obtain ⟨l1, l2, l3⟩ := h.2.1 w1
    rw [w1, if_pos (show g32 (0 : Int) by decide), if_pos (show (0 : Int) = 0 by rfl), e5 w2, if_pos (show g32 _ by unfold g32; omega)]
    by_cases c : tkS (kTok T m p) = 2
    · rw [if_pos c, l3, if_pos (show g32 _ by unfold g32; omega)]
      by_cases c2 : k < 16
      · have g11 := g9 c
        rw [if_neg (show ¬ (k : Int) = 16 by omega), hP0, if_pos (show 0 ≤ (P : Int) ∧ (P : Int) < ((6 : Nat) : Int) by omega), if_pos (show 0 ≤ (k : Int) ∧ (k : Int) < ((16 : Nat) : Int) by omega), Int.toNat_natCast, Int.toNat_natCast, e6 (by omega) (by omega), if_pos (show tkS (kTok T m p) = 2 ∧ k < 16 from ⟨c, c2⟩)]
        obtain ⟨A, hA⟩ : ∃ A, A = mu (mu (mu (mu (mu (mu M 0 0 28 ((k : Int) + 1)) 34 P k (tkV (kTok T m p))) 35 P k (-1)) 36 P k (-1)) 39 P k (-1)) 40 P k (M 0 0 29) := ⟨_, rfl⟩
        rw [← hA]
        have n : mNew P k A (tkV (kTok T m p)) := by
          rw [hA]
          refine ⟨?_, ?_, ?_, ?_, ?_⟩ <;> simp [mu_r]
        have fA : fT P k M A := by
          have e0 : fT P k M (mu M 0 0 28 ((k : Int) + 1)) := fT.ofM (l := [28]) (fM.mu (by decide)) (by decide)
          rw [hA]
          exact ((((e0.trans (fT.row (by decide) (Nat.le_refl k)) (Nat.le_refl k)).trans (fT.row (by decide) (Nat.le_refl k)) (Nat.le_refl k)).trans (fT.row (by decide) (Nat.le_refl k)) (Nat.le_refl k)).trans (fT.row (by decide) (Nat.le_refl k)) (Nat.le_refl k)).trans (fT.row (by decide) (Nat.le_refl k)) (Nat.le_refl k)
        have sA : mTk P T m A p (k + 1) := by
          have s0 : mTk P T m (mu M 0 0 28 ((k : Int) + 1)) p (k + 1) := ⟨h.1.keep2 (fun j _ q _ => mu_ne _ _ (fun r => q r.2.2)) (fun j => mu_ne _ _ (fun r => absurd r.1 (by decide))), fun _ => ⟨l1, l2, mu_at _ _ _ _ _⟩, by omega⟩
          rw [hA]
          exact ((((s0.row (by decide)).row (by decide)).row (by decide)).row (by decide)).row (by decide)
        have oA : A 0 0 27 = 4 - d := by
          rw [hA]
          exact ho
        have aA : A 0 0 31 = 0 := by
          rw [hA]
          exact w1
        obtain ⟨M1, x1, x2, x3⟩ := m_advS sA aA
        rw [x1, obind]
        have n1 : mNew P k M1 (tkV (kTok T m p)) := by
          obtain ⟨n4, n5, n6, n9, n10⟩ := n
          exact ⟨(x2.row 34 P k (by decide)).trans n4, (x2.row 35 P k (by decide)).trans n5, (x2.row 36 P k (by decide)).trans n6, (x2.row 39 P k (by decide)).trans n9, (x2.row 40 P k (by decide)).trans (n10.trans (x2 0 0 29 (fun r => absurd r.2.2 (by decide))).symm)⟩
        obtain ⟨M', y1, y2, y4⟩ := m_rest hb hbs hd x3 ⟨g6.1, g11⟩ n1 ((x2 0 0 27 (fun r => absurd r.2.2 (by decide))).trans oA)
        refine ⟨M', ?_, (fA.trans (fT.ofM x2 (by decide)) (Nat.le_refl k)).trans y2 (Nat.le_refl k), y4⟩
        rw [if_pos (show g32 (tkV (kTok T m p)) by unfold g32; omega), ← y1]
        by_cases q0 : tkV (kTok T m p) = 0
        · rw [if_pos q0, if_pos q0]
          rfl
        rw [if_neg q0, if_neg q0]
        by_cases q1 : tkV (kTok T m p) = 1
        · rw [if_pos q1, if_pos q1]
          rfl
        rw [if_neg q1, if_neg q1]
        by_cases q5 : tkV (kTok T m p) = 5
        · rw [if_pos q5, if_pos q5]
          rfl
        rw [if_neg q5, if_neg q5]
        by_cases q4 : tkV (kTok T m p) = 4
        · rw [if_pos q4, if_pos q4]
          rfl
        rw [if_neg q4, if_neg q4]
        by_cases q2 : tkV (kTok T m p) = 2
        · rw [if_pos q2, if_pos q2]
          rfl
        rw [if_neg q2, if_neg q2, if_pos (show tkV (kTok T m p) = 3 by omega)]
        rfl
      · rw [if_pos (show (k : Int) = 16 by omega), if_neg (show ¬ (tkS (kTok T m p) = 2 ∧ k < 16) from fun r => c2 r.2)]
        exact ⟨_, rfl, flt _ rfl⟩
    · rw [if_neg c, if_neg (show ¬ (tkS (kTok T m p) = 2 ∧ k < 16) from fun r => c r.1)]
      exact ⟨_, rfl, flt _ rfl⟩
  · rw [w1, if_pos (show g32 (1 : Int) by decide), if_neg (show ¬ (1 : Int) = 0 by decide), if_neg (show ¬ (tkS (kTok T m p) = 2 ∧ k < 16) from fun r => by have := r.1; omega)]
    exact ⟨_, rfl, flt _ rfl⟩
theorem m_stepN (h120 : m ≤ 120) (hT : ∀ j, j < 120 → 0 ≤ T j ∧ T j ≤ 255) : ∀ d : Nat, d ≤ 4 → ∀ n : Nat, d < n → mBr P T m d (f_Mo_stepN n) (kStep T m P d) := by
  intro d
  induction d with
  | zero =>
    intro hd n hn
    obtain ⟨n, rfl⟩ : ∃ k, n = k + 1 := ⟨n - 1, by omega⟩
    intro M p k h ho
    have e : (4 : Int) - ((0 : Nat) : Int) = 4 := rfl
    have r := m_stepB (d := 0) (stp := f_Mo_stepN n) (br := kNoBr T m) m_brace0 kNoBr_s hd M p k h ho
    rw [e] at r
    exact r
  | succ d ih =>
    intro hd n hn
    obtain ⟨n, rfl⟩ : ∃ k, n = k + 1 := ⟨n - 1, by omega⟩
    intro M p k h ho
    exact m_stepB (d := d + 1) (stp := f_Mo_stepN n) (br := kBrace T m (kStep T m P d)) (m_brace (by omega) (ih (by omega) n (by omega)) (kStep_pr h120 hT P d)) kBrace_s hd M p k h ho
end ML6
