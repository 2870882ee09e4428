/-! STEPS of the reference (own work): let, see, run -/
section ML4
variable {P : Nat} {T : Nat → Int} {m d k : Nat}
/-- a formula, at a step -/
theorem m_form {M : mA} {p : Nat} (hd : d ≤ 4) (h : mTk P T m M p (k + 1)) (ho : M 0 0 27 = 4 - d) : ∃ z M', f_Mo_expression (f_Mo_oneN 6) M = some (z, M') ∧ fT P k M M' ∧ (∀ f a j, 1 ≤ f → f < 43 → M' f a j = M f a j) ∧ M' 0 0 27 = 4 - d ∧ kCase (kExp T m (kOne T m d) p) (fun b => M' 0 0 31 = 1 ∧ M' 0 0 24 = b) (fun x => mTk P T m M' x.1 (k + 1) ∧ M' 0 0 28 = M 0 0 28 ∧ M' 0 0 29 = M 0 0 29 ∧ (M' 0 0 31 = 0 → M 0 0 31 = 0 ∧ z < M' 0 0 30 ∧ nTr M' P z x.2)) := by
  have h120 := h.1.1.tx.1
  have hT := h.1.1.tx.2
  obtain ⟨z, M1, x1, x2, x3, x5, x4⟩ := m_exp (m_oneN (P := P) (T := T) (m := m) d hd 6 (by omega) h120 hT) (kOne_pr h120 hT d) h120 hT M p h.1 ho
  refine ⟨z, M1, x1, fT.ofN x2, fun f a j q1 q2 => x2.row f a j q1 q2, x5, ?_⟩
  cases hq : kExp T m (kOne T m d) p with
  | inl b =>
    rw [hq] at x4
    exact x4
  | inr x =>
    rw [hq] at x4
    obtain ⟨a1, a2, a3⟩ := x4
    obtain ⟨b1, b2, b3⟩ := kExp_pr h120 hT (kOne_pr h120 hT d) _ h.1.2.2.1 x hq
    have e : ∀ j, j = 28 ∨ j = 29 → M1 0 0 j = M 0 0 j := fun j hj => x2.2 0 0 j (fun r => by
      rcases r with r | r
      · have := r.2.2
        simp only [List.mem_cons, List.not_mem_nil, or_false] at this
        omega
      · omega)
    have al : M1 0 0 31 = 0 → M 0 0 31 = 0 := fun q => by
      rcases h.1.w with w | w
      · exact w.1
      · exfalso
        rw [m_expD w.1] at x1
        have e9 : M = M1 := congrArg Prod.snd (Option.some.inj x1)
        rw [← e9, w.1] at q
        exact absurd q (by decide)
    refine ⟨⟨a1, fun q => ?_, h.2.2⟩, e 28 (Or.inl rfl), e 29 (Or.inr rfl), fun q => ⟨al q, a3 q⟩⟩
    obtain ⟨c1, c2, c3⟩ := h.2.1 (al q)
    rw [e 28 (Or.inl rfl), e 29 (Or.inr rfl)]
    exact ⟨c1, by omega, c3⟩
def gmLet (P k : Nat) (M : mA) : Option (Int × mA) := Option.bind (f_Mo_takes M 1 0 5) (fun q37 => Option.bind (f_Mo_expression (f_Mo_oneN 6) (mu q37.2 35 P k q37.1)) (fun q44 => some (0, mu (mu (mu q44.2 39 P k q44.1) 38 P k (q44.2 0 0 28)) 37 P k (q44.2 0 0 28))))
theorem m_letR {others : Int} {br : Nat → Nat → kR (List kS)} {M : mA} {p : Nat} (hd : d ≤ 4) (h : mTk P T m M p (k + 1)) (hn : mNew P k M 1) (ho : M 0 0 27 = 4 - d) : ∃ M', gmLet P k M = some (0, M') ∧ mRs P T m d k M M' (kRest T m (4 - d) others (kExp T m (kOne T m d)) br 1 k p) := by
  obtain ⟨n4, n5, n6, n9, n10⟩ := hn
  obtain ⟨z, M1, x1, x2, x3⟩ := m_takes h.1 (so := 1) (lo := 0) (hi := 5) (Or.inl rfl) (by decide) (by decide)
  obtain ⟨g1, g2, g3, g4, g5, g6, g8, -⟩ := h.1.good
  unfold gmLet
  rw [x1, obind]
  show ∃ M', Option.bind (f_Mo_expression (f_Mo_oneN 6) (mu M1 35 P k z)) _ = _ ∧ _
  have e : kRest T m (4 - d) others (kExp T m (kOne T m d)) br 1 k p = kName T m p (fun v p => kThen (kExp T m (kOne T m d) p) (fun q c => .inr (q, [(1, v, -1, 1, 1, c, [], 4 - (d : Int))]))) := rfl
  rw [e]
  unfold kName
  have f1 : fT P k M (mu M1 35 P k z) := (fT.ofM x2 (by decide)).trans (fT.row (by decide) (Nat.le_refl k)) (Nat.le_refl k)
  rcases x3 with ⟨c, cz, y1⟩ | ⟨c, cz, y1, y2⟩
  · rw [if_pos c.1]
    have a0 := h.1.alive (by rw [c.1]; decide)
    have s1 : mTk P T m (mu M1 35 P k z) (tkE (kTok T m p)) (k + 1) := (h.goM x2 y1 (by omega) (fun _ => a0)).row (by decide)
    obtain ⟨u, M3, v1, v2, v3, v5, v4⟩ := m_form hd s1 ((x2 0 0 27 (fun r => absurd r.2.2 (by decide))).trans ho)
    rw [v1, obind]
    dsimp only
    have f3 : fT P k M (mu M3 39 P k u) := (f1.trans v2 (Nat.le_refl k)).trans (fT.row (by decide) (Nat.le_refl k)) (Nat.le_refl k)
    cases hq : kExp T m (kOne T m d) (tkE (kTok T m p)) with
    | inl b =>
      rw [hq] at v4
      exact ⟨_, rfl, m_flt1 f3 v4.1 v4.2⟩
    | inr x =>
      rw [hq] at v4
      obtain ⟨t1, t2, t3, t4⟩ := v4
      have er : ∀ f, 34 ≤ f ∧ f ≤ 40 ∧ f ≠ 35 ∧ f ≠ 39 → mu M3 39 P k u f P k = M f P k := fun f q => by
        rw [mu_ne _ _ (fun r => by omega), v3 f P k (by omega) (by omega), mu_ne _ _ (fun r => by omega)]
        exact x2.row f P k (by omega)
      have e35 : mu M3 39 P k u 35 P k = z := by
        rw [mu_ne _ _ (fun r => absurd r.1 (by decide)), v3 35 P k (by decide) (by decide)]
        exact mu_at _ _ _ _ _
      refine ⟨_, rfl, m_fin1 (M3 := mu M3 39 P k u) f3 (t1.row (by decide)) v5 rfl rfl (fun q => ?_)⟩
      obtain ⟨-, q1, q2⟩ := t4 q
      refine ⟨⟨?_, ?_, ?_⟩, fun _ _ => ?_, fun q1 => ?_, fun q1 => absurd q1 (by show ¬ (1 : Int) = 0; decide)⟩
      · rw [er 34 (by decide)]
        exact n4
      · rw [e35]
        exact cz
      · rw [er 36 (by decide)]
        exact n6
      · rw [mu_at]
        exact ⟨q1, (fT.row (k := k) (by decide) (Nat.le_refl k)).nd q1 q2⟩
      · exact absurd q1 (by show ¬ ((1 : Int) = 0 ∨ (1 : Int) = 4); decide)
  · rw [if_neg (fun r => c ⟨r, by have := g8 r; omega⟩), m_expD (show mu M1 35 P k z 0 0 31 = 1 from y1), obind]
    exact ⟨_, rfl, m_flt1 (M3 := mu (mu M1 35 P k z) 39 P k 0) (f1.trans (fT.row (by decide) (Nat.le_refl k)) (Nat.le_refl k)) y1 y2⟩
def gmSee (P k : Nat) (M : mA) : Option (Int × mA) := Option.bind (f_Mo_expression (f_Mo_oneN 6) M) (fun q58 => some (0, mu (mu (mu q58.2 39 P k q58.1) 38 P k (q58.2 0 0 28)) 37 P k (q58.2 0 0 28)))
theorem m_seeR {others : Int} {br : Nat → Nat → kR (List kS)} {M : mA} {p : Nat} (hd : d ≤ 4) (h : mTk P T m M p (k + 1)) (hn : mNew P k M 2) (ho : M 0 0 27 = 4 - d) : ∃ M', gmSee P k M = some (0, M') ∧ mRs P T m d k M M' (kRest T m (4 - d) others (kExp T m (kOne T m d)) br 2 k p) := by
  obtain ⟨n4, n5, n6, n9, n10⟩ := hn
  obtain ⟨u, M3, v1, v2, v3, v5, v4⟩ := m_form hd h ho
  unfold gmSee
  rw [v1, obind]
  dsimp only
  have e : kRest T m (4 - d) others (kExp T m (kOne T m d)) br 2 k p = kThen (kExp T m (kOne T m d) p) (fun q c => .inr (q, [(2, -1, -1, 1, 1, c, [], 4 - (d : Int))])) := rfl
  rw [e]
  have f3 : fT P k M (mu M3 39 P k u) := v2.trans (fT.row (by decide) (Nat.le_refl k)) (Nat.le_refl k)
  cases hq : kExp T m (kOne T m d) p with
  | inl b =>
    rw [hq] at v4
    exact ⟨_, rfl, m_flt1 f3 v4.1 v4.2⟩
  | inr x =>
    rw [hq] at v4
    obtain ⟨t1, t2, t3, t4⟩ := v4
    have er : ∀ f, 34 ≤ f ∧ f ≤ 40 ∧ f ≠ 39 → mu M3 39 P k u f P k = M f P k := fun f q => by
      rw [mu_ne _ _ (fun r => by omega), v3 f P k (by omega) (by omega)]
    refine ⟨_, rfl, m_fin1 (M3 := mu M3 39 P k u) f3 (t1.row (by decide)) v5 rfl rfl (fun q => ?_)⟩
    obtain ⟨-, q1, q2⟩ := t4 q
    refine ⟨⟨?_, ?_, ?_⟩, fun _ _ => ?_, fun q1 => ?_, fun q1 => absurd q1 (by show ¬ (2 : Int) = 0; decide)⟩
    · rw [er 34 (by decide)]
      exact n4
    · rw [er 35 (by decide)]
      exact n5
    · rw [er 36 (by decide)]
      exact n6
    · rw [mu_at]
      exact ⟨q1, (fT.row (k := k) (by decide) (Nat.le_refl k)).nd q1 q2⟩
    · exact absurd q1 (by show ¬ ((2 : Int) = 0 ∨ (2 : Int) = 4); decide)
def gmRun (P k : Nat) (M : mA) : Option (Int × mA) := Option.bind (f_Mo_takes M 1 0 5) (fun q99 => Option.bind (f_Mo_takes (mu q99.2 35 P k q99.1) 3 0 ((q99.2 0 0 0) - 1)) (fun q105 => Option.bind (f_Mo_expression (f_Mo_oneN 6) (mu q105.2 36 P k q105.1)) (fun q112 => some (0, mu (mu (mu q112.2 39 P k q112.1) 38 P k (q112.2 0 0 28)) 37 P k (q112.2 0 0 28)))))
theorem m_runR {br : Nat → Nat → kR (List kS)} {M : mA} {p : Nat} (hd : d ≤ 4) (h : mTk P T m M p (k + 1)) (hn : mNew P k M 5) (ho : M 0 0 27 = 4 - d) : ∃ M', gmRun P k M = some (0, M') ∧ mRs P T m d k M M' (kRest T m (4 - d) P (kExp T m (kOne T m d)) br 5 k p) := by
  obtain ⟨n4, n5, n6, n9, n10⟩ := hn
  have hP := h.1.1.2.2.1
  obtain ⟨z, M1, x1, x2, x3⟩ := m_takes h.1 (so := 1) (lo := 0) (hi := 5) (Or.inl rfl) (by decide) (by decide)
  obtain ⟨g1, g2, g3, g4, g5, g6, g8, -⟩ := h.1.good
  unfold gmRun
  rw [x1, obind]
  have p1 : M1 0 0 0 = P := (x2 0 0 0 (fun r => absurd r.2.2 (by decide))).trans h.1.1.2.1
  show ∃ M', Option.bind (f_Mo_takes (mu M1 35 P k z) 3 0 (M1 0 0 0 - 1)) _ = _ ∧ _
  rw [p1]
  have e : kRest T m (4 - d) P (kExp T m (kOne T m d)) br 5 k p = kName T m p (fun v p => kNumb T m P p (fun u p => kThen (kExp T m (kOne T m d) p) (fun q c => .inr (q, [(5, v, u, 1, 1, c, [], 4 - (d : Int))])))) := rfl
  rw [e]
  unfold kName
  have f1 : fT P k M (mu M1 35 P k z) := (fT.ofM x2 (by decide)).trans (fT.row (by decide) (Nat.le_refl k)) (Nat.le_refl k)
  rcases x3 with ⟨c, cz, y1⟩ | ⟨c, cz, y1, y2⟩
  · rw [if_pos c.1]
    have a0 := h.1.alive (by rw [c.1]; decide)
    have s1 : mTk P T m (mu M1 35 P k z) (tkE (kTok T m p)) (k + 1) := (h.goM x2 y1 (by omega) (fun _ => a0)).row (by decide)
    obtain ⟨i1, i2, i3, i4, i5, i6, -⟩ := s1.1.good
    have tk : ∃ u M2, f_Mo_takes (mu M1 35 P k z) 3 0 ((P : Int) - 1) = some (u, M2) ∧ fM (mu M1 35 P k z) M2 [23, 24, 25, 26, 31] ∧ ((tkS (kTok T m (tkE (kTok T m p))) = 3 ∧ tkV (kTok T m (tkE (kTok T m p))) < (P : Int)) ∧ u = tkV (kTok T m (tkE (kTok T m p))) ∧ mE9 P T m M2 (tkE (kTok T m (tkE (kTok T m p)))) ∨ ¬ (tkS (kTok T m (tkE (kTok T m p))) = 3 ∧ tkV (kTok T m (tkE (kTok T m p))) < (P : Int)) ∧ M2 0 0 31 = 1 ∧ M2 0 0 24 = tkB (kTok T m (tkE (kTok T m p)))) := by
      by_cases hp0 : P = 0
      · obtain ⟨M2, b1, b2, b3, b4⟩ := m_takes0 s1.1
        refine ⟨0, M2, ?_, b2, Or.inr ⟨fun r => by omega, b3, b4⟩⟩
        rw [hp0] at b1 ⊢
        exact b1
      · obtain ⟨u, M2, b1, b2, b3⟩ := m_takes s1.1 (so := 3) (lo := 0) (hi := (P : Int) - 1) (Or.inr rfl) (by decide) (by omega)
        refine ⟨u, M2, b1, b2, ?_⟩
        rcases b3 with ⟨q1, q2, q3⟩ | ⟨q1, q2, q3, q4⟩
        · exact Or.inl ⟨⟨q1.1, by omega⟩, q2, q3⟩
        · exact Or.inr ⟨fun r => q1 ⟨r.1, by omega, by omega⟩, q3, q4⟩
    obtain ⟨u, M2, b1, b2, b3⟩ := tk
    rw [b1, obind]
    show ∃ M', Option.bind (f_Mo_expression (f_Mo_oneN 6) (mu M2 36 P k u)) _ = _ ∧ _
    have f2 : fT P k M (mu M2 36 P k u) := (f1.trans (fT.ofM b2 (by decide)) (Nat.le_refl k)).trans (fT.row (by decide) (Nat.le_refl k)) (Nat.le_refl k)
    unfold kNumb
    dsimp only
    rcases b3 with ⟨c2, cu, y3⟩ | ⟨c2, y3, y4⟩
    · rw [if_pos c2]
      have a1 := s1.1.alive (by rw [c2.1]; decide)
      have s2 : mTk P T m (mu M2 36 P k u) (tkE (kTok T m (tkE (kTok T m p)))) (k + 1) := (s1.goM b2 y3 (by omega) (fun _ => a1)).row (by decide)
      obtain ⟨w, M3, v1, v2, v3, v5, v4⟩ := m_form hd s2 ((b2 0 0 27 (fun r => absurd r.2.2 (by decide))).trans ((x2 0 0 27 (fun r => absurd r.2.2 (by decide))).trans ho))
      rw [v1, obind]
      dsimp only
      have f3 : fT P k M (mu M3 39 P k w) := (f2.trans v2 (Nat.le_refl k)).trans (fT.row (by decide) (Nat.le_refl k)) (Nat.le_refl k)
      cases hq : kExp T m (kOne T m d) (tkE (kTok T m (tkE (kTok T m p)))) with
      | inl b =>
        rw [hq] at v4
        exact ⟨_, rfl, m_flt1 f3 v4.1 v4.2⟩
      | inr x =>
        rw [hq] at v4
        obtain ⟨t1, t2, t3, t4⟩ := v4
        have e34 : mu M3 39 P k w 34 P k = 5 := by
          rw [mu_ne _ _ (fun r => absurd r.1 (by decide)), v3 34 P k (by decide) (by decide), mu_ne _ _ (fun r => absurd r.1 (by decide)), b2.row 34 P k (by decide), mu_ne _ _ (fun r => absurd r.1 (by decide)), x2.row 34 P k (by decide)]
          exact n4
        have e35 : mu M3 39 P k w 35 P k = z := by
          rw [mu_ne _ _ (fun r => absurd r.1 (by decide)), v3 35 P k (by decide) (by decide), mu_ne _ _ (fun r => absurd r.1 (by decide)), b2.row 35 P k (by decide)]
          exact mu_at _ _ _ _ _
        have e36 : mu M3 39 P k w 36 P k = u := by
          rw [mu_ne _ _ (fun r => absurd r.1 (by decide)), v3 36 P k (by decide) (by decide)]
          exact mu_at _ _ _ _ _
        refine ⟨_, rfl, m_fin1 (M3 := mu M3 39 P k w) f3 (t1.row (by decide)) v5 rfl rfl (fun q => ?_)⟩
        obtain ⟨-, q1, q2⟩ := t4 q
        refine ⟨⟨e34, e35.trans cz, e36.trans cu⟩, fun _ _ => ?_, fun q1 => ?_, fun q1 => absurd q1 (by show ¬ (5 : Int) = 0; decide)⟩
        · rw [mu_at]
          exact ⟨q1, (fT.row (k := k) (by decide) (Nat.le_refl k)).nd q1 q2⟩
        · exact absurd q1 (by show ¬ ((5 : Int) = 0 ∨ (5 : Int) = 4); decide)
    · rw [if_neg c2, m_expD (show mu M2 36 P k u 0 0 31 = 1 from y3), obind]
      exact ⟨_, rfl, m_flt1 (M3 := mu (mu M2 36 P k u) 39 P k 0) (f2.trans (fT.row (by decide) (Nat.le_refl k)) (Nat.le_refl k)) y3 y4⟩
  · obtain ⟨M2, b1, b2⟩ : ∃ M2, f_Mo_takes (mu M1 35 P k z) 3 0 ((P : Int) - 1) = some (0, M2) ∧ M2 = mu (mu M1 35 P k z) 0 0 31 1 := ⟨_, m_takesD (show mu M1 35 P k z 0 0 31 = 1 from y1), rfl⟩
    rw [if_neg (fun r => c ⟨r, by have := g8 r; omega⟩), b1, obind]
    show ∃ M', Option.bind (f_Mo_expression (f_Mo_oneN 6) (mu M2 36 P k 0)) _ = _ ∧ _
    have k1 : mu M2 36 P k 0 0 0 31 = 1 := by
      rw [b2]
      rfl
    have k2 : mu M2 36 P k 0 0 0 24 = tkB (kTok T m p) := by
      rw [b2]
      exact y2
    rw [m_expD k1, obind]
    refine ⟨_, rfl, m_flt1 (M3 := mu (mu M2 36 P k 0) 39 P k 0) (((f1.trans ?_ (Nat.le_refl k)).trans (fT.row (by decide) (Nat.le_refl k)) (Nat.le_refl k)).trans (fT.row (by decide) (Nat.le_refl k)) (Nat.le_refl k)) k1 k2⟩
    rw [b2]
    exact fT.w1
end ML4
