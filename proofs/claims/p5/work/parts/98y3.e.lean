/-! TOKENS of the class: numbers, signs, advance (own work) -/
theorem c_takeNumber {C : mA} {o : Nat} {T : Nat → Int} {m b : Nat} (h : bC C o T m) (h6 : C 3 o 6 = b) (h4 : C 3 o 4 = b) (h8 : C 3 o 8 = 0) (hbm : b < m) (hl : 48 ≤ T b ∧ T b ≤ 57) : ∃ C', f_Read_takeNumber C o = some (0, C') ∧ fC C C' o [4, 7, 8] ∧ gC C' o (kNb T b (kRun T m 48 57 120 b)) := by
  have hB := h
  obtain ⟨h0, hm, h120, h5⟩ := h
  obtain ⟨C1, k, f1, a1, e1⟩ := c_num0 120 200 b C hB h4 (by omega) (by omega) (by omega)
  obtain ⟨q1, q2⟩ := kRun_le (T := T) (m := m) (lo := 48) (hi := 57) 120 b (by omega)
  have q3 := kRun_end (T := T) (m := m) (lo := 48) (hi := 57) 120 b (by omega)
  have q4 : b + 1 ≤ kRun T m 48 57 120 b := by
    unfold kRun
    rw [if_pos ⟨hbm, hl⟩]
    exact (kRun_le _ _ (by omega)).1
  have q5 : b + 1 < kRun T m 48 57 120 b → 48 ≤ T (b + 1) ∧ T (b + 1) ≤ 57 := by
    unfold kRun
    rw [if_pos ⟨hbm, hl⟩]
    unfold kRun
    by_cases c : b + 1 < m ∧ (48 ≤ T (b + 1) ∧ T (b + 1) ≤ 57)
    · exact fun _ => c.2
    · rw [if_neg c]
      intro h
      omega
  generalize kRun T m 48 57 120 b = e at *
  have hB1 := hB.fr f1 (by decide) (by decide)
  have g6 : C1 3 o 6 = b := (f1 3 o 6 (fun r => absurd r.2.2 (by decide))).trans h6
  have g8 : C1 3 o 8 = 0 := (f1 3 o 8 (fun r => absurd r.2.2 (by decide))).trans h8
  have gm : C1 3 o 1 = m := (f1 3 o 1 (fun r => absurd r.2.2 (by decide))).trans hm
  have rest : ∃ C', (if g32 (C1 3 o 4 - C1 3 o 6) then if C1 3 o 4 - C1 3 o 6 ≤ 2 then f_Read_takeNumber_65 20 (mu C1 3 o 7 3) o (C1 3 o 6) else f_Read_takeNumber_65 20 (mu C1 3 o 7 5) o (C1 3 o 6) else none) = some (0, C') ∧ fC C1 C' o [7, 8] ∧ gC C' o (kNb T b e) := by
    rw [a1, g6, if_pos (by unfold g32; omega)]
    unfold kNb
    by_cases c1 : (e : Int) - b ≤ 2
    · rw [if_pos c1, if_pos (by omega)]
      have w1 : fC C1 (mu C1 3 o 7 3) o [7, 8] := fC.mu (by decide)
      have hB2 := hB1.fr w1 (by decide) (by decide)
      have i6 : mu C1 3 o 7 3 3 o 6 = b := (w1 3 o 6 (fun r => absurd r.2.2 (by decide))).trans g6
      have i4 : mu C1 3 o 7 3 3 o 4 = e := (w1 3 o 4 (fun r => absurd r.2.2 (by decide))).trans a1
      have i7 : mu C1 3 o 7 3 3 o 7 = 3 := mu_at _ _ _ _ _
      have i8 : mu C1 3 o 7 3 3 o 8 = 0 := (mu_ne _ _ (fun r => absurd r.2.2 (by decide))).trans g8
      generalize mu C1 3 o 7 3 = C2 at *
      rw [f_Read_takeNumber_65, i4, i7, if_pos (by unfold g32; omega), if_pos (by unfold g32; omega), if_neg (by omega), if_pos (by decide), if_pos rfl, c_byteAt hB2 rfl hbm, obind]
      show ∃ C', f_Read_takeNumber_65 19 (mu C2 3 o 8 (C2 3 o 8 * 10 + T b - 48)) o (b + 1) = _ ∧ _
      rw [i8]
      have w2 : fC C2 (mu C2 3 o 8 (0 * 10 + T b - 48)) o [7, 8] := fC.mu (by decide)
      have hB3 := hB2.fr w2 (by decide) (by decide)
      have j4 : mu C2 3 o 8 (0 * 10 + T b - 48) 3 o 4 = e := (w2 3 o 4 (fun r => absurd r.2.2 (by decide))).trans i4
      have j6 : mu C2 3 o 8 (0 * 10 + T b - 48) 3 o 6 = b := (w2 3 o 6 (fun r => absurd r.2.2 (by decide))).trans i6
      have j7 : mu C2 3 o 8 (0 * 10 + T b - 48) 3 o 7 = 3 := (mu_ne _ _ (fun r => absurd r.2.2 (by decide))).trans i7
      have j8 : mu C2 3 o 8 (0 * 10 + T b - 48) 3 o 8 = 0 * 10 + T b - 48 := mu_at _ _ _ _ _
      have w12 := w1.trans w2
      generalize mu C2 3 o 8 (0 * 10 + T b - 48) = C3 at *
      rw [f_Read_takeNumber_65, j4, j7, if_pos (by unfold g32; omega), if_pos (by unfold g32; omega)]
      by_cases c2 : e = b + 1
      · rw [if_pos (by omega)]
        refine ⟨C3, rfl, w12, j4, j6, j7, fun _ _ => ?_⟩
        rw [j8]
        show _ = kNum T b e
        unfold kNum
        rw [if_pos c2]
        omega
      · have q6 := q5 (by omega)
        rw [if_neg (by omega), if_pos (by decide), if_pos rfl, show ((b : Int) + 1) = ((b + 1 : Nat) : Int) from rfl, c_byteAt hB3 rfl (by omega), obind]
        show ∃ C', f_Read_takeNumber_65 18 (mu C3 3 o 8 (C3 3 o 8 * 10 + T (b + 1) - 48)) o (((b + 1 : Nat) : Int) + 1) = _ ∧ _
        rw [j8]
        have w3 : fC C3 (mu C3 3 o 8 ((0 * 10 + T b - 48) * 10 + T (b + 1) - 48)) o [7, 8] := fC.mu (by decide)
        have k4 : mu C3 3 o 8 ((0 * 10 + T b - 48) * 10 + T (b + 1) - 48) 3 o 4 = e := (w3 3 o 4 (fun r => absurd r.2.2 (by decide))).trans j4
        have k6 : mu C3 3 o 8 ((0 * 10 + T b - 48) * 10 + T (b + 1) - 48) 3 o 6 = b := (w3 3 o 6 (fun r => absurd r.2.2 (by decide))).trans j6
        have k7 : mu C3 3 o 8 ((0 * 10 + T b - 48) * 10 + T (b + 1) - 48) 3 o 7 = 3 := (mu_ne _ _ (fun r => absurd r.2.2 (by decide))).trans j7
        have k8 : mu C3 3 o 8 ((0 * 10 + T b - 48) * 10 + T (b + 1) - 48) 3 o 8 = (0 * 10 + T b - 48) * 10 + T (b + 1) - 48 := mu_at _ _ _ _ _
        have w123 := w12.trans w3
        generalize mu C3 3 o 8 ((0 * 10 + T b - 48) * 10 + T (b + 1) - 48) = C4 at *
        rw [f_Read_takeNumber_65, k4, if_pos (by unfold g32; omega), if_pos (by unfold g32; omega), if_pos (by omega)]
        refine ⟨C4, rfl, w123, k4, k6, k7, fun _ _ => ?_⟩
        rw [k8]
        show _ = kNum T b e
        unfold kNum
        rw [if_neg c2]
        omega
    · rw [if_neg c1, if_neg (by omega)]
      have w1 : fC C1 (mu C1 3 o 7 5) o [7, 8] := fC.mu (by decide)
      have i6 : mu C1 3 o 7 5 3 o 6 = b := (w1 3 o 6 (fun r => absurd r.2.2 (by decide))).trans g6
      have i4 : mu C1 3 o 7 5 3 o 4 = e := (w1 3 o 4 (fun r => absurd r.2.2 (by decide))).trans a1
      have i7 : mu C1 3 o 7 5 3 o 7 = 5 := mu_at _ _ _ _ _
      rw [f_Read_takeNumber_65, i4, i7, if_pos (by unfold g32; omega), if_pos (by unfold g32; omega), if_neg (by omega), if_pos (by decide), if_neg (by decide)]
      exact ⟨_, rfl, w1, i4, i6, i7, fun _ h => absurd h (by show ¬ (5 : Int) ≤ 4; decide)⟩
  obtain ⟨C', x1, x2, x3⟩ := rest
  refine ⟨C', ?_, (f1.sub (by decide)).trans (x2.sub (by decide)), x3⟩
  show f_Read_takeNumber_0 200 C o = _
  rw [e1, f_Read_takeNumber_0, a1, gm, if_pos (by unfold g32; omega), if_pos (by unfold g32; omega)]
  by_cases c : (m : Int) ≤ e
  · rw [if_pos c, ← a1]
    exact x1
  · have c9 : e < m := by omega
    have c8 := (h5 e (by omega)).2
    rw [if_neg c, c_byteAt hB1 rfl c9, obind, c_isDigit (by omega), obind, if_neg (fun r => q3 ⟨c9, r⟩), if_pos (by show g32 0; decide), if_pos (by show (0 : Int) = 0; rfl)]
    exact x1
theorem c_takeSign {C : mA} {o : Nat} {T : Nat → Int} {m b : Nat} (h : bC C o T m) (h4 : C 3 o 4 = b) (h6 : C 3 o 6 = b) (hbm : b < m) : ∃ C', f_Read_takeSign C o = some (0, C') ∧ fC C C' o [4, 7, 8] ∧ gC C' o (if kSgn (T b) then (4, T b, b, b + 1) else (5, 0, b, b + 1)) := by
  have h9 := (h.2.2.2 b (by have := h.2.2.1; omega)).2
  have key : f_Read_takeSign C o = some (0, mu (mu (mu C 3 o 8 (T b)) 3 o 4 (C 3 o 4 + 1)) 3 o 7 (if kSgn (T b) then 4 else 5)) := by
    unfold f_Read_takeSign
    rw [c_byteAt h h4 hbm, obind, if_pos (by show g32 (T b); unfold g32; omega)]
    show (if T b = 37 then _ else _) = _
    generalize T b = x
    by_cases c : kSgn x
    · rw [if_pos c]
      rcases c with rfl | rfl | rfl | rfl | rfl | rfl | rfl | rfl | rfl | rfl | rfl | rfl | rfl <;> rfl
    · rw [if_neg c]
      unfold kSgn at c
      rw [if_neg (by omega), if_neg (by omega), if_neg (by omega), if_neg (by omega), if_neg (by omega), if_neg (by omega), if_neg (by omega), if_neg (by omega), if_neg (by omega), if_neg (by omega), if_neg (by omega), if_neg (by omega), if_neg (by omega)]
  refine ⟨_, key, ((fC.mu (by decide)).trans (fC.mu (by decide))).trans (fC.mu (by decide)), ?_⟩
  have x4 : ∀ z, mu (mu (mu C 3 o 8 (T b)) 3 o 4 (C 3 o 4 + 1)) 3 o 7 z 3 o 4 = ((b + 1 : Nat) : Int) := fun z => by
    rw [mu_ne _ _ (fun r => absurd r.2.2 (by decide)), mu_at, h4]
    rfl
  have x6 : ∀ z, mu (mu (mu C 3 o 8 (T b)) 3 o 4 (C 3 o 4 + 1)) 3 o 7 z 3 o 6 = b := fun z => by
    rw [mu_ne _ _ (fun r => absurd r.2.2 (by decide)), mu_ne _ _ (fun r => absurd r.2.2 (by decide)), mu_ne _ _ (fun r => absurd r.2.2 (by decide)), h6]
  have x8 : ∀ z, mu (mu (mu C 3 o 8 (T b)) 3 o 4 (C 3 o 4 + 1)) 3 o 7 z 3 o 8 = T b := fun z => by
    rw [mu_ne _ _ (fun r => absurd r.2.2 (by decide)), mu_ne _ _ (fun r => absurd r.2.2 (by decide)), mu_at]
  by_cases c : kSgn (T b)
  · rw [if_pos c, if_pos c]
    exact ⟨x4 _, x6 _, mu_at _ _ _ _ _, fun _ _ => x8 _⟩
  · rw [if_neg c, if_neg c]
    exact ⟨x4 _, x6 _, mu_at _ _ _ _ _, fun _ h => absurd h (by show ¬ (5 : Int) ≤ 4; decide)⟩
/-- the blanks' loop -/
theorem c_adv0 {o : Nat} {T : Nat → Int} {m : Nat} : ∀ (d n p : Nat) (C : mA), bC C o T m → C 3 o 4 = p → p ≤ m → m ≤ p + d → d < n → ∃ (C' : mA) (k : Nat), fC C C' o [4] ∧ C' 3 o 4 = ((kSkip T m d p : Nat) : Int) ∧ f_Read_advance_0 n C o = f_Read_advance_0 (k + 1) C' o := by
  intro d
  induction d with
  | zero => intro n p C hb hp h1 h2 h3; exact ⟨C, n - 1, fC.refl, hp, by rw [Nat.sub_add_cancel (by omega)]⟩
  | succ d ih =>
    intro n p C hb hp h1 h2 h3
    have hB := hb
    obtain ⟨h0, hm, h4, h5⟩ := hb
    unfold kSkip
    by_cases c : p < m ∧ (T p = 32 ∨ T p = 10)
    · rw [if_pos c]
      have h9 := (h5 p (by omega)).2
      obtain ⟨n, rfl⟩ : ∃ k, n = k + 1 := ⟨n - 1, by omega⟩
      have f1 : fC C (mu C 3 o 4 ((p + 1 : Nat) : Int)) o [4] := fC.mu List.mem_cons_self
      obtain ⟨C', k, a, b, e⟩ := ih n (p + 1) (mu C 3 o 4 ((p + 1 : Nat) : Int)) (hB.fr f1 (by decide) (by decide)) (mu_at _ _ _ _ _) (by omega) (by omega) (by omega)
      refine ⟨C', k, f1.trans a, b, ?_⟩
      rw [← e]
      rw [f_Read_advance_0, hp, hm, if_pos (by unfold g32; omega), if_pos (by unfold g32; omega), if_neg (by omega), c_byteAt hB rfl c.1, obind, if_pos (by show g32 (T p); unfold g32; omega)]
      by_cases c2 : T p = 32
      · rw [if_pos c2]
        show f_Read_advance_0 n (mu C 3 o 4 (C 3 o 4 + 1)) o = _
        rw [hp]
        rfl
      · rw [if_neg c2]
        show Option.bind (f_Read_byteAt C o (C 3 o 4)) _ = _
        rw [c_byteAt hB hp c.1, obind, if_pos (by show g32 (T p); unfold g32; omega), if_pos (by show T p = 10; omega)]
        show f_Read_advance_0 n (mu C 3 o 4 (C 3 o 4 + 1)) o = _
        rw [hp]
        rfl
    · rw [if_neg c]
      exact ⟨C, n - 1, fC.refl, hp, by rw [Nat.sub_add_cancel (by omega)]⟩
/-- the next token of the class -/
theorem c_advance {C : mA} {o : Nat} {T : Nat → Int} {m p : Nat} (h : bC C o T m) (h4 : C 3 o 4 = p) (hp : p ≤ m) : ∃ C', f_Read_advance C o = some (0, C') ∧ fC C C' o [4, 6, 7, 8] ∧ gC C' o (kTok T m p) := by
  have hB := h
  obtain ⟨h0, hm, h120, h5⟩ := h
  obtain ⟨C1, k, f1, a1, e1⟩ := c_adv0 120 200 p C hB h4 hp (by omega) (by omega)
  obtain ⟨q1, q2⟩ := kSkip_le (T := T) (m := m) 120 p hp
  have q3 := kSkip_end (T := T) (m := m) 120 p (by omega)
  unfold kTok
  generalize kSkip T m 120 p = b at *
  have hB1 := hB.fr f1 (by decide) (by decide)
  have gm : C1 3 o 1 = m := (f1 3 o 1 (fun r => absurd r.2.2 (by decide))).trans hm
  have w1 : fC C1 (mu (mu C1 3 o 6 b) 3 o 8 0) o [4, 6, 7, 8] := (fC.mu (by decide)).trans (fC.mu (by decide))
  have hB2 := hB1.fr w1 (by decide) (by decide)
  have i4 : mu (mu C1 3 o 6 b) 3 o 8 0 3 o 4 = b := by
    rw [mu_ne _ _ (fun r => absurd r.2.2 (by decide)), mu_ne _ _ (fun r => absurd r.2.2 (by decide)), a1]
  have i6 : mu (mu C1 3 o 6 b) 3 o 8 0 3 o 6 = b := by
    rw [mu_ne _ _ (fun r => absurd r.2.2 (by decide)), mu_at]
  have i8 : mu (mu C1 3 o 6 b) 3 o 8 0 3 o 8 = 0 := mu_at _ _ _ _ _
  have f2 := (f1.sub (s' := [4, 6, 7, 8]) (by decide)).trans w1
  show ∃ C', f_Read_advance_0 200 C o = _ ∧ _
  rw [e1, f_Read_advance_0, a1, gm, if_pos (by unfold g32; omega), if_pos (by unfold g32; omega)]
  by_cases c : (m : Int) ≤ b
  · rw [if_pos c, if_neg (by omega)]
    unfold kTokB
    rw [if_pos (by omega)]
    refine ⟨_, rfl, f2.trans (fC.mu (by decide)), ?_, ?_, mu_at _ _ _ _ _, fun h => absurd h (by show ¬ (1 : Int) ≤ 0; decide)⟩
    · rw [mu_ne _ _ (fun r => absurd r.2.2 (by decide)), i4]
    · rw [mu_ne _ _ (fun r => absurd r.2.2 (by decide)), i6]
  · have c9 : b < m := by omega
    have c8 := (h5 b (by omega)).2
    have n1 : ¬ T b = 32 := fun r => q3 ⟨c9, Or.inl r⟩
    have n2 : ¬ T b = 10 := fun r => q3 ⟨c9, Or.inr r⟩
    rw [if_neg c, c_byteAt hB1 rfl c9, obind, if_pos (by show g32 (T b); unfold g32; omega), if_neg n1]
    show ∃ C', Option.bind (f_Read_byteAt C1 o (C1 3 o 4)) _ = _ ∧ _
    rw [c_byteAt hB1 a1 c9, obind, if_pos (by show g32 (T b); unfold g32; omega), if_neg n2]
    show ∃ C', (if g32 (C1 3 o 4) then if g32 (C1 3 o 1) then if C1 3 o 4 < C1 3 o 1 then Option.bind (f_Read_byteAt (mu (mu C1 3 o 6 (C1 3 o 4)) 3 o 8 0) o (C1 3 o 4)) _ else _ else none else none) = _ ∧ _
    rw [a1, gm, if_pos (by unfold g32; omega), if_pos (by unfold g32; omega), if_pos (by omega)]
    generalize mu (mu C1 3 o 6 b) 3 o 8 0 = C2 at *
    rw [c_byteAt hB2 rfl c9, obind, c_isLetter (by omega), obind]
    have et : kTokB T m b = (if 97 ≤ T b ∧ T b ≤ 122 then kWd T m b (kRun T m 97 122 120 b) else if 48 ≤ T b ∧ T b ≤ 57 then kNb T b (kRun T m 48 57 120 b) else if kSgn (T b) then (4, T b, b, b + 1) else (5, 0, b, b + 1)) := by
      unfold kTokB
      rw [if_neg (by omega)]
    rw [et]
    by_cases l1 : 97 ≤ T b ∧ T b ≤ 122
    · rw [if_pos l1, if_pos l1, if_pos (by show g32 1; decide), if_neg (by show ¬ (1 : Int) = 0; decide)]
      obtain ⟨C', x1, x2, x3⟩ := c_takeWord hB2 i6 i4 c9 l1
      show ∃ C', Option.bind (f_Read_takeWord C2 o) _ = _ ∧ _
      rw [x1, obind]
      exact ⟨C', rfl, f2.trans (x2.sub (by decide)), x3⟩
    · rw [if_neg l1, if_neg l1, if_pos (by show g32 0; decide), if_pos (by show (0 : Int) = 0; rfl)]
      show ∃ C', Option.bind (f_Read_byteAt C2 o (C2 3 o 4)) _ = _ ∧ _
      rw [c_byteAt hB2 i4 c9, obind, c_isDigit (by omega), obind]
      by_cases l2 : 48 ≤ T b ∧ T b ≤ 57
      · rw [if_pos l2, if_pos l2, if_pos (by show g32 1; decide), if_neg (by show ¬ (1 : Int) = 0; decide)]
        obtain ⟨C', x1, x2, x3⟩ := c_takeNumber hB2 i6 i4 i8 c9 l2
        show ∃ C', Option.bind (f_Read_takeNumber C2 o) _ = _ ∧ _
        rw [x1, obind]
        exact ⟨C', rfl, f2.trans (x2.sub (by decide)), x3⟩
      · rw [if_neg l2, if_neg l2, if_pos (by show g32 0; decide), if_pos (by show (0 : Int) = 0; rfl)]
        obtain ⟨C', x1, x2, x3⟩ := c_takeSign hB2 i4 i6 c9
        show ∃ C', Option.bind (f_Read_takeSign C2 o) _ = _ ∧ _
        rw [x1, obind]
        exact ⟨C', rfl, f2.trans (x2.sub (by decide)), x3⟩
