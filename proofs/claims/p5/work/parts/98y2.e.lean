/-! TOKENS of the class, whole (own work) -/
def kKind (T : Nat → Int) (b a m : Nat) : Int :=
  if kSpelt T 0 b a m = true then 0 else if kSpelt T 1 b a m = true then 1 else if kSpelt T 2 b a m = true then 2 else if kSpelt T 3 b a m = true then 3 else if kSpelt T 4 b a m = true then 4 else if kSpelt T 5 b a m = true then 5 else -1
theorem kKind_is {T : Nat → Int} {b a m i : Nat} (hi : i < 6) (h : kSpelt T i b a m = true) : kKind T b a m = i := by
  have u : ∀ j, j < 6 → j ≠ i → ¬ kSpelt T j b a m = true := fun j hj hn h' => hn (kSpelt_one hj hi h' h)
  unfold kKind
  match i, hi with
  | 0, _ => rw [if_pos h]; rfl
  | 1, _ => rw [if_neg (u 0 (by omega) (by omega)), if_pos h]; rfl
  | 2, _ => rw [if_neg (u 0 (by omega) (by omega)), if_neg (u 1 (by omega) (by omega)), if_pos h]; rfl
  | 3, _ => rw [if_neg (u 0 (by omega) (by omega)), if_neg (u 1 (by omega) (by omega)), if_neg (u 2 (by omega) (by omega)), if_pos h]; rfl
  | 4, _ => rw [if_neg (u 0 (by omega) (by omega)), if_neg (u 1 (by omega) (by omega)), if_neg (u 2 (by omega) (by omega)), if_neg (u 3 (by omega) (by omega)), if_pos h]; rfl
  | 5, _ => rw [if_neg (u 0 (by omega) (by omega)), if_neg (u 1 (by omega) (by omega)), if_neg (u 2 (by omega) (by omega)), if_neg (u 3 (by omega) (by omega)), if_neg (u 4 (by omega) (by omega)), if_pos h]; rfl
theorem kKind_no {T : Nat → Int} {b a m : Nat} (u : ∀ j, j < 6 → ¬ kSpelt T j b a m = true) : kKind T b a m = -1 := by
  unfold kKind
  rw [if_neg (u 0 (by omega)), if_neg (u 1 (by omega)), if_neg (u 2 (by omega)), if_neg (u 3 (by omega)), if_neg (u 4 (by omega)), if_neg (u 5 (by omega))]
abbrev kSgn (x : Int) : Prop := x = 37 ∨ x = 40 ∨ x = 41 ∨ x = 42 ∨ x = 43 ∨ x = 44 ∨ x = 45 ∨ x = 58 ∨ x = 59 ∨ x = 60 ∨ x = 61 ∨ x = 123 ∨ x = 125
def kNum (T : Nat → Int) (b e : Nat) : Int := if e = b + 1 then T b - 48 else (T b - 48) * 10 + T (b + 1) - 48
/-- a token: sort (0 end, 1 name, 2 key, 3 number, 4 sign, 5 broken), value, begin, end -/
abbrev kT : Type := Int × Int × Nat × Nat
abbrev tkS (t : kT) : Int := t.1
abbrev tkV (t : kT) : Int := t.2.1
abbrev tkB (t : kT) : Nat := t.2.2.1
abbrev tkE (t : kT) : Nat := t.2.2.2
def kWd (T : Nat → Int) (m b e : Nat) : kT := if e = b + 1 ∧ T b ≤ 102 then (1, T b - 97, b, e) else if kKind T b e m = -1 then (5, 0, b, e) else (2, kKind T b e m, b, e)
def kNb (T : Nat → Int) (b e : Nat) : kT := if e ≤ b + 2 then (3, kNum T b e, b, e) else (5, 0, b, e)
def kTokB (T : Nat → Int) (m b : Nat) : kT :=
  if m ≤ b then (0, 0, b, b)
  else if 97 ≤ T b ∧ T b ≤ 122 then kWd T m b (kRun T m 97 122 120 b)
  else if 48 ≤ T b ∧ T b ≤ 57 then kNb T b (kRun T m 48 57 120 b)
  else if kSgn (T b) then (4, T b, b, b + 1) else (5, 0, b, b + 1)
def kTok (T : Nat → Int) (m p : Nat) : kT := kTokB T m (kSkip T m 120 p)
/-- what the class keeps of a token -/
def gC (C' : mA) (o : Nat) (t : kT) : Prop := C' 3 o 4 = tkE t ∧ C' 3 o 6 = tkB t ∧ C' 3 o 7 = tkS t ∧ (1 ≤ tkS t → tkS t ≤ 4 → C' 3 o 8 = tkV t)
theorem gi {c : Prop} [Decidable c] {α : Type} {a b : α} {P : α → Prop} (h1 : c → P a) (h2 : ¬ c → P b) : P (if c then a else b) := by
  by_cases h : c
  · rw [if_pos h]; exact h1 h
  · rw [if_neg h]; exact h2 h
theorem c_takeWord {C : mA} {o : Nat} {T : Nat → Int} {m b : Nat} (h : bC C o T m) (h6 : C 3 o 6 = b) (h4 : C 3 o 4 = b) (hbm : b < m) (hl : 97 ≤ T b ∧ T b ≤ 122) : ∃ C', f_Read_takeWord C o = some (0, C') ∧ fC C C' o [4, 7, 8] ∧ gC C' o (kWd T m b (kRun T m 97 122 120 b)) := by
  have hB := h
  obtain ⟨h0, hm, h120, h5⟩ := h
  obtain ⟨C1, k, f1, a1, e1⟩ := c_word0 120 200 b C hB h4 (by omega) (by omega) (by omega)
  obtain ⟨q1, q2⟩ := kRun_le (T := T) (m := m) (lo := 97) (hi := 122) 120 b (by omega)
  have q3 := kRun_end (T := T) (m := m) (lo := 97) (hi := 122) 120 b (by omega)
  have q4 : b + 1 ≤ kRun T m 97 122 120 b := by
    unfold kRun
    rw [if_pos ⟨hbm, hl⟩]
    exact (kRun_le _ _ (by omega)).1
  generalize kRun T m 97 122 120 b = e at *
  have hB1 := hB.fr f1 (by decide) (by decide)
  have g6 : C1 3 o 6 = b := (f1 3 o 6 (fun r => absurd r.2.2 (by decide))).trans h6
  have gm : C1 3 o 1 = m := (f1 3 o 1 (fun r => absurd r.2.2 (by decide))).trans hm
  -- what comes behind the loop, from C1
  have rest : ∃ C', (if g32 (C1 3 o 4 - C1 3 o 6) then if C1 3 o 4 - C1 3 o 6 = 1 then Option.bind (f_Read_byteAt (mu C1 3 o 7 5) o (C1 3 o 6)) (fun q12 => if g32 q12.1 then if 102 < q12.1 then f_Read_takeWord_91 20 q12.2 o 0 else Option.bind (f_Read_byteAt (mu q12.2 3 o 7 1) o (q12.2 3 o 6)) (fun q16 => f_Read_takeWord_91 20 (mu q16.2 3 o 8 (q16.1 - 97)) o 0) else none) else f_Read_takeWord_91 20 (mu C1 3 o 7 5) o 0 else none) = some (0, C') ∧ fC C1 C' o [7, 8] ∧ gC C' o (kWd T m b e) := by
    have w1 : fC C1 (mu C1 3 o 7 5) o [7, 8] := fC.mu (by decide)
    have hB2 := hB1.fr w1 (by decide) (by decide)
    have i6 : mu C1 3 o 7 5 3 o 6 = b := (w1 3 o 6 (fun r => absurd r.2.2 (by decide))).trans g6
    have i4 : mu C1 3 o 7 5 3 o 4 = e := (w1 3 o 4 (fun r => absurd r.2.2 (by decide))).trans a1
    -- a word of more letters, or of one behind f
    have long : (∀ i, i < 6 → kSpelt T i b e m = true → ¬ (e = b + 1 ∧ T b ≤ 102)) → ¬ (e = b + 1 ∧ T b ≤ 102) → ∃ C', f_Read_takeWord_91 20 (mu C1 3 o 7 5) o 0 = some (0, C') ∧ fC C1 C' o [7, 8] ∧ gC C' o (kWd T m b e) := fun _ hne => by
      obtain ⟨C', x1, x2⟩ := c_word91 (by omega) q2 6 20 0 (mu C1 3 o 7 5) hB2 i6 i4 rfl (by omega)
      refine ⟨C', x1, ?_⟩
      unfold kWd
      rw [if_neg hne]
      rcases x2 with ⟨y1, rfl⟩ | ⟨i, -, y1, y2, rfl⟩
      · rw [kKind_no (fun j hj => y1 j (by omega) hj), if_pos rfl]
        exact ⟨w1, i4, i6, mu_at _ _ _ _ _, fun _ h => absurd h (by show ¬ (5 : Int) ≤ 4; decide)⟩
      · rw [kKind_is y1 y2, if_neg (by omega)]
        have w2 : fC (mu C1 3 o 7 5) (mu (mu (mu C1 3 o 7 5) 3 o 7 2) 3 o 8 i) o [7, 8] := (fC.mu (by decide)).trans (fC.mu (by decide))
        refine ⟨w1.trans w2, (w2 3 o 4 (fun r => absurd r.2.2 (by decide))).trans i4, (w2 3 o 6 (fun r => absurd r.2.2 (by decide))).trans i6, ?_, fun _ _ => mu_at _ _ _ _ _⟩
        rw [mu_ne _ _ (fun r => absurd r.2.2 (by decide))]
        exact mu_at _ _ _ _ _
    rw [a1, g6, if_pos (by unfold g32; omega)]
    by_cases c1 : (e : Int) - b = 1
    · rw [if_pos c1, c_byteAt hB2 rfl hbm, obind, if_pos (by show g32 (T b); unfold g32; omega)]
      by_cases c2 : 102 < T b
      · rw [if_pos c2]
        exact long (fun i hi hs r => absurd r.2 (by omega)) (fun r => absurd r.2 (by omega))
      · rw [if_neg c2]
        show ∃ C', Option.bind (f_Read_byteAt (mu (mu C1 3 o 7 5) 3 o 7 1) o (mu C1 3 o 7 5 3 o 6)) _ = _ ∧ _
        have w3 : fC (mu C1 3 o 7 5) (mu (mu C1 3 o 7 5) 3 o 7 1) o [7, 8] := fC.mu (by decide)
        have hB3 := hB2.fr w3 (by decide) (by decide)
        rw [c_byteAt hB3 i6 hbm, obind]
        show ∃ C', f_Read_takeWord_91 20 (mu (mu (mu C1 3 o 7 5) 3 o 7 1) 3 o 8 (T b - 97)) o 0 = _ ∧ _
        have w4 : fC (mu (mu C1 3 o 7 5) 3 o 7 1) (mu (mu (mu C1 3 o 7 5) 3 o 7 1) 3 o 8 (T b - 97)) o [7, 8] := fC.mu (by decide)
        have hB4 := hB3.fr w4 (by decide) (by decide)
        have w5 := w3.trans w4
        obtain ⟨C', x1, x2⟩ := c_word91 (by omega) q2 6 20 0 _ hB4 ((w5 3 o 6 (fun r => absurd r.2.2 (by decide))).trans i6) ((w5 3 o 4 (fun r => absurd r.2.2 (by decide))).trans i4) rfl (by omega)
        refine ⟨C', x1, ?_⟩
        rcases x2 with ⟨-, rfl⟩ | ⟨i, -, y1, y2, -⟩
        · unfold kWd
          rw [if_pos ⟨by omega, by omega⟩]
          refine ⟨w1.trans w5, (w5 3 o 4 (fun r => absurd r.2.2 (by decide))).trans i4, (w5 3 o 6 (fun r => absurd r.2.2 (by decide))).trans i6, ?_, fun _ _ => mu_at _ _ _ _ _⟩
          rw [mu_ne _ _ (fun r => absurd r.2.2 (by decide))]
          exact mu_at _ _ _ _ _
        · have z1 := (kSpelt_len y2).1
          have z2 := jlen0 i (by omega)
          omega
    · rw [if_neg c1]
      exact long (fun i hi hs r => absurd r.1 (by omega)) (fun r => absurd r.1 (by omega))
  obtain ⟨C', x1, x2, x3⟩ := rest
  refine ⟨C', ?_, (f1.sub (by decide)).trans (x2.sub (by decide)), x3⟩
  show f_Read_takeWord_0 200 C o = _
  rw [e1, f_Read_takeWord_0, a1, gm, if_pos (by unfold g32; omega), if_pos (by unfold g32; omega)]
  by_cases c : (m : Int) ≤ e
  · rw [if_pos c, ← a1]
    exact x1
  · have c9 : e < m := by omega
    have c8 := (h5 e (by omega)).2
    rw [if_neg c, c_byteAt hB1 rfl c9, obind, c_isLetter (by omega), obind, if_neg (fun r => q3 ⟨c9, r⟩), if_pos (by show g32 0; decide), if_pos (by show (0 : Int) = 0; rfl)]
    exact x1
