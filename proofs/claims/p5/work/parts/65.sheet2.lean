/-! sheet's answer by its arguments (own work) -/
theorem tEnd_int {D : va_G} {I : tI} {G : tG} {w : jW} {ρ : Nat → Value} {v : Option Value} {w9 : jW} {Q : tS} {n : Nat} {c : Int} {z : Int32} (hQ : IQ I = [Q]) (hs : Q.2.1 = [n]) (ht : Q.2.2.1[n]? = some (0, c, c)) (hz : z.toInt = c) (h : tEnd D I G w ρ v w9) : v = some (.int z) ∧ ∃ G9, WOK D G9 w9 ∧ bud G9 w9 ∧ TRr G w G9 w9 := by
  obtain ⟨G9, h1, h2, h3, -, -, Q', hQ', ρ9, -, h5, h6⟩ := h
  rw [hQ] at hQ'
  rcases List.mem_cons.mp hQ' with rfl | hQ'
  · obtain ⟨x, hx, hx0, hx1⟩ := h5.2.2.2.1 n _ ht
    have e : x = z := Int32.toInt_inj.mp (by dsimp only at hx0 hx1; omega)
    refine ⟨?_, G9, h1, h2, h3⟩
    rw [cS, hs] at h6
    cases v with
    | none => cases h6
    | some y =>
      have : y = ρ9 n := by simpa using h6
      rw [this, hx, e]
  · cases hQ'
def an_sheet (a b c : Int32) : Int32 := if a.toInt < 0 ∨ 3 < a.toInt ∨ b.toInt < -1 ∨ 1 < b.toInt then -2 else if b.toInt < 0 then 1 else if 40 < c.toInt then -2 else if c.toInt < 0 then -14 else 1
abbrev rhoS (x : Nat) (a b c : Int32) : Nat → Value := fun j => match j with
  | 0 => .ref x
  | 1 => .int a
  | 2 => .int b
  | 3 => .int c
  | _ => .null
theorem cs_sheet (l : Launch) (D : va_G) (B : Nat) (H0 : Heap) {G : tG} {w : jW} {x : Nat} (gx : G x = some 8) (a b c : Int32) : ∃ I : tI, tCon l D B H0 I ∧ (Iy I = y_CS_sheet ∧ Icc I = b_CS_sheet ∧ IL I = IL I_CS_sheet_a ∧ Ir I = Ir I_CS_sheet_a ∧ Ifr I = 1 ∧ Ilo I = 40 ∧ Iav I (rhoS x a b c) = [.ref x, .int a, .int b, .int c]) ∧ tSat D G w (rhoS x a b c) (IE I) ∧ ∀ v w9, tEnd D I G w (rhoS x a b c) v w9 → v = some (.int (an_sheet a b c)) ∧ ∃ G9, WOK D G9 w9 ∧ bud G9 w9 ∧ TRr G w G9 w9 := by
  have la := Int32.le_toInt a
  have ha := Int32.toInt_lt a
  have lb := Int32.le_toInt b
  have hb := Int32.toInt_lt b
  have lc := Int32.le_toInt c
  have hc := Int32.toInt_lt c
  have sat : ∀ (ta tb tc : Int × Int), ta.1 ≤ a.toInt → a.toInt ≤ ta.2 → tb.1 ≤ b.toInt → b.toInt ≤ tb.2 → tc.1 ≤ c.toInt → c.toInt ≤ tc.2 → tSat D G w (rhoS x a b c) ([], [3, 2, 1, 0], [(4, 8, 0), (0, ta.1, ta.2), (0, tb.1, tb.2), (0, tc.1, tc.2)], []) := fun ta tb tc h1 h2 h3 h4 h5 h6 => by
    refine ⟨(fun q hq => by cases hq), (by show ∀ i ∈ ([3, 2, 1, 0] : List Nat), i < 4; decide), (fun q hq => by cases hq), fun j t hj => ?_, (fun q hq => by cases hq)⟩
    match j, hj with
    | 0, hj => cases hj; exact ⟨x, rfl, gx⟩
    | 1, hj => cases hj; exact ⟨a, rfl, h1, h2⟩
    | 2, hj => cases hj; exact ⟨b, rfl, h3, h4⟩
    | 3, hj => cases hj; exact ⟨c, rfl, h5, h6⟩
    | j + 4, hj => cases hj
  by_cases q0 : a.toInt < 0
  · have hq := q0
    refine ⟨I_CS_sheet_a, tc_CS_sheet_a l D B H0, ⟨rfl, rfl, rfl, rfl, rfl, rfl, rfl⟩, sat ((-2147483648), (-1)) ((-2147483648), 2147483647) ((-2147483648), 2147483647) (by dsimp only; omega) (by dsimp only; omega) (by dsimp only; omega) (by dsimp only; omega) (by dsimp only; omega) (by dsimp only; omega), fun v w9 h => ?_⟩
    have e : an_sheet a b c = (-2) := by
      unfold an_sheet
      rw [if_pos (by omega)]
    rw [e]
    exact tEnd_int (Q := (IQ I_CS_sheet_a).head!) (n := 4) (c := (-2)) rfl rfl rfl (by decide) h
  by_cases q1 : 3 < a.toInt
  · have hq := q1
    refine ⟨I_CS_sheet_b, tc_CS_sheet_b l D B H0, ⟨rfl, rfl, rfl, rfl, rfl, rfl, rfl⟩, sat (4, 2147483647) ((-2147483648), 2147483647) ((-2147483648), 2147483647) (by dsimp only; omega) (by dsimp only; omega) (by dsimp only; omega) (by dsimp only; omega) (by dsimp only; omega) (by dsimp only; omega), fun v w9 h => ?_⟩
    have e : an_sheet a b c = (-2) := by
      unfold an_sheet
      rw [if_pos (by omega)]
    rw [e]
    exact tEnd_int (Q := (IQ I_CS_sheet_b).head!) (n := 4) (c := (-2)) rfl rfl rfl (by decide) h
  by_cases q2 : b.toInt < -1
  · have hq := q2
    refine ⟨I_CS_sheet_c, tc_CS_sheet_c l D B H0, ⟨rfl, rfl, rfl, rfl, rfl, rfl, rfl⟩, sat (0, 3) ((-2147483648), (-2)) ((-2147483648), 2147483647) (by dsimp only; omega) (by dsimp only; omega) (by dsimp only; omega) (by dsimp only; omega) (by dsimp only; omega) (by dsimp only; omega), fun v w9 h => ?_⟩
    have e : an_sheet a b c = (-2) := by
      unfold an_sheet
      rw [if_pos (by omega)]
    rw [e]
    exact tEnd_int (Q := (IQ I_CS_sheet_c).head!) (n := 4) (c := (-2)) rfl rfl rfl (by decide) h
  by_cases q3 : 1 < b.toInt
  · have hq := q3
    refine ⟨I_CS_sheet_d, tc_CS_sheet_d l D B H0, ⟨rfl, rfl, rfl, rfl, rfl, rfl, rfl⟩, sat (0, 3) (2, 2147483647) ((-2147483648), 2147483647) (by dsimp only; omega) (by dsimp only; omega) (by dsimp only; omega) (by dsimp only; omega) (by dsimp only; omega) (by dsimp only; omega), fun v w9 h => ?_⟩
    have e : an_sheet a b c = (-2) := by
      unfold an_sheet
      rw [if_pos (by omega)]
    rw [e]
    exact tEnd_int (Q := (IQ I_CS_sheet_d).head!) (n := 4) (c := (-2)) rfl rfl rfl (by decide) h
  by_cases q4 : b.toInt < 0
  · have hq := q4
    refine ⟨I_CS_sheet_e, tc_CS_sheet_e l D B H0, ⟨rfl, rfl, rfl, rfl, rfl, rfl, rfl⟩, sat (0, 3) ((-1), (-1)) ((-2147483648), 2147483647) (by dsimp only; omega) (by dsimp only; omega) (by dsimp only; omega) (by dsimp only; omega) (by dsimp only; omega) (by dsimp only; omega), fun v w9 h => ?_⟩
    have e : an_sheet a b c = 1 := by
      unfold an_sheet
      rw [if_neg (by omega), if_pos (by omega)]
    rw [e]
    exact tEnd_int (Q := (IQ I_CS_sheet_e).head!) (n := 4) (c := 1) rfl rfl rfl (by decide) h
  by_cases q5 : 40 < c.toInt
  · have hq := q5
    refine ⟨I_CS_sheet_f, tc_CS_sheet_f l D B H0, ⟨rfl, rfl, rfl, rfl, rfl, rfl, rfl⟩, sat (0, 3) (0, 1) (41, 2147483647) (by dsimp only; omega) (by dsimp only; omega) (by dsimp only; omega) (by dsimp only; omega) (by dsimp only; omega) (by dsimp only; omega), fun v w9 h => ?_⟩
    have e : an_sheet a b c = (-2) := by
      unfold an_sheet
      rw [if_neg (by omega), if_neg (by omega), if_pos (by omega)]
    rw [e]
    exact tEnd_int (Q := (IQ I_CS_sheet_f).head!) (n := 4) (c := (-2)) rfl rfl rfl (by decide) h
  by_cases q6 : c.toInt < 0
  · have hq := q6
    refine ⟨I_CS_sheet_g, tc_CS_sheet_g l D B H0, ⟨rfl, rfl, rfl, rfl, rfl, rfl, rfl⟩, sat (0, 3) (0, 1) ((-2147483648), (-1)) (by dsimp only; omega) (by dsimp only; omega) (by dsimp only; omega) (by dsimp only; omega) (by dsimp only; omega) (by dsimp only; omega), fun v w9 h => ?_⟩
    have e : an_sheet a b c = (-14) := by
      unfold an_sheet
      rw [if_neg (by omega), if_neg (by omega), if_neg (by omega), if_pos (by omega)]
    rw [e]
    exact tEnd_int (Q := (IQ I_CS_sheet_g).head!) (n := 4) (c := (-14)) rfl rfl rfl (by decide) h
  refine ⟨I_CS_sheet_h, tc_CS_sheet_h l D B H0, ⟨rfl, rfl, rfl, rfl, rfl, rfl, rfl⟩, sat (0, 3) (0, 1) (0, 40) (by dsimp only; omega) (by dsimp only; omega) (by dsimp only; omega) (by dsimp only; omega) (by dsimp only; omega) (by dsimp only; omega), fun v w9 h => ?_⟩
  have e : an_sheet a b c = 1 := by
    unfold an_sheet
    rw [if_neg (by omega), if_neg (by omega), if_neg (by omega), if_neg (by omega)]
  rw [e]
  exact tEnd_int (Q := (IQ I_CS_sheet_h).head!) (n := 4) (c := 1) rfl rfl rfl (by decide) h
