/-! LOTS of the class, all (own work) -/
def kBt (a : Int) : Int := if a = 2 then 1 else if a = 4 then 2 else if a = 8 then 3 else if a = 16 then 4 else 0
def fLs (o s pr lv lw : Nat) (C C' : mA) : Prop := C 2 pr 6 ≤ C' 2 pr 6 ∧ ∀ f k j, ¬ (dL o pr lv lw (C 2 pr 6) f k j ∨ f = 6 ∧ k = s ∧ (j = 2 ∨ j = 7 ∨ j = 11)) → C' f k j = C f k j
theorem fLs.of {o s pr lv lw : Nat} {C C' : mA} (h : fL o pr lv lw C C') : fLs o s pr lv lw C C' := ⟨h.1, fun f k j q => h.2 f k j (fun r => q (Or.inl r))⟩
theorem fLs.trans {o s pr lv lw : Nat} {C C' C'' : mA} (h : fLs o s pr lv lw C C') (h' : fLs o s pr lv lw C' C'') : fLs o s pr lv lw C C'' := by
  refine ⟨Int.le_trans h.1 h'.1, fun f k j q => ?_⟩
  refine (h'.2 f k j (fun r => q ?_)).trans (h.2 f k j q)
  rcases r with (r | r | r) | r
  · exact Or.inl (Or.inl r)
  · exact Or.inl (Or.inr (Or.inl r))
  · exact Or.inl (Or.inr (Or.inr ⟨r.1, r.2.1, Int.le_trans h.1 r.2.2⟩))
  · exact Or.inr r
theorem fLs.s {o s pr lv lw : Nat} {C : mA} {j : Nat} {z : Int} (hj : j = 2 ∨ j = 7 ∨ j = 11) : fLs o s pr lv lw C (mu C 6 s j z) := ⟨by rw [mu_ne _ _ (fun r => absurd r.1 (by decide))]; exact Int.le_refl _, fun f k i q => mu_ne _ _ (fun r => q (Or.inr ⟨r.1, r.2.1, by rw [r.2.2]; exact hj⟩))⟩
theorem fLs.lot {o s pr lv lw : Nat} {C C' : mA} (h : fLs o s pr lv lw C C') (k j : Nat) (hj : (j : Int) < C 2 pr 6) : C' 27 k j = C 27 k j := h.2 27 k j (fun r => by
  rcases r with (r | r | r) | r
  · exact absurd r.1 (by decide)
  · exact absurd r.1 (by decide)
  · omega
  · exact absurd r.1 (by decide))
def lotsAt (C : mA) (lv lw n : Nat) (c : List (Int × Int)) : Prop := ∀ i, i < c.length → C 27 lv (n + i) = (c.getD i (0, 0)).1 ∧ C 27 lw (n + i) = (c.getD i (0, 0)).2
section CL2
variable {o s pr ca lv lw : Nat} {T : Nat → Int} {m : Nat}
theorem cLt.st {C : mA} {p : Nat} (h : cLt o pr ca lv lw T m C p) {j : Nat} {z : Int} : cLt o pr ca lv lw T m (mu C 6 s j z) p := by
  have e : ∀ f k i, f ≠ 6 → mu C 6 s j z f k i = C f k i := fun f k i hf => mu_ne _ _ (fun r => hf r.1)
  obtain ⟨⟨⟨⟨a1, a2, a3, a4⟩, b1, b2, b3, b4⟩, ⟨c1, c2, c3, c4⟩, d1, d2⟩, q1, q2, q3, q4, q5⟩ := h
  refine ⟨⟨⟨⟨?_, ?_, a3, fun i hi => ?_⟩, ?_, ?_, ?_, ?_⟩, ⟨?_, ?_, ?_, fun h1 h2 => ?_⟩, d1, ?_⟩, ?_, ?_, q3, ?_, ?_⟩
  · rw [e _ _ _ (by decide)]; exact a1
  · rw [e _ _ _ (by decide)]; exact a2
  · rw [e _ _ _ (by decide), e 3 _ _ (by decide)]; exact a4 i hi
  · rw [e _ _ _ (by decide)]; exact b1
  · rw [e _ _ _ (by decide)]; exact b2
  · rw [e _ _ _ (by decide)]; exact b3
  · rw [e _ _ _ (by decide)]; exact b4
  · rw [e _ _ _ (by decide)]; exact c1
  · rw [e _ _ _ (by decide)]; exact c2
  · rw [e _ _ _ (by decide)]; exact c3
  · rw [e _ _ _ (by decide)]; exact c4 h1 h2
  · rw [e _ _ _ (by decide)]; exact d2
  · rw [e _ _ _ (by decide)]; exact q1
  · rw [e _ _ _ (by decide)]; exact q2
  · rw [e _ _ _ (by decide)]; exact q4
  · rw [e _ _ _ (by decide)]; exact q5
theorem c_fin {C : mA} {a k : Int} : (if a = 2 then (some (1, (mu (mu C 6 s 2 k) 6 s 7 1))) else (if a = 4 then (some (1, (mu (mu C 6 s 2 k) 6 s 7 2))) else (if a = 8 then (some (1, (mu (mu C 6 s 2 k) 6 s 7 3))) else (if a = 16 then (some (1, (mu (mu C 6 s 2 k) 6 s 7 4))) else (some (0, (mu (mu C 6 s 2 k) 6 s 7 0))))))) = some (if 0 < kBt a then (1 : Int) else 0, mu (mu C 6 s 2 k) 6 s 7 (kBt a)) := by
  unfold kBt
  by_cases c1 : a = 2
  · rw [if_pos c1, if_pos c1]; rfl
  rw [if_neg c1, if_neg c1]
  by_cases c2 : a = 4
  · rw [if_pos c2, if_pos c2]; rfl
  rw [if_neg c2, if_neg c2]
  by_cases c3 : a = 8
  · rw [if_pos c3, if_pos c3]; rfl
  rw [if_neg c3, if_neg c3]
  by_cases c4 : a = 16
  · rw [if_pos c4, if_pos c4]; rfl
  rw [if_neg c4, if_neg c4]
  rfl
/-- what lots leave: so many before, together so much -/
def cMr (o s pr ca lv lw : Nat) (T : Nat → Int) (m : Nat) (C : mA) (k : Int) (a : Int) (z : Int) (C' : mA) (r : kR (List (Int × Int))) : Prop := fLs o s pr lv lw C C' ∧ C' 3 o 5 = C 3 o 5 ∧ C' 6 s 11 = C 6 s 11 ∧ kCase r (fun b => z = 0 ∧ C' 3 o 6 = b) (fun y => (0 < kBt (a + kSumW y.2) → z = 1 ∧ cLt o pr ca lv lw T m C' y.1 ∧ C' 6 s 2 = k + y.2.length ∧ C' 6 s 7 = kBt (a + kSumW y.2) ∧ C' 2 pr 6 = C 2 pr 6 + y.2.length ∧ lotsAt C' lv lw (C 2 pr 6).toNat y.2) ∧ (¬ 0 < kBt (a + kSumW y.2) → z = 0 ∧ C' 3 o 6 = tkB (kTok T m y.1)))
theorem c_more : ∀ (n k fuel p : Nat) (C : mA) (a : Int), n + k = 8 → 1 ≤ k → n < fuel → cLt o pr ca lv lw T m C p → 1 ≤ a ∧ a ≤ 16 * k → ∃ z C', f_Read_readLots_21 fuel C o s a k ((k - 1 : Nat) : Int) = some (z, C') ∧ cMr o s pr ca lv lw T m C k a z C' (kMore T m n p) := by
  intro n
  induction n with
  | zero =>
    intro k fuel p C a hk h1 hf h ha
    obtain ⟨fuel, rfl⟩ : ∃ q, fuel = q + 1 := ⟨fuel - 1, by omega⟩
    obtain rfl : k = 8 := by omega
    rw [f_Read_readLots_21, if_pos (by decide), if_neg (by decide), if_pos (show g32 _ by unfold g32; omega), if_neg (by omega), c_isSign h.1 (by decide), obind, if_pos (by show g32 (if kSg (kTok T m p) 44 then 1 else 0); exact g32_if _)]
    unfold kMore
    by_cases c : kSg (kTok T m p) 44
    · rw [if_neg (fun h => (if0 _).mp h c), if_pos c, if_pos c, if_pos (by decide), if_neg (by decide)]
      exact ⟨0, C, rfl, fLs.of fL.refl, rfl, rfl, rfl, h.1.2.1.2.1⟩
    · rw [if_pos ((if0 _).mpr c), if_neg c, if_neg c]
      show ∃ z C', (if a = 2 then _ else _) = _ ∧ _
      rw [c_fin]
      refine ⟨_, mu (mu C 6 s 2 _) 6 s 7 (kBt a), rfl, (fLs.s (by decide)).trans (fLs.s (by decide)), rfl, rfl, fun q => ?_, fun q => ?_⟩
      · have q' : 0 < kBt a := by
          have : a + kSumW ([] : List (Int × Int)) = a := Int.add_zero a
          rw [this] at q
          exact q
        have q2 : kBt (a + kSumW ([] : List (Int × Int))) = kBt a := congrArg kBt (Int.add_zero a)
        refine ⟨if_pos q', (h.st).st, ?_, ?_, ?_, fun i hi => absurd hi (Nat.not_lt_zero i)⟩
        · show mu (mu C 6 s 2 _) 6 s 7 _ 6 s 2 = _
          rw [mu_ne _ _ (fun r => absurd r.2.2 (by decide)), mu_at]
          exact (Int.add_zero _).symm
        · rw [q2]
          exact mu_at _ _ _ _ _
        · exact (Int.add_zero _).symm
      · have q' : ¬ 0 < kBt a := by
          have : a + kSumW ([] : List (Int × Int)) = a := Int.add_zero a
          rw [this] at q
          exact q
        exact ⟨if_neg q', h.1.2.1.2.1⟩
  | succ n ih =>
    intro k fuel p C a hk h1 hf h ha
    obtain ⟨fuel, rfl⟩ : ∃ q, fuel = q + 1 := ⟨fuel - 1, by omega⟩
    have h120 := h.1.1.tx.1
    have hT := h.1.1.tx.2
    rw [f_Read_readLots_21, if_pos (show g32 _ by unfold g32; omega), if_neg (by omega), if_pos (show g32 _ by unfold g32; omega), if_neg (by omega), c_isSign h.1 (by decide), obind, if_pos (by show g32 (if kSg (kTok T m p) 44 then 1 else 0); exact g32_if _)]
    unfold kMore
    by_cases c : kSg (kTok T m p) 44
    · rw [if_neg (fun h => (if0 _).mp h c), if_pos c, if_pos c, if_pos (show g32 _ by unfold g32; omega), if_pos (by omega)]
      obtain ⟨C1, x1, x2, x3⟩ := c_advL h
      obtain ⟨z, C2, y1, y2, y3, y4⟩ := c_lot x3
      show ∃ z C', Option.bind (f_Read_advance C o) _ = _ ∧ _
      rw [x1, obind]
      show ∃ z C', Option.bind (f_Read_readLot C1 o) _ = _ ∧ _
      rw [y1, obind]
      show ∃ z' C', (if g32 z then if z = 0 then f_Read_readLots_21 fuel C2 o s 0 ((k : Int) + 1) (((k - 1 : Nat) : Int) + 1) else f_Read_readLots_21 fuel C2 o s (a + z) ((k : Int) + 1) (((k - 1 : Nat) : Int) + 1) else none) = _ ∧ _
      have fr2 : fLs o s pr lv lw C C2 := (fLs.of (fL.ofC x2 (by decide))).trans (fLs.of y2)
      have o2 : C2 3 o 5 = C 3 o 5 := y3.trans (x2 3 o 5 (fun r => absurd r.2.2 (by decide)))
      have e11 : C2 6 s 11 = C 6 s 11 := (y2.2 6 s 11 (fun r => by
        rcases r with r | r | r <;> exact absurd r.1 (by decide))).trans (x2 6 s 11 (fun r => absurd r.1 (by decide)))
      have l1 : C1 2 pr 6 = C 2 pr 6 := x2 2 pr 6 (fun r => absurd r.1 (by decide))
      obtain ⟨g1, g2, g3, -⟩ := h.1.good
      cases hq : kLot T m (tkE (kTok T m p)) with
      | inl b =>
        rw [hq] at y4
        obtain ⟨w1, w2⟩ := y4
        subst w1
        rw [if_pos (by decide), if_pos rfl]
        obtain ⟨fuel, rfl⟩ : ∃ q, fuel = q + 1 := ⟨fuel - 1, by omega⟩
        have e0 : f_Read_readLots_21 (fuel + 1) C2 o s 0 ((k : Int) + 1) (((k - 1 : Nat) : Int) + 1) = some (0, mu (mu C2 6 s 2 ((k : Int) + 1)) 6 s 7 0) := by
          rw [f_Read_readLots_21, if_pos (show g32 _ by unfold g32; omega), if_neg (by omega), if_pos (by decide), if_pos (by decide)]
          rfl
        rw [e0]
        exact ⟨0, mu (mu C2 6 s 2 ((k : Int) + 1)) 6 s 7 0, rfl, (fr2.trans (fLs.s (by decide))).trans (fLs.s (by decide)), o2, e11, rfl, w2⟩
      | inr x =>
        rw [hq] at y4
        obtain ⟨w1, w2, w3, w4, w5⟩ := y4
        obtain ⟨b1, b2, b3, b4⟩ := kLot_pr h120 hT g3 hq
        have ek : ((k - 1 : Nat) : Int) + 1 = ((k + 1 - 1 : Nat) : Int) := by omega
        rw [if_pos (show g32 _ by unfold g32; omega), if_neg (by omega), ek, show (k : Int) + 1 = ((k + 1 : Nat) : Int) from rfl]
        obtain ⟨z', C3, v1, v2, v3, v5, v4⟩ := ih (k + 1) fuel x.1 C2 (a + z) (by omega) (by omega) (by omega) w2 (by omega)
        refine ⟨z', C3, v1, fr2.trans v2, v3.trans o2, v5.trans e11, ?_⟩
        dsimp only
        cases hq2 : kMore T m n x.1 with
        | inl b =>
          rw [hq2] at v4
          exact v4
        | inr y =>
          rw [hq2] at v4
          obtain ⟨u1, u2⟩ := v4
          have es : a + kSumW (x.2 :: y.2) = a + z + kSumW y.2 := by
            have : kSumW (x.2 :: y.2) = x.2.2 + kSumW y.2 := by
              unfold kSumW
              rw [List.map_cons, List.sum_cons]
            omega
          refine ⟨fun q => ?_, fun q => ?_⟩
          · rw [es] at q ⊢
            obtain ⟨t1, t2, t3, t4, t5, t6⟩ := u1 q
            refine ⟨t1, t2, ?_, t4, ?_, fun i hi => ?_⟩
            · rw [t3]
              show _ = (k : Int) + ((y.2.length + 1 : Nat) : Int)
              omega
            · rw [t5, w3, l1]
              show _ = _ + ((y.2.length + 1 : Nat) : Int)
              omega
            · have hl0 := h.2.2.2.2.1
              cases i with
              | zero =>
                have e1 := v2.lot lv (C 2 pr 6).toNat (by omega)
                have e2 := v2.lot lw (C 2 pr 6).toNat (by omega)
                rw [l1] at w4 w5
                exact ⟨e1.trans w4, e2.trans w5⟩
              | succ i =>
                have := t6 i (by
                  have hi' : i + 1 < y.2.length + 1 := hi
                  omega)
                have e3 : (C2 2 pr 6).toNat + i = (C 2 pr 6).toNat + (i + 1) := by omega
                rw [e3] at this
                exact this
          · rw [es] at q
            exact u2 q
    · rw [if_pos ((if0 _).mpr c), if_neg c, if_neg c]
      show ∃ z C', (if a = 2 then _ else _) = _ ∧ _
      rw [c_fin]
      refine ⟨_, mu (mu C 6 s 2 _) 6 s 7 (kBt a), rfl, (fLs.s (by decide)).trans (fLs.s (by decide)), rfl, rfl, fun q => ?_, fun q => ?_⟩
      · have q2 : kBt (a + kSumW ([] : List (Int × Int))) = kBt a := congrArg kBt (Int.add_zero a)
        have q' : 0 < kBt a := by
          rw [← q2]
          exact q
        refine ⟨if_pos q', (h.st).st, ?_, ?_, ?_, fun i hi => absurd hi (Nat.not_lt_zero i)⟩
        · show mu (mu C 6 s 2 _) 6 s 7 _ 6 s 2 = _
          rw [mu_ne _ _ (fun r => absurd r.2.2 (by decide)), mu_at]
          exact (Int.add_zero _).symm
        · rw [q2]
          exact mu_at _ _ _ _ _
        · exact (Int.add_zero _).symm
      · have q2 : kBt (a + kSumW ([] : List (Int × Int))) = kBt a := congrArg kBt (Int.add_zero a)
        have q' : ¬ 0 < kBt a := by
          rw [← q2]
          exact q
        exact ⟨if_neg q', h.1.2.1.2.1⟩
end CL2
