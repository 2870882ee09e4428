/-! LOTS (own work): the spec, and the class -/
section KL
variable (T : Nat → Int) (m : Nat)
def kLot (p : Nat) : kR (Int × Int) :=
  if tkS (kTok T m p) = 3 ∧ tkV (kTok T m p) ≤ 9 then
    (if kSg (kTok T m (tkE (kTok T m p))) 58 then
      (if tkS (kTok T m (tkE (kTok T m (tkE (kTok T m p))))) = 3 ∧ 1 ≤ tkV (kTok T m (tkE (kTok T m (tkE (kTok T m p))))) ∧ tkV (kTok T m (tkE (kTok T m (tkE (kTok T m p))))) ≤ 16 then .inr (tkE (kTok T m (tkE (kTok T m (tkE (kTok T m p))))), (tkV (kTok T m p), tkV (kTok T m (tkE (kTok T m (tkE (kTok T m p)))))))
      else .inl (tkB (kTok T m (tkE (kTok T m (tkE (kTok T m p)))))))
    else .inl (tkB (kTok T m (tkE (kTok T m p)))))
  else .inl (tkB (kTok T m p))
/-- so many may still come -/
def kMore : Nat → Nat → kR (List (Int × Int))
  | n, p => if kSg (kTok T m p) 44 then
      (match n with
      | 0 => .inl (tkB (kTok T m p))
      | n + 1 => (match kLot T m (tkE (kTok T m p)) with
        | .inl b => .inl b
        | .inr x => (match kMore n x.1 with
          | .inl b => .inl b
          | .inr y => .inr (y.1, x.2 :: y.2))))
    else .inr (p, [])
def kLots (p : Nat) : kR (List (Int × Int)) := match kLot T m p with
  | .inl b => .inl b
  | .inr x => (match kMore T m 7 x.1 with
    | .inl b => .inl b
    | .inr y => .inr (y.1, x.2 :: y.2))
end KL
def kSumW (c : List (Int × Int)) : Int := (c.map (fun q => q.2)).sum
theorem kLot_pr {T : Nat → Int} {m p : Nat} (h120 : m ≤ 120) (hT : ∀ j, j < 120 → 0 ≤ T j ∧ T j ≤ 255) (hp : p ≤ m) {x : Nat × (Int × Int)} (h : kLot T m p = .inr x) : p + 3 ≤ x.1 ∧ x.1 ≤ m ∧ (0 ≤ x.2.1 ∧ x.2.1 ≤ 9) ∧ (1 ≤ x.2.2 ∧ x.2.2 ≤ 16) := by
  unfold kLot at h
  obtain ⟨g1, g2, g3, g4, g5, g6, -⟩ := kTok_ok (T := T) h120 hT hp
  obtain ⟨i1, i2, i3, i4, i5, i6, -⟩ := kTok_ok (T := T) h120 hT g3
  obtain ⟨j1, j2, j3, j4, j5, j6, -⟩ := kTok_ok (T := T) h120 hT i3
  by_cases c1 : tkS (kTok T m p) = 3 ∧ tkV (kTok T m p) ≤ 9
  · rw [if_pos c1] at h
    by_cases c2 : kSg (kTok T m (tkE (kTok T m p))) 58
    · rw [if_pos c2] at h
      by_cases c3 : tkS (kTok T m (tkE (kTok T m (tkE (kTok T m p))))) = 3 ∧ 1 ≤ tkV (kTok T m (tkE (kTok T m (tkE (kTok T m p))))) ∧ tkV (kTok T m (tkE (kTok T m (tkE (kTok T m p))))) ≤ 16
      · rw [if_pos c3] at h
        cases h
        have a1 := g4.resolve_left (by rw [c1.1]; decide)
        have a2 := i4.resolve_left (by rw [c2.1]; decide)
        have a3 := j4.resolve_left (by rw [c3.1]; decide)
        exact ⟨by show p + 3 ≤ tkE _; omega, j3, ⟨g6.1, c1.2⟩, c3.2⟩
      · rw [if_neg c3] at h
        cases h
    · rw [if_neg c2] at h
      cases h
  · rw [if_neg c1] at h
    cases h
def dL (o pr lv lw : Nat) (ls : Int) (f k j : Nat) : Prop := (f = 3 ∧ k = o ∧ 4 ≤ j) ∨ (f = 2 ∧ k = pr ∧ j = 6) ∨ (f = 27 ∧ (k = lv ∨ k = lw) ∧ ls ≤ j)
def fL (o pr lv lw : Nat) (C C' : mA) : Prop := C 2 pr 6 ≤ C' 2 pr 6 ∧ ∀ f k j, ¬ dL o pr lv lw (C 2 pr 6) f k j → C' f k j = C f k j
theorem fL.refl {o pr lv lw : Nat} {C : mA} : fL o pr lv lw C C := ⟨Int.le_refl _, fun _ _ _ _ => rfl⟩
theorem fL.trans {o pr lv lw : Nat} {C C' C'' : mA} (h : fL o pr lv lw C C') (h' : fL o pr lv lw C' C'') : fL o pr lv lw C C'' := by
  refine ⟨Int.le_trans h.1 h'.1, fun f k j q => ?_⟩
  refine (h'.2 f k j (fun r => q ?_)).trans (h.2 f k j q)
  rcases r with r | r | r
  · exact Or.inl r
  · exact Or.inr (Or.inl r)
  · exact Or.inr (Or.inr ⟨r.1, r.2.1, Int.le_trans h.1 r.2.2⟩)
theorem fL.ofC {o pr lv lw : Nat} {C C' : mA} {l : List Nat} (h : fC C C' o l) (hl : ∀ j, j ∈ l → 4 ≤ j) : fL o pr lv lw C C' :=
  ⟨by rw [h 2 pr 6 (fun r => absurd r.1 (by decide))]; exact Int.le_refl _, fun f k j q => h f k j (fun r => q (Or.inl ⟨r.1, r.2.1, hl j r.2.2⟩))⟩
theorem fL.r {o pr lv lw : Nat} {C C' : mA} (h : fL o pr lv lw C C') (j : Nat) (hj : j < 4) : C' 3 o j = C 3 o j := h.2 3 o j (fun r => by
  rcases r with r | r | r
  · omega
  · exact absurd r.1 (by decide)
  · exact absurd r.1 (by decide))
theorem fL.p {o pr lv lw : Nat} {C C' : mA} (h : fL o pr lv lw C C') (j : Nat) (hj : j ≠ 6) : C' 2 pr j = C 2 pr j := h.2 2 pr j (fun r => by
  rcases r with r | r | r
  · exact absurd r.1 (by decide)
  · exact hj r.2.2
  · exact absurd r.1 (by decide))
/-- the class stands at a token, its lots in order -/
def cLt (o pr ca lv lw : Nat) (T : Nat → Int) (m : Nat) (C : mA) (p : Nat) : Prop := cE o pr ca T m C p ∧ C 2 pr 4 = lv ∧ C 2 pr 5 = lw ∧ lv ≠ lw ∧ 0 ≤ C 2 pr 6 ∧ 3 * C 2 pr 6 ≤ p
section CL
variable {o s pr ca lv lw : Nat} {T : Nat → Int} {m : Nat} {op : Int}
/-- a token further -/
theorem c_advL {C : mA} {p : Nat} (h : cLt o pr ca lv lw T m C p) : ∃ C', f_Read_advance C o = some (0, C') ∧ fC C C' o [4, 6, 7, 8] ∧ cLt o pr ca lv lw T m C' (tkE (kTok T m p)) := by
  obtain ⟨g1, g2, -⟩ := h.1.good
  obtain ⟨C', x1, x2, x3⟩ := c_adv h.1
  have e : ∀ j, C' 2 pr j = C 2 pr j := fun j => x2 2 pr j (fun r => absurd r.1 (by decide))
  refine ⟨C', x1, x2, x3, by rw [e]; exact h.2.1, by rw [e]; exact h.2.2.1, h.2.2.2.1, by rw [e]; exact h.2.2.2.2.1, ?_⟩
  have := h.2.2.2.2.2
  rw [e]
  omega
theorem c_lot {C : mA} {p : Nat} (h : cLt o pr ca lv lw T m C p) : ∃ z C', f_Read_readLot C o = some (z, C') ∧ fL o pr lv lw C C' ∧ C' 3 o 5 = C 3 o 5 ∧ kCase (kLot T m p) (fun b => z = 0 ∧ C' 3 o 6 = b) (fun x => z = x.2.2 ∧ cLt o pr ca lv lw T m C' x.1 ∧ C' 2 pr 6 = C 2 pr 6 + 1 ∧ C' 27 lv (C 2 pr 6).toNat = x.2.1 ∧ C' 27 lw (C 2 pr 6).toNat = x.2.2) := by
  obtain ⟨g1, g2, g3, g4, g5, g6, g8, g9, g10⟩ := h.1.good
  obtain ⟨e4, e6, e7, e8⟩ := h.1.2.1
  have h120 := h.1.1.tx.1
  unfold f_Read_readLot kLot
  rw [e7, if_pos (show g32 _ by unfold g32; omega)]
  by_cases c1 : tkS (kTok T m p) = 3
  · rw [if_pos c1, e8 (by omega) (by omega), if_pos (show g32 _ by unfold g32; omega)]
    by_cases c2 : tkV (kTok T m p) < 10
    · rw [if_pos c2, if_pos (⟨c1, by omega⟩ : tkS (kTok T m p) = 3 ∧ tkV (kTok T m p) ≤ 9)]
      obtain ⟨C1, x1, x2, x3⟩ := c_advL h
      obtain ⟨i1, i2, i3, i4, i5, i6, -⟩ := x3.1.good
      rw [x1, obind]
      show ∃ z C', Option.bind (f_Read_isSign C1 o 58) _ = _ ∧ _
      rw [c_isSign x3.1 (by decide), obind, if_pos (by show g32 (if kSg (kTok T m (tkE (kTok T m p))) 58 then 1 else 0); exact g32_if _)]
      by_cases c3 : kSg (kTok T m (tkE (kTok T m p))) 58
      · rw [if_neg (fun h => (if0 _).mp h c3), if_pos c3, if_pos c3]
        show ∃ z C', Option.bind (f_Read_advance C1 o) _ = _ ∧ _
        obtain ⟨C2, y1, y2, y3⟩ := c_advL x3
        obtain ⟨j1, j2, j3, j4, j5, j6, -⟩ := y3.1.good
        obtain ⟨f4, f6, f7, f8⟩ := y3.1.2.1
        rw [y1, obind]
        show ∃ z C', (if g32 (C2 3 o 7) then if C2 3 o 7 = 3 then if g32 (C2 3 o 8) then if C2 3 o 8 < 1 then some (0, C2) else if C2 3 o 8 ≤ 16 then Option.bind (f_Read_advance C2 o) _ else some (0, C2) else none else some (0, C2) else none) = _ ∧ _
        have fr2 : fL o pr lv lw C C2 := (fL.ofC x2 (by decide)).trans (fL.ofC y2 (by decide))
        have o2 : C2 3 o 5 = C 3 o 5 := (y2 3 o 5 (fun r => absurd r.2.2 (by decide))).trans (x2 3 o 5 (fun r => absurd r.2.2 (by decide)))
        rw [f7, if_pos (show g32 _ by unfold g32; omega)]
        by_cases c4 : tkS (kTok T m (tkE (kTok T m (tkE (kTok T m p))))) = 3
        · rw [if_pos c4, f8 (by omega) (by omega), if_pos (show g32 _ by unfold g32; omega)]
          by_cases c5 : tkV (kTok T m (tkE (kTok T m (tkE (kTok T m p))))) < 1
          · rw [if_pos c5, if_neg (show ¬ (tkS (kTok T m (tkE (kTok T m (tkE (kTok T m p))))) = 3 ∧ 1 ≤ tkV (kTok T m (tkE (kTok T m (tkE (kTok T m p))))) ∧ tkV (kTok T m (tkE (kTok T m (tkE (kTok T m p))))) ≤ 16) by omega)]
            exact ⟨0, C2, rfl, fr2, o2, rfl, f6⟩
          rw [if_neg c5]
          by_cases c6 : tkV (kTok T m (tkE (kTok T m (tkE (kTok T m p))))) ≤ 16
          · rw [if_pos c6, if_pos (show tkS (kTok T m (tkE (kTok T m (tkE (kTok T m p))))) = 3 ∧ 1 ≤ tkV (kTok T m (tkE (kTok T m (tkE (kTok T m p))))) ∧ tkV (kTok T m (tkE (kTok T m (tkE (kTok T m p))))) ≤ 16 from ⟨c4, by omega, c6⟩)]
            obtain ⟨C3, w1, w2, w3⟩ := c_advL y3
            have a1 := g4.resolve_left (by rw [c1]; decide)
            have a2 := i4.resolve_left (by rw [c3.1]; decide)
            have a3 := j4.resolve_left (by rw [c4]; decide)
            have fr3 : fL o pr lv lw C C3 := fr2.trans (fL.ofC w2 (by decide))
            have o3 : C3 3 o 5 = C 3 o 5 := (w2 3 o 5 (fun r => absurd r.2.2 (by decide))).trans o2
            have l3 : C3 2 pr 6 = C 2 pr 6 := ((w2 2 pr 6 (fun r => absurd r.1 (by decide))).trans (y2 2 pr 6 (fun r => absurd r.1 (by decide)))).trans (x2 2 pr 6 (fun r => absurd r.1 (by decide)))
            obtain ⟨⟨k1, k2, k3, k4⟩, q1, q2, q3, q4, q5⟩ := w3
            have hl := h.2.2.2.2.2
            have hl0 := h.2.2.2.2.1
            rw [w1, obind]
            show ∃ z C', (if 0 ≤ C3 3 o 2 then Option.bind (f_Prog_addLot C3 (C3 3 o 2).toNat (tkV (kTok T m p)) (C2 3 o 8)) (fun q22 => some (C2 3 o 8, q22.2)) else none) = _ ∧ _
            rw [f8 (by omega) (by omega), k1.2.1, if_pos (by omega), Int.toNat_natCast]
            generalize tkV (kTok T m p) = v at *
            generalize tkV (kTok T m (tkE (kTok T m (tkE (kTok T m p))))) = u at *
            generalize tkE (kTok T m (tkE (kTok T m (tkE (kTok T m p))))) = e at *
            have e4' : f_Prog_addLot C3 pr v u = some (0, mu (mu (mu C3 27 lv (C 2 pr 6).toNat v) 27 lw (C 2 pr 6).toNat u) 2 pr 6 (C 2 pr 6 + 1)) := by
              unfold f_Prog_addLot
              rw [l3, q1, q2, Int.toNat_natCast, Int.toNat_natCast, if_pos (by unfold g32; omega), if_pos (by decide), if_neg (by omega), if_neg (by omega), if_pos (by omega)]
            rw [e4', obind]
            have fr4 : fL o pr lv lw C (mu (mu (mu C3 27 lv (C 2 pr 6).toNat v) 27 lw (C 2 pr 6).toNat u) 2 pr 6 (C 2 pr 6 + 1)) := by
              refine fr3.trans ⟨by rw [mu_at, l3]; omega, fun f k j q => ?_⟩
              rw [mu_ne _ _ (fun r => q (Or.inr (Or.inl r))), mu_ne _ _ (fun r => q (Or.inr (Or.inr ⟨r.1, Or.inr r.2.1, by rw [r.2.2, l3]; omega⟩))), mu_ne _ _ (fun r => q (Or.inr (Or.inr ⟨r.1, Or.inl r.2.1, by rw [r.2.2, l3]; omega⟩)))]
            have z3 : ∀ j, mu (mu (mu C3 27 lv (C 2 pr 6).toNat v) 27 lw (C 2 pr 6).toNat u) 2 pr 6 (C 2 pr 6 + 1) 3 o j = C3 3 o j := fun j => rfl
            have z2 : ∀ j, j ≠ 6 → mu (mu (mu C3 27 lv (C 2 pr 6).toNat v) 27 lw (C 2 pr 6).toNat u) 2 pr 6 (C 2 pr 6 + 1) 2 pr j = C3 2 pr j := fun j hj => mu_ne _ _ (fun r => hj r.2.2)
            refine ⟨u, mu (mu (mu C3 27 lv (C 2 pr 6).toNat v) 27 lw (C 2 pr 6).toNat u) 2 pr 6 (C 2 pr 6 + 1), rfl, fr4, o3, rfl, ⟨⟨⟨?_, ?_, ?_, ?_, ?_⟩, k2, k3, ?_⟩, ?_, ?_, q3, ?_, ?_⟩, mu_at _ _ _ _ _, ?_, ?_⟩
            · exact ⟨k1.1.1, k1.1.2.1, k1.1.2.2.1, fun j hj => k1.1.2.2.2 j hj⟩
            · exact k1.2.1
            · exact (z2 2 (by decide)).trans k1.2.2.1
            · rw [z2 3 (by decide)]
              exact k1.2.2.2.1
            · rw [z2 3 (by decide)]
              exact k1.2.2.2.2
            · rw [z2 3 (by decide)]
              exact k4
            · exact (z2 4 (by decide)).trans q1
            · exact (z2 5 (by decide)).trans q2
            · rw [mu_at]
              omega
            · rw [mu_at]
              show 3 * (C 2 pr 6 + 1) ≤ (e : Int)
              omega
            · show mu (mu C3 27 lv (C 2 pr 6).toNat v) 27 lw (C 2 pr 6).toNat u 27 lv (C 2 pr 6).toNat = v
              rw [mu_ne _ _ (fun r => q3 r.2.1), mu_at]
            · show mu (mu C3 27 lv (C 2 pr 6).toNat v) 27 lw (C 2 pr 6).toNat u 27 lw (C 2 pr 6).toNat = u
              exact mu_at _ _ _ _ _
          · rw [if_neg c6, if_neg (show ¬ (tkS (kTok T m (tkE (kTok T m (tkE (kTok T m p))))) = 3 ∧ 1 ≤ tkV (kTok T m (tkE (kTok T m (tkE (kTok T m p))))) ∧ tkV (kTok T m (tkE (kTok T m (tkE (kTok T m p))))) ≤ 16) by omega)]
            exact ⟨0, C2, rfl, fr2, o2, rfl, f6⟩
        · rw [if_neg c4, if_neg (show ¬ (tkS (kTok T m (tkE (kTok T m (tkE (kTok T m p))))) = 3 ∧ 1 ≤ tkV (kTok T m (tkE (kTok T m (tkE (kTok T m p))))) ∧ tkV (kTok T m (tkE (kTok T m (tkE (kTok T m p))))) ≤ 16) from fun r => c4 r.1)]
          exact ⟨0, C2, rfl, fr2, o2, rfl, f6⟩
      · rw [if_pos ((if0 _).mpr c3), if_neg c3, if_neg c3]
        exact ⟨0, C1, rfl, fL.ofC x2 (by decide), x2 3 o 5 (fun r => absurd r.2.2 (by decide)), rfl, x3.1.2.1.2.1⟩
    · rw [if_neg c2, if_neg (show ¬ (tkS (kTok T m p) = 3 ∧ tkV (kTok T m p) ≤ 9) by omega)]
      exact ⟨0, C, rfl, fL.refl, rfl, rfl, e6⟩
  · rw [if_neg c1, if_neg (show ¬ (tkS (kTok T m p) = 3 ∧ tkV (kTok T m p) ≤ 9) from fun r => c1 r.1)]
    exact ⟨0, C, rfl, fL.refl, rfl, rfl, e6⟩
end CL
