/-! FORMULAS of the class (own work): rows of signs -/
def kSee (a : Int) (c : List Int) : Int := c.foldl (fun a x => if 100 ≤ x ∧ x ≤ 105 then iOr a (iShl 1 (x - 100)) else a) a
theorem kSee_app (a : Int) (c d : List Int) : kSee a (c ++ d) = kSee (kSee a c) d := List.foldl_append
def dE (o s pr ca : Nat) (cs : Int) (f k j : Nat) : Prop := (f = 3 ∧ k = o ∧ 4 ≤ j) ∨ (f = 6 ∧ k = s ∧ j = 6) ∨ (f = 2 ∧ k = pr ∧ j = 3) ∨ (f = 36 ∧ k = ca ∧ cs ≤ j)
def fE (o s pr ca : Nat) (C C' : mA) : Prop := C 2 pr 3 ≤ C' 2 pr 3 ∧ ∀ f k j, ¬ dE o s pr ca (C 2 pr 3) f k j → C' f k j = C f k j
theorem fE.refl {o s pr ca : Nat} {C : mA} : fE o s pr ca C C := ⟨Int.le_refl _, fun _ _ _ _ => rfl⟩
theorem fE.trans {o s pr ca : Nat} {C C' C'' : mA} (h : fE o s pr ca C C') (h' : fE o s pr ca C' C'') : fE o s pr ca C C'' := by
  refine ⟨Int.le_trans h.1 h'.1, fun f k j q => ?_⟩
  refine (h'.2 f k j (fun r => q ?_)).trans (h.2 f k j q)
  rcases r with r | r | r | r
  · exact Or.inl r
  · exact Or.inr (Or.inl r)
  · exact Or.inr (Or.inr (Or.inl r))
  · exact Or.inr (Or.inr (Or.inr ⟨r.1, r.2.1, Int.le_trans h.1 r.2.2⟩))
theorem fE.ofC {o s pr ca : Nat} {C C' : mA} {l : List Nat} (h : fC C C' o l) (hl : ∀ j, j ∈ l → 4 ≤ j) : fE o s pr ca C C' := by
  refine ⟨by rw [h 2 pr 3 (fun r => absurd r.1 (by decide))]; exact Int.le_refl _, fun f k j q => h f k j (fun r => q (Or.inl ⟨r.1, r.2.1, hl j r.2.2⟩))⟩
theorem fE.r {o s pr ca : Nat} {C C' : mA} (h : fE o s pr ca C C') (j : Nat) (hj : j < 4) : C' 3 o j = C 3 o j := h.2 3 o j (fun r => by
  rcases r with r | r | r | r
  · omega
  · exact absurd r.1 (by decide)
  · exact absurd r.1 (by decide)
  · exact absurd r.1 (by decide))
theorem fE.p {o s pr ca : Nat} {C C' : mA} (h : fE o s pr ca C C') (j : Nat) (hj : j ≠ 3) : C' 2 pr j = C 2 pr j := h.2 2 pr j (fun r => by
  rcases r with r | r | r | r
  · exact absurd r.1 (by decide)
  · exact absurd r.1 (by decide)
  · exact hj r.2.2
  · exact absurd r.1 (by decide))
theorem fE.t {o s pr ca : Nat} {C C' : mA} (h : fE o s pr ca C C') (a j : Nat) : C' 20 a j = C 20 a j := h.2 20 a j (fun r => by
  rcases r with r | r | r | r <;> exact absurd r.1 (by decide))
theorem bC.fE {o s pr ca : Nat} {C C' : mA} {T : Nat → Int} {m : Nat} (h : bC C o T m) (hf : fE o s pr ca C C') : bC C' o T m := by
  refine ⟨by rw [hf.r 0 (by decide)]; exact h.1, by rw [hf.r 1 (by decide)]; exact h.2.1, h.2.2.1, fun j hj => ?_⟩
  rw [hf.r 0 (by decide), hf.t]
  exact h.2.2.2 j hj
/-- what stands, whatever was read -/
def cI (o pr ca : Nat) (T : Nat → Int) (m : Nat) (C : mA) : Prop := bC C o T m ∧ C 3 o 2 = pr ∧ C 2 pr 2 = ca ∧ 0 ≤ C 2 pr 3 ∧ C 2 pr 3 ≤ 120
/-- the class stands at a token -/
def cE (o pr ca : Nat) (T : Nat → Int) (m : Nat) (C : mA) (p : Nat) : Prop := cI o pr ca T m C ∧ gC C o (kTok T m p) ∧ p ≤ m ∧ C 2 pr 3 ≤ p
/-- these codes were laid -/
def eC (s pr ca : Nat) (C C' : mA) (c : List Int) : Prop := C' 2 pr 3 = C 2 pr 3 + c.length ∧ (∀ i, i < c.length → C' 36 ca ((C 2 pr 3).toNat + i) = c.getD i 0) ∧ C' 6 s 6 = kSee (C 6 s 6) c
theorem eC.nil {s pr ca : Nat} {C C' : mA} (h1 : C' 2 pr 3 = C 2 pr 3) (h2 : C' 6 s 6 = C 6 s 6) : eC s pr ca C C' [] := ⟨h1.trans (Int.add_zero _).symm, fun i hi => absurd hi (Nat.not_lt_zero i), h2⟩
theorem eC.app {o s pr ca : Nat} {C C1 C2 : mA} {c d : List Int} (h0 : 0 ≤ C 2 pr 3) (h1 : eC s pr ca C C1 c) (f2 : fE o s pr ca C1 C2) (h2 : eC s pr ca C1 C2 d) : eC s pr ca C C2 (c ++ d) := by
  obtain ⟨a1, a2, a3⟩ := h1
  obtain ⟨b1, b2, b3⟩ := h2
  refine ⟨by rw [b1, a1, List.length_append]; omega, fun i hi => ?_, by rw [b3, a3, kSee_app]⟩
  rw [List.length_append] at hi
  by_cases q : i < c.length
  · have e : C2 36 ca ((C 2 pr 3).toNat + i) = C1 36 ca ((C 2 pr 3).toNat + i) := f2.2 _ _ _ (fun r => by
      rcases r with r | r | r | r
      · exact absurd r.1 (by decide)
      · exact absurd r.1 (by decide)
      · exact absurd r.1 (by decide)
      · omega)
    rw [e, a2 i q, List.getD_eq_getElem?_getD, List.getD_eq_getElem?_getD, List.getElem?_append_left q]
  · have e := b2 (i - c.length) (by omega)
    have e2 : (C1 2 pr 3).toNat + (i - c.length) = (C 2 pr 3).toNat + i := by
      rw [a1]
      omega
    rw [e2] at e
    rw [e, List.getD_eq_getElem?_getD, List.getD_eq_getElem?_getD, List.getElem?_append_right (by omega)]
def cRes (o s pr ca : Nat) (T : Nat → Int) (m : Nat) (op : Int) (C : mA) (z : Int) (C' : mA) (r : kR (List Int)) : Prop := fE o s pr ca C C' ∧ cI o pr ca T m C' ∧ kCase r (fun b => z = 0 ∧ C' 3 o 6 = b) (fun x => z = 1 ∧ cE o pr ca T m C' x.1 ∧ C' 3 o 5 = op ∧ eC s pr ca C C' x.2)
/-- a method reads as this says -/
def cFn (o s pr ca : Nat) (T : Nat → Int) (m : Nat) (op : Int) (fn : mA → Nat → Nat → Option (Int × mA)) (f : Nat → kR (List Int)) : Prop := ∀ C p, cE o pr ca T m C p → C 3 o 5 = op → ∃ z C', fn C o s = some (z, C') ∧ cRes o s pr ca T m op C z C' (f p)
section FE
variable {o s pr ca : Nat} {T : Nat → Int} {m : Nat} {op : Int}
theorem cI.tx {C : mA} (h : cI o pr ca T m C) : m ≤ 120 ∧ ∀ j, j < 120 → 0 ≤ T j ∧ T j ≤ 255 := ⟨h.1.2.2.1, fun j hj => (h.1.2.2.2 j hj).2⟩
theorem cI.fE {C C' : mA} (h : cI o pr ca T m C) (hf : fE o s pr ca C C') (hc : C' 2 pr 3 ≤ 120) : cI o pr ca T m C' := ⟨h.1.fE hf, by rw [hf.r 2 (by decide)]; exact h.2.1, by rw [hf.p 2 (by decide)]; exact h.2.2.1, Int.le_trans h.2.2.2.1 hf.1, hc⟩
theorem cE.good {C : mA} {p : Nat} (h : cE o pr ca T m C p) : kGood m p (kTok T m p) := kTok_ok h.1.tx.1 h.1.tx.2 h.2.2.1
theorem c_isSign {C : mA} {p : Nat} (h : cE o pr ca T m C p) {c : Int} (hc : 0 ≤ c ∧ c ≤ 255) : f_Read_isSign C o c = some (if kSg (kTok T m p) c then 1 else 0, C) := by
  obtain ⟨-, -, -, -, g5, g6, -⟩ := h.good
  obtain ⟨-, -, e7, e8⟩ := h.2.1
  unfold f_Read_isSign
  rw [e7, if_pos (by unfold g32; omega)]
  by_cases c1 : tkS (kTok T m p) = 4
  · rw [if_pos c1, e8 (by omega) (by omega), if_pos (by unfold g32; omega), if_pos (by unfold g32; omega)]
    by_cases c2 : tkV (kTok T m p) = c
    · rw [if_pos c2, if_pos ⟨c1, c2⟩]
    · rw [if_neg c2, if_neg (fun r => c2 r.2)]
  · rw [if_neg c1, if_neg (fun r => c1 r.1)]
/-- the next token, of a formula -/
theorem c_adv {C : mA} {p : Nat} (h : cE o pr ca T m C p) : ∃ C', f_Read_advance C o = some (0, C') ∧ fC C C' o [4, 6, 7, 8] ∧ cE o pr ca T m C' (tkE (kTok T m p)) := by
  obtain ⟨g1, g2, g3, -⟩ := h.good
  obtain ⟨C', x1, x2, x3⟩ := c_advance h.1.1 h.2.1.1 g3
  have e3 : C' 2 pr 3 = C 2 pr 3 := x2 2 pr 3 (fun r => absurd r.1 (by decide))
  refine ⟨C', x1, x2, h.1.fE (s := 0) (fE.ofC x2 (by decide)) (by rw [e3]; exact h.1.2.2.2.2), x3, g3, ?_⟩
  have := h.2.2.2
  rw [e3]
  omega
theorem c_emit {C : mA} (h : cI o pr ca T m C) (x : Int) (hx : ¬ (100 ≤ x ∧ x ≤ 105)) : ∃ C', f_Prog_emit C pr x = some (0, C') ∧ fE o s pr ca C C' ∧ cI o pr ca T m C' ∧ (∀ j, C' 3 o j = C 3 o j) ∧ (C 2 pr 3 < 120 → eC s pr ca C C' [x]) := by
  obtain ⟨h1, h2, h3, h4, h5⟩ := h
  unfold f_Prog_emit
  rw [if_pos (by unfold g32; omega)]
  by_cases c : 120 ≤ C 2 pr 3
  · rw [if_pos c]
    exact ⟨C, rfl, fE.refl, ⟨h1, h2, h3, h4, h5⟩, fun _ => rfl, fun h => absurd h (by omega)⟩
  · rw [if_neg c, if_pos (by omega), h3, Int.toNat_natCast]
    have f1 : fE o s pr ca C (mu (mu C 36 ca (C 2 pr 3).toNat x) 2 pr 3 (C 2 pr 3 + 1)) := by
      refine ⟨by rw [mu_at]; omega, fun f k j q => ?_⟩
      rw [mu_ne _ _ (fun r => q (Or.inr (Or.inr (Or.inl r)))), mu_ne _ _ (fun r => q (Or.inr (Or.inr (Or.inr ⟨r.1, r.2.1, by rw [r.2.2]; omega⟩))))]
    refine ⟨_, rfl, f1, cI.fE ⟨h1, h2, h3, h4, h5⟩ f1 (by rw [mu_at]; omega), fun j => ?_, fun _ => ⟨mu_at _ _ _ _ _, fun i hi => ?_, ?_⟩⟩
    · rw [mu_ne _ _ (fun r => absurd r.1 (by decide)), mu_ne _ _ (fun r => absurd r.1 (by decide))]
    · obtain rfl : i = 0 := by
        have : i < 1 := hi
        omega
      rw [mu_ne _ _ (fun r => absurd r.1 (by decide)), Nat.add_zero, mu_at]
      rfl
    · rw [mu_ne _ _ (fun r => absurd r.1 (by decide)), mu_ne _ _ (fun r => absurd r.1 (by decide))]
      show _ = if 100 ≤ x ∧ x ≤ 105 then _ else _
      rw [if_neg hx]
end FE
/-- the loop over signs -/
def gLoop (inner : mA → Nat → Nat → Option (Int × mA)) (s1 s2 : Int) : Nat → mA → Nat → Nat → Int → Int → Option (Int × mA)
  | 0, _, _, _, _, _ => none
  | n + 1, A, b0, b1, b2, b3 => (if g32 b3 then (if 120 ≤ b3 then (if (b2 = 0 ∨ b2 = 1) then (some (b2, A)) else none) else (if g32 b2 then (if b2 = 0 then (if (b2 = 0 ∨ b2 = 1) then (some (b2, A)) else none) else (Option.bind (f_Read_isSign A b0 s1) (fun q7 => (if g32 q7.1 then (if q7.1 = 0 then (Option.bind (f_Read_isSign q7.2 b0 s2) (fun q19 => (if g32 q19.1 then (if q19.1 = 0 then (if (b2 = 0 ∨ b2 = 1) then (some (b2, q19.2)) else none) else (Option.bind (f_Read_advance q19.2 b0) (fun q24 => (Option.bind (inner q24.2 b0 b1) (fun q26 => (if 0 ≤ (q26.2 3 b0 2) then (Option.bind (f_Prog_emit q26.2 ((q26.2 3 b0 2).toNat) (200 + (q19.2 3 b0 8))) (fun q30 => (gLoop inner s1 s2 n q30.2 b0 b1 q26.1 (b3 + 1)))) else none)))))) else none))) else (Option.bind (f_Read_advance q7.2 b0) (fun q11 => (Option.bind (inner q11.2 b0 b1) (fun q13 => (if 0 ≤ (q13.2 3 b0 2) then (Option.bind (f_Prog_emit q13.2 ((q13.2 3 b0 2).toNat) (200 + (q7.2 3 b0 8))) (fun q17 => (gLoop inner s1 s2 n q17.2 b0 b1 q13.1 (b3 + 1)))) else none)))))) else none)))) else none)) else none)
theorem gLoop_term (one : mA → Nat → Nat → Option (Int × mA)) : ∀ n A b0 b1 b2 b3, f_Read_readTerm_8 one n A b0 b1 b2 b3 = gLoop one 42 37 n A b0 b1 b2 b3 := by
  intro n
  induction n with
  | zero => intro A b0 b1 b2 b3; rfl
  | succ n ih =>
    intro A b0 b1 b2 b3
    rw [f_Read_readTerm_8, gLoop]
    simp only [ih]
theorem gLoop_sum (one : mA → Nat → Nat → Option (Int × mA)) : ∀ n A b0 b1 b2 b3, f_Read_readSum_8 one n A b0 b1 b2 b3 = gLoop (f_Read_readTerm one) 43 45 n A b0 b1 b2 b3 := by
  intro n
  induction n with
  | zero => intro A b0 b1 b2 b3; rfl
  | succ n ih =>
    intro A b0 b1 b2 b3
    rw [f_Read_readSum_8, gLoop]
    simp only [ih]
theorem g32_if (c : Prop) [Decidable c] : g32 (if c then 1 else 0) := by
  by_cases h : c
  · rw [if_pos h]; decide
  · rw [if_neg h]; decide
theorem if0 (c : Prop) [Decidable c] : (if c then (1 : Int) else 0) = 0 ↔ ¬ c := by
  by_cases h : c
  · rw [if_pos h]; exact ⟨fun q => absurd q (by decide), fun q => absurd h q⟩
  · rw [if_neg h]; exact ⟨fun _ => h, fun _ => rfl⟩
theorem gLoop0 {inner : mA → Nat → Nat → Option (Int × mA)} {s1 s2 : Int} {n : Nat} {C : mA} {o s : Nat} {i : Int} (hi : 0 ≤ i ∧ i ≤ 1000) : gLoop inner s1 s2 (n + 1) C o s 0 i = some (0, C) := by
  rw [gLoop, if_pos (by unfold g32; omega)]
  by_cases c : 120 ≤ i
  · rw [if_pos c]
    rfl
  · rw [if_neg c]
    rfl
