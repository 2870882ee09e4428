/-! STEPS of the class (own work): what stands, names, numbers, formulas -/
/-- the class stands at a token, k steps read -/
def cSt (o pr ca lv lw sa : Nat) (st : Nat → Nat) (others : Int) (T : Nat → Int) (m : Nat) (C : mA) (p k : Nat) : Prop := cLt o pr ca lv lw T m C p ∧ (C 2 pr 0).toNat = sa ∧ C 2 pr 1 = k ∧ k ≤ 16 ∧ (∀ i, i < 16 → (C 25 sa i).toNat = st i) ∧ C 3 o 3 = others
/-- from k steps, these sizes on -/
def dS (o pr ca lv lw : Nat) (st : Nat → Nat) (k : Nat) (cs ls : Int) (f a j : Nat) : Prop := (f = 3 ∧ a = o ∧ 4 ≤ j) ∨ (f = 2 ∧ a = pr ∧ (j = 1 ∨ j = 3 ∨ j = 6)) ∨ (f = 36 ∧ a = ca ∧ cs ≤ j) ∨ (f = 27 ∧ (a = lv ∨ a = lw) ∧ ls ≤ j) ∨ (f = 6 ∧ ∃ i, k ≤ i ∧ i < 16 ∧ a = st i)
def fS (o pr ca lv lw : Nat) (st : Nat → Nat) (k : Nat) (C C' : mA) : Prop := C 2 pr 3 ≤ C' 2 pr 3 ∧ C 2 pr 6 ≤ C' 2 pr 6 ∧ ∀ f a j, ¬ dS o pr ca lv lw st k (C 2 pr 3) (C 2 pr 6) f a j → C' f a j = C f a j
theorem fS.refl {o pr ca lv lw : Nat} {st : Nat → Nat} {k : Nat} {C : mA} : fS o pr ca lv lw st k C C := ⟨Int.le_refl _, Int.le_refl _, fun _ _ _ _ => rfl⟩
theorem fS.trans {o pr ca lv lw : Nat} {st : Nat → Nat} {k k' : Nat} {C C' C'' : mA} (h : fS o pr ca lv lw st k C C') (h' : fS o pr ca lv lw st k' C' C'') (hk : k ≤ k') : fS o pr ca lv lw st k C C'' := by
  refine ⟨Int.le_trans h.1 h'.1, Int.le_trans h.2.1 h'.2.1, fun f a j q => ?_⟩
  refine (h'.2.2 f a j (fun r => q ?_)).trans (h.2.2 f a j q)
  rcases r with r | r | r | r | ⟨r, i, r1, r2, r3⟩
  · exact Or.inl r
  · exact Or.inr (Or.inl r)
  · exact Or.inr (Or.inr (Or.inl ⟨r.1, r.2.1, Int.le_trans h.1 r.2.2⟩))
  · exact Or.inr (Or.inr (Or.inr (Or.inl ⟨r.1, r.2.1, Int.le_trans h.2.1 r.2.2⟩)))
  · exact Or.inr (Or.inr (Or.inr (Or.inr ⟨r, i, by omega, r2, r3⟩)))
theorem fS.ofE {o pr ca lv lw : Nat} {st : Nat → Nat} {k i : Nat} {C C' : mA} (hi : k ≤ i ∧ i < 16) (h : fE o (st i) pr ca C C') : fS o pr ca lv lw st k C C' := by
  refine ⟨h.1, ?_, fun f a j q => h.2 f a j (fun r => q ?_)⟩
  · rw [h.p 6 (by decide)]
    exact Int.le_refl _
  · rcases r with r | r | r | r
    · exact Or.inl r
    · exact Or.inr (Or.inr (Or.inr (Or.inr ⟨r.1, i, hi.1, hi.2, r.2.1⟩)))
    · exact Or.inr (Or.inl ⟨r.1, r.2.1, Or.inr (Or.inl r.2.2)⟩)
    · exact Or.inr (Or.inr (Or.inl r))
theorem fS.ofLs {o pr ca lv lw : Nat} {st : Nat → Nat} {k i : Nat} {C C' : mA} (hi : k ≤ i ∧ i < 16) (h : fLs o (st i) pr lv lw C C') : fS o pr ca lv lw st k C C' := by
  refine ⟨?_, h.1, fun f a j q => h.2 f a j (fun r => q ?_)⟩
  · rw [h.2 2 pr 3 (fun r => by
      rcases r with (r | r | r) | r
      · exact absurd r.1 (by decide)
      · exact absurd r.2.2 (by decide)
      · exact absurd r.1 (by decide)
      · exact absurd r.1 (by decide))]
    exact Int.le_refl _
  · rcases r with (r | r | r) | r
    · exact Or.inl r
    · exact Or.inr (Or.inl ⟨r.1, r.2.1, Or.inr (Or.inr r.2.2)⟩)
    · exact Or.inr (Or.inr (Or.inr (Or.inl r)))
    · exact Or.inr (Or.inr (Or.inr (Or.inr ⟨r.1, i, hi.1, hi.2, r.2.1⟩)))
theorem fS.ofC {o pr ca lv lw : Nat} {st : Nat → Nat} {k : Nat} {C C' : mA} {l : List Nat} (h : fC C C' o l) (hl : ∀ j, j ∈ l → 4 ≤ j) : fS o pr ca lv lw st k C C' := by
  refine ⟨?_, ?_, fun f a j q => h f a j (fun r => q (Or.inl ⟨r.1, r.2.1, hl j r.2.2⟩))⟩
  · rw [h 2 pr 3 (fun r => absurd r.1 (by decide))]
    exact Int.le_refl _
  · rw [h 2 pr 6 (fun r => absurd r.1 (by decide))]
    exact Int.le_refl _
theorem fS.st {o pr ca lv lw : Nat} {st : Nat → Nat} {k i j : Nat} {C : mA} {z : Int} (hi : k ≤ i ∧ i < 16) : fS o pr ca lv lw st k C (mu C 6 (st i) j z) := by
  refine ⟨?_, ?_, fun f a j' q => mu_ne _ _ (fun r => q (Or.inr (Or.inr (Or.inr (Or.inr ⟨r.1, i, hi.1, hi.2, r.2.1⟩)))))⟩
  · rw [mu_ne _ _ (fun r => absurd r.1 (by decide))]
    exact Int.le_refl _
  · rw [mu_ne _ _ (fun r => absurd r.1 (by decide))]
    exact Int.le_refl _
/-- an elder step, a field of the program, the table -/
theorem fS.el {o pr ca lv lw : Nat} {st : Nat → Nat} (hst : ∀ i, i < 16 → ∀ j, j < 16 → st i = st j → i = j) {k i : Nat} {C C' : mA} (h : fS o pr ca lv lw st k C C') (hi : i < k) (h16 : k ≤ 16) (j : Nat) : C' 6 (st i) j = C 6 (st i) j := h.2.2 6 (st i) j (fun r => by
  rcases r with r | r | r | r | ⟨r, i', r1, r2, r3⟩
  · exact absurd r.1 (by decide)
  · exact absurd r.1 (by decide)
  · exact absurd r.1 (by decide)
  · exact absurd r.1 (by decide)
  · have := hst i (by omega) i' r2 r3
    omega)
theorem fS.pr0 {o pr ca lv lw : Nat} {st : Nat → Nat} {k : Nat} {C C' : mA} (h : fS o pr ca lv lw st k C C') : C' 2 pr 0 = C 2 pr 0 := h.2.2 2 pr 0 (fun r => by
  rcases r with r | r | r | r | r
  · exact absurd r.1 (by decide)
  · omega
  · exact absurd r.1 (by decide)
  · exact absurd r.1 (by decide)
  · exact absurd r.1 (by decide))
theorem fS.tab {o pr ca lv lw : Nat} {st : Nat → Nat} {k : Nat} {C C' : mA} (h : fS o pr ca lv lw st k C C') (a j : Nat) : C' 25 a j = C 25 a j := h.2.2 25 a j (fun r => by
  rcases r with r | r | r | r | r <;> exact absurd r.1 (by decide))
theorem fS.o3 {o pr ca lv lw : Nat} {st : Nat → Nat} {k : Nat} {C C' : mA} (h : fS o pr ca lv lw st k C C') (j : Nat) (hj : j < 4) : C' 3 o j = C 3 o j := h.2.2 3 o j (fun r => by
  rcases r with r | r | r | r | r
  · omega
  · exact absurd r.1 (by decide)
  · exact absurd r.1 (by decide)
  · exact absurd r.1 (by decide)
  · exact absurd r.1 (by decide))
section CS3
variable {o pr ca lv lw sa : Nat} {st : Nat → Nat} {others : Int} {T : Nat → Int} {m : Nat}
theorem cSt.go {C C' : mA} {p p' k k0 : Nat} (h : cSt o pr ca lv lw sa st others T m C p k) (hf : fS o pr ca lv lw st k0 C C') (hl : cLt o pr ca lv lw T m C' p') (hk : C' 2 pr 1 = C 2 pr 1) : cSt o pr ca lv lw sa st others T m C' p' k := by
  obtain ⟨a1, a2, a3, a4, a5, a6⟩ := h
  refine ⟨hl, by rw [hf.pr0]; exact a2, by rw [hk]; exact a3, a4, fun i hi => ?_, by rw [hf.o3 3 (by decide)]; exact a6⟩
  rw [hf.tab]
  exact a5 i hi
/-- a name -/
theorem c_name {C : mA} {p k i : Nat} (h : cSt o pr ca lv lw sa st others T m C p k) (hi : i < k) : ∃ z C', f_Read_readName C o (st i) = some (z, C') ∧ fS o pr ca lv lw st i C C' ∧ C' 3 o 5 = C 3 o 5 ∧ (tkS (kTok T m p) = 1 ∧ z = 1 ∧ cSt o pr ca lv lw sa st others T m C' (tkE (kTok T m p)) k ∧ C' 6 (st i) 1 = tkV (kTok T m p) ∧ (∀ j, j ≠ 1 → C' 6 (st i) j = C 6 (st i) j) ∧ C' 2 pr 3 = C 2 pr 3 ∧ C' 2 pr 6 = C 2 pr 6 ∨ ¬ tkS (kTok T m p) = 1 ∧ z = 0 ∧ C' 3 o 6 = tkB (kTok T m p)) := by
  obtain ⟨-, -, -, -, g5, g6, -⟩ := h.1.1.good
  obtain ⟨e4, e6, e7, e8⟩ := h.1.1.2.1
  have hk := h.2.2.2.1
  unfold f_Read_readName
  rw [e7, if_pos (show g32 _ by unfold g32; omega)]
  by_cases c : tkS (kTok T m p) = 1
  · rw [if_pos c, e8 (by omega) (by omega)]
    obtain ⟨C1, x1, x2, x3⟩ := c_advL (h.1.st (s := st i) (j := 1) (z := tkV (kTok T m p)))
    rw [x1, obind]
    have f1 : fS o pr ca lv lw st i C C1 := (fS.st (by omega)).trans (fS.ofC x2 (by decide)) (Nat.le_refl _)
    have e : ∀ f a j, f ≠ 3 → C1 f a j = mu C 6 (st i) 1 (tkV (kTok T m p)) f a j := fun f a j hf => x2 f a j (fun r => hf r.1)
    refine ⟨1, C1, rfl, f1, (x2 3 o 5 (fun r => absurd r.2.2 (by decide))).trans rfl, Or.inl ⟨c, rfl, h.go f1 x3 ((e 2 pr 1 (by decide)).trans rfl), (e 6 (st i) 1 (by decide)).trans (mu_at _ _ _ _ _), fun j hj => (e 6 (st i) j (by decide)).trans (mu_ne _ _ (fun r => hj r.2.2)), (e 2 pr 3 (by decide)).trans rfl, (e 2 pr 6 (by decide)).trans rfl⟩⟩
  · rw [if_neg c]
    exact ⟨0, C, rfl, fS.refl, rfl, Or.inr ⟨c, rfl, e6⟩⟩
/-- a number -/
theorem c_numb {C : mA} {p k i : Nat} {below : Int} (h : cSt o pr ca lv lw sa st others T m C p k) (hi : i < k) (hb : g32 below) : ∃ z C', f_Read_readNumber C o (st i) below = some (z, C') ∧ fS o pr ca lv lw st i C C' ∧ C' 3 o 5 = C 3 o 5 ∧ ((tkS (kTok T m p) = 3 ∧ tkV (kTok T m p) < below) ∧ z = 1 ∧ cSt o pr ca lv lw sa st others T m C' (tkE (kTok T m p)) k ∧ C' 6 (st i) 2 = tkV (kTok T m p) ∧ (∀ j, j ≠ 2 → C' 6 (st i) j = C 6 (st i) j) ∧ C' 2 pr 3 = C 2 pr 3 ∧ C' 2 pr 6 = C 2 pr 6 ∨ ¬ (tkS (kTok T m p) = 3 ∧ tkV (kTok T m p) < below) ∧ z = 0 ∧ C' 3 o 6 = tkB (kTok T m p)) := by
  obtain ⟨-, -, -, -, g5, g6, -⟩ := h.1.1.good
  obtain ⟨e4, e6, e7, e8⟩ := h.1.1.2.1
  have hk := h.2.2.2.1
  unfold f_Read_readNumber
  rw [e7, if_pos (show g32 _ by unfold g32; omega)]
  by_cases c : tkS (kTok T m p) = 3
  · rw [if_pos c, e8 (by omega) (by omega), if_pos (show g32 _ by unfold g32; omega), if_pos hb]
    by_cases c2 : tkV (kTok T m p) < below
    · rw [if_pos c2]
      obtain ⟨C1, x1, x2, x3⟩ := c_advL (h.1.st (s := st i) (j := 2) (z := tkV (kTok T m p)))
      rw [x1, obind]
      have f1 : fS o pr ca lv lw st i C C1 := (fS.st (by omega)).trans (fS.ofC x2 (by decide)) (Nat.le_refl _)
      have e : ∀ f a j, f ≠ 3 → C1 f a j = mu C 6 (st i) 2 (tkV (kTok T m p)) f a j := fun f a j hf => x2 f a j (fun r => hf r.1)
      refine ⟨1, C1, rfl, f1, (x2 3 o 5 (fun r => absurd r.2.2 (by decide))).trans rfl, Or.inl ⟨⟨c, c2⟩, rfl, h.go f1 x3 ((e 2 pr 1 (by decide)).trans rfl), (e 6 (st i) 2 (by decide)).trans (mu_at _ _ _ _ _), fun j hj => (e 6 (st i) j (by decide)).trans (mu_ne _ _ (fun r => hj r.2.2)), (e 2 pr 3 (by decide)).trans rfl, (e 2 pr 6 (by decide)).trans rfl⟩⟩
    · rw [if_neg c2]
      exact ⟨0, C, rfl, fS.refl, rfl, Or.inr ⟨fun r => c2 r.2, rfl, e6⟩⟩
  · rw [if_neg c]
    exact ⟨0, C, rfl, fS.refl, rfl, Or.inr ⟨fun r => c r.1, rfl, e6⟩⟩
end CS3
