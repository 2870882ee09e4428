/-! STEPS of the class: what is kept of them (own work) -/
def kS0 : kS := (0, 0, 0, 0, 0, [], [], 0)
def stIs (pr ca lv lw : Nat) (st : Nat → Nat) (C : mA) (i : Nat) (s : kS) : Prop :=
  (C 6 (st i) 0 = sK s ∧ C 6 (st i) 1 = sN s ∧ C 6 (st i) 2 = sU s ∧ C 6 (st i) 3 = sI s ∧ C 6 (st i) 4 = sV s) ∧ (sK s = 3 → C 6 (st i) 5 = ((i + sO s : Nat) : Int)) ∧ C 6 (st i) 6 = kSee 0 (sC s) ∧ C 6 (st i) 7 = (if sK s = 0 then kBt (kSumW (sL s)) else 0) ∧ (C 6 (st i) 8 = 1 ∧ C 6 (st i) 12 = 0 ∧ C 6 (st i) 13 = -1) ∧
  (sK s ≠ 0 → sK s ≠ 4 → ∃ n : Nat, C 6 (st i) 9 = n ∧ C 6 (st i) 10 = ((n + (sC s).length : Nat) : Int) ∧ ((n + (sC s).length : Nat) : Int) ≤ C 2 pr 3 ∧ codesAt C ca n (sC s)) ∧
  (sK s = 0 → ∃ n : Nat, C 6 (st i) 11 = n ∧ ((n + (sL s).length : Nat) : Int) ≤ C 2 pr 6 ∧ lotsAt C lv lw n (sL s))
def stAll (pr ca lv lw : Nat) (st : Nat → Nat) (C : mA) (k : Nat) (c : List kS) : Prop := ∀ j, j < c.length → stIs pr ca lv lw st C (k + j) (c.getD j kS0)
section CS6
variable {o pr ca lv lw : Nat} {st : Nat → Nat}
theorem fS.code {k : Nat} {C C' : mA} (h : fS o pr ca lv lw st k C C') (j : Nat) (hj : (j : Int) < C 2 pr 3) : C' 36 ca j = C 36 ca j := h.2.2 36 ca j (fun r => by
  rcases r with r | r | r | r | r
  · exact absurd r.1 (by decide)
  · exact absurd r.1 (by decide)
  · omega
  · exact absurd r.1 (by decide)
  · exact absurd r.1 (by decide))
theorem fS.lot {k : Nat} {C C' : mA} (h : fS o pr ca lv lw st k C C') (a j : Nat) (hj : (j : Int) < C 2 pr 6) : C' 27 a j = C 27 a j := h.2.2 27 a j (fun r => by
  rcases r with r | r | r | r | r
  · exact absurd r.1 (by decide)
  · exact absurd r.1 (by decide)
  · exact absurd r.1 (by decide)
  · omega
  · exact absurd r.1 (by decide))
theorem stIs.keep (hst : ∀ i, i < 16 → ∀ j, j < 16 → st i = st j → i = j) {C C' : mA} {k i : Nat} {s : kS} (h : stIs pr ca lv lw st C i s) (hf : fS o pr ca lv lw st k C C') (hi : i < k) (hk : k ≤ 16) : stIs pr ca lv lw st C' i s := by
  have e : ∀ j, C' 6 (st i) j = C 6 (st i) j := fun j => hf.el hst hi hk j
  obtain ⟨h1, h2, h3, h4, h5, h6, h7⟩ := h
  refine ⟨by rw [e, e, e, e, e]; exact h1, fun q => by rw [e]; exact h2 q, by rw [e]; exact h3, by rw [e]; exact h4, by rw [e, e, e]; exact h5, fun q1 q2 => ?_, fun q => ?_⟩
  · obtain ⟨n, a1, a2, a3, a4⟩ := h6 q1 q2
    refine ⟨n, by rw [e]; exact a1, by rw [e]; exact a2, Int.le_trans a3 hf.1, fun j hj => ?_⟩
    rw [hf.code (n + j) (by omega)]
    exact a4 j hj
  · obtain ⟨n, a1, a2, a3⟩ := h7 q
    refine ⟨n, by rw [e]; exact a1, Int.le_trans a2 hf.2.1, fun j hj => ?_⟩
    rw [hf.lot lv (n + j) (by omega), hf.lot lw (n + j) (by omega)]
    exact a3 j hj
theorem stAll.keep (hst : ∀ i, i < 16 → ∀ j, j < 16 → st i = st j → i = j) {C C' : mA} {k k' : Nat} {c : List kS} (h : stAll pr ca lv lw st C k c) (hf : fS o pr ca lv lw st k' C C') (hk : k + c.length ≤ k') (h16 : k' ≤ 16) : stAll pr ca lv lw st C' k c := fun j hj => (h j hj).keep hst hf (by omega) h16
theorem stAll.nil {C : mA} {k : Nat} : stAll pr ca lv lw st C k [] := fun j hj => absurd hj (Nat.not_lt_zero j)
theorem stAll.app {C : mA} {k : Nat} {c d : List kS} (h : stAll pr ca lv lw st C k c) (h' : stAll pr ca lv lw st C (k + c.length) d) : stAll pr ca lv lw st C k (c ++ d) := fun j hj => by
  rw [List.length_append] at hj
  by_cases q : j < c.length
  · have := h j q
    rw [List.getD_eq_getElem?_getD] at this ⊢
    rw [List.getElem?_append_left q]
    exact this
  · have := h' (j - c.length) (by omega)
    rw [List.getD_eq_getElem?_getD] at this ⊢
    rw [List.getElem?_append_right (by omega)]
    have e : k + c.length + (j - c.length) = k + j := by omega
    rw [e] at this
    exact this
theorem stAll.cons {C : mA} {k : Nat} {s : kS} {d : List kS} (h : stIs pr ca lv lw st C k s) (h' : stAll pr ca lv lw st C (k + 1) d) : stAll pr ca lv lw st C k (s :: d) := fun j hj => by
  cases j with
  | zero => exact h
  | succ j =>
    have := h' j (by
      have : j + 1 < d.length + 1 := hj
      omega)
    have e : k + 1 + j = k + (j + 1) := by omega
    rw [e] at this
    exact this
end CS6
