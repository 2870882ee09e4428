/-! STEPS of the class: all depths (own work) -/
section CBF
variable {o pr ca lv lw sa : Nat} {st : Nat → Nat} {others : Int} {T : Nat → Int} {m : Nat}
theorem c_stepN (hst : ∀ i, i < 16 → ∀ j, j < 16 → st i = st j → i = j) (hot : g32 others) (h120 : m ≤ 120) (hT : ∀ j, j < 120 → 0 ≤ T j ∧ T j ≤ 255) : ∀ d : Nat, d ≤ 4 → ∀ n : Nat, d < n → cBr o pr ca lv lw sa st others T m d (f_Read_stepN n) (kStep T m others d) := by
  intro d
  induction d with
  | zero =>
    intro hd n hn
    obtain ⟨n, rfl⟩ : ∃ k, n = k + 1 := ⟨n - 1, by omega⟩
    intro C p k h ho
    have e : (4 : Int) - ((0 : Nat) : Int) = 4 := rfl
    have r := c_step (d := 0) hst (stp := f_Read_stepN n) (br := kNoBr T m) c_brace0 kNoBr_pr hd hot C p k h ho
    rw [e] at r
    exact r
  | succ d ih =>
    intro hd n hn
    obtain ⟨n, rfl⟩ : ∃ k, n = k + 1 := ⟨n - 1, by omega⟩
    intro C p k h ho
    exact c_step (d := d + 1) hst (stp := f_Read_stepN n) (br := kBrace T m (kStep T m others d)) (c_brace hst (by omega) (ih (by omega) n (by omega)) (kStep_pr h120 hT others d)) (kBrace_pr h120 hT (kStep_pr h120 hT others d)) hd hot C p k h ho
end CBF
