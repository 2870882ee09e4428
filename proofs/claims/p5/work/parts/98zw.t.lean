/-! the reference's token stays in 32 bits, whatever is read (own work, partly by program) -/
def kJ (A : mA) : Prop := g32 (A 0 0 25)
def kP (x : Option (Int × mA)) : Prop := ∀ q, x = some q → kJ q.2
theorem kPn : kP none := fun _ h => by cases h
theorem kPz {z : Int} {A : mA} (h : kJ A) : kP (some (z, A)) := fun q e => by
  cases e
  exact h
theorem kPb {x : Option (Int × mA)} {g : Int × mA → Option (Int × mA)} (h : kP x) (k : ∀ q, kJ q.2 → kP (g q)) : kP (Option.bind x g) := fun q e => by
  cases x with
  | none => cases e
  | some y => exact k y (h y rfl) q e
theorem kPi {c : Prop} [Decidable c] {a b : Option (Int × mA)} (h1 : kP a) (h2 : kP b) : kP (if c then a else b) := by
  by_cases h : c
  · rw [if_pos h]; exact h1
  · rw [if_neg h]; exact h2
theorem kJm {A : mA} {f k j : Nat} {z : Int} (h : kJ A) (hn : ¬ (0 = f ∧ 0 = k ∧ 25 = j)) : kJ (mu A f k j z) := by
  unfold kJ
  rw [mu_ne _ _ hn]
  exact h
theorem kJs {A : mA} {z : Int} (h : g32 z) : kJ (mu A 0 0 25 z) := h
theorem k_in {A : mA} {x : Int} {y : Int} {z : Int} (h : kJ A) : kP (f_Mo_in A x y z) := by
  unfold f_Mo_in
  repeat' (first | exact kPn | exact kJs (by decide) | assumption | (refine kJm ?_ (fun r => absurd r.1 (by decide))) | (refine kJm ?_ (fun r => absurd r.2.2 (by decide))) | (refine kPz ?_) | (refine kPb ?_ (fun q hq => ?_)) | (refine kPi ?_ ?_))
theorem k_byteAt {A : mA} {x : Int} (h : kJ A) : kP (f_Mo_byteAt A x) := by
  unfold f_Mo_byteAt
  repeat' (first | exact kPn | exact kJs (by decide) | assumption | (refine kJm ?_ (fun r => absurd r.1 (by decide))) | (refine kJm ?_ (fun r => absurd r.2.2 (by decide))) | (refine kPz ?_) | (refine kPb ?_ (fun q hq => ?_)) | (refine kPi ?_ ?_))
theorem k_isSign {A : mA} {c : Int} (h : kJ A) : kP (f_Mo_isSign A c) := by
  unfold f_Mo_isSign
  repeat' (first | exact kPn | exact kJs (by decide) | assumption | (refine kJm ?_ (fun r => absurd r.1 (by decide))) | (refine kJm ?_ (fun r => absurd r.2.2 (by decide))) | (refine kPz ?_) | (refine kPb ?_ (fun q hq => ?_)) | (refine kPi ?_ ?_))
theorem k_isWord_20 : ∀ (n : Nat) (A : mA) (b0 : Nat) (b1 : Int), kJ A → kP (f_Mo_isWord_20 n A b0 b1) := by
  intro n
  induction n with
  | zero => intro A b0 b1 h; exact kPn
  | succ n ih =>
    intro A b0 b1 h
    rw [f_Mo_isWord_20]
    repeat' (first | exact kPn | exact kJs (by decide) | assumption | (refine kJm ?_ (fun r => absurd r.1 (by decide))) | (refine kJm ?_ (fun r => absurd r.2.2 (by decide))) | (refine k_byteAt ?_) | (refine ih _ _ _ ?_) | (refine kPz ?_) | (refine kPb ?_ (fun q hq => ?_)) | (refine kPi ?_ ?_))
theorem k_isWord {A : mA} {a : Nat} (h : kJ A) : kP (f_Mo_isWord A a) := by
  unfold f_Mo_isWord
  repeat' (first | exact kPn | exact kJs (by decide) | assumption | (refine kJm ?_ (fun r => absurd r.1 (by decide))) | (refine kJm ?_ (fun r => absurd r.2.2 (by decide))) | (refine k_isWord_20 _ _ _ _ ?_) | (refine kPz ?_) | (refine kPb ?_ (fun q hq => ?_)) | (refine kPi ?_ ?_))
theorem k_wordRead {A : mA}  (h : kJ A) : kP (f_Mo_wordRead A ) := by
  unfold f_Mo_wordRead
  repeat' (first | exact kPn | exact kJs (by decide) | assumption | (refine kJm ?_ (fun r => absurd r.1 (by decide))) | (refine kJm ?_ (fun r => absurd r.2.2 (by decide))) | (refine k_isWord ?_) | (refine kPz ?_) | (refine kPb ?_ (fun q hq => ?_)) | (refine kPi ?_ ?_))
theorem k_next_217 : ∀ (n : Nat) (A : mA) , kJ A → kP (f_Mo_next_217 n A ) := by
  intro n
  induction n with
  | zero => intro A  h; exact kPn
  | succ n ih =>
    intro A  h
    rw [f_Mo_next_217]
    repeat' (first | exact kPn | exact kJs (by decide) | assumption | (refine kJm ?_ (fun r => absurd r.1 (by decide))) | (refine kJm ?_ (fun r => absurd r.2.2 (by decide))) | (refine k_byteAt ?_) | (refine k_in ?_) | (refine ih _  ?_) | (refine kPz ?_) | (refine kPb ?_ (fun q hq => ?_)) | (refine kPi ?_ ?_))
theorem k_next_88 : ∀ (n : Nat) (A : mA) (b0 : Int), kJ A → kP (f_Mo_next_88 n A b0) := by
  intro n
  induction n with
  | zero => intro A b0 h; exact kPn
  | succ n ih =>
    intro A b0 h
    rw [f_Mo_next_88]
    repeat' (first | exact kPn | exact kJs (by decide) | assumption | (refine kJm ?_ (fun r => absurd r.1 (by decide))) | (refine kJm ?_ (fun r => absurd r.2.2 (by decide))) | (refine k_byteAt ?_) | (refine k_in ?_) | (refine k_wordRead ?_) | (refine ih _ _ ?_) | (refine kPz ?_) | (refine kPb ?_ (fun q hq => ?_)) | (refine kPi ?_ ?_))
theorem k_next_8 : ∀ (n : Nat) (A : mA) , kJ A → kP (f_Mo_next_8 n A ) := by
  intro n
  induction n with
  | zero => intro A  h; exact kPn
  | succ n ih =>
    intro A  h
    rw [f_Mo_next_8]
    repeat' (first | exact kPn | exact kJs (by decide) | assumption | (refine kJm ?_ (fun r => absurd r.1 (by decide))) | (refine kJm ?_ (fun r => absurd r.2.2 (by decide))) | (refine k_byteAt ?_) | (refine k_in ?_) | (refine k_next_217 _ _ ?_) | (refine k_next_88 _ _ _ ?_) | (refine ih _  ?_) | (refine kPz ?_) | (refine kPb ?_ (fun q hq => ?_)) | (refine kPi ?_ ?_))
theorem k_next {A : mA}  (h : kJ A) : kP (f_Mo_next A ) := by
  unfold f_Mo_next
  repeat' (first | exact kPn | exact kJs (by decide) | assumption | (refine kJm ?_ (fun r => absurd r.1 (by decide))) | (refine kJm ?_ (fun r => absurd r.2.2 (by decide))) | (refine k_next_8 _ _ ?_) | (refine kPz ?_) | (refine kPb ?_ (fun q hq => ?_)) | (refine kPi ?_ ?_))
theorem k_need {A : mA} {c : Int} (h : kJ A) : kP (f_Mo_need A c) := by
  unfold f_Mo_need
  repeat' (first | exact kPn | exact kJs (by decide) | assumption | (refine kJm ?_ (fun r => absurd r.1 (by decide))) | (refine kJm ?_ (fun r => absurd r.2.2 (by decide))) | (refine k_isSign ?_) | (refine k_next ?_) | (refine kPz ?_) | (refine kPb ?_ (fun q hq => ?_)) | (refine kPi ?_ ?_))
theorem k_takes {A : mA} {x : Int} {y : Int} {z : Int} (h : kJ A) : kP (f_Mo_takes A x y z) := by
  unfold f_Mo_takes
  repeat' (first | exact kPn | exact kJs (by decide) | assumption | (refine kJm ?_ (fun r => absurd r.1 (by decide))) | (refine kJm ?_ (fun r => absurd r.2.2 (by decide))) | (refine k_in ?_) | (refine k_next ?_) | (refine kPz ?_) | (refine kPb ?_ (fun q hq => ?_)) | (refine kPi ?_ ?_))
theorem k_node {A : mA} {x : Int} {y : Int} {z : Int} {u : Int} (h : kJ A) : kP (f_Mo_node A x y z u) := by
  unfold f_Mo_node
  repeat' (first | exact kPn | exact kJs (by decide) | assumption | (refine kJm ?_ (fun r => absurd r.1 (by decide))) | (refine kJm ?_ (fun r => absurd r.2.2 (by decide))) | (refine kPz ?_) | (refine kPb ?_ (fun q hq => ?_)) | (refine kPi ?_ ?_))
theorem k_term_5 {one : mA → Option (Int × mA)} (hone : ∀ A, kJ A → kP (one A)) : ∀ (n : Nat) (A : mA) (b0 : Int), kJ A → kP (f_Mo_term_5 one n A b0) := by
  intro n
  induction n with
  | zero => intro A b0 h; exact kPn
  | succ n ih =>
    intro A b0 h
    rw [f_Mo_term_5]
    repeat' (first | exact kPn | exact kJs (by decide) | assumption | (refine kJm ?_ (fun r => absurd r.1 (by decide))) | (refine kJm ?_ (fun r => absurd r.2.2 (by decide))) | (refine k_isSign ?_) | (refine k_next ?_) | (refine hone _ ?_) | (refine k_node ?_) | (refine ih _ _ ?_) | (refine kPz ?_) | (refine kPb ?_ (fun q hq => ?_)) | (refine kPi ?_ ?_))
theorem k_term {one : mA → Option (Int × mA)} (hone : ∀ A, kJ A → kP (one A)) {A : mA}  (h : kJ A) : kP (f_Mo_term one A ) := by
  unfold f_Mo_term
  repeat' (first | exact kPn | exact kJs (by decide) | assumption | (refine kJm ?_ (fun r => absurd r.1 (by decide))) | (refine kJm ?_ (fun r => absurd r.2.2 (by decide))) | (refine k_term_5 hone _ _ _ ?_) | (refine hone _ ?_) | (refine kPz ?_) | (refine kPb ?_ (fun q hq => ?_)) | (refine kPi ?_ ?_))
theorem k_sum_5 {one : mA → Option (Int × mA)} (hone : ∀ A, kJ A → kP (one A)) : ∀ (n : Nat) (A : mA) (b0 : Int), kJ A → kP (f_Mo_sum_5 one n A b0) := by
  intro n
  induction n with
  | zero => intro A b0 h; exact kPn
  | succ n ih =>
    intro A b0 h
    rw [f_Mo_sum_5]
    repeat' (first | exact kPn | exact kJs (by decide) | assumption | (refine kJm ?_ (fun r => absurd r.1 (by decide))) | (refine kJm ?_ (fun r => absurd r.2.2 (by decide))) | (refine k_isSign ?_) | (refine k_next ?_) | (refine k_term hone ?_) | (refine k_node ?_) | (refine ih _ _ ?_) | (refine kPz ?_) | (refine kPb ?_ (fun q hq => ?_)) | (refine kPi ?_ ?_))
theorem k_sum {one : mA → Option (Int × mA)} (hone : ∀ A, kJ A → kP (one A)) {A : mA}  (h : kJ A) : kP (f_Mo_sum one A ) := by
  unfold f_Mo_sum
  repeat' (first | exact kPn | exact kJs (by decide) | assumption | (refine kJm ?_ (fun r => absurd r.1 (by decide))) | (refine kJm ?_ (fun r => absurd r.2.2 (by decide))) | (refine k_sum_5 hone _ _ _ ?_) | (refine k_term hone ?_) | (refine kPz ?_) | (refine kPb ?_ (fun q hq => ?_)) | (refine kPi ?_ ?_))
theorem k_expression {one : mA → Option (Int × mA)} (hone : ∀ A, kJ A → kP (one A)) {A : mA}  (h : kJ A) : kP (f_Mo_expression one A ) := by
  unfold f_Mo_expression
  repeat' (first | exact kPn | exact kJs (by decide) | assumption | (refine kJm ?_ (fun r => absurd r.1 (by decide))) | (refine kJm ?_ (fun r => absurd r.2.2 (by decide))) | (refine k_sum hone ?_) | (refine k_isSign ?_) | (refine k_next ?_) | (refine k_node ?_) | (refine kPz ?_) | (refine kPb ?_ (fun q hq => ?_)) | (refine kPi ?_ ?_))
theorem k_one {one : mA → Option (Int × mA)} (hone : ∀ A, kJ A → kP (one A)) {A : mA}  (h : kJ A) : kP (f_Mo_one one A ) := by
  unfold f_Mo_one
  repeat' (first | exact kPn | exact kJs (by decide) | assumption | (refine kJm ?_ (fun r => absurd r.1 (by decide))) | (refine kJm ?_ (fun r => absurd r.2.2 (by decide))) | (refine k_isSign ?_) | (refine k_next ?_) | (refine k_node ?_) | (refine k_need ?_) | (refine k_expression hone ?_) | (refine hone _ ?_) | (refine kPz ?_) | (refine kPb ?_ (fun q hq => ?_)) | (refine kPi ?_ ?_))
theorem k_oneN : ∀ (n : Nat) (A : mA), kJ A → kP (f_Mo_oneN n A) := by
  intro n
  induction n with
  | zero => intro A h; exact kPn
  | succ n ih =>
    intro A h
    exact k_one ih h
theorem k_lotsOf_8 : ∀ (n : Nat) (A : mA) (b0 : Int) (b1 : Int) (b2 : Int) (b3 : Int) (b4 : Int), kJ A → kP (f_Mo_lotsOf_8 n A b0 b1 b2 b3 b4) := by
  intro n
  induction n with
  | zero => intro A b0 b1 b2 b3 b4 h; exact kPn
  | succ n ih =>
    intro A b0 b1 b2 b3 b4 h
    rw [f_Mo_lotsOf_8]
    repeat' (first | exact kPn | exact kJs (by decide) | assumption | (refine kJm ?_ (fun r => absurd r.1 (by decide))) | (refine kJm ?_ (fun r => absurd r.2.2 (by decide))) | (refine k_takes ?_) | (refine k_need ?_) | (refine k_isSign ?_) | (refine k_next ?_) | (refine ih _ _ _ _ _ _ ?_) | (refine kPz ?_) | (refine kPb ?_ (fun q hq => ?_)) | (refine kPi ?_ ?_))
theorem k_lotsOf {A : mA} {x : Int} {y : Int} (h : kJ A) : kP (f_Mo_lotsOf A x y) := by
  unfold f_Mo_lotsOf
  repeat' (first | exact kPn | exact kJs (by decide) | assumption | (refine kJm ?_ (fun r => absurd r.1 (by decide))) | (refine kJm ?_ (fun r => absurd r.2.2 (by decide))) | (refine k_lotsOf_8 _ _ _ _ _ _ _ ?_) | (refine kPz ?_) | (refine kPb ?_ (fun q hq => ?_)) | (refine kPi ?_ ?_))
theorem k_block_4 {stp : mA → Option (Int × mA)} (hstp : ∀ A, kJ A → kP (stp A)) : ∀ (n : Nat) (A : mA) , kJ A → kP (f_Mo_block_4 stp n A ) := by
  intro n
  induction n with
  | zero => intro A  h; exact kPn
  | succ n ih =>
    intro A  h
    rw [f_Mo_block_4]
    repeat' (first | exact kPn | exact kJs (by decide) | assumption | (refine kJm ?_ (fun r => absurd r.1 (by decide))) | (refine kJm ?_ (fun r => absurd r.2.2 (by decide))) | (refine k_isSign ?_) | (refine k_next ?_) | (refine hstp _ ?_) | (refine ih _  ?_) | (refine kPz ?_) | (refine kPb ?_ (fun q hq => ?_)) | (refine kPi ?_ ?_))
theorem k_block {stp : mA → Option (Int × mA)} (hstp : ∀ A, kJ A → kP (stp A)) {A : mA}  (h : kJ A) : kP (f_Mo_block stp A ) := by
  unfold f_Mo_block
  repeat' (first | exact kPn | exact kJs (by decide) | assumption | (refine kJm ?_ (fun r => absurd r.1 (by decide))) | (refine kJm ?_ (fun r => absurd r.2.2 (by decide))) | (refine k_block_4 hstp _ _ ?_) | (refine hstp _ ?_) | (refine kPz ?_) | (refine kPb ?_ (fun q hq => ?_)) | (refine kPi ?_ ?_))
theorem k_inBraces {stp : mA → Option (Int × mA)} (hstp : ∀ A, kJ A → kP (stp A)) {A : mA}  (h : kJ A) : kP (f_Mo_inBraces stp A ) := by
  unfold f_Mo_inBraces
  repeat' (first | exact kPn | exact kJs (by decide) | assumption | (refine kJm ?_ (fun r => absurd r.1 (by decide))) | (refine kJm ?_ (fun r => absurd r.2.2 (by decide))) | (refine k_isSign ?_) | (refine k_next ?_) | (refine k_block hstp ?_) | (refine k_need ?_) | (refine kPz ?_) | (refine kPb ?_ (fun q hq => ?_)) | (refine kPi ?_ ?_))
theorem k_stepT {stp : mA → Option (Int × mA)} (hstp : ∀ A, kJ A → kP (stp A)) {A : mA}  (h : kJ A) : kP (f_Mo_stepT stp A ) := by
  unfold f_Mo_stepT
  repeat' (first | exact kPn | exact kJs (by decide) | assumption | (refine kJm ?_ (fun r => absurd r.1 (by decide))) | (refine kJm ?_ (fun r => absurd r.2.2 (by decide))) | (refine k_next ?_) | (refine k_takes ?_) | (refine k_lotsOf ?_) | (refine k_expression (k_oneN 6) ?_) | (refine k_inBraces hstp ?_) | (refine kPz ?_) | (refine kPb ?_ (fun q hq => ?_)) | (refine kPi ?_ ?_))
theorem k_stepN : ∀ (n : Nat) (A : mA), kJ A → kP (f_Mo_stepN n A) := by
  intro n
  induction n with
  | zero => intro A h; exact kPn
  | succ n ih =>
    intro A h
    exact k_stepT ih h
