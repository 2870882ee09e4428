/-! BITS and TURNS of the class (own work): sums over a block -/
section WS
variable {pr sa N : Nat} {st : Nat → Nat} {c : Nat → kS} {L : Int}
/-- the class's steps stand in their table -/
def cTb (pr sa : Nat) (st : Nat → Nat) (C : mA) : Prop := (C 2 pr 0).toNat = sa ∧ ∀ i, i < 16 → (C 25 sa i).toNat = st i
theorem c_at {C : mA} (h : cTb pr sa st C) {i : Nat} (hi : i < 16) : f_Prog_stepAt C pr i = some (((st i : Nat) : Int), C) := by
  unfold f_Prog_stepAt
  rw [if_pos (show g32 _ by unfold g32; omega), if_neg (by omega), if_neg (by omega), if_pos (by omega), Int.toNat_natCast, h.1, h.2 i hi]
/-- levels as the spec has them -/
def cLv (st : Nat → Nat) (c : Nat → kS) (N : Nat) (C : mA) : Prop := ∀ j, j < N → C 6 (st j) 4 = sV (c j) ∧ (0 ≤ sV (c j) ∧ sV (c j) ≤ 4)
theorem c_skip7 {C : mA} (ht : cTb pr sa st C) (hl : cLv st c N C) (hN : N ≤ 16) {a b : Nat} (hb : b ≤ N) (ha : a < b) (hV : sV (c a) = L) : ∀ (r i fuel : Nat) (acc : Int), i + r ≤ b → (∀ j, i ≤ j → j < i + r → L < sV (c j)) → f_Prog_bitsOf_5 (fuel + r) C pr a b acc i = f_Prog_bitsOf_5 fuel C pr a b acc ((i + r : Nat) : Int) := by
  intro r
  induction r with
  | zero => intro i fuel acc h1 h2; rfl
  | succ r ih =>
    intro i fuel acc h1 h2
    have l1 := hl i (by omega)
    have l2 := hl a (by omega)
    have l3 := h2 i (Nat.le_refl i) (by omega)
    have e1 : fuel + (r + 1) = fuel + r + 1 := rfl
    rw [e1, f_Prog_bitsOf_5, if_pos (show g32 (i : Int) by unfold g32; omega), if_pos (show g32 (b : Int) by unfold g32; omega), if_neg (by omega), c_at ht (show i < 16 by omega), obind]
    show Option.bind (f_Prog_stepAt C pr a) _ = _
    rw [c_at ht (show a < 16 by omega), obind]
    simp only [Int.toNat_natCast]
    rw [l1.1, l2.1, if_pos (show g32 _ by unfold g32; omega), if_pos (show g32 _ by unfold g32; omega), if_neg (by omega), Int.add_zero]
    have := ih (i + 1) fuel acc (by omega) (fun j q1 q2 => h2 j (by omega) (by omega))
    have e2 : i + 1 + r = i + (r + 1) := by omega
    rw [e2] at this
    exact this
theorem c_sum7 {C : mA} (ht : cTb pr sa st C) (hl : cLv st c N C) (hN : N ≤ 16) {v : Nat → Int} {a0 b : Nat} (hb : b ≤ N) (hv : ∀ j, a0 ≤ j → j < b → C 6 (st j) 7 = v j) (hV : a0 < b → sV (c a0) = L) : ∀ (n a fuel : Nat) (acc : Int), a0 ≤ a → tl c L n a b → b - a < fuel → f_Prog_bitsOf_5 fuel C pr a0 b acc a = some (acc + tsm v c n a b, C) := by
  intro n
  induction n with
  | zero =>
    intro a fuel acc h0 h hf
    obtain ⟨fuel, rfl⟩ : ∃ q, fuel = q + 1 := ⟨fuel - 1, by omega⟩
    have h : a = b := h
    rw [h, tsm_nil, f_Prog_bitsOf_5, if_pos (show g32 (b : Int) by unfold g32; omega), if_pos (show g32 (b : Int) by unfold g32; omega), if_pos (Int.le_refl _), Int.add_zero]
  | succ n ih =>
    intro a fuel acc h0 h hf
    obtain ⟨fuel, rfl⟩ : ∃ q, fuel = q + 1 := ⟨fuel - 1, by omega⟩
    rcases h with h | ⟨h1, h2, h3, h4, h5, h6⟩
    · rw [h, tsm_nil, f_Prog_bitsOf_5, if_pos (show g32 (b : Int) by unfold g32; omega), if_pos (show g32 (b : Int) by unfold g32; omega), if_pos (Int.le_refl _), Int.add_zero]
    · have l1 := hl a (by omega)
      have l2 := hl a0 (by omega)
      have l3 := hV (by omega)
      rw [tsm, if_pos h1, f_Prog_bitsOf_5, if_pos (show g32 (a : Int) by unfold g32; omega), if_pos (show g32 (b : Int) by unfold g32; omega), if_neg (by omega), c_at ht (show a < 16 by omega), obind]
      show Option.bind (f_Prog_stepAt C pr a0) _ = _
      rw [c_at ht (show a0 < 16 by omega), obind]
      simp only [Int.toNat_natCast]
      rw [l1.1, l2.1, if_pos (show g32 _ by unfold g32; omega), if_pos (show g32 _ by unfold g32; omega), if_pos (by omega), c_at ht (show a < 16 by omega), obind]
      simp only [Int.toNat_natCast]
      rw [hv a h0 h1]
      obtain ⟨f2, hf2⟩ : ∃ f2, fuel = f2 + (sI (c a) - 1) := ⟨fuel - (sI (c a) - 1), by omega⟩
      have sk := c_skip7 (L := L) ht hl hN hb (show a0 < b by omega) l3 (sI (c a) - 1) (a + 1) f2 (acc + v a) (by omega) (fun j q1 q2 => h5 j (by omega) (by omega))
      have e1 : a + 1 + (sI (c a) - 1) = a + sI (c a) := by omega
      rw [e1] at sk
      rw [hf2]
      refine Eq.trans sk ?_
      rw [ih _ _ _ (by omega) h6 (by omega), Int.add_assoc]
theorem c_blk7 {C : mA} (ht : cTb pr sa st C) (hl : cLv st c N C) (hN : N ≤ 16) {v : Nat → Int} {a b n : Nat} (hb : b ≤ N) (hv : ∀ j, a ≤ j → j < b → C 6 (st j) 7 = v j) (h : tl c L n a b) {x y : Int} (hx : x = a) (hy : y = b) : f_Prog_bitsOf C pr x y = some (tsm v c n a b, C) := by
  unfold f_Prog_bitsOf
  rw [hx, hy]
  have hV : a < b → sV (c a) = L := fun q => by
    cases n with
    | zero => exact absurd (show a = b from h) (by omega)
    | succ n =>
      rcases h with h | h
      · omega
      · exact h.2.1
  have := c_sum7 ht hl hN hb hv hV n a 20 0 (Nat.le_refl a) h (by omega)
  rw [Int.zero_add] at this
  exact this
theorem c_skip8 {C : mA} (ht : cTb pr sa st C) (hl : cLv st c N C) (hN : N ≤ 16) {a b : Nat} (hb : b ≤ N) (ha : a < b) (hV : sV (c a) = L) : ∀ (r i fuel : Nat) (acc : Int), i + r ≤ b → (∀ j, i ≤ j → j < i + r → L < sV (c j)) → f_Prog_turnsOf_5 (fuel + r) C pr a b acc i = f_Prog_turnsOf_5 fuel C pr a b acc ((i + r : Nat) : Int) := by
  intro r
  induction r with
  | zero => intro i fuel acc h1 h2; rfl
  | succ r ih =>
    intro i fuel acc h1 h2
    have l1 := hl i (by omega)
    have l2 := hl a (by omega)
    have l3 := h2 i (Nat.le_refl i) (by omega)
    have e1 : fuel + (r + 1) = fuel + r + 1 := rfl
    rw [e1, f_Prog_turnsOf_5, if_pos (show g32 (i : Int) by unfold g32; omega), if_pos (show g32 (b : Int) by unfold g32; omega), if_neg (by omega), c_at ht (show i < 16 by omega), obind]
    show Option.bind (f_Prog_stepAt C pr a) _ = _
    rw [c_at ht (show a < 16 by omega), obind]
    simp only [Int.toNat_natCast]
    rw [l1.1, l2.1, if_pos (show g32 _ by unfold g32; omega), if_pos (show g32 _ by unfold g32; omega), if_neg (by omega), Int.add_zero]
    have := ih (i + 1) fuel acc (by omega) (fun j q1 q2 => h2 j (by omega) (by omega))
    have e2 : i + 1 + r = i + (r + 1) := by omega
    rw [e2] at this
    exact this
theorem c_sum8 {C : mA} (ht : cTb pr sa st C) (hl : cLv st c N C) (hN : N ≤ 16) {v : Nat → Int} {a0 b : Nat} (hb : b ≤ N) (hv : ∀ j, a0 ≤ j → j < b → C 6 (st j) 8 = v j) (hV : a0 < b → sV (c a0) = L) : ∀ (n a fuel : Nat) (acc : Int), a0 ≤ a → tl c L n a b → b - a < fuel → f_Prog_turnsOf_5 fuel C pr a0 b acc a = some (acc + tsm v c n a b, C) := by
  intro n
  induction n with
  | zero =>
    intro a fuel acc h0 h hf
    obtain ⟨fuel, rfl⟩ : ∃ q, fuel = q + 1 := ⟨fuel - 1, by omega⟩
    have h : a = b := h
    rw [h, tsm_nil, f_Prog_turnsOf_5, if_pos (show g32 (b : Int) by unfold g32; omega), if_pos (show g32 (b : Int) by unfold g32; omega), if_pos (Int.le_refl _), Int.add_zero]
  | succ n ih =>
    intro a fuel acc h0 h hf
    obtain ⟨fuel, rfl⟩ : ∃ q, fuel = q + 1 := ⟨fuel - 1, by omega⟩
    rcases h with h | ⟨h1, h2, h3, h4, h5, h6⟩
    · rw [h, tsm_nil, f_Prog_turnsOf_5, if_pos (show g32 (b : Int) by unfold g32; omega), if_pos (show g32 (b : Int) by unfold g32; omega), if_pos (Int.le_refl _), Int.add_zero]
    · have l1 := hl a (by omega)
      have l2 := hl a0 (by omega)
      have l3 := hV (by omega)
      rw [tsm, if_pos h1, f_Prog_turnsOf_5, if_pos (show g32 (a : Int) by unfold g32; omega), if_pos (show g32 (b : Int) by unfold g32; omega), if_neg (by omega), c_at ht (show a < 16 by omega), obind]
      show Option.bind (f_Prog_stepAt C pr a0) _ = _
      rw [c_at ht (show a0 < 16 by omega), obind]
      simp only [Int.toNat_natCast]
      rw [l1.1, l2.1, if_pos (show g32 _ by unfold g32; omega), if_pos (show g32 _ by unfold g32; omega), if_pos (by omega), c_at ht (show a < 16 by omega), obind]
      simp only [Int.toNat_natCast]
      rw [hv a h0 h1]
      obtain ⟨f2, hf2⟩ : ∃ f2, fuel = f2 + (sI (c a) - 1) := ⟨fuel - (sI (c a) - 1), by omega⟩
      have sk := c_skip8 (L := L) ht hl hN hb (show a0 < b by omega) l3 (sI (c a) - 1) (a + 1) f2 (acc + v a) (by omega) (fun j q1 q2 => h5 j (by omega) (by omega))
      have e1 : a + 1 + (sI (c a) - 1) = a + sI (c a) := by omega
      rw [e1] at sk
      rw [hf2]
      refine Eq.trans sk ?_
      rw [ih _ _ _ (by omega) h6 (by omega), Int.add_assoc]
theorem c_blk8 {C : mA} (ht : cTb pr sa st C) (hl : cLv st c N C) (hN : N ≤ 16) {v : Nat → Int} {a b n : Nat} (hb : b ≤ N) (hv : ∀ j, a ≤ j → j < b → C 6 (st j) 8 = v j) (h : tl c L n a b) {x y : Int} (hx : x = a) (hy : y = b) : f_Prog_turnsOf C pr x y = some (tsm v c n a b, C) := by
  unfold f_Prog_turnsOf
  rw [hx, hy]
  have hV : a < b → sV (c a) = L := fun q => by
    cases n with
    | zero => exact absurd (show a = b from h) (by omega)
    | succ n =>
      rcases h with h | h
      · omega
      · exact h.2.1
  have := c_sum8 ht hl hN hb hv hV n a 20 0 (Nat.le_refl a) h (by omega)
  rw [Int.zero_add] at this
  exact this
end WS
