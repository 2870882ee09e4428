/-! feed, exactly, of both (own work) -/
def fSel (a b c d e : Int) (k : Nat) : Int := if k = 0 then a else if k = 1 then b else if k = 2 then c else if k = 3 then d else e
abbrev fOk (n a b c d e : Int) : Prop := (1 ≤ n ∧ n ≤ 5) ∧ (0 ≤ a ∧ a ≤ 255) ∧ (0 ≤ b ∧ b ≤ 255) ∧ (0 ≤ c ∧ c ≤ 255) ∧ (0 ≤ d ∧ d ≤ 255) ∧ (0 ≤ e ∧ e ≤ 255)
theorem fSel_r {n a b c d e : Int} (h : fOk n a b c d e) (k : Nat) : 0 ≤ fSel a b c d e k ∧ fSel a b c d e k ≤ 255 := by
  obtain ⟨-, h1, h2, h3, h4, h5⟩ := h
  unfold fSel
  by_cases q0 : k = 0
  · rw [if_pos q0]; exact h1
  rw [if_neg q0]
  by_cases q1 : k = 1
  · rw [if_pos q1]; exact h2
  rw [if_neg q1]
  by_cases q2 : k = 2
  · rw [if_pos q2]; exact h3
  rw [if_neg q2]
  by_cases q3 : k = 3
  · rw [if_pos q3]; exact h4
  rw [if_neg q3]
  exact h5
theorem c_isByteF {C : mA} {a : Int} (h : g32 a) : f_CS_isByte C a = some (if 0 ≤ a ∧ a ≤ 255 then 1 else 0, C) := by
  unfold f_CS_isByte
  rw [if_pos h]
  by_cases q : a < 0
  · rw [if_pos q, if_neg (by omega)]
  rw [if_neg q]
  by_cases q2 : 255 < a
  · rw [if_pos q2, if_neg (by omega)]
  · rw [if_neg q2, if_pos (by omega)]
theorem m_inF {A : mA} {a x y : Int} (h : g32 a) (h1 : g32 x) (h2 : g32 y) : f_Mo_in A a x y = some (if x ≤ a ∧ a ≤ y then 1 else 0, A) := by
  unfold f_Mo_in
  rw [if_pos h, if_pos h1]
  by_cases q : a < x
  · rw [if_pos q, if_neg (by omega)]
  rw [if_neg q, if_pos h2]
  by_cases q2 : y < a
  · rw [if_pos q2, if_neg (by omega)]
  · rw [if_neg q2, if_pos (by omega)]
theorem m_isByteF {A : mA} {a : Int} (h : g32 a) : f_Mo_isByte A a = some (if 0 ≤ a ∧ a ≤ 255 then 1 else 0, A) := by
  unfold f_Mo_isByte
  rw [m_inF h (by decide) (by decide), obind]
  by_cases q : 0 ≤ a ∧ a ≤ 255
  · rw [if_pos q]
    rfl
  · rw [if_neg q]
    rfl
section FD
variable {x ta m N : Nat} {a b c d e : Int}
theorem c_feed0 (hN : N ≤ 5) (hm : m + N ≤ 120) : ∀ (r k fuel : Nat) (C : mA), k + r = N → r < fuel → (C 8 x 0).toNat = ta → C 8 x 1 = ((m + k : Nat) : Int) → ∃ C', f_CS_feed_68 fuel C x N a b c d e k = some (((m + N : Nat) : Int), C') ∧ (∀ f i j, ¬ (f = 20 ∧ i = ta) → ¬ (f = 8 ∧ i = x ∧ j = 1) → C' f i j = C f i j) ∧ C' 8 x 1 = ((m + N : Nat) : Int) ∧ ∀ j, C' 20 ta j = if m + k ≤ j ∧ j < m + N then fSel a b c d e (j - m) else C 20 ta j := by
  intro r
  induction r with
  | zero =>
    intro k fuel C h1 h2 h3 h4
    obtain ⟨fuel, rfl⟩ : ∃ q, fuel = q + 1 := ⟨fuel - 1, by omega⟩
    obtain rfl : k = N := by omega
    refine ⟨C, ?_, fun _ _ _ _ _ => rfl, h4, fun j => by rw [if_neg (by omega)]⟩
    rw [f_CS_feed_68, if_pos (show g32 (k : Int) by unfold g32; omega), if_pos (show g32 (k : Int) by unfold g32; omega), if_pos (Int.le_refl _), h4]
  | succ r ih =>
    intro k fuel C h1 h2 h3 h4
    obtain ⟨fuel, rfl⟩ : ∃ q, fuel = q + 1 := ⟨fuel - 1, by omega⟩
    have ap : ∀ z : Int, f_CS_append C x z = some (0, mu (mu C 20 ta (m + k) z) 8 x 1 ((m + k + 1 : Nat) : Int)) := fun z => by
      unfold f_CS_append
      rw [h4, if_pos (show g32 _ by unfold g32; omega), if_neg (by omega), if_pos (by omega), h3, Int.toNat_natCast]
      rfl
    obtain ⟨C', x1, x2, x3, x4⟩ := ih (k + 1) fuel (mu (mu C 20 ta (m + k) (fSel a b c d e k)) 8 x 1 ((m + k + 1 : Nat) : Int)) (by omega) (by omega) h3 (mu_at _ _ _ _ _)
    refine ⟨C', ?_, fun f i j q1 q2 => ?_, x3, fun j => ?_⟩
    · rw [f_CS_feed_68, if_pos (show g32 (k : Int) by unfold g32; omega), if_pos (show g32 (N : Int) by unfold g32; omega), if_neg (by omega), ap, ap, ap, ap, ap]
      unfold fSel at x1
      by_cases q0 : k = 0
      · rw [if_pos q0] at x1
        rw [if_pos (show (k : Int) = 0 by omega)]
        exact x1
      rw [if_neg q0] at x1
      rw [if_neg (show ¬ (k : Int) = 0 by omega)]
      by_cases q1 : k = 1
      · rw [if_pos q1] at x1
        rw [if_pos (show (k : Int) = 1 by omega)]
        exact x1
      rw [if_neg q1] at x1
      rw [if_neg (show ¬ (k : Int) = 1 by omega)]
      by_cases q2 : k = 2
      · rw [if_pos q2] at x1
        rw [if_pos (show (k : Int) = 2 by omega)]
        exact x1
      rw [if_neg q2] at x1
      rw [if_neg (show ¬ (k : Int) = 2 by omega)]
      by_cases q3 : k = 3
      · rw [if_pos q3] at x1
        rw [if_pos (show (k : Int) = 3 by omega)]
        exact x1
      rw [if_neg q3] at x1
      rw [if_neg (show ¬ (k : Int) = 3 by omega)]
      exact x1
    · rw [x2 f i j q1 q2, mu_ne _ _ q2, mu_ne _ _ (fun r => q1 ⟨r.1, r.2.1⟩)]
    · rw [x4 j]
      by_cases q : m + (k + 1) ≤ j ∧ j < m + N
      · rw [if_pos q, if_pos (by omega)]
      · rw [if_neg q, mu_ne _ _ (fun r => absurd r.1 (by decide))]
        by_cases q2 : j = m + k
        · rw [q2, mu_at, if_pos (by omega)]
          congr 1
          omega
        · rw [mu_ne _ _ (fun r => q2 r.2.2), if_neg (by omega)]
theorem m_feed0 (hN : N ≤ 5) (hm : m + N ≤ 120) : ∀ (r k fuel : Nat) (A : mA), k + r = N → r < fuel → A 0 0 22 = (m : Int) → ∃ A', f_Mo_feed_67 fuel A N a b c d e k = some (((m + N : Nat) : Int), A') ∧ (∀ f i j, ¬ (f = 9 ∧ i = 0) → ¬ (f = 0 ∧ i = 0 ∧ j = 22) → A' f i j = A f i j) ∧ A' 0 0 22 = ((m + N : Nat) : Int) ∧ ∀ j, A' 9 0 j = if m + k ≤ j ∧ j < m + N then fSel a b c d e (j - m) else A 9 0 j := by
  intro r
  induction r with
  | zero =>
    intro k fuel A h1 h2 h4
    obtain ⟨fuel, rfl⟩ : ∃ q, fuel = q + 1 := ⟨fuel - 1, by omega⟩
    obtain rfl : k = N := by omega
    refine ⟨mu A 0 0 22 (A 0 0 22 + k), ?_, fun f i j _ q => mu_ne _ _ q, ?_, fun j => ?_⟩
    · rw [f_Mo_feed_67, if_pos (show g32 (k : Int) by unfold g32; omega), if_pos (show g32 (k : Int) by unfold g32; omega), if_pos (Int.le_refl _), h4]
      rfl
    · rw [mu_at, h4]
      rfl
    · rw [if_neg (by omega), mu_ne _ _ (fun r => absurd r.1 (by decide))]
  | succ r ih =>
    intro k fuel A h1 h2 h4
    obtain ⟨fuel, rfl⟩ : ∃ q, fuel = q + 1 := ⟨fuel - 1, by omega⟩
    have en : ((m : Int) + (k : Int)).toNat = m + k := by omega
    obtain ⟨A', x1, x2, x3, x4⟩ := ih (k + 1) fuel (mu A 9 0 (m + k) (fSel a b c d e k)) (by omega) (by omega) h4
    refine ⟨A', ?_, fun f i j q1 q2 => ?_, x3, fun j => ?_⟩
    · rw [f_Mo_feed_67, if_pos (show g32 (k : Int) by unfold g32; omega), if_pos (show g32 (N : Int) by unfold g32; omega), if_neg (by omega), h4, en]
      unfold fSel at x1
      by_cases q0 : k = 0
      · rw [if_pos q0] at x1
        rw [if_pos (show (k : Int) = 0 by omega), if_pos (by omega)]
        exact x1
      rw [if_neg q0] at x1
      rw [if_neg (show ¬ (k : Int) = 0 by omega)]
      by_cases q1 : k = 1
      · rw [if_pos q1] at x1
        rw [if_pos (show (k : Int) = 1 by omega), if_pos (by omega)]
        exact x1
      rw [if_neg q1] at x1
      rw [if_neg (show ¬ (k : Int) = 1 by omega)]
      by_cases q2 : k = 2
      · rw [if_pos q2] at x1
        rw [if_pos (show (k : Int) = 2 by omega), if_pos (by omega)]
        exact x1
      rw [if_neg q2] at x1
      rw [if_neg (show ¬ (k : Int) = 2 by omega)]
      by_cases q3 : k = 3
      · rw [if_pos q3] at x1
        rw [if_pos (show (k : Int) = 3 by omega), if_pos (by omega)]
        exact x1
      rw [if_neg q3] at x1
      rw [if_neg (show ¬ (k : Int) = 3 by omega), if_pos (by omega)]
      exact x1
    · rw [x2 f i j q1 q2, mu_ne _ _ (fun r => q1 ⟨r.1, r.2.1⟩)]
    · rw [x4 j]
      by_cases q : m + (k + 1) ≤ j ∧ j < m + N
      · rw [if_pos q, if_pos (by omega)]
      · rw [if_neg q]
        by_cases q2 : j = m + k
        · rw [q2, mu_at, if_pos (by omega)]
          congr 1
          omega
        · rw [mu_ne _ _ (fun r => q2 r.2.2), if_neg (by omega)]
end FD
