/-! what a formula sees, by the reference's tree (own work) -/
theorem o32 (x y : Int) : Int32.ofInt (iOr x y) = Int32.ofInt x ||| Int32.ofInt y := Int32.ofInt_toInt _
theorem o32c (x y : Int) : (Int32.ofInt (iOr x y)).toInt = iOr x y := by rw [o32]; rfl
theorem or32 (a s k : Int32) : a ||| s ||| k = a ||| (0 ||| s ||| k) := by
  apply Int32.toBitVec_inj.mp
  simp [BitVec.or_assoc]
theorem or320 (a : Int32) : a ||| 0 = a := by
  apply Int32.toBitVec_inj.mp
  simp
theorem or32z (a : Int32) : 0 ||| a = a := by
  apply Int32.toBitVec_inj.mp
  simp
theorem kSee_c (a x : Int) (c : List Int) : kSee a (x :: c) = kSee (if 100 ≤ x ∧ x ≤ 105 then iOr a (iShl 1 (x - 100)) else a) c := rfl
theorem kSee_or : ∀ (c : List Int) (a : Int), Int32.ofInt (kSee a c) = Int32.ofInt a ||| Int32.ofInt (kSee 0 c) := by
  intro c
  induction c with
  | nil =>
    intro a
    show Int32.ofInt a = Int32.ofInt a ||| 0
    rw [or320]
  | cons x c ih =>
    intro a
    rw [kSee_c, kSee_c]
    by_cases h : 100 ≤ x ∧ x ≤ 105
    · rw [if_pos h, if_pos h, ih, ih (iOr 0 _), o32, o32]
      exact or32 _ _ _
    · rw [if_neg h, if_neg h]
      exact ih a
theorem kSee_can : ∀ (c : List Int) (a : Int), (Int32.ofInt a).toInt = a → (Int32.ofInt (kSee a c)).toInt = kSee a c := by
  intro c
  induction c with
  | nil => intro a h; exact h
  | cons x c ih =>
    intro a h
    rw [kSee_c]
    by_cases q : 100 ≤ x ∧ x ≤ 105
    · rw [if_pos q]
      exact ih _ (o32c _ _)
    · rw [if_neg q]
      exact ih _ h
theorem kSee_two (c d : List Int) : iOr (kSee 0 c) (kSee 0 d) = kSee 0 (c ++ d) := by
  have h0 : (Int32.ofInt 0).toInt = 0 := by decide
  rw [kSee_app, ← kSee_can d _ (kSee_can c 0 h0), kSee_or d (kSee 0 c), ← o32, o32c]
theorem kSee_skip {x : Int} (h : ¬ (100 ≤ x ∧ x ≤ 105)) (a : Int) (c : List Int) : kSee a (c ++ [x]) = kSee a c := by
  rw [kSee_app]
  show (if 100 ≤ x ∧ x ≤ 105 then iOr (kSee a c) (iShl 1 (x - 100)) else kSee a c) = _
  rw [if_neg h]
theorem iOr_0s (x y : Int) : iOr 0 (iShl x y) = iShl x y := by
  unfold iOr iShl
  rw [Int32.ofInt_toInt]
  exact congrArg Int32.toInt (or32z _)
section NI
variable {M : mA} {P : Nat}
theorem m_names0 (k : Nat) (p : Int) : f_Mo_namesInN (k + 1) M p (-1) = some (0, M) := by
  show f_Mo_namesInT (f_Mo_namesInN k) M p (-1) = _
  unfold f_Mo_namesInT
  rw [if_pos (by decide), if_pos rfl]
theorem m_namesIn (hP : P < 6) : ∀ (n : Nat) (a : Int) (c : List Int), nT M P n a c → a < 120 → ∀ k : Nat, a + 1 < k → f_Mo_namesInN k M P a = some (kSee 0 c, M) := by
  intro n
  induction n with
  | zero => intro a c h; exact h.elim
  | succ n ih =>
    intro a c h ha k hk
    obtain ⟨h0, h⟩ := h
    obtain ⟨k, rfl⟩ : ∃ q, k = q + 2 := ⟨k - 2, by omega⟩
    show f_Mo_namesInT (f_Mo_namesInN (k + 1)) M P a = _
    unfold f_Mo_namesInT
    rw [if_pos (show g32 a by unfold g32; omega), if_neg (show ¬ a = -1 by omega), if_pos (show 0 ≤ (P : Int) ∧ (P : Int) < ((6 : Nat) : Int) by omega), if_pos (show 0 ≤ a ∧ a < ((120 : Nat) : Int) by omega), Int.toNat_natCast]
    rcases h with ⟨h1, ⟨h2, h3, h4, h5⟩, rfl⟩ | ⟨h1, ⟨h2, h3⟩, rfl⟩ | ⟨h1, h2, c1, h3, h4, rfl⟩ | ⟨h1, h2, c1, c2, h3, h4, h5, h6, rfl⟩
    · rw [h1, if_pos (by decide), if_neg (by decide), h2, m_names0, obind]
      show Option.bind (f_Mo_namesInN (k + 1) M P (M 46 P a.toNat)) _ = _
      rw [h3, m_names0, obind, kSee_c, if_neg (by omega)]
      show some (iOr 0 0, M) = some (0, M)
      rw [iOr00]
    · rw [h1, if_pos (by decide), if_pos rfl, kSee_c, if_pos (by omega), show (100 + M 44 P a.toNat - 100 : Int) = M 44 P a.toNat by omega, iOr_0s]
      rfl
    · rw [h1, if_pos (by decide), if_neg (by decide), ih _ _ h4 (by omega) (k + 1) (by omega), obind]
      show Option.bind (f_Mo_namesInN (k + 1) M P (M 46 P a.toNat)) _ = _
      rw [h2, m_names0, obind, kSee_skip (by decide)]
      show some (iOr (kSee 0 c1) (kSee 0 []), M) = _
      rw [kSee_two, List.append_nil]
    · rw [if_pos (show g32 (M 43 P a.toNat) by unfold g32; omega), if_neg (by omega), ih _ _ h5 (by omega) (k + 1) (by omega), obind]
      show Option.bind (f_Mo_namesInN (k + 1) M P (M 46 P a.toNat)) _ = _
      rw [ih _ _ h6 (by omega) (k + 1) (by omega), obind, ← List.append_assoc, kSee_skip (by omega)]
      show some (iOr (kSee 0 c1) (kSee 0 c2), M) = _
      rw [kSee_two]
end NI
