/-! odds of the reference: what is told of a run (own work) -/
theorem xw_app {l : List xE} {q : xE} {v : Int} : xw (l ++ [q]) v = xw l v + (if dd q.1 0 = v then q.2 else 0) := by
  unfold xw
  rw [List.filter_append, tot_app]
  congr 1
  by_cases k : dd q.1 0 = v
  · rw [if_pos k, List.filter_cons_of_pos (by simp [k])]
    simp [tot]
  · rw [if_neg k, List.filter_cons_of_neg (by simp [k])]
    rfl
def telF (P D : Nat) (A A' : mA) : Prop := ∀ f a k, ¬ ((f = 51 ∧ a = P * 10 + D) ∨ ((f = 47 ∨ f = 48) ∧ a = P ∧ k = D) ∨ (f = 0 ∧ a = 0 ∧ (k = 33 ∨ k = 34 ∨ k = 35))) → A' f a k = A f a k
section TEL
variable {mk : mA → Int → Int → Int → Nat → Int → Option (Int × mA)} {A : mA} {o P D : Nat} {wz b3 b4 b5 : Int}
theorem m_tel2 (hP : P < 6) (hD : D < 10) (hQ : oQ A o) (h34 : A 0 0 34 = wz) (hz : wz = 0 ∨ wz = 1) (h4 : b4 = 0 ∨ b4 = 1) : ∀ (F j : Nat) (B : mA), j ≤ (oC A o).length → (oC A o).length - j < F → (∀ f a k, ¬ (f = 51 ∧ a = P * 10 + D) → B f a k = A f a k) → (wz = 1 → j = 0) → (∀ v : Nat, v < 10 → B 51 (P * 10 + D) v = A 51 (P * 10 + D) v + (if wz = 0 then xw ((oC A o).take j) ((v : Nat) : Int) else 0)) → ∃ A', f_Mo_tell_102 mk F B P D b3 b4 b5 o j = some (0, A') ∧ (A' 47 P D = 1 ∧ A' 48 P D = wz ∧ A' 0 0 33 = b5 ∧ A' 0 0 34 = b4 ∧ A' 0 0 35 = b3) ∧ (∀ v : Nat, v < 10 → A' 51 (P * 10 + D) v = A 51 (P * 10 + D) v + (if wz = 0 then xw (oC A o) ((v : Nat) : Int) else 0)) ∧ telF P D A A' := by
  have hlen : (oC A o).length = (A 1 o 2).toNat := oC_len
  have h1a := hQ.1
  have fin : ∀ B : mA, (∀ f a k, ¬ (f = 51 ∧ a = P * 10 + D) → B f a k = A f a k) → (∀ v : Nat, v < 10 → B 51 (P * 10 + D) v = A 51 (P * 10 + D) v + (if wz = 0 then xw (oC A o) ((v : Nat) : Int) else 0)) → ∃ A', (some ((0 : Int), mu (mu (mu (mu (mu B 48 P D wz) 47 P D 1) 0 0 33 b5) 0 0 34 b4) 0 0 35 b3)) = some (0, A') ∧ (A' 47 P D = 1 ∧ A' 48 P D = wz ∧ A' 0 0 33 = b5 ∧ A' 0 0 34 = b4 ∧ A' 0 0 35 = b3) ∧ (∀ v : Nat, v < 10 → A' 51 (P * 10 + D) v = A 51 (P * 10 + D) v + (if wz = 0 then xw (oC A o) ((v : Nat) : Int) else 0)) ∧ telF P D A A' := fun B hf hv => by
    refine ⟨_, rfl, ⟨?_, ?_, ?_, ?_, mu_at _ _ _ _ _⟩, fun v hv' => ?_, fun f a k q => ?_⟩
    · rw [mu_ne _ _ (by omega), mu_ne _ _ (by omega), mu_ne _ _ (by omega), mu_at]
    · rw [mu_ne _ _ (by omega), mu_ne _ _ (by omega), mu_ne _ _ (by omega), mu_ne _ _ (by omega), mu_at]
    · rw [mu_ne _ _ (by omega), mu_ne _ _ (by omega), mu_at]
    · rw [mu_ne _ _ (by omega), mu_at]
    · rw [mu_ne _ _ (by omega), mu_ne _ _ (by omega), mu_ne _ _ (by omega), mu_ne _ _ (by omega), mu_ne _ _ (by omega)]
      exact hv v hv'
    · rw [mu_ne _ _ (by omega), mu_ne _ _ (by omega), mu_ne _ _ (by omega), mu_ne _ _ (by omega), mu_ne _ _ (by omega)]
      exact hf f a k (by omega)
  intro F
  induction F with
  | zero => intro j B _ h; omega
  | succ F ih =>
    intro j B h1 h2 hf hj0 hv
    unfold f_Mo_tell_102
    simp only [Int.toNat_natCast]
    rw [hf 1 o 2 (by omega), hf 0 0 34 (by omega), h34, if_pos (show g32 (j : Int) by unfold g32; omega), if_pos (show g32 (A 1 o 2) by unfold g32; omega)]
    have pP : 0 ≤ (P : Int) ∧ (P : Int) < ((6 : Nat) : Int) := by omega
    have pD : 0 ≤ (D : Int) ∧ (D : Int) < ((10 : Nat) : Int) := by omega
    by_cases z : (oC A o).length ≤ j
    · rw [if_pos (show A 1 o 2 ≤ (j : Int) by omega), if_pos pP, if_pos pD, if_pos hz, if_pos h4]
      rw [List.take_of_length_le z] at hv
      exact fin B hf hv
    · have hj : j < (oC A o).length := by omega
      rw [if_neg (show ¬ A 1 o 2 ≤ (j : Int) by omega), if_pos (show g32 wz by unfold g32; omega)]
      by_cases k : wz = 0
      · rw [if_pos k, if_pos pP, if_pos pD, if_pos (show 0 ≤ (j : Int) ∧ (j : Int) < ((301 : Nat) : Int) by omega)]
        have e1 := oC_at hj
        have hst := hQ.2.1 _ (List.getElem_mem hj)
        have ht := tn9_r hst
        rw [hf 3 o j (by omega), ← e1.1, m_valueOf ht (n := 0) (by omega), obind]
        have r0 := (ht.2 0 (by decide)).2
        obtain ⟨d, hd⟩ : ∃ d : Nat, dd ((oC A o)[j]).1 0 = d := ⟨(dd ((oC A o)[j]).1 0).toNat, by omega⟩
        have e0 : dd ((oC A o)[j]).1 (0 : Int).toNat = (d : Int) := hd
        rw [e0, Int.toNat_natCast]
        show ∃ A', (if 0 ≤ (d : Int) ∧ (d : Int) < ((10 : Nat) : Int) then f_Mo_tell_102 mk F (mu B 51 (P * 10 + D) d (B 51 (P * 10 + D) d + B 4 o j)) P D b3 b4 b5 o ((j : Int) + 1) else none) = _ ∧ _
        have e3 : ((j : Int) + 1) = ((j + 1 : Nat) : Int) := by omega
        rw [if_pos (by omega), e3, hf 4 o j (by omega), ← e1.2]
        refine ih (j + 1) _ hj (by omega) (fun f a k q => ?_) (fun q => by omega) (fun v hv' => ?_)
        · rw [mu_ne _ _ (by omega)]
          exact hf f a k q
        · have hvv := hv v hv'
          rw [if_pos k] at hvv ⊢
          rw [take_s hj, xw_app, hd]
          by_cases q : v = d
          · subst q
            rw [mu_at, hvv, if_pos rfl]
            omega
          · rw [mu_ne _ _ (by omega), hvv, if_neg (by omega)]
            omega
      · rw [if_neg k, if_pos pP, if_pos pD, if_pos hz, if_pos h4]
        refine fin B hf (fun v hv' => ?_)
        have := hv v hv'
        rw [if_neg k] at this ⊢
        exact this
theorem m_tel1 (hP : P < 6) (hD : D < 10) (hQ : oQ A o) (h34 : A 0 0 34 = wz) (hz : wz = 0 ∨ wz = 1) (h4 : b4 = 0 ∨ b4 = 1) : ∀ (F j : Nat) (B : mA), j ≤ 10 → 10 - j < F → (∀ f a k, ¬ (f = 51 ∧ a = P * 10 + D) → B f a k = A f a k) → (∀ v : Nat, v < j → B 51 (P * 10 + D) v = 0) → ∃ A', f_Mo_tell_74 mk F B P D b3 b4 b5 o j = some (0, A') ∧ (A' 47 P D = 1 ∧ A' 48 P D = wz ∧ A' 0 0 33 = b5 ∧ A' 0 0 34 = b4 ∧ A' 0 0 35 = b3) ∧ (∀ v : Nat, v < 10 → A' 51 (P * 10 + D) v = if wz = 0 then xw (oC A o) ((v : Nat) : Int) else 0) ∧ telF P D A A' := by
  intro F
  induction F with
  | zero => intro j B _ h; omega
  | succ F ih =>
    intro j B h1 h2 hf hv
    unfold f_Mo_tell_74
    simp only [Int.toNat_natCast]
    rw [if_pos (show g32 (j : Int) by unfold g32; omega)]
    by_cases z : 10 ≤ j
    · rw [if_pos (show (10 : Int) ≤ j by omega)]
      have ec : oC B o = oC A o := oC_cg (hf 1 o 2 (by omega)) (fun j _ => ⟨hf 3 o j (by omega), hf 4 o j (by omega)⟩)
      have hQB : oQ B o := ⟨by rw [hf 1 o 2 (by omega)]; exact hQ.1, by rw [ec]; exact hQ.2.1, by rw [ec]; exact hQ.2.2⟩
      have hl : (oC B o).length = (B 1 o 2).toNat := oC_len
      have := hQB.1
      obtain ⟨A', a1, a2, a3, a4⟩ := m_tel2 (mk := mk) (b3 := b3) (b5 := b5) hP hD hQB ((hf 0 0 34 (by omega)).trans h34) hz h4 310 0 B (Nat.zero_le _) (by omega) (fun _ _ _ _ => rfl) (fun _ => rfl) (fun v _ => by
        by_cases k : wz = 0
        · rw [if_pos k]; simp [xw, tot]
        · rw [if_neg k]; omega)
      refine ⟨A', a1, a2, fun v hv' => ?_, fun f a k q => (a4 f a k q).trans (hf f a k (by omega))⟩
      rw [a3 v hv', hv v (by omega), ec]
      omega
    · rw [if_neg (show ¬ (10 : Int) ≤ j by omega), if_pos (show 0 ≤ (P : Int) ∧ (P : Int) < ((6 : Nat) : Int) by omega), if_pos (show 0 ≤ (D : Int) ∧ (D : Int) < ((10 : Nat) : Int) by omega), if_pos (show 0 ≤ (j : Int) ∧ (j : Int) < ((10 : Nat) : Int) by omega)]
      have e3 : ((j : Int) + 1) = ((j + 1 : Nat) : Int) := by omega
      rw [e3]
      refine ih (j + 1) _ (by omega) (by omega) (fun f a k q => ?_) (fun v hv' => ?_)
      · rw [mu_ne _ _ (by omega)]
        exact hf f a k q
      · by_cases q : v = j
        · subst q; exact mu_at _ _ _ _ _
        · rw [mu_ne _ _ (by omega)]
          exact hv v (by omega)
end TEL
