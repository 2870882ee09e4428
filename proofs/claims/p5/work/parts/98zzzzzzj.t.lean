/-! sheets written: both sides' frames (own work) -/
/-- an answer of both, and all that is kept with sheets -/
def FL (x : Nat) (G : tG) (C A : mA) (T : xT) (sl hm k : Nat) (F : Option (Int × mA)) (W : wQ → Prop) : Prop := ∃ z A', F = some (z, A') ∧ ∀ Q : wQ, (∀ (k' : Nat) (G' : tG) (C' : mA), R9 x C' A' → WX x G' C' A' T sl hm → SH x C' A' → (∀ a τ, G a = some τ → G' a = some τ) → rmK x C + k' = rmK x C' + k → Q z C' G' k') → W Q
section YRA
variable {D : va_G} {Gt G : tG} {C A A' : mA} {w : jW} {x sl hm k : Nat} {T : xT} {F : Option (Int × mA)} {W : wQ → Prop}
theorem FB.fl (hS : SH x C A) (h : FB x G C A T sl hm k F W) : FL x G C A T sl hm k F W := by
  obtain ⟨z, A', h1, h2, h3⟩ := h
  refine ⟨z, A', h1, fun Q hQ => h3 Q (fun k' G' C' c1 c2 c3 c4 c5 => hQ k' G' C' c1 c2 ?_ c3 c5)⟩
  exact hS.cg (fun f a j y => c4 f a j (by omega)) (fun f a j y => h2 f a j (by omega))
theorem R9.cS (h : R9 x C A) (hA : ∀ f a j, f ≠ 11 → f ≠ 12 → f ≠ 49 → A' f a j = A f a j) : R9 x C A' :=
  h.cA ⟨hA 0 0 0 (by decide) (by decide) (by decide), hA 0 0 22 (by decide) (by decide) (by decide), hA 0 0 37 (by decide) (by decide) (by decide)⟩ (fun j _ => hA 9 0 j (by decide) (by decide) (by decide)) (fun j _ => ⟨hA 8 0 j (by decide) (by decide) (by decide), hA 10 0 j (by decide) (by decide) (by decide)⟩) (fun p _ => ⟨hA 5 0 p (by decide) (by decide) (by decide), hA 6 0 p (by decide) (by decide) (by decide), hA 7 0 p (by decide) (by decide) (by decide)⟩) (fun p _ f j q1 q2 _ _ _ => hA f p j (by omega) (by omega) (by omega))
theorem WX.cS (hx : WX x G C A T sl hm) (h9 : R9 x C A) (hA : ∀ f a j, f ≠ 11 → f ≠ 12 → f ≠ 49 → A' f a j = A f a j) : WX x G C A' T sl hm := by
  obtain ⟨hp, h2, h3, h4, ⟨h5, h6⟩, h7⟩ := id hx
  obtain ⟨-, ⟨b1, b2, b3⟩, -⟩ := id h9.1.1
  have e0 : A' 0 0 0 = A 0 0 0 := hA 0 0 0 (by decide) (by decide) (by decide)
  have e5 : mCn A' = mCn A := by unfold mCn; rw [e0]
  refine ⟨fun p hp' => ?_, h2, h3, by rw [e5]; exact h4, ⟨h5, by rw [e5]; exact h6⟩, by rw [e5]; exact h7.cg (fun f a j q => hA f a j (by omega) (by omega) (by omega))⟩
  rw [e0] at hp'
  exact (hp p hp').cg (by omega) (fun u _ => rfl) (fun u _ k hk => rfl) (fun j => rfl) (fun i _ k _ => rfl) (fun j => rfl) (fun a j _ => rfl) (hA 5 0 p (by decide) (by decide) (by decide)) (fun u _ => ⟨hA 6 0 u (by decide) (by decide) (by decide), hA 7 0 u (by decide) (by decide) (by decide)⟩) (fun f j q1 q2 _ _ _ => hA f p j (by omega) (by omega) (by omega))
end YRA
section YRB
variable {C A : mA}
theorem c_become {sh : Nat} {a0 a1 : Int} : ∃ C', f_Sheet_become C sh a0 a1 = some (0, C') ∧ C' 5 sh 1 = a0 ∧ C' 5 sh 2 = a1 ∧ (∀ j : Nat, j < 40 → C' 24 (C 5 sh 0).toNat j = 0) ∧ ∀ f a j, ¬ ((f = 5 ∧ a = sh ∧ (j = 1 ∨ j = 2)) ∨ (f = 24 ∧ a = (C 5 sh 0).toNat)) → C' f a j = C f a j := by
  obtain ⟨C1, hC1⟩ : ∃ C1, C1 = mu (mu C 5 sh 1 a0) 5 sh 2 a1 := ⟨_, rfl⟩
  have f1 : ∀ f a j, ¬ (f = 5 ∧ a = sh ∧ (j = 1 ∨ j = 2)) → C1 f a j = C f a j := fun f a j q => by rw [hC1, mu_ne _ _ (by omega), mu_ne _ _ (by omega)]
  have go : ∀ (m j F : Nat) (M : mA), j + m = 40 → m < F → (∀ f a i, ¬ (f = 24 ∧ a = (C 5 sh 0).toNat) → M f a i = C1 f a i) → (∀ i : Nat, i < j → M 24 (C 5 sh 0).toNat i = 0) → ∃ C', f_Sheet_become_12 F M sh j = some (0, C') ∧ (∀ f a i, ¬ (f = 24 ∧ a = (C 5 sh 0).toNat) → C' f a i = C1 f a i) ∧ ∀ i : Nat, i < 40 → C' 24 (C 5 sh 0).toNat i = 0 := by
    intro m
    induction m with
    | zero =>
      intro j F M hj hF hf hz
      obtain ⟨F, rfl⟩ : ∃ q, F = q + 1 := ⟨F - 1, by omega⟩
      unfold f_Sheet_become_12
      rw [if_pos (show g32 (j : Int) by unfold g32; omega), if_pos (show (40 : Int) ≤ j by omega)]
      exact ⟨M, rfl, hf, fun i hi => hz i (by omega)⟩
    | succ m ih =>
      intro j F M hj hF hf hz
      obtain ⟨F, rfl⟩ : ∃ q, F = q + 1 := ⟨F - 1, by omega⟩
      have ek : (M 5 sh 0).toNat = (C 5 sh 0).toNat := by rw [hf 5 sh 0 (by omega), f1 5 sh 0 (by omega)]
      unfold f_Sheet_become_12
      rw [if_pos (show g32 (j : Int) by unfold g32; omega), if_neg (show ¬ (40 : Int) ≤ j by omega), if_pos (show 0 ≤ (j : Int) ∧ (j : Int) < ((40 : Nat) : Int) by omega), Int.toNat_natCast, ek, show ((j : Int) + 1) = ((j + 1 : Nat) : Int) by omega]
      refine ih (j + 1) F _ (by omega) (by omega) (fun f a i q => by rw [mu_ne _ _ (by omega), hf f a i q]) (fun i hi => ?_)
      by_cases e : i = j
      · subst e; rw [mu_at]
      · rw [mu_ne _ _ (by omega)]; exact hz i (by omega)
  obtain ⟨C', s1, s2, s3⟩ := go 40 0 400 C1 (by decide) (by decide) (fun _ _ _ _ => rfl) (fun i hi => absurd hi (Nat.not_lt_zero i))
  refine ⟨C', ?_, ?_, ?_, s3, fun f a j q => by rw [s2 f a j (by omega), f1 f a j (by omega)]⟩
  · unfold f_Sheet_become
    rw [← hC1]
    exact s1
  · rw [s2 5 sh 1 (by omega), hC1, mu_ne _ _ (by omega), mu_at]
  · rw [s2 5 sh 2 (by omega), hC1, mu_at]
theorem m_sheet65 {s : Nat} (hs : s < 4) : ∃ A', f_Mo_sheet_65 50 A s 0 = some (1, A') ∧ (∀ f a i, ¬ (f = 49 ∧ a = s) → A' f a i = A f a i) ∧ ∀ i : Nat, i < 40 → A' 49 s i = 0 := by
  have go : ∀ (m j F : Nat) (M : mA), j + m = 40 → m < F → (∀ f a i, ¬ (f = 49 ∧ a = s) → M f a i = A f a i) → (∀ i : Nat, i < j → M 49 s i = 0) → ∃ A', f_Mo_sheet_65 F M s j = some (1, A') ∧ (∀ f a i, ¬ (f = 49 ∧ a = s) → A' f a i = A f a i) ∧ ∀ i : Nat, i < 40 → A' 49 s i = 0 := by
    intro m
    induction m with
    | zero =>
      intro j F M hj hF hf hz
      obtain ⟨F, rfl⟩ : ∃ q, F = q + 1 := ⟨F - 1, by omega⟩
      unfold f_Mo_sheet_65
      rw [if_pos (show g32 (j : Int) by unfold g32; omega), if_pos (show (40 : Int) ≤ j by omega)]
      exact ⟨M, rfl, hf, fun i hi => hz i (by omega)⟩
    | succ m ih =>
      intro j F M hj hF hf hz
      obtain ⟨F, rfl⟩ : ∃ q, F = q + 1 := ⟨F - 1, by omega⟩
      unfold f_Mo_sheet_65
      simp only [Int.toNat_natCast]
      rw [if_pos (show g32 (j : Int) by unfold g32; omega), if_neg (show ¬ (40 : Int) ≤ j by omega), if_pos (show 0 ≤ (s : Int) ∧ (s : Int) < ((4 : Nat) : Int) by omega), if_pos (show 0 ≤ (j : Int) ∧ (j : Int) < ((40 : Nat) : Int) by omega), show ((j : Int) + 1) = ((j + 1 : Nat) : Int) by omega]
      refine ih (j + 1) F _ (by omega) (by omega) (fun f a i q => by rw [mu_ne _ _ (by omega), hf f a i q]) (fun i hi => ?_)
      by_cases e : i = j
      · subst e; rw [mu_at]
      · rw [mu_ne _ _ (by omega)]; exact hz i (by omega)
  exact go 40 0 50 A (by decide) (by decide) (fun _ _ _ _ => rfl) (fun i hi => absurd hi (Nat.not_lt_zero i))
end YRB
