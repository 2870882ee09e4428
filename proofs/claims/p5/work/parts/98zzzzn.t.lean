/-! odds of the reference: becomes, two that come together (own work) -/
theorem o_bec {A : mA} {k a : Nat} (h : oQ A a) (hne : k ≠ a) : ∃ A', f_Odds_becomes A k a = some (0, A') ∧ oC A' k = oC A a ∧ rOd A A' k ∧ oQ A' k := by
  obtain ⟨A', h1, h2, h3, h4⟩ := m_becomes h.1 hne
  exact ⟨A', h1, h2, h3, by rw [h4]; exact h.1, by rw [h2]; exact h.2.1, by rw [h2]; exact h.2.2⟩
section UNI
variable {mk : mA → Int → Int → Int → Nat → Int → Option (Int × mA)} {A : mA} {x y o : Nat}
theorem m_uni2 (hy : oQ A y) (hyo : y ≠ o) (hw : ∀ q ∈ oC A y, g64 q.2) : ∀ (F j : Nat) (B : mA) (X : List xE), j ≤ (oC A y).length → (oC A y).length - j < F → rOd A B o → oQ B o → oC B o = mcl [] (X ++ (oC A y).take j) → ∃ A', f_Mo_choose_130 mk F B y o j = some ((o : Int), A') ∧ rOd A A' o ∧ oQ A' o ∧ oC A' o = mcl [] (X ++ oC A y) := by
  have hlen : (oC A y).length = (A 1 y 2).toNat := oC_len
  have h1a := hy.1
  intro F
  induction F with
  | zero => intro j B X _ h; omega
  | succ F ih =>
    intro j B X h1 h2 hf hQ hC
    unfold f_Mo_choose_130
    rw [hf 1 y 2 (by omega), if_pos (show g32 (j : Int) by unfold g32; omega), if_pos (show g32 (A 1 y 2) by unfold g32; omega)]
    by_cases z : (oC A y).length ≤ j
    · rw [if_pos (show A 1 y 2 ≤ (j : Int) by omega)]
      rw [List.take_of_length_le z] at hC
      exact ⟨B, rfl, hf, hQ, hC⟩
    · have hj : j < (oC A y).length := by omega
      have e1 := oC_at hj
      rw [if_neg (show ¬ A 1 y 2 ≤ (j : Int) by omega), if_pos (show 0 ≤ (j : Int) ∧ (j : Int) < ((301 : Nat) : Int) by omega), Int.toNat_natCast, hf 3 y j (by omega), hf 4 y j (by omega), ← e1.1, ← e1.2]
      obtain ⟨B2, y1, y2, y3, y4⟩ := o_come hQ (hy.2.1 _ (List.getElem_mem hj)) (hw _ (List.getElem_mem hj))
      rw [y1, obind]
      have e3 : ((j : Int) + 1) = ((j + 1 : Nat) : Int) := by omega
      show ∃ A', f_Mo_choose_130 mk F B2 y o ((j : Int) + 1) = _ ∧ _
      rw [e3]
      refine ih (j + 1) B2 X hj (by omega) (hf.trans y3) y4 ?_
      rw [y2, hC, take_s hj, ← List.append_assoc]
      exact (mcl_app (y := [(oC A y)[j]])).symm
theorem m_uni (hx : oQ A x) (hy : oQ A y) (hxo : x ≠ o) (hyo : y ≠ o) (hw : ∀ q ∈ oC A x, g64 q.2) (hw2 : ∀ q ∈ oC A y, g64 q.2) : ∀ (F j : Nat) (B : mA), j ≤ (oC A x).length → (oC A x).length - j < F → rOd A B o → oQ B o → oC B o = mcl [] ((oC A x).take j) → ∃ A', f_Mo_choose_90 mk F B x y o j = some ((o : Int), A') ∧ rOd A A' o ∧ oQ A' o ∧ oC A' o = mcl [] (oC A x ++ oC A y) := by
  have hlen : (oC A x).length = (A 1 x 2).toNat := oC_len
  have hlen2 : (oC A y).length = (A 1 y 2).toNat := oC_len
  have h1a := hx.1
  have h1b := hy.1
  intro F
  induction F with
  | zero => intro j B _ h; omega
  | succ F ih =>
    intro j B h1 h2 hf hQ hC
    unfold f_Mo_choose_90
    rw [hf 1 x 2 (by omega), if_pos (show g32 (j : Int) by unfold g32; omega), if_pos (show g32 (A 1 x 2) by unfold g32; omega)]
    by_cases z : (oC A x).length ≤ j
    · rw [if_pos (show A 1 x 2 ≤ (j : Int) by omega)]
      rw [List.take_of_length_le z] at hC
      exact m_uni2 hy hyo hw2 310 0 B (oC A x) (Nat.zero_le _) (by omega) hf hQ (by rw [List.take_zero, List.append_nil]; exact hC)
    · have hj : j < (oC A x).length := by omega
      have e1 := oC_at hj
      rw [if_neg (show ¬ A 1 x 2 ≤ (j : Int) by omega), if_pos (show 0 ≤ (j : Int) ∧ (j : Int) < ((301 : Nat) : Int) by omega), Int.toNat_natCast, hf 3 x j (by omega), hf 4 x j (by omega), ← e1.1, ← e1.2]
      obtain ⟨B2, y1, y2, y3, y4⟩ := o_come hQ (hx.2.1 _ (List.getElem_mem hj)) (hw _ (List.getElem_mem hj))
      rw [y1, obind]
      have e3 : ((j : Int) + 1) = ((j + 1 : Nat) : Int) := by omega
      show ∃ A', f_Mo_choose_90 mk F B2 x y o ((j : Int) + 1) = _ ∧ _
      rw [e3]
      refine ih (j + 1) B2 hj (by omega) (hf.trans y3) y4 ?_
      rw [y2, hC, take_s hj]
      exact (mcl_app (y := [(oC A x)[j]])).symm
end UNI
/-- the reference's odds stand for the spec's answer, up to the order of what came -/
theorem oR.cg {l : List xE} {s s' : Option (List xE)} (h : oR l s) (hp : oP s s') : oR l s' := by
  cases s with
  | none => cases s' with
    | none => exact h
    | some b => exact hp.elim
  | some a => cases s' with
    | none => exact hp.elim
    | some b => exact ⟨h.1, h.2.1.trans hp, h.2.2⟩
theorem oR_of {l x x0 : List xE} (e : l = mcl [] x) (hp : x.Perm x0) : oR l (cap9 x0) := by
  rw [e]
  exact oR_cap.cg (cap_perm hp)
