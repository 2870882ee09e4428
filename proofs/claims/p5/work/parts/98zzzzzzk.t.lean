/-! film of both: loops (own work) -/
theorem SH.upd {x s : Nat} {C C' A A' : mA} (h : SH x C A) (hs : s < 4) (hf : ∀ f a j, (f = 5 ∨ f = 22 ∨ f = 24 ∨ (f = 8 ∧ a = x)) → ¬ ((f = 5 ∧ a = shA C x s ∧ (j = 1 ∨ j = 2)) ∨ (f = 24 ∧ a = shK C x s)) → C' f a j = C f a j) (hA : ∀ f a j, (f = 11 ∨ f = 12 ∨ f = 49) → ¬ ((f = 11 ∧ a = 0 ∧ j = s) ∨ (f = 12 ∧ a = 0 ∧ j = s) ∨ (f = 49 ∧ a = s)) → A' f a j = A f a j)
    (hn : (C' 5 (shA C x s) 1 = A' 11 0 s ∧ C' 5 (shA C x s) 2 = A' 12 0 s) ∧ (A' 11 0 s = -1 ∨ A' 11 0 s = 0 ∨ A' 11 0 s = 1) ∧ (0 ≤ A' 12 0 s ∧ A' 12 0 s ≤ 40) ∧ ∀ j : Nat, (j : Int) < A' 12 0 s → g32 (A' 49 s j) ∧ cel (A' 11 0 s) (C' 24 (shK C x s) j) (A' 49 s j)) : SH x C' A' := by
  have e1 : ∀ s', shA C' x s' = shA C x s' := fun s' => by
    unfold shA
    rw [hf 8 x 8 (by omega) (by omega), hf 22 _ s' (by omega) (by omega)]
  have e2 : ∀ s', shK C' x s' = shK C x s' := fun s' => by
    show (C' 5 (shA C' x s') 0).toNat = (C 5 (shA C x s') 0).toNat
    rw [e1, hf 5 _ 0 (by omega) (by omega)]
  refine ⟨fun s' hs' => ?_, fun s1 s2 h1 h2 n => by rw [e1, e1, e2, e2]; exact h.2 s1 s2 h1 h2 n⟩
  by_cases k : s' = s
  · subst k
    rw [e1, e2]
    exact hn
  · obtain ⟨d1, d2⟩ := h.2 s' s hs' hs k
    obtain ⟨⟨a1, a2⟩, a3, a4, a5⟩ := h.1 s' hs'
    have x11 : A' 11 0 s' = A 11 0 s' := hA 11 0 s' (by omega) (by clear d1 d2; omega)
    have x12 : A' 12 0 s' = A 12 0 s' := hA 12 0 s' (by omega) (by clear d1 d2; omega)
    rw [e1, e2, x11, x12, hf 5 _ 1 (Or.inl rfl) (fun q => q.elim (fun y => d1 y.2.1) (fun y => absurd y.1 (by decide))), hf 5 _ 2 (Or.inl rfl) (fun q => q.elim (fun y => d1 y.2.1) (fun y => absurd y.1 (by decide)))]
    refine ⟨⟨a1, a2⟩, a3, a4, fun j hj => ?_⟩
    rw [hA 49 s' j (by omega) (by clear d1 d2; omega), hf 24 _ j (Or.inr (Or.inr (Or.inl rfl))) (fun q => q.elim (fun y => absurd y.1 (by decide)) (fun y => d2 y.2))]
    exact a5 j hj
theorem iAnd_255 {h : Int} (r : 0 ≤ h ∧ h ≤ 100) : iAnd h 255 = h := by
  have k : ∀ f : Fin 101, iAnd ((f.val : Nat) : Int) 255 = ((f.val : Nat) : Int) := by decide
  have := k ⟨h.toNat, by omega⟩
  simp only [Int.toNat_of_nonneg r.1] at this
  exact this
section YSA
variable {A0 : mA} {x s n o cr sh : Nat} {l : List xE} {G : tG} {k : Nat}
theorem c_write {C : mA} {j : Nat} {h : Int} (h1 : C 5 sh 1 = 0) (h2 : C 5 sh 2 = 10) (hj : j < 10) (r : 0 ≤ h ∧ h ≤ 100) : f_Sheet_write C sh j h = some (0, mu C 24 (C 5 sh 0).toNat j h) := by
  unfold f_Sheet_write
  rw [if_pos (show g32 (j : Int) by unfold g32; omega), if_neg (show ¬ (j : Int) < 0 by omega), h2, if_pos (show g32 (10 : Int) by decide), if_neg (show ¬ (10 : Int) ≤ j by omega), if_neg (show ¬ (40 : Int) ≤ j by omega), h1, if_pos (show g32 (0 : Int) by decide), if_pos rfl, if_pos (show 0 ≤ (j : Int) ∧ (j : Int) < ((40 : Nat) : Int) by omega), Int.toNat_natCast, iAnd_255 r]
theorem c_film {C0 : mA} {Q : wQ} (hc : CWs C0 cr l) (hg : gdL 50 l) (h0 : 0 < l.length) (hr : ∀ v : Nat, v < 10 → C0 23 (C0 8 x 11).toNat v = xwN l n v) (h1 : C0 5 sh 1 = 0) (h2 : C0 5 sh 2 = 10) (hQ : ∀ C', (∀ f a i, ¬ (f = 24 ∧ a = (C0 5 sh 0).toNat) → C' f a i = C0 f a i) → (∀ i : Nat, i < 10 → C' 24 (C0 5 sh 0).toNat i = hun l n i) → Q 10 C' G k) : ∀ (m j F : Nat) (C : mA), j + m = 10 → m < F → (∀ f a i, ¬ (f = 24 ∧ a = (C0 5 sh 0).toNat) → C f a i = C0 f a i) → (∀ i : Nat, i < j → C 24 (C0 5 sh 0).toNat i = hun l n i) → w_CS_film_87 F k G C x cr sh j Q := by
  intro m
  induction m with
  | zero =>
    intro j F C hj hF hf hz
    obtain ⟨F, rfl⟩ : ∃ q, F = q + 1 := ⟨F - 1, by omega⟩
    unfold w_CS_film_87
    rw [if_pos (show g32 (j : Int) by unfold g32; omega), if_pos (show (10 : Int) ≤ j by omega)]
    exact hQ C hf (fun i hi => hz i (by omega))
  | succ m ih =>
    intro j F C hj hF hf hz
    obtain ⟨F, rfl⟩ : ∃ q, F = q + 1 := ⟨F - 1, by omega⟩
    have hc' : CWs C cr l := hc.cg (fun j => hf 0 _ j (by omega)) (fun j => hf 31 _ j (by omega)) (fun j => hf 32 _ j (by omega))
    have rr := hun_r hg h0 n j
    unfold w_CS_film_87
    rw [if_pos (show g32 (j : Int) by unfold g32; omega), if_neg (show ¬ (10 : Int) ≤ j by omega), if_pos (show 0 ≤ (j : Int) ∧ (j : Int) < ((10 : Nat) : Int) by omega)]
    simp only [Int.toNat_natCast]
    rw [hf 8 x 11 (by omega), hf 23 _ j (by omega), hr j (by omega)]
    refine ⟨_, c_weight hc', _, c_hun hg h0 n j, _, c_write ((hf 5 sh 1 (by omega)).trans h1) ((hf 5 sh 2 (by omega)).trans h2) (by omega) rr, ?_⟩
    dsimp only
    rw [hf 5 sh 0 (by omega), show ((j : Int) + 1) = ((j + 1 : Nat) : Int) by omega]
    refine ih (j + 1) F _ (by omega) (by omega) (fun f a i q => by rw [mu_ne _ _ (by omega), hf f a i q]) (fun i hi => ?_)
    by_cases e : i = j
    · subst e; rw [mu_at]
    · rw [mu_ne _ _ (by omega)]; exact hz i (by omega)
theorem m_film67 {A : mA} (hs : s < 4) (hn : n < 6) (hq : oQ A o) (hg : gdL 50 (oC A o)) (h0 : 0 < (oC A o).length) : ∀ (m j F : Nat) (M : mA), j + m = 10 → m < F → (∀ f a i, ¬ (f = 49 ∧ a = s) → M f a i = A f a i) → (∀ i : Nat, i < j → M 49 s i = hun (oC A o) n i) → ∃ A', f_Mo_film_67 F M s n o j = some (10, A') ∧ (∀ f a i, ¬ (f = 49 ∧ a = s) → A' f a i = A f a i) ∧ ∀ i : Nat, i < 10 → A' 49 s i = hun (oC A o) n i := by
  intro m
  induction m with
  | zero =>
    intro j F M hj hF hf hz
    obtain ⟨F, rfl⟩ : ∃ q, F = q + 1 := ⟨F - 1, by omega⟩
    unfold f_Mo_film_67
    rw [if_pos (show g32 (j : Int) by unfold g32; omega), if_pos (show (10 : Int) ≤ j by omega)]
    exact ⟨M, rfl, hf, fun i hi => hz i (by omega)⟩
  | succ m ih =>
    intro j F M hj hF hf hz
    obtain ⟨F, rfl⟩ : ∃ q, F = q + 1 := ⟨F - 1, by omega⟩
    have eo : oC M o = oC A o := oC_cg (hf 1 o 2 (by omega)) (fun i _ => ⟨hf 3 o i (by omega), hf 4 o i (by omega)⟩)
    have q' : oQ M o := ⟨by rw [hf 1 o 2 (by omega)]; exact hq.1, by rw [eo]; exact hq.2.1, by rw [eo]; exact hq.2.2⟩
    unfold f_Mo_film_67
    simp only [Int.toNat_natCast]
    rw [if_pos (show g32 (j : Int) by unfold g32; omega), if_neg (show ¬ (10 : Int) ≤ j by omega), if_pos (show 0 ≤ (s : Int) ∧ (s : Int) < ((4 : Nat) : Int) by omega), m_hun q' (by rw [eo]; exact hg) (by rw [eo]; exact h0) hn j (by omega), obind]
    dsimp only
    rw [if_pos (show 0 ≤ (j : Int) ∧ (j : Int) < ((40 : Nat) : Int) by omega), eo, show ((j : Int) + 1) = ((j + 1 : Nat) : Int) by omega]
    refine ih (j + 1) F _ (by omega) (by omega) (fun f a i q => by rw [mu_ne _ _ (by omega), hf f a i q]) (fun i hi => ?_)
    by_cases e : i = j
    · subst e; rw [mu_at]
    · rw [mu_ne _ _ (by omega)]; exact hz i (by omega)
end YSA
