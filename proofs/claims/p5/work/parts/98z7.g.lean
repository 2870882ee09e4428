/-! LOTS of the reference, all (own work) -/
def dK (P i : Nat) (l : Int) (f k j : Nat) : Prop := (f = 0 ∧ k = 0 ∧ j ∈ [23, 24, 25, 26, 29, 31]) ∨ ((f = 41 ∨ f = 42) ∧ k = P ∧ l ≤ j) ∨ (f = 36 ∧ k = P ∧ j = i)
def fK (P i : Nat) (M M' : mA) : Prop := M 0 0 29 ≤ M' 0 0 29 ∧ ∀ f k j, ¬ dK P i (M 0 0 29) f k j → M' f k j = M f k j
theorem fK.trans {P i : Nat} {M M' M'' : mA} (h : fK P i M M') (h' : fK P i M' M'') : fK P i M M'' := by
  refine ⟨Int.le_trans h.1 h'.1, fun f k j q => ?_⟩
  refine (h'.2 f k j (fun r => q ?_)).trans (h.2 f k j q)
  rcases r with r | r | r
  · exact Or.inl r
  · exact Or.inr (Or.inl ⟨r.1, r.2.1, Int.le_trans h.1 r.2.2⟩)
  · exact Or.inr (Or.inr r)
theorem fK.ofM {P i : Nat} {M M' : mA} (h : fM M M' [23, 24, 25, 26, 31]) : fK P i M M' :=
  ⟨by rw [h 0 0 29 (fun r => absurd r.2.2 (by decide))]; exact Int.le_refl _, fun f k j q => h f k j (fun r => q (Or.inl ⟨r.1, r.2.1, by
    have := r.2.2
    simp only [List.mem_cons, List.not_mem_nil, or_false] at this ⊢
    omega⟩))⟩
theorem fK.num {P i : Nat} {M : mA} {z : Int} : fK P i M (mu M 36 P i z) := ⟨Int.le_refl _, fun f k j q => mu_ne _ _ (fun r => q (Or.inr (Or.inr r)))⟩
theorem fK.lot {P i : Nat} {M M' : mA} (h : fK P i M M') {f : Nat} (hf : f = 41 ∨ f = 42) (j : Nat) (hj : (j : Int) < M 0 0 29) : M' f P j = M f P j := h.2 f P j (fun r => by
  rcases r with r | r | r
  · omega
  · omega
  · omega)
def mLt (P : Nat) (T : Nat → Int) (m : Nat) (M : mA) (p : Nat) : Prop := mE9 P T m M p ∧ 0 ≤ M 0 0 29 ∧ 3 * M 0 0 29 ≤ p
def lotsM (M : mA) (P n : Nat) (c : List (Int × Int)) : Prop := ∀ i, i < c.length → M 41 P (n + i) = (c.getD i (0, 0)).1 ∧ M 42 P (n + i) = (c.getD i (0, 0)).2
section ML2
variable {P i : Nat} {T : Nat → Int} {m : Nat}
theorem mE9.keep {M M' : mA} {p : Nat} (h : mE9 P T m M p) (h0 : ∀ j, j ≠ 29 → M' 0 0 j = M 0 0 j) (h9 : ∀ j, M' 9 0 j = M 9 0 j) : mE9 P T m M' p := by
  obtain ⟨⟨⟨a1, a2, a3⟩, b1, b2, b3, b4⟩, ⟨c1, c2, c3, c4, c5⟩, d1, d2⟩ := h
  refine ⟨⟨⟨?_, a2, fun j hj => ?_⟩, ?_, b2, ?_, ?_⟩, ⟨?_, ?_, fun q => ?_, fun q1 q2 => ?_, ?_⟩, d1, ?_⟩
  · rw [h0 22 (by decide)]; exact a1
  · rw [h9]; exact a3 j hj
  · rw [h0 0 (by decide)]; exact b1
  · rw [h0 30 (by decide)]; exact b3
  · rw [h0 30 (by decide)]; exact b4
  · rw [h0 23 (by decide)]; exact c1
  · rw [h0 24 (by decide)]; exact c2
  · rw [h0 25 (by decide)]; exact c3 q
  · rw [h0 26 (by decide)]; exact c4 q1 q2
  · rw [h0 31 (by decide)]; exact c5
  · rw [h0 30 (by decide)]; exact d2
def gmTail (n : Nat) (b1 b2 b3 b4 : Int) (A : mA) : Option (Int × mA) := (Option.bind (f_Mo_takes A 3 0 9) (fun q24 => (Option.bind (f_Mo_need q24.2 58) (fun q26 => (Option.bind (f_Mo_takes q26.2 3 1 16) (fun q28 => (if g32 (q28.2 0 0 31) then (if (q28.2 0 0 31) = 0 then (if (0 ≤ b1 ∧ b1 < ((6 : Nat) : Int)) then (if (0 ≤ (q28.2 0 0 29) ∧ (q28.2 0 0 29) < ((120 : Nat) : Int)) then (Option.bind (f_Mo_isSign (mu (mu (mu q28.2 41 b1.toNat ((q28.2 0 0 29).toNat) q24.1) 42 b1.toNat ((q28.2 0 0 29).toNat) q28.1) 0 0 29 ((q28.2 0 0 29) + 1)) 44) (fun q36 => (f_Mo_lotsOf_8  n q36.2 b1 b2 (b3 + q28.1) (b4 + 1) q36.1))) else none) else none) else (some (0, q28.2))) else none)))))))
/-- a lot, and what comes of it -/
theorem m_tail {M : mA} {p : Nat} (h : mLt P T m M p) (n : Nat) (a k : Int) : ∃ M3, fM M M3 [23, 24, 25, 26, 31] ∧ kCase (kLot T m p) (fun b => gmTail n P i a k M = some (0, M3) ∧ M3 0 0 31 = 1 ∧ M3 0 0 24 = b) (fun x => mE9 P T m M3 x.1 ∧ (M3 0 0 31 = 1 ∧ gmTail n P i a k M = some (0, M3) ∨ M3 0 0 31 = 0 ∧ ∃ M4, gmTail n P i a k M = f_Mo_lotsOf_8 n M4 P i (a + x.2.2) (k + 1) (if kSg (kTok T m x.1) 44 then 1 else 0) ∧ fK P i M M4 ∧ mLt P T m M4 x.1 ∧ M4 0 0 31 = 0 ∧ M4 0 0 29 = M 0 0 29 + 1 ∧ M4 41 P (M 0 0 29).toNat = x.2.1 ∧ M4 42 P (M 0 0 29).toNat = x.2.2)) := by
  obtain ⟨z1, z3, M1, M2, M3, a1, a2, a3, a4, a5⟩ := m_lot h.1
  obtain ⟨h1, h2, h3⟩ := h
  have h120 := h1.1.tx.1
  have hT := h1.1.tx.2
  have e29 : M3 0 0 29 = M 0 0 29 := a4 0 0 29 (fun r => absurd r.2.2 (by decide))
  refine ⟨M3, a4, ?_⟩
  have e0 : gmTail n P i a k M = (if g32 (M3 0 0 31) then (if (M3 0 0 31) = 0 then (if (0 ≤ (P : Int) ∧ (P : Int) < ((6 : Nat) : Int)) then (if (0 ≤ (M3 0 0 29) ∧ (M3 0 0 29) < ((120 : Nat) : Int)) then (Option.bind (f_Mo_isSign (mu (mu (mu M3 41 (P : Int).toNat ((M3 0 0 29).toNat) z1) 42 (P : Int).toNat ((M3 0 0 29).toNat) z3) 0 0 29 ((M3 0 0 29) + 1)) 44) (fun q36 => (f_Mo_lotsOf_8  n q36.2 P i (a + z3) (k + 1) q36.1))) else none) else none) else (some (0, M3))) else none) := by
    unfold gmTail
    rw [a1, obind]
    show Option.bind (f_Mo_need M1 58) _ = _
    rw [a2, obind]
    show Option.bind (f_Mo_takes M2 3 1 16) _ = _
    rw [a3, obind]
  cases hq : kLot T m p with
  | inl b =>
    rw [hq] at a5
    refine ⟨?_, a5⟩
    rw [e0, a5.1, if_pos (by decide), if_neg (by decide)]
  | inr x =>
    rw [hq] at a5
    obtain ⟨rfl, rfl, a6⟩ := a5
    obtain ⟨b1, b2, b3, b4⟩ := kLot_pr h120 hT h1.2.2.1 hq
    refine ⟨a6, ?_⟩
    rcases a6.w with ⟨w1, w2⟩ | ⟨w1, w2⟩
    · refine Or.inr ⟨w1, mu (mu (mu M3 41 P (M 0 0 29).toNat x.2.1) 42 P (M 0 0 29).toNat x.2.2) 0 0 29 (M 0 0 29 + 1), ?_⟩
      have e4 : mE9 P T m (mu (mu (mu M3 41 P (M 0 0 29).toNat x.2.1) 42 P (M 0 0 29).toNat x.2.2) 0 0 29 (M 0 0 29 + 1)) x.1 := a6.keep (fun j hj => mu_ne _ _ (fun r => hj r.2.2)) (fun j => rfl)
      have hP := h1.1.2.2.1
      refine ⟨?_, ?_, ⟨e4, ?_, ?_⟩, w1, mu_at _ _ _ _ _, ?_, ?_⟩
      · rw [e0, w1, if_pos (by decide), if_pos rfl, if_pos (show 0 ≤ (P : Int) ∧ (P : Int) < ((6 : Nat) : Int) by omega), e29, if_pos (show 0 ≤ M 0 0 29 ∧ M 0 0 29 < ((120 : Nat) : Int) by omega), Int.toNat_natCast, m_isSign e4 (by decide), obind]
      · refine (fK.ofM a4).trans ⟨?_, fun f k j q => ?_⟩
        · rw [mu_at, e29]
          omega
        · rw [e29] at q
          rw [mu_ne _ _ (fun r => q (Or.inl ⟨r.1, r.2.1, by rw [r.2.2]; decide⟩)), mu_ne _ _ (fun r => q (Or.inr (Or.inl ⟨Or.inr r.1, r.2.1, by rw [r.2.2]; omega⟩))), mu_ne _ _ (fun r => q (Or.inr (Or.inl ⟨Or.inl r.1, r.2.1, by rw [r.2.2]; omega⟩)))]
      · rw [mu_at]
        omega
      · rw [mu_at]
        omega
      · show mu M3 41 P (M 0 0 29).toNat x.2.1 41 P (M 0 0 29).toNat = x.2.1
        exact mu_at _ _ _ _ _
      · show mu (mu M3 41 P (M 0 0 29).toNat x.2.1) 42 P (M 0 0 29).toNat x.2.2 42 P (M 0 0 29).toNat = x.2.2
        exact mu_at _ _ _ _ _
    · refine Or.inl ⟨w1, ?_⟩
      rw [e0, w1, if_pos (by decide), if_neg (by decide)]
end ML2
