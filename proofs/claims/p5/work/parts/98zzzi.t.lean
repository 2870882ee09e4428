/-! needed of both: its faces (own work) -/
section SEE
variable {A : mA} {P N : Nat} {c : Nat → kS} {sE : Int → Int}
theorem iOr_01 {a b : Int} (ha : a = 0 ∨ a = 1) (hb : b = 0 ∨ b = 1) : (iOr a b = 0 ∨ iOr a b = 1) ∧ (iOr a b = 0 ↔ a = 0 ∧ b = 0) := by
  rcases ha with rfl | rfl <;> rcases hb with rfl | rfl <;> decide
theorem ssS_01 (hv : ∀ i, i < N → vSee c sE i = 0 ∨ vSee c sE i = 1) : ∀ p, p ≤ N → (ssS c sE N p = 0 ∨ ssS c sE N p = 1) ∧ (ssS c sE N p = 0 ↔ ∀ i, N - p ≤ i → i < N → vSee c sE i = 0) := by
  intro p
  induction p with
  | zero =>
    intro _
    exact ⟨Or.inl rfl, fun _ i h1 h2 => by omega, fun _ => rfl⟩
  | succ p ih =>
    intro hp
    obtain ⟨i1, i2⟩ := ih (by omega)
    obtain ⟨o1, o2⟩ := iOr_01 i1 (hv (N - 1 - p) (by omega))
    refine ⟨o1, fun e i h1 h2 => ?_, fun e => o2.mpr ⟨i2.mpr (fun i h1 h2 => e i (by omega) h2), e _ (by omega) (by omega)⟩⟩
    obtain ⟨e1, e2⟩ := o2.mp e
    by_cases q : i = N - 1 - p
    · rw [q]
      exact e2
    · exact i2.mp e1 i (by omega) h2
theorem m_seesL {se : mA → Int → Option (Int × mA)} (hP : P < 6) (hN : N ≤ 16) (h5 : A 5 0 P = N) (hm : ∀ i, i < N → mS9 A P i (c i)) (hk : ∀ i, i < N → 0 ≤ sK (c i) ∧ sK (c i) ≤ 5) (hs : ∀ i, i < N → sK (c i) = 5 → se A (sU (c i)) = some (sE (sU (c i)), A)) (h01 : ∀ i, i < N → vSee c sE i = 0 ∨ vSee c sE i = 1) : ∀ (r n i : Nat), i + r = N → r < n → ∃ w, f_Mo_seesT_2 se n A P i = some (w, A) ∧ ((w = 0 ∧ ∀ j, i ≤ j → j < N → vSee c sE j = 0) ∨ (w = 1 ∧ ∃ j, i ≤ j ∧ j < N ∧ vSee c sE j ≠ 0)) := by
  intro r
  induction r with
  | zero =>
    intro n i h1 h2
    obtain ⟨n, rfl⟩ : ∃ q, n = q + 1 := ⟨n - 1, by omega⟩
    refine ⟨0, ?_, Or.inl ⟨rfl, fun j q1 q2 => by omega⟩⟩
    rw [f_Mo_seesT_2, if_pos (show 0 ≤ (P : Int) ∧ (P : Int) < ((6 : Nat) : Int) by omega)]
    simp only [Int.toNat_natCast]
    rw [if_pos (show g32 (i : Int) by unfold g32; omega), h5, if_pos (show g32 (N : Int) by unfold g32; omega), if_pos (by omega)]
  | succ r ih =>
    intro n i h1 h2
    obtain ⟨n, rfl⟩ : ∃ q, n = q + 1 := ⟨n - 1, by omega⟩
    obtain ⟨w, w1, w2⟩ := ih n (i + 1) (by omega) (by omega)
    have hi : i < N := by omega
    obtain ⟨⟨e34, -, e36, -, -⟩, -⟩ := hm i hi
    have hk9 := hk i hi
    have nx : (vSee c sE i = 0) → f_Mo_seesT_2 se (n + 1) A P i = some (w, A) → ∃ w, f_Mo_seesT_2 se (n + 1) A P i = some (w, A) ∧ ((w = 0 ∧ ∀ j, i ≤ j → j < N → vSee c sE j = 0) ∨ (w = 1 ∧ ∃ j, i ≤ j ∧ j < N ∧ vSee c sE j ≠ 0)) := fun e0 e => by
      refine ⟨w, e, ?_⟩
      rcases w2 with ⟨a, b⟩ | ⟨a, j, b1, b2, b3⟩
      · refine Or.inl ⟨a, fun j q1 q2 => ?_⟩
        by_cases q : j = i
        · rw [q]
          exact e0
        · exact b j (by omega) q2
      · exact Or.inr ⟨a, j, by omega, b2, b3⟩
    have w1' : f_Mo_seesT_2 se n A P ((i : Int) + 1) = some (w, A) := w1
    have e : f_Mo_seesT_2 se (n + 1) A P i = if sK (c i) = 2 then some (1, A) else if sK (c i) = 5 then Option.bind (se A (sU (c i))) (fun q12 => if g32 q12.1 then (if q12.1 = 0 then f_Mo_seesT_2 se n q12.2 P ((i : Int) + 1) else some (1, q12.2)) else none) else f_Mo_seesT_2 se n A P ((i : Int) + 1) := by
      rw [f_Mo_seesT_2, if_pos (show 0 ≤ (P : Int) ∧ (P : Int) < ((6 : Nat) : Int) by omega)]
      simp only [Int.toNat_natCast]
      rw [if_pos (show g32 (i : Int) by unfold g32; omega), h5, if_pos (show g32 (N : Int) by unfold g32; omega), if_neg (by omega), if_pos (show 0 ≤ (i : Int) ∧ (i : Int) < ((16 : Nat) : Int) by omega), e34, e36, if_pos (show g32 (sK (c i)) by unfold g32; omega)]
    by_cases c2 : sK (c i) = 2
    · have ev : vSee c sE i = 1 := if_pos c2
      refine ⟨1, by rw [e, if_pos c2], Or.inr ⟨rfl, i, Nat.le_refl i, hi, by omega⟩⟩
    by_cases c5 : sK (c i) = 5
    · have ev : vSee c sE i = sE (sU (c i)) := by
        unfold vSee
        rw [if_neg c2, if_pos c5]
      have h9 := h01 i hi
      rw [ev] at h9
      have e2 : f_Mo_seesT_2 se (n + 1) A P i = if sE (sU (c i)) = 0 then f_Mo_seesT_2 se n A P ((i : Int) + 1) else some (1, A) := by
        rw [e, if_neg c2, if_pos c5, hs i hi c5, obind, if_pos (show g32 (sE (sU (c i))) by unfold g32; omega)]
      by_cases q : sE (sU (c i)) = 0
      · refine nx (ev.trans q) ?_
        rw [e2, if_pos q]
        exact w1'
      · refine ⟨1, by rw [e2, if_neg q], Or.inr ⟨rfl, i, Nat.le_refl i, hi, by omega⟩⟩
    · have ev : vSee c sE i = 0 := by
        unfold vSee
        rw [if_neg c2, if_neg c5]
      refine nx ev ?_
      rw [e, if_neg c2, if_neg c5]
      exact w1'
end SEE
section SEE2
variable {C A : mA} {x : Nat}
/-- whether a program SEES, by both -/
theorem m_sees (hR : R9 x C A) : ∀ (p K : Nat), p < K → (p : Int) < A 0 0 0 → f_Mo_seesN K A p = some (C 2 (aPr C x p) 11, A) ∧ (C 2 (aPr C x p) 11 = 0 ∨ C 2 (aPr C x p) 11 = 1) := by
  obtain ⟨-, ⟨b1, b2, b3⟩, -, -, -, f1, -⟩ := id hR.1.1
  intro p
  induction p using Nat.strongRecOn with
  | ind p ih =>
    intro K h1 h2
    obtain ⟨N, c, ⟨o1, o2⟩, -, ⟨w1, w2⟩, pE, bE, tE, sE, el, -, -, -, -, e11⟩ := hR.2.1 p h2
    obtain ⟨K, rfl⟩ : ∃ q, K = q + 1 := ⟨K - 1, by omega⟩
    have hN := o1.1
    have h01 : ∀ i, i < N → vSee c sE i = 0 ∨ vSee c sE i = 1 := fun i hi => by
      unfold vSee
      by_cases c2 : sK (c i) = 2
      · rw [if_pos c2]
        exact Or.inr rfl
      rw [if_neg c2]
      by_cases c5 : sK (c i) = 5
      · rw [if_pos c5]
        obtain ⟨u1, u2⟩ := (o1.2.2 i hi).1.2.2.2.2.2.1 c5
        obtain ⟨-, -, -, e4⟩ := el (sU (c i)).toNat (by omega)
        rw [Int.toNat_of_nonneg u1] at e4
        rw [e4]
        exact (f1 (sU (c i)).toNat (by omega)).2.2.2.2.2
      · rw [if_neg c5]
        exact Or.inl rfl
    obtain ⟨s1, s2⟩ := ssS_01 h01 N (Nat.le_refl N)
    obtain ⟨w, v1, v2⟩ := m_seesL (se := f_Mo_seesN K) (by omega) hN w1 w2 (fun i hi => (o1.2.2 i hi).1.1) (fun i hi c5 => by
      obtain ⟨u1, u2⟩ := (o1.2.2 i hi).1.2.2.2.2.2.1 c5
      obtain ⟨-, -, -, e4⟩ := el (sU (c i)).toNat (by omega)
      have k := (ih (sU (c i)).toNat (by omega) K (by omega) (by omega)).1
      rw [Int.toNat_of_nonneg u1] at k e4
      rw [k, e4]) h01 N 20 0 (by omega) (by omega)
    have ew : w = ssS c sE N N := by
      rcases v2 with ⟨a, b⟩ | ⟨a, j, b1, b2, b3⟩
      · rw [a, s2.mpr (fun i _ hi => b i (Nat.zero_le i) hi)]
      · rcases s1 with s1 | s1
        · exact absurd (s2.mp s1 j (by omega) b2) b3
        · rw [a, s1]
    rw [e11]
    refine ⟨?_, s1⟩
    show f_Mo_seesT (f_Mo_seesN K) A p = _
    unfold f_Mo_seesT
    rw [← ew]
    exact v1
theorem c_areNames {n : Int} (g : g32 n) : f_CS_areNames C n = some (if 0 ≤ n ∧ n ≤ 63 then 1 else 0, C) := by
  unfold f_CS_areNames
  rw [if_pos g]
  by_cases q1 : n < 0
  · rw [if_pos q1, if_neg (by omega)]
  rw [if_neg q1]
  by_cases q2 : 63 < n
  · rw [if_pos q2, if_neg (by omega)]
  · rw [if_neg q2, if_pos (by omega)]
theorem needed9_alike {p n : Int} (hR : R9 x C A) (gp : g32 p) (gn : g32 n) : ∃ z, f_CS_needed C x p n = some (z, C) ∧ f_Mo_needed A p n = some (z, A) := by
  obtain ⟨-, ⟨b1, b2, b3⟩, -, -, -, f1, -⟩ := id hR.1.1
  unfold f_CS_needed f_Mo_needed
  rw [c_isProg hR.1.1 gp, obind, m_isProg ⟨b2, b3⟩ gp, obind]
  by_cases q1 : 0 ≤ p ∧ p < A 0 0 0
  · rw [if_pos q1, if_pos (show g32 (1 : Int) by decide), if_neg (show ¬ (1 : Int) = 0 by decide), if_pos (show g32 (1 : Int) by decide), if_neg (show ¬ (1 : Int) = 0 by decide)]
    dsimp only
    rw [c_areNames gn, obind, m_inF gn (by decide) (by decide), obind]
    by_cases q2 : 0 ≤ n ∧ n ≤ 63
    · rw [if_pos q2, if_pos (show g32 (1 : Int) by decide), if_neg (show ¬ (1 : Int) = 0 by decide), if_pos (show g32 (1 : Int) by decide), if_neg (show ¬ (1 : Int) = 0 by decide)]
      dsimp only
      obtain ⟨P, rfl⟩ : ∃ P : Nat, p = P := ⟨p.toNat, by omega⟩
      simp only [Int.toNat_natCast]
      have hP6 : P < 6 := by omega
      have q3 := (f1 P (by omega)).1
      obtain ⟨N, c, ⟨o1, o2⟩, ⟨v1, v2⟩, ⟨w1, w2⟩, pE, bE, tE, sE, el, wg, -, -, -, -⟩ := hR.2.1 P q1.2
      have hs : ∀ u : Nat, u < P → f_Mo_seesN 7 A u = some (sE u, A) ∧ (sE u = 0 ∨ sE u = 1) := fun u hu => by
        obtain ⟨-, -, -, e4⟩ := el u hu
        rw [e4]
        exact m_sees hR u 7 (by omega) (by omega)
      have hv : g32 n := gn
      have mk := m_nd (n := 16) hP6 o1 w2 o2 hs 18 0 N 0 n (by have := o1.1; omega) (Nat.le_refl 16) o1.2.1 (Nat.le_refl N) hv
      have ck : f_Prog_neededAhead (f_Prog_naoN 6) C (aPr C x P) (0 : Nat) N n 0 = some (ndB c (ndS c sE 16) 16 0 N n, C) := c_ndBl (L := 0) o1.1 (fun i hi => ⟨(v2 i hi).1.2.2.2.2, (o1.2.2 i hi).1.2.1⟩) (by omega) (Nat.le_refl N) o1.2.1 (fun i _ hi e V hV => by
        have := c_nao o1 v2 o2 (fun i hi => (wg i hi).2.2.1) (fun u hu => (hs u hu).2) 6 i V hi (by have := (o1.2.2 i hi).1.2.1; omega) hV
        rw [e] at this
        exact this) (fun i _ hi => ndS_r o1 16 i (by have := o1.1; omega) hi) hv
      have mk' : f_Mo_neededFromN 18 A P 0 (N : Int) n = some (ndB c (ndS c sE 16) 16 0 N n, A) := mk
      have ck' : f_Prog_neededAhead (f_Prog_naoN 6) C (aPr C x P) 0 (N : Int) n 0 = some (ndB c (ndS c sE 16) 16 0 N n, C) := ck
      refine ⟨ndB c (ndS c sE 16) 16 0 N n, ?_, ?_⟩
      · rw [if_pos (show 0 ≤ (P : Int) ∧ (P : Int) < ((6 : Nat) : Int) by omega), if_pos q3]
        show Option.bind (f_Prog_neededFrom C (aPr C x P) 0 (C 2 (aPr C x P) 1) n) _ = _
        unfold f_Prog_neededFrom
        rw [v1, ck', obind, obind]
      · rw [if_pos (show 0 ≤ (P : Int) ∧ (P : Int) < ((6 : Nat) : Int) by omega), w1, mk', obind]
    · rw [if_neg q2, if_pos (show g32 (0 : Int) by decide), if_pos rfl, if_pos (show g32 (0 : Int) by decide), if_pos rfl]
      exact ⟨_, rfl, rfl⟩
  · rw [if_neg q1, if_pos (show g32 (0 : Int) by decide), if_pos rfl, if_pos (show g32 (0 : Int) by decide), if_pos rfl]
    exact ⟨_, rfl, rfl⟩
end SEE2
section NDF9
variable {D : va_G} {G : tG} {ad : mAd} {C A : mA} {w : jW} {x : Nat}
theorem b9_needed (l : Launch) (B : Nat) (H0 : Heap) (p n : Int32) (hw : hW D G C w) (gx : G x = some 8) (hR : R9 x C A) (hT : mTy A) (hI : mI A) (hS : mStr D ad) : ∃ z B9, cFace9 l D B H0 y_CS_needed b_CS_needed 4 40 1189 [.ref x, .int p, .int n] G w x z B9 ∧ ∀ w1, mW D ad A w1 → mFace9 l D B H0 y_Mo_needed b_Mo_needed 3 910 23500 [.ref (ad 0 0), .int p, .int n] ad w1 x z B9 := by
  obtain ⟨z, h1, h2⟩ := needed9_alike (p := p.toInt) (n := n.toInt) hR (ri p) (ri n)
  have eC : ∀ (ad : mAd) (f k : Nat), mSt ad [vr f k, vi p.toInt, vi n.toInt] = [.ref (ad f k), .int p, .int n] := fun ad f k => by
    show [Value.ref (ad f k), mc ad (vi p.toInt), mc ad (vi n.toInt)] = _
    simp only [ms_i]
  exact ⟨z, A, cF9 (hx_CS_needed l D B H0 G C x p.toInt n.toInt gx _ _ h1) hw (eC hid 8 x) hR, fun w1 hm => mF9 (q_neededF l D B H0 ad A hT p.toInt n.toInt (ri p) (ri n) hI) (fun v9 A9 h => by
    obtain ⟨z9, -, hT9, -, -, hI9⟩ := h
    exact ⟨hT9, hI9⟩) (x_Mo_needed l D B H0 ad A p.toInt n.toInt hS _ _ h2) (by decide) (by decide) (eC ad 0 0) w1 hm⟩
end NDF9
