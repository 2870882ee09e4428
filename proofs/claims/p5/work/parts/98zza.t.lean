/-! BITS and TURNS of the reference (own work) -/
theorem kBt_pos {a : Int} (h : 0 < kBt a) : a = 2 ∨ a = 4 ∨ a = 8 ∨ a = 16 := by
  unfold kBt at h
  by_cases h1 : a = 2
  · exact Or.inl h1
  rw [if_neg h1] at h
  by_cases h2 : a = 4
  · exact Or.inr (Or.inl h2)
  rw [if_neg h2] at h
  by_cases h3 : a = 8
  · exact Or.inr (Or.inr (Or.inl h3))
  rw [if_neg h3] at h
  by_cases h4 : a = 16
  · exact Or.inr (Or.inr (Or.inr h4))
  rw [if_neg h4] at h
  exact absurd h (by decide)
theorem m_ntz {A : mA} {a : Int} (h : 0 < kBt a) : f_JI_ntz A a = some (kBt a, A) := by
  rcases kBt_pos h with rfl | rfl | rfl | rfl
  · unfold f_JI_ntz
    rw [if_pos (by decide +kernel), if_pos (by decide +kernel), if_pos (by decide +kernel), if_pos (by decide +kernel), if_pos (by decide +kernel), show (1 + (iUsh (iAnd (iXor 2 (-1)) (2 - 1)) 1) : Int) = kBt 2 by decide +kernel]
  · unfold f_JI_ntz
    rw [if_pos (by decide +kernel), if_pos (by decide +kernel), if_pos (by decide +kernel), if_pos (by decide +kernel), if_pos (by decide +kernel), show (1 + (iUsh (iAnd (iXor 4 (-1)) (4 - 1)) 1) : Int) = kBt 4 by decide +kernel]
  · unfold f_JI_ntz
    rw [if_pos (by decide +kernel), if_pos (by decide +kernel), if_pos (by decide +kernel), if_pos (by decide +kernel), if_neg (by decide +kernel), show (3 + (iUsh (iUsh (iAnd (iXor 8 (-1)) (8 - 1)) 2) 1) : Int) = kBt 8 by decide +kernel]
  · unfold f_JI_ntz
    rw [if_pos (by decide +kernel), if_pos (by decide +kernel), if_pos (by decide +kernel), if_pos (by decide +kernel), if_neg (by decide +kernel), show (3 + (iUsh (iUsh (iAnd (iXor 16 (-1)) (16 - 1)) 2) 1) : Int) = kBt 16 by decide +kernel]
theorem getD_lt {α : Type} {x : List α} {j : Nat} {d : α} (h : j < x.length) : x.getD j d = x[j] := by
  rw [List.getD_eq_getElem?_getD, List.getElem?_eq_getElem h]
  rfl
theorem kSumW_drop {x : List (Int × Int)} {j : Nat} (h : j < x.length) : kSumW (x.drop j) = (x.getD j (0, 0)).2 + kSumW (x.drop (j + 1)) := by
  rw [List.drop_eq_getElem_cons h, getD_lt h]
  unfold kSumW
  rw [List.map_cons, List.sum_cons]
theorem kSumW_end {x : List (Int × Int)} {j : Nat} (h : x.length ≤ j) : kSumW (x.drop j) = 0 := by
  rw [List.drop_eq_nil_of_le h]
  rfl
section MB
variable {P i n : Nat} {M : mA} {x : List (Int × Int)}
theorem m_lotsAll5 (hP : P < 6) (hi : i < 16) (h36 : M 36 P i = x.length) (h40 : M 40 P i = n) (hl : lotsM M P n x) (h120 : n + x.length ≤ 120) : ∀ (r fuel k : Nat) (acc : Int), k + r = x.length → r < fuel → f_Mo_lotsAll_5 fuel M P i acc k = some (acc + kSumW (x.drop k), M) := by
  intro r
  induction r with
  | zero =>
    intro fuel k acc h1 h2
    obtain ⟨fuel, rfl⟩ : ∃ q, fuel = q + 1 := ⟨fuel - 1, by omega⟩
    rw [f_Mo_lotsAll_5, if_pos (show 0 ≤ (P : Int) ∧ (P : Int) < ((6 : Nat) : Int) by omega), if_pos (show 0 ≤ (i : Int) ∧ (i : Int) < ((16 : Nat) : Int) by omega), if_pos (show g32 (k : Int) by unfold g32; omega), Int.toNat_natCast, Int.toNat_natCast, h36, if_pos (show g32 _ by unfold g32; omega), if_pos (by omega), kSumW_end (by omega), Int.add_zero]
  | succ r ih =>
    intro fuel k acc h1 h2
    obtain ⟨fuel, rfl⟩ : ∃ q, fuel = q + 1 := ⟨fuel - 1, by omega⟩
    have e9 : ((n : Int) + (k : Int)).toNat = n + k := by omega
    rw [f_Mo_lotsAll_5, if_pos (show 0 ≤ (P : Int) ∧ (P : Int) < ((6 : Nat) : Int) by omega), if_pos (show 0 ≤ (i : Int) ∧ (i : Int) < ((16 : Nat) : Int) by omega), if_pos (show g32 (k : Int) by unfold g32; omega), Int.toNat_natCast, Int.toNat_natCast, h36, if_pos (show g32 _ by unfold g32; omega), if_neg (by omega), h40, if_pos (show 0 ≤ (n : Int) + (k : Int) ∧ (n : Int) + (k : Int) < ((120 : Nat) : Int) by omega), e9, (hl k (by omega)).2]
    have := ih fuel (k + 1) (acc + (x.getD k (0, 0)).2) (by omega) (by omega)
    rw [kSumW_drop (show k < x.length by omega), ← Int.add_assoc]
    exact this
theorem m_lotsAll (hP : P < 6) (hi : i < 16) (h36 : M 36 P i = x.length) (h40 : M 40 P i = n) (hl : lotsM M P n x) (h120 : n + x.length ≤ 120) (h8 : x.length ≤ 8) : f_Mo_lotsAll M P i = some (kSumW x, M) := by
  have := m_lotsAll5 hP hi h36 h40 hl h120 x.length 20 0 0 (by omega) (by omega)
  rw [List.drop_zero, Int.zero_add] at this
  exact this
end MB
/-- what the reference has of a text's steps -/
def mTx (P : Nat) (M : mA) (c : Nat → kS) (N : Nat) : Prop := P < 6 ∧ (∀ i, i < N → mIs P M i (c i)) ∧ M 0 0 29 ≤ 120
section MB2
variable {P N : Nat} {M : mA} {c : Nat → kS} {L : Int}
theorem m_bits6 (hP : P < 6) {bst : mA → Int → Int → Option (Int × mA)} {v : Nat → Int} {N : Nat} (hN : N ≤ 16) {lo : Nat} (hb : ∀ i : Nat, lo ≤ i → i < N → bst M P i = some (v i, M)) (h37 : ∀ i, i < N → M 37 P i = ((i + sI (c i) : Nat) : Int)) : ∀ (n fuel a b : Nat) (acc : Int), lo ≤ a → b ≤ N → tl c L n a b → n < fuel → f_Mo_bitsOf_6 bst fuel M P b acc a = some (acc + tsm v c n a b, M) := by
  intro n
  induction n with
  | zero =>
    intro fuel a b acc hlo hbN h hf
    obtain ⟨fuel, rfl⟩ : ∃ q, fuel = q + 1 := ⟨fuel - 1, by omega⟩
    have h : a = b := h
    rw [h, tsm_nil, f_Mo_bitsOf_6, if_pos (show g32 (b : Int) by unfold g32; omega), if_pos (show g32 (b : Int) by unfold g32; omega), if_pos (Int.le_refl _), Int.add_zero]
  | succ n ih =>
    intro fuel a b acc hlo hbN h hf
    obtain ⟨fuel, rfl⟩ : ∃ q, fuel = q + 1 := ⟨fuel - 1, by omega⟩
    rcases h with h | ⟨h1, h2, h3, h4, h5, h6⟩
    · rw [h, tsm_nil, f_Mo_bitsOf_6, if_pos (show g32 (b : Int) by unfold g32; omega), if_pos (show g32 (b : Int) by unfold g32; omega), if_pos (Int.le_refl _), Int.add_zero]
    · rw [tsm, if_pos h1, f_Mo_bitsOf_6, if_pos (show g32 (a : Int) by unfold g32; omega), if_pos (show g32 (b : Int) by unfold g32; omega), if_neg (by omega), hb a hlo (by omega), obind, if_pos (show 0 ≤ (P : Int) ∧ (P : Int) < ((6 : Nat) : Int) by omega), if_pos (show 0 ≤ (a : Int) ∧ (a : Int) < ((16 : Nat) : Int) by omega)]
      show f_Mo_bitsOf_6 bst fuel M P b (acc + v a) (M 37 (P : Int).toNat (a : Int).toNat) = _
      rw [Int.toNat_natCast, Int.toNat_natCast, h37 a (by omega), ih fuel _ _ _ (by omega) hbN h6 (by omega), Int.add_assoc]
theorem m_turns6 (hP : P < 6) {bst : mA → Int → Int → Option (Int × mA)} {v : Nat → Int} {N : Nat} (hN : N ≤ 16) {lo : Nat} (hb : ∀ i : Nat, lo ≤ i → i < N → bst M P i = some (v i, M)) (h37 : ∀ i, i < N → M 37 P i = ((i + sI (c i) : Nat) : Int)) : ∀ (n fuel a b : Nat) (acc : Int), lo ≤ a → b ≤ N → tl c L n a b → n < fuel → f_Mo_turnsOf_6 bst fuel M P b acc a = some (acc + tsm v c n a b, M) := by
  intro n
  induction n with
  | zero =>
    intro fuel a b acc hlo hbN h hf
    obtain ⟨fuel, rfl⟩ : ∃ q, fuel = q + 1 := ⟨fuel - 1, by omega⟩
    have h : a = b := h
    rw [h, tsm_nil, f_Mo_turnsOf_6, if_pos (show g32 (b : Int) by unfold g32; omega), if_pos (show g32 (b : Int) by unfold g32; omega), if_pos (Int.le_refl _), Int.add_zero]
  | succ n ih =>
    intro fuel a b acc hlo hbN h hf
    obtain ⟨fuel, rfl⟩ : ∃ q, fuel = q + 1 := ⟨fuel - 1, by omega⟩
    rcases h with h | ⟨h1, h2, h3, h4, h5, h6⟩
    · rw [h, tsm_nil, f_Mo_turnsOf_6, if_pos (show g32 (b : Int) by unfold g32; omega), if_pos (show g32 (b : Int) by unfold g32; omega), if_pos (Int.le_refl _), Int.add_zero]
    · rw [tsm, if_pos h1, f_Mo_turnsOf_6, if_pos (show g32 (a : Int) by unfold g32; omega), if_pos (show g32 (b : Int) by unfold g32; omega), if_neg (by omega), hb a hlo (by omega), obind, if_pos (show 0 ≤ (P : Int) ∧ (P : Int) < ((6 : Nat) : Int) by omega), if_pos (show 0 ≤ (a : Int) ∧ (a : Int) < ((16 : Nat) : Int) by omega)]
      show f_Mo_turnsOf_6 bst fuel M P b (acc + v a) (M 37 (P : Int).toNat (a : Int).toNat) = _
      rw [Int.toNat_natCast, Int.toNat_natCast, h37 a (by omega), ih fuel _ _ _ (by omega) hbN h6 (by omega), Int.add_assoc]
theorem m_bitsN {bE : Int → Int} (ht : mTx P M c N) (ho : okN P c N) (hE : ∀ u : Nat, u < P → M 6 0 u = bE u ∧ 0 ≤ bE u ∧ bE u ≤ 50) : ∀ (n i : Nat), N ≤ n + i → i < N → f_Mo_bitsOfStepN n M P i = some (gv (Fb c bE) 16 i, M) := by
  have hE2 : ∀ u, 0 ≤ u → u < (P : Int) → 0 ≤ bE u ∧ bE u ≤ 50 := fun u h1 h2 => by
    have := hE u.toNat (by omega)
    rw [Int.toNat_of_nonneg h1] at this
    exact this.2
  obtain ⟨hP, hm, h29⟩ := ht
  have h37 : ∀ i, i < N → M 37 P i = ((i + sI (c i) : Nat) : Int) := fun i hi => (hm i hi).2.1
  have hN := ho.1
  have bd : ∀ {L : Int} {a b : Nat}, tl c L 16 a b → b ≤ N → 0 ≤ tsm (gv (Fb c bE) 16) c 16 a b ∧ tsm (gv (Fb c bE) 16) c 16 a b ≤ 16 * 400221 := fun {L a b} t hb => by
    obtain ⟨q1, q2⟩ := tsm_bd (v := gv (Fb c bE) 16) (K := 400221) _ _ _ t (fun j p1 p2 p3 => by
      obtain ⟨r1, r2⟩ := bits_bd ho hE2 (show j < N by omega)
      have := (kW_r (ho.2.2 j (by omega)).1.2.1).2
      refine ⟨r1, Int.le_trans r2 (Int.mul_le_mul_of_nonneg_left this (by omega))⟩)
    have := tl_le _ _ _ t
    omega
  intro n
  induction n with
  | zero => intro i h1 h2; omega
  | succ n ih =>
    intro i h1 h2
    obtain ⟨⟨hK, hV, hI, h3, h4, h5, h0, -⟩, h9⟩ := ho.2.2 i h2
    obtain ⟨⟨⟨m1, m2, m3⟩, -, -, m6⟩, m7, m8⟩ := hm i h2
    have hb : ∀ j : Nat, i + 1 ≤ j → j < N → f_Mo_bitsOfStepN n M P j = some (gv (Fb c bE) 16 j, M) := fun j q1 q2 => ih j (by omega) q2
    rw [gv_eq (Fb_c ho) hN h2]
    show f_Mo_bitsOfStep (f_Mo_bitsOfStepN n) M P i = _
    unfold f_Mo_bitsOfStep
    simp only [Int.toNat_natCast]
    rw [if_pos (show 0 ≤ (P : Int) ∧ (P : Int) < ((6 : Nat) : Int) by omega), if_pos (show 0 ≤ (i : Int) ∧ (i : Int) < ((16 : Nat) : Int) by omega), m1, if_pos (show g32 _ by unfold g32; omega)]
    by_cases c0 : sK (c i) = 0
    · obtain ⟨⟨k1, k2⟩, k3, k4, k5⟩ := h0 c0
      obtain ⟨n0, l1, l2, l3⟩ := m6 c0
      rw [if_pos c0, Fb_0 c0, m_lotsAll hP (by omega) (m3.trans k2) l1 l3 (by omega) k4, obind]
      show Option.bind (f_JI_ntz M (kSumW (sL (c i)))) _ = _
      rw [m_ntz k1, obind]
    rw [if_neg c0]
    by_cases c1 : sK (c i) = 1
    · rw [if_pos c1, Fb_o (by omega) (by omega) (by omega) (by omega)]
    rw [if_neg c1]
    by_cases c2 : sK (c i) = 2
    · rw [if_pos c2, Fb_o (by omega) (by omega) (by omega) (by omega)]
    rw [if_neg c2]
    by_cases c3 : sK (c i) = 3
    · obtain ⟨-, o1, o2, t1, t2⟩ := h3 c3
      have b1 := m_bits6 (bst := f_Mo_bitsOfStepN n) (v := gv (Fb c bE) 16) hP hN hb h37 16 20 (i + 1) (i + sO (c i)) 0 (Nat.le_refl _) (by omega) t1 (by omega)
      have b2 := m_bits6 (bst := f_Mo_bitsOfStepN n) (v := gv (Fb c bE) 16) hP hN hb h37 16 20 (i + sO (c i)) (i + sI (c i)) 0 (by omega) h9 t2 (by omega)
      rw [Int.zero_add] at b1 b2
      have b1' : f_Mo_bitsOf (f_Mo_bitsOfStepN n) M P ((i : Int) + 1) (M 38 P i) = some (tsm (gv (Fb c bE) 16) c 16 (i + 1) (i + sO (c i)), M) := by
        rw [m8]
        exact b1
      have b2' : f_Mo_bitsOf (f_Mo_bitsOfStepN n) M P (M 38 P i) (M 37 P i) = some (tsm (gv (Fb c bE) 16) c 16 (i + sO (c i)) (i + sI (c i)), M) := by
        rw [m8, m7]
        exact b2
      have r1 := bd t1 (by omega)
      have r2 := bd t2 h9
      rw [if_pos c3, Fb_3 c3, b1', obind]
      show Option.bind (f_Mo_bitsOf (f_Mo_bitsOfStepN n) M P (M 38 P i) (M 37 P i)) _ = _
      rw [b2', obind, if_pos (show g32 _ by unfold g32; dsimp only; omega), if_pos (show g32 _ by unfold g32; dsimp only; omega)]
    rw [if_neg c3]
    by_cases c4 : sK (c i) = 4
    · obtain ⟨-, -, t1⟩ := h4 c4
      have b1 := m_bits6 (bst := f_Mo_bitsOfStepN n) (v := gv (Fb c bE) 16) hP hN hb h37 16 20 (i + 1) (i + sI (c i)) 0 (Nat.le_refl _) h9 t1 (by omega)
      rw [Int.zero_add] at b1
      have b1' : f_Mo_bitsOf (f_Mo_bitsOfStepN n) M P ((i : Int) + 1) (M 37 P i) = some (tsm (gv (Fb c bE) 16) c 16 (i + 1) (i + sI (c i)), M) := by
        rw [m7]
        exact b1
      rw [if_pos c4, Fb_4 c4, b1', obind, m3]
    rw [if_neg c4, if_pos (show sK (c i) = 5 by omega), Fb_5 (show sK (c i) = 5 by omega)]
    obtain ⟨u1, u2⟩ := h5 (by omega)
    rw [m3, if_pos (show 0 ≤ sU (c i) ∧ sU (c i) < ((6 : Nat) : Int) by omega), (hE (sU (c i)).toNat (by omega)).1, Int.toNat_of_nonneg u1]
theorem m_turnsN {tE : Int → Int} (ht : mTx P M c N) (ho : okN P c N) (hE : ∀ u : Nat, u < P → M 7 0 u = tE u) : ∀ (n i : Nat), N ≤ n + i → i < N → f_Mo_turnsOfStepN n M P i = some (gv (Ft c tE) 16 i, M) := by
  obtain ⟨hP, hm, h29⟩ := ht
  have h37 : ∀ i, i < N → M 37 P i = ((i + sI (c i) : Nat) : Int) := fun i hi => (hm i hi).2.1
  have hN := ho.1
  intro n
  induction n with
  | zero => intro i h1 h2; omega
  | succ n ih =>
    intro i h1 h2
    obtain ⟨⟨hK, hV, hI, h3, h4, h5, h0, -⟩, h9⟩ := ho.2.2 i h2
    obtain ⟨⟨⟨m1, m2, m3⟩, -, -, m6⟩, m7, m8⟩ := hm i h2
    have hb : ∀ j : Nat, i + 1 ≤ j → j < N → f_Mo_turnsOfStepN n M P j = some (gv (Ft c tE) 16 j, M) := fun j q1 q2 => ih j (by omega) q2
    rw [gv_eq (Ft_c ho) hN h2]
    show f_Mo_turnsOfStep (f_Mo_turnsOfStepN n) M P i = _
    unfold f_Mo_turnsOfStep
    simp only [Int.toNat_natCast]
    rw [if_pos (show 0 ≤ (P : Int) ∧ (P : Int) < ((6 : Nat) : Int) by omega), if_pos (show 0 ≤ (i : Int) ∧ (i : Int) < ((16 : Nat) : Int) by omega), m1, if_pos (show g32 _ by unfold g32; omega)]
    by_cases c3 : sK (c i) = 3
    · obtain ⟨-, o1, o2, t1, t2⟩ := h3 c3
      have ta := tl_app _ _ _ _ _ t1 t2
      have tt := tl_trim _ _ _ ta
      have b1 := m_turns6 (bst := f_Mo_turnsOfStepN n) (v := gv (Ft c tE) 16) hP hN hb h37 _ 20 (i + 1) (i + sI (c i)) 0 (Nat.le_refl _) h9 tt (by omega)
      rw [Int.zero_add, tsm_any tt ta, tsm_app _ _ _ _ _ t1 t2] at b1
      have b1' : f_Mo_turnsOf (f_Mo_turnsOfStepN n) M P ((i : Int) + 1) (M 37 P i) = some (tsm (gv (Ft c tE) 16) c 16 (i + 1) (i + sO (c i)) + tsm (gv (Ft c tE) 16) c 16 (i + sO (c i)) (i + sI (c i)), M) := by
        rw [m7]
        exact b1
      rw [if_pos c3, Ft_3 c3, b1', obind, Int.add_assoc]
    rw [if_neg c3]
    by_cases c4 : sK (c i) = 4
    · obtain ⟨-, -, t1⟩ := h4 c4
      have b1 := m_turns6 (bst := f_Mo_turnsOfStepN n) (v := gv (Ft c tE) 16) hP hN hb h37 16 20 (i + 1) (i + sI (c i)) 0 (Nat.le_refl _) h9 t1 (by omega)
      rw [Int.zero_add] at b1
      have b1' : f_Mo_turnsOf (f_Mo_turnsOfStepN n) M P ((i : Int) + 1) (M 37 P i) = some (tsm (gv (Ft c tE) 16) c 16 (i + 1) (i + sI (c i)), M) := by
        rw [m7]
        exact b1
      rw [if_pos c4, Ft_4 c4, b1', obind, m3]
    rw [if_neg c4]
    by_cases c5 : sK (c i) = 5
    · obtain ⟨u1, u2⟩ := h5 c5
      rw [if_pos c5, Ft_5 c5, m3, if_pos (show 0 ≤ sU (c i) ∧ sU (c i) < ((6 : Nat) : Int) by omega), hE (sU (c i)).toNat (by omega), Int.toNat_of_nonneg u1]
    · rw [if_neg c5, Ft_o c3 c4 c5]
end MB2
