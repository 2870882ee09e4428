/-! sums over rows of steps, and what a step comes to by its blocks (own work) -/
def tsm (v : Nat → Int) (c : Nat → kS) : Nat → Nat → Nat → Int
  | 0, _, _ => 0
  | n + 1, a, b => if a < b then v a + tsm v c n (a + sI (c a)) b else 0
theorem tsm_congr {v v' : Nat → Int} {c : Nat → kS} {L : Int} : ∀ n a b, tl c L n a b → (∀ j, a ≤ j → j < b → v j = v' j) → tsm v c n a b = tsm v' c n a b := by
  intro n
  induction n with
  | zero => intro a b _ _; rfl
  | succ n ih =>
    intro a b h hv
    unfold tsm
    rcases h with h | ⟨h1, h2, h3, h4, h5, h6⟩
    · rw [if_neg (by omega), if_neg (by omega)]
    · rw [if_pos h1, if_pos h1, hv a (Nat.le_refl a) h1, ih _ _ h6 (fun j q1 q2 => hv j (by omega) q2)]
theorem tsm_nil {v : Nat → Int} {c : Nat → kS} {n a : Nat} : tsm v c n a a = 0 := by
  cases n with
  | zero => rfl
  | succ n => unfold tsm; rw [if_neg (Nat.lt_irrefl a)]
theorem tsm_up {v : Nat → Int} {c : Nat → kS} {L : Int} : ∀ n a b, tl c L n a b → tsm v c (n + 1) a b = tsm v c n a b := by
  intro n
  induction n with
  | zero =>
    intro a b h
    have h : a = b := h
    rw [h, tsm_nil, tsm_nil]
  | succ n ih =>
    intro a b h
    rcases h with h | ⟨h1, h2, h3, h4, h5, h6⟩
    · rw [h, tsm_nil, tsm_nil]
    · rw [tsm, if_pos h1, ih _ _ h6, tsm, if_pos h1]
theorem tsm_add {v : Nat → Int} {c : Nat → kS} {L : Int} {n a b : Nat} (h : tl c L n a b) : ∀ k, tsm v c (n + k) a b = tsm v c n a b := by
  intro k
  induction k with
  | zero => rfl
  | succ k ih => rw [← ih]; exact tsm_up _ _ _ (tl_add h k)
theorem tsm_any {v : Nat → Int} {c : Nat → kS} {L L' : Int} {n k a b : Nat} (h : tl c L n a b) (h' : tl c L' k a b) : tsm v c n a b = tsm v c k a b := by
  rw [← tsm_add h k, ← tsm_add h' n, Nat.add_comm]
theorem tsm_app {v : Nat → Int} {c : Nat → kS} {L : Int} : ∀ n k a b e, tl c L n a b → tl c L k b e → tsm v c (n + k) a e = tsm v c n a b + tsm v c k b e := by
  intro n
  induction n with
  | zero =>
    intro k a b e h h'
    have h : a = b := h
    subst h
    rw [Nat.zero_add, tsm_nil, Int.zero_add]
  | succ n ih =>
    intro k a b e h h'
    have ek : n + 1 + k = n + k + 1 := by omega
    rcases h with h | ⟨h1, h2, h3, h4, h5, h6⟩
    · subst h
      rw [tsm_nil, Int.zero_add, Nat.add_comm, tsm_add h']
    · have := tl_le _ _ _ h'
      rw [ek, tsm, tsm, if_pos h1, if_pos (by omega), ih _ _ _ _ h6 h', Int.add_assoc]
theorem tsm_bd {v : Nat → Int} {c : Nat → kS} {L K : Int} : ∀ n a b, tl c L n a b → (∀ j, a ≤ j → j < b → sV (c j) = L → 0 ≤ v j ∧ v j ≤ sI (c j) * K) → 0 ≤ tsm v c n a b ∧ tsm v c n a b ≤ ((b : Int) - a) * K := by
  intro n
  induction n with
  | zero =>
    intro a b h _
    have h : a = b := h
    rw [h, tsm_nil]
    simp
  | succ n ih =>
    intro a b h hv
    rcases h with h | ⟨h1, h2, h3, h4, h5, h6⟩
    · rw [h, tsm_nil]
      simp
    · rw [tsm, if_pos h1]
      obtain ⟨a1, a2⟩ := hv a (Nat.le_refl a) h1 h2
      obtain ⟨b1, b2⟩ := ih _ _ h6 (fun j q1 q2 q3 => hv j (by omega) q2 q3)
      refine ⟨by omega, ?_⟩
      have e : ((b : Int) - a) * K = sI (c a) * K + ((b : Int) - ((a + sI (c a) : Nat) : Int)) * K := by
        rw [← Int.add_mul]
        congr 1
        omega
      rw [e]
      omega
/-- by what is in it -/
def gv (F : (Nat → Int) → Nat → Int) : Nat → Nat → Int
  | 0, _ => 0
  | n + 1, i => F (gv F n) i
theorem gv_st {F : (Nat → Int) → Nat → Int} {N : Nat} (hF : ∀ v v' i, i < N → (∀ j, i < j → j < N → v j = v' j) → F v i = F v' i) : ∀ n i, N ≤ n + i → i < N → gv F (n + 1) i = gv F n i := by
  intro n
  induction n with
  | zero => intro i h1 h2; omega
  | succ n ih =>
    intro i h1 h2
    show F (gv F (n + 1)) i = F (gv F n) i
    exact hF _ _ i h2 (fun j q1 q2 => ih j (by omega) q2)
theorem gv_eq {F : (Nat → Int) → Nat → Int} {N : Nat} (hF : ∀ v v' i, i < N → (∀ j, i < j → j < N → v j = v' j) → F v i = F v' i) (hN : N ≤ 16) {i : Nat} (hi : i < N) : gv F 16 i = F (gv F 16) i := by
  rw [← gv_st hF 16 i (by omega) hi]
  rfl
theorem gv_un {F : (Nat → Int) → Nat → Int} {N : Nat} (hF : ∀ v v' i, i < N → (∀ j, i < j → j < N → v j = v' j) → F v i = F v' i) (hN : N ≤ 16) {v : Nat → Int} (hv : ∀ i, i < N → v i = F v i) : ∀ k i, N ≤ k + i → i < N → v i = gv F 16 i := by
  intro k
  induction k with
  | zero => intro i h1 h2; omega
  | succ k ih =>
    intro i h1 h2
    rw [hv i h2, gv_eq hF hN h2]
    exact hF _ _ i h2 (fun j q1 q2 => ih j (by omega) q2)
/-- BITS of a step, TURNS of a step, by those of the steps in it -/
def Fb (c : Nat → kS) (bE : Int → Int) (v : Nat → Int) (i : Nat) : Int :=
  if sK (c i) = 0 then kBt (kSumW (sL (c i)))
  else if sK (c i) = 3 then max (tsm v c 16 (i + 1) (i + sO (c i))) (tsm v c 16 (i + sO (c i)) (i + sI (c i)))
  else if sK (c i) = 4 then sU (c i) * tsm v c 16 (i + 1) (i + sI (c i))
  else if sK (c i) = 5 then bE (sU (c i)) else 0
def Ft (c : Nat → kS) (tE : Int → Int) (v : Nat → Int) (i : Nat) : Int :=
  if sK (c i) = 3 then 1 + tsm v c 16 (i + 1) (i + sO (c i)) + tsm v c 16 (i + sO (c i)) (i + sI (c i))
  else if sK (c i) = 4 then 1 + sU (c i) * tsm v c 16 (i + 1) (i + sI (c i))
  else if sK (c i) = 5 then 1 + tE (sU (c i)) else 1
section FL9
variable {c : Nat → kS} {bE : Int → Int} {v : Nat → Int} {i : Nat}
theorem Fb_0 (h : sK (c i) = 0) : Fb c bE v i = kBt (kSumW (sL (c i))) := if_pos h
theorem Fb_3 (h : sK (c i) = 3) : Fb c bE v i = max (tsm v c 16 (i + 1) (i + sO (c i))) (tsm v c 16 (i + sO (c i)) (i + sI (c i))) := by
  unfold Fb
  rw [if_neg (by omega), if_pos h]
theorem Fb_4 (h : sK (c i) = 4) : Fb c bE v i = sU (c i) * tsm v c 16 (i + 1) (i + sI (c i)) := by
  unfold Fb
  rw [if_neg (by omega), if_neg (by omega), if_pos h]
theorem Fb_5 (h : sK (c i) = 5) : Fb c bE v i = bE (sU (c i)) := by
  unfold Fb
  rw [if_neg (by omega), if_neg (by omega), if_neg (by omega), if_pos h]
theorem Fb_o (h0 : sK (c i) ≠ 0) (h3 : sK (c i) ≠ 3) (h4 : sK (c i) ≠ 4) (h5 : sK (c i) ≠ 5) : Fb c bE v i = 0 := by
  unfold Fb
  rw [if_neg h0, if_neg h3, if_neg h4, if_neg h5]
theorem Ft_3 (h : sK (c i) = 3) : Ft c bE v i = 1 + tsm v c 16 (i + 1) (i + sO (c i)) + tsm v c 16 (i + sO (c i)) (i + sI (c i)) := if_pos h
theorem Ft_4 (h : sK (c i) = 4) : Ft c bE v i = 1 + sU (c i) * tsm v c 16 (i + 1) (i + sI (c i)) := by
  unfold Ft
  rw [if_neg (by omega), if_pos h]
theorem Ft_5 (h : sK (c i) = 5) : Ft c bE v i = 1 + bE (sU (c i)) := by
  unfold Ft
  rw [if_neg (by omega), if_neg (by omega), if_pos h]
theorem Ft_o (h3 : sK (c i) ≠ 3) (h4 : sK (c i) ≠ 4) (h5 : sK (c i) ≠ 5) : Ft c bE v i = 1 := by
  unfold Ft
  rw [if_neg h3, if_neg h4, if_neg h5]
end FL9
/-- all steps of a text below N -/
def okN (others : Int) (c : Nat → kS) (N : Nat) : Prop := N ≤ 16 ∧ tl c 0 16 0 N ∧ ∀ i, i < N → inn others c i ∧ i + sI (c i) ≤ N
section FV
variable {others : Int} {c : Nat → kS} {N : Nat}
theorem Fb_c (h : okN others c N) {bE : Int → Int} : ∀ v v' i, i < N → (∀ j, i < j → j < N → v j = v' j) → Fb c bE v i = Fb c bE v' i := fun v v' i hi hv => by
  obtain ⟨⟨-, -, h1, h3, h4, -⟩, h9⟩ := h.2.2 i hi
  unfold Fb
  by_cases c3 : sK (c i) = 3
  · obtain ⟨-, o1, o2, t1, t2⟩ := h3 c3
    rw [if_pos c3, if_pos c3, tsm_congr _ _ _ t1 (fun j q1 q2 => hv j (by omega) (by omega)), tsm_congr _ _ _ t2 (fun j q1 q2 => hv j (by omega) (by omega))]
  rw [if_neg c3, if_neg c3]
  by_cases c4 : sK (c i) = 4
  · obtain ⟨-, -, t1⟩ := h4 c4
    rw [if_pos c4, if_pos c4, tsm_congr _ _ _ t1 (fun j q1 q2 => hv j (by omega) (by omega))]
  rw [if_neg c4, if_neg c4]
theorem Ft_c (h : okN others c N) {tE : Int → Int} : ∀ v v' i, i < N → (∀ j, i < j → j < N → v j = v' j) → Ft c tE v i = Ft c tE v' i := fun v v' i hi hv => by
  obtain ⟨⟨-, -, h1, h3, h4, -⟩, h9⟩ := h.2.2 i hi
  unfold Ft
  by_cases c3 : sK (c i) = 3
  · obtain ⟨-, o1, o2, t1, t2⟩ := h3 c3
    rw [if_pos c3, if_pos c3, tsm_congr _ _ _ t1 (fun j q1 q2 => hv j (by omega) (by omega)), tsm_congr _ _ _ t2 (fun j q1 q2 => hv j (by omega) (by omega))]
  rw [if_neg c3, if_neg c3]
  by_cases c4 : sK (c i) = 4
  · obtain ⟨-, -, t1⟩ := h4 c4
    rw [if_pos c4, if_pos c4, tsm_congr _ _ _ t1 (fun j q1 q2 => hv j (by omega) (by omega))]
  rw [if_neg c4, if_neg c4]
/-- room: by the level -/
def kW (L : Int) : Int := if L = 0 then 400221 else if L = 1 then 44469 else if L = 2 then 4941 else if L = 3 then 549 else 61
theorem kW_s {L : Int} (h : 0 ≤ L ∧ L ≤ 3) : kW L = 9 * kW (L + 1) ∧ 61 ≤ kW (L + 1) := by
  have q : L = 0 ∨ L = 1 ∨ L = 2 ∨ L = 3 := by omega
  rcases q with rfl | rfl | rfl | rfl <;> decide
theorem kW_r {L : Int} (h : 0 ≤ L ∧ L ≤ 4) : 61 ≤ kW L ∧ kW L ≤ 400221 := by
  have q : L = 0 ∨ L = 1 ∨ L = 2 ∨ L = 3 ∨ L = 4 := by omega
  rcases q with rfl | rfl | rfl | rfl | rfl <;> decide
theorem kBt_r (a : Int) : 0 ≤ kBt a ∧ kBt a ≤ 4 := by
  unfold kBt
  by_cases h1 : a = 2
  · rw [if_pos h1]; decide
  rw [if_neg h1]
  by_cases h2 : a = 4
  · rw [if_pos h2]; decide
  rw [if_neg h2]
  by_cases h3 : a = 8
  · rw [if_pos h3]; decide
  rw [if_neg h3]
  by_cases h4 : a = 16
  · rw [if_pos h4]; decide
  rw [if_neg h4]
  decide
theorem gv_bd (h : okN others c N) {v : Nat → Int} (hs : ∀ i, i < N → sK (c i) ≠ 3 → sK (c i) ≠ 4 → 0 ≤ v i ∧ v i ≤ 61) (hv : ∀ i, i < N → sK (c i) = 3 → 0 ≤ v i ∧ v i ≤ 1 + tsm v c 16 (i + 1) (i + sO (c i)) + tsm v c 16 (i + sO (c i)) (i + sI (c i)) ∨ (0 ≤ tsm v c 16 (i + 1) (i + sO (c i)) → 0 ≤ tsm v c 16 (i + sO (c i)) (i + sI (c i)) → 0 ≤ v i ∧ v i ≤ 1 + tsm v c 16 (i + 1) (i + sO (c i)) + tsm v c 16 (i + sO (c i)) (i + sI (c i)))) (hl : ∀ i, i < N → sK (c i) = 4 → v i = sU (c i) * tsm v c 16 (i + 1) (i + sI (c i)) ∨ v i = 1 + sU (c i) * tsm v c 16 (i + 1) (i + sI (c i))) : ∀ k i, N ≤ k + i → i < N → 0 ≤ v i ∧ v i ≤ sI (c i) * kW (sV (c i)) := by
  intro k
  induction k with
  | zero => intro i h1 h2; omega
  | succ k ih =>
    intro i hk hi
    obtain ⟨⟨h0, hV, h1, h3, h4, -⟩, h9⟩ := h.2.2 i hi
    have I1 : (1 : Int) ≤ sI (c i) := by omega
    have kr := kW_r hV
    have m1 : kW (sV (c i)) ≤ sI (c i) * kW (sV (c i)) := by
      have := Int.mul_le_mul_of_nonneg_right I1 (show 0 ≤ kW (sV (c i)) by omega)
      rw [Int.one_mul] at this
      exact this
    by_cases c3 : sK (c i) = 3
    · obtain ⟨L3, o1, o2, t1, t2⟩ := h3 c3
      obtain ⟨s1, s2⟩ := kW_s ⟨hV.1, L3⟩
      obtain ⟨b1, b2⟩ := tsm_bd (v := v) (K := kW (sV (c i) + 1)) _ _ _ t1 (fun j q1 q2 q3 => by rw [← q3]; exact ih j (by omega) (by omega))
      obtain ⟨d1, d2⟩ := tsm_bd (v := v) (K := kW (sV (c i) + 1)) _ _ _ t2 (fun j q1 q2 q3 => by rw [← q3]; exact ih j (by omega) (by omega))
      have hh : 0 ≤ v i ∧ v i ≤ 1 + tsm v c 16 (i + 1) (i + sO (c i)) + tsm v c 16 (i + sO (c i)) (i + sI (c i)) := by
        rcases hv i hi c3 with q | q
        · exact q
        · exact q b1 d1
      refine ⟨hh.1, ?_⟩
      have e : ((i + sO (c i) : Nat) : Int) - ((i + 1 : Nat) : Int) = (sO (c i) : Int) - 1 := by omega
      have e' : ((i + sI (c i) : Nat) : Int) - ((i + sO (c i) : Nat) : Int) = (sI (c i) : Int) - sO (c i) := by omega
      rw [e] at b2
      rw [e'] at d2
      have e2 : ((sO (c i) : Int) - 1) * kW (sV (c i) + 1) + ((sI (c i) : Int) - sO (c i)) * kW (sV (c i) + 1) = ((sI (c i) : Int) - 1) * kW (sV (c i) + 1) := by
        rw [← Int.add_mul]
        congr 1
        omega
      have e3 : ((sI (c i) : Int) - 1) * kW (sV (c i) + 1) ≤ ((sI (c i) : Int) - 1) * kW (sV (c i)) := Int.mul_le_mul_of_nonneg_left (by omega) (by omega)
      have e4 : ((sI (c i) : Int) - 1) * kW (sV (c i)) = sI (c i) * kW (sV (c i)) - kW (sV (c i)) := by
        rw [Int.sub_mul, Int.one_mul]
      omega
    by_cases c4 : sK (c i) = 4
    · obtain ⟨L3, ⟨u1, u2⟩, t1⟩ := h4 c4
      obtain ⟨s1, s2⟩ := kW_s ⟨hV.1, L3⟩
      obtain ⟨b1, b2⟩ := tsm_bd (v := v) (K := kW (sV (c i) + 1)) _ _ _ t1 (fun j q1 q2 q3 => by rw [← q3]; exact ih j (by omega) (by omega))
      have e : ((i + sI (c i) : Nat) : Int) - ((i + 1 : Nat) : Int) = (sI (c i) : Int) - 1 := by omega
      rw [e] at b2
      have p0 : 0 ≤ sU (c i) * tsm v c 16 (i + 1) (i + sI (c i)) := Int.mul_nonneg u1 b1
      have p1 : sU (c i) * tsm v c 16 (i + 1) (i + sI (c i)) ≤ 9 * tsm v c 16 (i + 1) (i + sI (c i)) := Int.mul_le_mul_of_nonneg_right u2 b1
      have e3 : 9 * (((sI (c i) : Int) - 1) * kW (sV (c i) + 1)) = ((sI (c i) : Int) - 1) * kW (sV (c i)) := by
        rw [s1, Int.mul_left_comm]
      have e4 : ((sI (c i) : Int) - 1) * kW (sV (c i)) = sI (c i) * kW (sV (c i)) - kW (sV (c i)) := by
        rw [Int.sub_mul, Int.one_mul]
      rcases hl i hi c4 with q | q
      · rw [q]
        omega
      · rw [q]
        omega
    · obtain ⟨q1, q2⟩ := hs i hi c3 c4
      omega
theorem bits_bd (h : okN others c N) {bE : Int → Int} (hE : ∀ u, 0 ≤ u → u < others → 0 ≤ bE u ∧ bE u ≤ 50) {i : Nat} (hi : i < N) : 0 ≤ gv (Fb c bE) 16 i ∧ gv (Fb c bE) 16 i ≤ sI (c i) * kW (sV (c i)) := by
  have eq : ∀ i, i < N → gv (Fb c bE) 16 i = Fb c bE (gv (Fb c bE) 16) i := fun i hi => gv_eq (Fb_c h) h.1 hi
  generalize gv (Fb c bE) 16 = v at eq ⊢
  refine gv_bd h (fun i hi q3 q4 => ?_) (fun i hi q3 => Or.inr (fun p1 p2 => ?_)) (fun i hi q4 => Or.inl ?_) N i (by omega) hi
  · rw [eq i hi]
    by_cases q0 : sK (c i) = 0
    · rw [Fb_0 q0]
      have := kBt_r (kSumW (sL (c i)))
      omega
    by_cases q5 : sK (c i) = 5
    · rw [Fb_5 q5]
      obtain ⟨u1, u2⟩ := (h.2.2 i hi).1.2.2.2.2.2.1 q5
      have := hE _ u1 u2
      omega
    · rw [Fb_o q0 q3 q4 q5]
      decide
  · rw [eq i hi, Fb_3 q3]
    omega
  · rw [eq i hi, Fb_4 q4]
theorem turns_bd (h : okN others c N) {tE : Int → Int} (hE : ∀ u, 0 ≤ u → u < others → 0 ≤ tE u ∧ tE u ≤ 60) {i : Nat} (hi : i < N) : 0 ≤ gv (Ft c tE) 16 i ∧ gv (Ft c tE) 16 i ≤ sI (c i) * kW (sV (c i)) := by
  have eq : ∀ i, i < N → gv (Ft c tE) 16 i = Ft c tE (gv (Ft c tE) 16) i := fun i hi => gv_eq (Ft_c h) h.1 hi
  generalize gv (Ft c tE) 16 = v at eq ⊢
  refine gv_bd h (fun i hi q3 q4 => ?_) (fun i hi q3 => Or.inr (fun p1 p2 => ?_)) (fun i hi q4 => Or.inr ?_) N i (by omega) hi
  · rw [eq i hi]
    by_cases q5 : sK (c i) = 5
    · rw [Ft_5 q5]
      obtain ⟨u1, u2⟩ := (h.2.2 i hi).1.2.2.2.2.2.1 q5
      have := hE _ u1 u2
      omega
    · rw [Ft_o q3 q4 q5]
      decide
  · rw [eq i hi, Ft_3 q3]
    omega
  · rw [eq i hi, Ft_4 q4]
end FV
