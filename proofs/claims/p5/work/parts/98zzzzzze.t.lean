/-! what tells a sheet: of the reference (own work) -/
theorem mu_self {A : mA} {f a j : Nat} : mu A f a j (A f a j) = A := by
  funext f' a' j'
  by_cases h : f' = f ∧ a' = a ∧ j' = j
  · obtain ⟨rfl, rfl, rfl⟩ := h
    rw [mu_at]
  · rw [mu_ne _ _ (by omega)]
theorem orL_no {B : Nat → Bool} {L : List Nat} (h : ∀ v ∈ L, B v = false) : ∀ z, orL B L z = z := by
  unfold orL
  induction L with
  | nil => intro z; rfl
  | cons a L ih =>
    intro z
    simp only [List.foldl_cons]
    have : orS z (B a) a = z := by
      unfold orS
      rw [h a List.mem_cons_self]
      rfl
    rw [this]
    exact ih (fun v hv => h v (List.mem_cons_of_mem _ hv)) _
section YMA
variable {T : xT} {b : Int → Int} {cnt : Nat} {C A A0 : mA} {x s n : Nat}
theorem soV_cg {A' : mA} (hA : ∀ f a j, f = 12 ∨ f = 49 → A' f a j = A f a j) {o : Option (List xE)} : soV A' s n o = soV A s n o := by
  cases o with
  | none => rfl
  | some l =>
    show (decide (0 < l.length) && decide (otw (otE A' s l n) (A' 12 0 s).toNat 0 = -1)) = (decide (0 < l.length) && decide (otw (otE A s l n) (A 12 0 s).toNat 0 = -1))
    have e : otE A' s l n = otE A s l n := by
      funext j
      show decide (A' 49 s j = hun l n j) = decide (A 49 s j = hun l n j)
      rw [hA 49 s j (Or.inr rfl)]
    rw [e, hA 12 0 s (Or.inl rfl)]
theorem mTab.g {A' : mA} (h : mTab T cnt A) (hT : TB T b cnt) (h5 : ∀ p, A' 5 0 p = A 5 0 p) (h34 : ∀ f p j, 34 ≤ f → f ≤ 46 → A' f p j = A f p j) : mTab T cnt A' := fun p hp => by
  obtain ⟨h1, h2⟩ := h p hp
  obtain ⟨ho, hx, -⟩ := hT.2 p hp
  have := hT.1
  refine ⟨by rw [h5]; exact h1, fun i hi => ?_⟩
  have := ho.1
  exact (h2 i hi).fr (rg9_of (by omega) ho hx hi) (by omega) (fun f j q1 q2 => h34 f p j q1 q2)
theorem m_agn {A' : mA} (hq : oQ A' 1) (h34 : A' 0 0 34 = 0 ∨ A' 0 0 34 = 1) : f_Mo_against A' 1 = some (if A' 0 0 34 = 1 then -6 else if (oC A' 1).length = 0 then -7 else 0, A') := by
  have h1 := hq.1
  have hl : (oC A' 1).length = (A' 1 1 2).toNat := oC_len
  unfold f_Mo_against
  rcases h34 with y | y
  · rw [if_pos (show g32 (A' 0 0 34) by rw [y]; decide), if_pos y, if_neg (show ¬ A' 0 0 34 = 1 by omega), if_pos (show g32 (A' 1 1 2) by unfold g32; omega)]
    by_cases z : A' 1 1 2 = 0
    · rw [if_pos z, if_pos (by omega)]
    · rw [if_neg z, if_neg (by omega)]
  · rw [if_pos (show g32 (A' 0 0 34) by rw [y]; decide), if_neg (show ¬ A' 0 0 34 = 0 by omega), if_pos y]
theorem m_so (hT : TB T b cnt) (hm : mTab T cnt A) (hc : mCa T cnt A) (h8 : ∀ j, j < 6 → 0 ≤ A 8 0 j ∧ A 8 0 j ≤ 9) (hS : SH x C A) (hs : s < 4) (hn : n < 6) {P : Nat} (hP : P < cnt) : ∃ A', f_Mo_isSo A s P n = some ((if soV A s n (sEnd T 40 P (dsum (A 8 0))) = true then 1 else 0), A') ∧ odF A A' ∧ mCa T cnt A' := by
  obtain ⟨A', a1, a2, a3, a4, a5, -⟩ := m_odds hT hP hm hc h8
  have hS' : SH x C A' := hS.cg (fun _ _ _ _ => rfl) (fun f a j q => a5 f a j (by omega))
  obtain ⟨q1, q2⟩ := a4
  have h34 : A' 0 0 34 = 0 ∨ A' 0 0 34 = 1 := q2.elim (fun y => Or.inl y.1) (fun y => Or.inr y.1)
  unfold f_Mo_isSo
  rw [a1, obind]
  dsimp only
  rw [show ((1 : Int)).toNat = 1 from rfl, m_agn q1 h34, obind]
  dsimp only
  refine ⟨A', ?_, a5, a2⟩
  rcases q2 with ⟨y, l, y1, y2, y3⟩ | ⟨y, y1⟩
  · have gl : gdL 50 (oC A' 1) := (gd_end hT hP (tn9_sum h8).1 y1).pm y2
    rw [y1, if_neg (show ¬ A' 0 0 34 = 1 by omega), ← soV_perm y2]
    by_cases z : (oC A' 1).length = 0
    · rw [if_pos z, if_pos (show g32 (-7) by decide), if_neg (by decide)]
      have e : soV A s n (some (oC A' 1)) = false := by
        show (decide (0 < (oC A' 1).length) && _) = false
        rw [decide_eq_false (by omega)]
        rfl
      rw [e]
      rfl
    · rw [if_neg z, if_pos (show g32 (0 : Int) by decide), if_pos rfl, m_othw hS' hs q1 gl (by omega) hn, obind]
      dsimp only
      have ro := otw_r (e := otE A' s (oC A' 1) n) (A' 12 0 s).toNat 0
      have r12 := (hS'.1 s hs).2.2.1
      rw [if_pos (show g32 (otw (otE A' s (oC A' 1) n) (A' 12 0 s).toNat 0) by unfold g32; omega)]
      have e : soV A s n (some (oC A' 1)) = decide (otw (otE A' s (oC A' 1) n) (A' 12 0 s).toNat 0 = -1) := by
        rw [← soV_cg (A' := A') (fun f a j q => a5 f a j (by omega))]
        show (decide (0 < (oC A' 1).length) && _) = _
        rw [decide_eq_true (show 0 < (oC A' 1).length by omega), Bool.true_and]
      rw [e]
      by_cases k : otw (otE A' s (oC A' 1) n) (A' 12 0 s).toNat 0 = -1
      · rw [if_pos k, if_pos (decide_eq_true k)]
      · rw [if_neg k, if_neg (fun q => k (of_decide_eq_true q))]
  · rw [y1, if_pos y, if_pos (show g32 (-6) by decide), if_neg (by decide)]
    rfl
theorem m_201n {v w z : Int} {P : Int} (hg : g32 w) (h3 : ¬ w = 3) : f_Mo_tells_201 20 A s P v w z (A 8 0 0) 0 = some (z, A) := by
  unfold f_Mo_tells_201
  rw [if_pos hg, if_neg h3, mu_self]
theorem m_149n {v w z : Int} {P : Int} {o : Nat} (hg : g32 w) (h3 : ¬ w = 3) (h2 : ¬ w = 2) : f_Mo_tells_149 20 A s P v w o z 0 = some (z, A) := by
  unfold f_Mo_tells_149
  rw [if_pos hg, if_neg h2]
  exact m_201n hg h3
/-- by which programs -/
theorem m_105 (hT : TB T b cnt) (hm0 : mTab T cnt A0) (h80 : ∀ j, j < 6 → 0 ≤ A0 8 0 j ∧ A0 8 0 j ≤ 9) (hS0 : SH x C A0) (hs : s < 4) (hn : n < 6) (hcn : A0 0 0 0 = (cnt : Int)) {Bf : Nat → Bool} (hB : ∀ v, Bf v = (decide (v < cnt) && soV A0 s n (sEnd T 40 v (dsum (A0 8 0))))) {p : Int} {o : Nat} : ∀ (m j F : Nat) (z : Int) (A : mA), j + m = 6 → m < F → odF A0 A → mCa T cnt A → ∃ A', f_Mo_tells_105 F A s p n 1 o z j = some (orL Bf (List.range' j m) z, A') ∧ odF A0 A' ∧ mCa T cnt A' := by
  have hc6 := hT.1
  intro m
  induction m with
  | zero =>
    intro j F z A hj hF hA hc
    obtain ⟨F, rfl⟩ : ∃ q, F = q + 1 := ⟨F - 1, by omega⟩
    unfold f_Mo_tells_105
    rw [if_pos (show g32 (1 : Int) by decide), if_pos rfl, hA 0 0 0 (by omega), hcn, if_pos (show g32 (j : Int) by unfold g32; omega), if_pos (show g32 (cnt : Int) by unfold g32; omega), if_pos (by omega)]
    exact ⟨A, m_149n (by decide) (by decide) (by decide), hA, hc⟩
  | succ m ih =>
    intro j F z A hj hF hA hc
    obtain ⟨F, rfl⟩ : ∃ q, F = q + 1 := ⟨F - 1, by omega⟩
    have er : List.range' j (m + 1) = j :: List.range' (j + 1) m := rfl
    have ej : ((j : Int) + 1) = ((j + 1 : Nat) : Int) := by omega
    have e8 : ∀ i, A 8 0 i = A0 8 0 i := fun i => hA 8 0 i (by omega)
    unfold f_Mo_tells_105
    rw [if_pos (show g32 (1 : Int) by decide), if_pos rfl, hA 0 0 0 (by omega), hcn, if_pos (show g32 (j : Int) by unfold g32; omega), if_pos (show g32 (cnt : Int) by unfold g32; omega), er, ej]
    by_cases k : cnt ≤ j
    · rw [if_pos (by omega)]
      refine ⟨A, ?_, hA, hc⟩
      rw [← er, orL_no (fun v hv => ?_)]
      · exact m_149n (by decide) (by decide) (by decide)
      · have := List.mem_range'_1.mp hv
        rw [hB, decide_eq_false (show ¬ v < cnt by omega), Bool.false_and]
    · rw [if_neg (by omega)]
      obtain ⟨A', s1, s2, s3⟩ := m_so (A := A) (x := x) (C := C) (s := s) (n := n) (P := j) hT (hm0.od hT hA) hc (fun i hi => by rw [e8]; exact h80 i hi) (hS0.cg (fun _ _ _ _ => rfl) (fun f a j q => hA f a j (by omega))) hs hn (by omega)
      have eS : dsum (A 8 0) = dsum (A0 8 0) := dsum_cg (fun i _ => e8 i)
      rw [eS, soV_cg (A := A0) (fun f a j q => hA f a j (by omega))] at s1
      have eB : Bf j = soV A0 s n (sEnd T 40 j (dsum (A0 8 0))) := by rw [hB, decide_eq_true (show j < cnt by omega), Bool.true_and]
      rw [← eB] at s1
      rw [s1, obind]
      dsimp only
      by_cases y : Bf j = true
      · rw [if_pos y, if_pos (show g32 (1 : Int) by decide), if_neg (by decide)]
        have eo : orS z (Bf j) j = iOr z (iShl 1 (j : Int)) := by unfold orS; rw [if_pos y]
        obtain ⟨A9, t1, t2, t3⟩ := ih (j + 1) F (iOr z (iShl 1 (j : Int))) A' (by omega) (by omega) (hA.trans s2) s3
        rw [← eo] at t1
        rw [← eo]
        exact ⟨A9, t1, t2, t3⟩
      · rw [if_neg y, if_pos (show g32 (0 : Int) by decide), if_pos rfl]
        have eo : orS z (Bf j) j = z := by unfold orS; rw [if_neg y]
        obtain ⟨A9, t1, t2, t3⟩ := ih (j + 1) F z A' (by omega) (by omega) (hA.trans s2) s3
        refine ⟨A9, t1.trans ?_, t2, t3⟩
        show some (orL Bf (List.range' (j + 1) m) z, A9) = some (orL Bf (List.range' (j + 1) m) (orS z (Bf j) j), A9)
        rw [eo]
/-- by which starts -/
theorem m_201 (hT : TB T b cnt) (hm0 : mTab T cnt A0) (h80 : ∀ j, j < 6 → 0 ≤ A0 8 0 j ∧ A0 8 0 j ≤ 9) (hS0 : SH x C A0) (hs : s < 4) (hn : n < 6) {P : Nat} (hP : P < cnt) {Bf : Nat → Bool} (hB : ∀ v, Bf v = soV A0 s n (sEnd T 40 P (wth (dsum (A0 8 0)) 0 ((v : Nat) : Int)))) : ∀ (m j F : Nat) (z : Int) (A : mA), j + m = 10 → m < F → (∀ f a i, ¬ (((f = 0 ∧ a = 0 ∧ (i = 33 ∨ i = 34 ∨ i = 35)) ∨ f = 1 ∨ f = 3 ∨ f = 4 ∨ f = 47 ∨ f = 48 ∨ f = 51) ∨ (f = 8 ∧ a = 0 ∧ i = 0)) → A f a i = A0 f a i) → mCa T cnt A → ∃ A', f_Mo_tells_201 F A s P n 3 z (A0 8 0 0) j = some (orL Bf (List.range' j m) z, A') ∧ odF A0 A' ∧ mCa T cnt A' := by
  have hc6 := hT.1
  intro m
  induction m with
  | zero =>
    intro j F z A hj hF hA hc
    obtain ⟨F, rfl⟩ : ∃ q, F = q + 1 := ⟨F - 1, by omega⟩
    unfold f_Mo_tells_201
    rw [if_pos (show g32 (3 : Int) by decide), if_pos rfl, if_pos (show g32 (j : Int) by unfold g32; omega), if_pos (show (10 : Int) ≤ j by omega)]
    refine ⟨_, rfl, fun f a i q => ?_, hc.cg (fun f a i q => mu_ne _ _ (by omega))⟩
    by_cases k : f = 8 ∧ a = 0 ∧ i = 0
    · obtain ⟨rfl, rfl, rfl⟩ := k
      exact mu_at _ _ _ _ _
    · rw [mu_ne _ _ (by omega), hA f a i (by omega)]
  | succ m ih =>
    intro j F z A hj hF hA hc
    obtain ⟨F, rfl⟩ : ∃ q, F = q + 1 := ⟨F - 1, by omega⟩
    have er : List.range' j (m + 1) = j :: List.range' (j + 1) m := rfl
    have ej : ((j : Int) + 1) = ((j + 1 : Nat) : Int) := by omega
    obtain ⟨A1, hA1⟩ : ∃ A1, A1 = mu A 8 0 0 (j : Int) := ⟨_, rfl⟩
    have f1 : ∀ f a i, ¬ (f = 8 ∧ a = 0 ∧ i = 0) → A1 f a i = A f a i := fun f a i q => by rw [hA1, mu_ne _ _ (by omega)]
    have e80 : A1 8 0 0 = (j : Int) := by rw [hA1, mu_at]
    have e8 : ∀ i, i ≠ 0 → A1 8 0 i = A0 8 0 i := fun i hi => by rw [f1 8 0 i (by omega), hA 8 0 i (by omega)]
    have g1 : ∀ f a i, ¬ (((f = 0 ∧ a = 0 ∧ (i = 33 ∨ i = 34 ∨ i = 35)) ∨ f = 1 ∨ f = 3 ∨ f = 4 ∨ f = 47 ∨ f = 48 ∨ f = 51) ∨ (f = 8 ∧ a = 0 ∧ i = 0)) → A1 f a i = A0 f a i := fun f a i q => by rw [f1 f a i (by omega), hA f a i q]
    have h81 : ∀ i, i < 6 → 0 ≤ A1 8 0 i ∧ A1 8 0 i ≤ 9 := fun i hi => by
      by_cases k : i = 0
      · subst k; rw [e80]; omega
      · rw [e8 i k]; exact h80 i hi
    obtain ⟨A', s1, s2, s3⟩ := m_so (A := A1) (x := x) (C := C) (s := s) (n := n) (P := P) hT (hm0.g hT (fun p => g1 5 0 p (by omega)) (fun f p i q1 q2 => g1 f p i (by omega))) (hc.cg (fun f a i q => f1 f a i (by omega))) h81 (hS0.cg (fun _ _ _ _ => rfl) (fun f a i q => g1 f a i (by omega))) hs hn hP
    have eS : dsum (A1 8 0) = wth (dsum (A0 8 0)) 0 ((j : Nat) : Int) := by
      unfold wth
      refine dsum_cg (fun i hi => ?_)
      by_cases k : i = 0
      · subst k; rw [if_pos rfl]; exact e80
      · rw [if_neg k, e8 i k]
        exact ((tn9_sum h80).2 i hi).1.symm
    rw [eS, soV_cg (A := A0) (fun f a i q => g1 f a i (by omega)), ← hB j] at s1
    unfold f_Mo_tells_201
    rw [if_pos (show g32 (3 : Int) by decide), if_pos rfl, if_pos (show g32 (j : Int) by unfold g32; omega), if_neg (show ¬ (10 : Int) ≤ j by omega), er, ej, ← hA1, s1, obind]
    dsimp only
    have hA' : ∀ f a i, ¬ (((f = 0 ∧ a = 0 ∧ (i = 33 ∨ i = 34 ∨ i = 35)) ∨ f = 1 ∨ f = 3 ∨ f = 4 ∨ f = 47 ∨ f = 48 ∨ f = 51) ∨ (f = 8 ∧ a = 0 ∧ i = 0)) → A' f a i = A0 f a i := fun f a i q => by rw [s2 f a i (by omega), g1 f a i q]
    by_cases y : Bf j = true
    · rw [if_pos y, if_pos (show g32 (1 : Int) by decide), if_neg (by decide)]
      have eo : orS z (Bf j) j = iOr z (iShl 1 (j : Int)) := by unfold orS; rw [if_pos y]
      obtain ⟨A9, t1, t2, t3⟩ := ih (j + 1) F (iOr z (iShl 1 (j : Int))) A' (by omega) (by omega) hA' s3
      refine ⟨A9, t1.trans ?_, t2, t3⟩
      show some (orL Bf (List.range' (j + 1) m) (iOr z (iShl 1 (j : Int))), A9) = some (orL Bf (List.range' (j + 1) m) (orS z (Bf j) j), A9)
      rw [eo]
    · rw [if_neg y, if_pos (show g32 (0 : Int) by decide), if_pos rfl]
      have eo : orS z (Bf j) j = z := by unfold orS; rw [if_neg y]
      obtain ⟨A9, t1, t2, t3⟩ := ih (j + 1) F z A' (by omega) (by omega) hA' s3
      refine ⟨A9, t1.trans ?_, t2, t3⟩
      show some (orL Bf (List.range' (j + 1) m) z, A9) = some (orL Bf (List.range' (j + 1) m) (orS z (Bf j) j), A9)
      rw [eo]
/-- by which names -/
theorem m_149 {p : Int} {o : Nat} (hS : SH x C A) (hs : s < 4) (hq : oQ A o) (hg : gdL 50 (oC A o)) (h0 : 0 < (oC A o).length) {Bf : Nat → Bool} (hB : ∀ v, Bf v = soV A s v (some (oC A o))) : ∀ (m j F : Nat) (z : Int), j + m = 6 → m < F → f_Mo_tells_149 F A s p n 2 o z j = some (orL Bf (List.range' j m) z, A) := by
  intro m
  induction m with
  | zero =>
    intro j F z hj hF
    obtain ⟨F, rfl⟩ : ∃ q, F = q + 1 := ⟨F - 1, by omega⟩
    unfold f_Mo_tells_149
    rw [if_pos (show g32 (2 : Int) by decide), if_pos rfl, if_pos (show g32 (j : Int) by unfold g32; omega), if_pos (show (6 : Int) ≤ j by omega)]
    exact m_201n (by decide) (by decide)
  | succ m ih =>
    intro j F z hj hF
    obtain ⟨F, rfl⟩ : ∃ q, F = q + 1 := ⟨F - 1, by omega⟩
    have er : List.range' j (m + 1) = j :: List.range' (j + 1) m := rfl
    have ej : ((j : Int) + 1) = ((j + 1 : Nat) : Int) := by omega
    have ro := otw_r (e := otE A s (oC A o) j) (A 12 0 s).toNat 0
    have r12 := (hS.1 s hs).2.2.1
    unfold f_Mo_tells_149
    rw [if_pos (show g32 (2 : Int) by decide), if_pos rfl, if_pos (show g32 (j : Int) by unfold g32; omega), if_neg (show ¬ (6 : Int) ≤ j by omega), m_othw hS hs hq hg h0 (by omega), obind, er, ej]
    dsimp only
    have e : Bf j = decide (otw (otE A s (oC A o) j) (A 12 0 s).toNat 0 = -1) := by
      rw [hB]
      show (decide (0 < (oC A o).length) && _) = _
      rw [decide_eq_true h0, Bool.true_and]
    rw [if_pos (show g32 (otw (otE A s (oC A o) j) (A 12 0 s).toNat 0) by unfold g32; omega)]
    show _ = some (orL Bf (List.range' (j + 1) m) (orS z (Bf j) j), A)
    by_cases k : otw (otE A s (oC A o) j) (A 12 0 s).toNat 0 = -1
    · have eo : orS z (Bf j) j = iOr z (iShl 1 (j : Int)) := by unfold orS; rw [if_pos (by rw [e]; exact decide_eq_true k)]
      rw [if_pos k, eo]
      exact ih (j + 1) F _ (by omega) (by omega)
    · have eo : orS z (Bf j) j = z := by unfold orS; rw [if_neg (by rw [e]; exact fun q => k (of_decide_eq_true q))]
      rw [if_neg k, eo]
      exact ih (j + 1) F _ (by omega) (by omega)
end YMA
