/-! tells: both answer alike (own work) -/
theorem c_isSheet {A : mA} {n : Int} (g : g32 n) : f_CS_isSheet A n = some (if 0 ≤ n ∧ n < 4 then 1 else 0, A) := by
  unfold f_CS_isSheet
  rw [if_pos g]
  by_cases q1 : n < 0
  · rw [if_pos q1, if_neg (show ¬ (0 ≤ n ∧ n < 4) by omega)]
  rw [if_neg q1]
  by_cases q2 : 4 ≤ n
  · rw [if_pos q2, if_neg (show ¬ (0 ≤ n ∧ n < 4) by omega)]
  · rw [if_neg q2, if_pos (show 0 ≤ n ∧ n < 4 by omega)]
theorem m_isSheet {A : mA} {n : Int} (g : g32 n) : f_Mo_isSheet A n = some (if 0 ≤ n ∧ n < 4 then 1 else 0, A) := by
  unfold f_Mo_isSheet
  rw [m_inF g (by decide) (by decide), obind]
  by_cases q : 0 ≤ n ∧ n ≤ 3
  · rw [if_pos q, if_pos (show 0 ≤ n ∧ n < 4 by omega)]
    rfl
  · rw [if_neg q, if_neg (show ¬ (0 ≤ n ∧ n < 4) by omega)]
    rfl
section YOM
variable {T : xT} {b : Int → Int} {cnt : Nat} {C A : mA} {x s n : Nat}
set_option maxHeartbeats 1000000 in
theorem tells_m (hT : TB T b cnt) (hm : mTab T cnt A) (hc : mCa T cnt A) (h8 : ∀ j, j < 6 → 0 ≤ A 8 0 j ∧ A 8 0 j ≤ 9) (hS : SH x C A) (hs : s < 4) (hn : n < 6) (hcn : A 0 0 0 = (cnt : Int)) {P : Nat} (hP : P < cnt) {v : Int} (hv : 0 ≤ v ∧ v ≤ 3) : ∃ A', (Option.bind (f_Mo_oddsO A P (-1)) (fun q42 => (Option.bind (f_Mo_against q42.2 q42.1.toNat) (fun q45 => (if g32 q45.1 then (if q45.1 = 0 then (if (0 ≤ (s : Int) ∧ (s : Int) < ((4 : Nat) : Int)) then (if g32 (q45.2 11 0 (s : Int).toNat) then (if 0 ≤ (q45.2 11 0 (s : Int).toNat) then (if g32 (q45.2 12 0 (s : Int).toNat) then (if (q45.2 12 0 (s : Int).toNat) ≤ 10 then (if g32 v then (if v = 0 then (Option.bind (f_Mo_otherwise q45.2 s q42.1.toNat n) (fun q56 => (some (q56.1, q56.2)))) else (f_Mo_tells_105 20 q45.2 s P n v q42.1.toNat 0 0)) else none) else (some ((-2), q45.2))) else none) else (some ((-11), q45.2))) else none) else none) else (some (q45.1, q45.2))) else none))))) = some (tlZ A T cnt s P n v (dsum (A 8 0)), A') ∧ odF A A' ∧ mCa T cnt A' := by
  obtain ⟨A1, a1, a2, a3, ⟨q1, q2⟩, a5, -⟩ := m_odds hT hP hm hc h8
  have hS1 : SH x C A1 := hS.cg (fun _ _ _ _ => rfl) (fun f a j q => a5 f a j (by omega))
  have h34 : A1 0 0 34 = 0 ∨ A1 0 0 34 = 1 := q2.elim (fun y => Or.inl y.1) (fun y => Or.inr y.1)
  have e12 : A1 12 0 s = A 12 0 s := a5 12 0 s (by omega)
  have e11 : A1 11 0 s = A 11 0 s := a5 11 0 s (by omega)
  have e8 : ∀ i, A1 8 0 i = A 8 0 i := fun i => a5 8 0 i (by omega)
  obtain ⟨-, s3, s4, -⟩ := hS.1 s hs
  rw [a1, obind]
  dsimp only
  rw [show ((1 : Int)).toNat = 1 from rfl, m_agn q1 h34, obind, Int.toNat_natCast]
  dsimp only
  rcases q2 with ⟨y, l, y1, y2, y3⟩ | ⟨y, y1⟩
  · have gl : gdL 50 (oC A1 1) := (gd_end hT hP (tn9_sum h8).1 y1).pm y2
    have eT : tlZ A T cnt s P n v (dsum (A 8 0)) = if l.length = 0 then -7 else if A 11 0 s = -1 then -11 else if 10 < A 12 0 s then -2 else if v = 0 then otw (otE A s l n) (A 12 0 s).toNat 0 else if v = 1 then orL (prB A T cnt s n (dsum (A 8 0))) (List.range' 0 6) 0 else if v = 2 then orL (fun u => soV A s u (some l)) (List.range' 0 6) 0 else orL (stB A T s P n (dsum (A 8 0))) (List.range' 0 10) 0 := by unfold tlZ; rw [y1]
    rw [eT, if_neg (show ¬ A1 0 0 34 = 1 by omega), y2.length_eq]
    by_cases z0 : l.length = 0
    · rw [if_pos z0, if_pos z0, if_pos (show g32 (-7) by decide), if_neg (by decide)]
      exact ⟨A1, rfl, a5, a2⟩
    rw [if_neg z0, if_neg z0, if_pos (show g32 (0 : Int) by decide), if_pos rfl, if_pos (show 0 ≤ (s : Int) ∧ (s : Int) < ((4 : Nat) : Int) by clear z0; omega), if_pos (show g32 (A1 11 0 s) by rw [e11]; clear z0; unfold g32; omega)]
    by_cases z1 : A 11 0 s = -1
    · rw [if_pos z1, if_neg (show ¬ 0 ≤ A1 11 0 s by rw [e11]; clear z0; omega)]
      exact ⟨A1, rfl, a5, a2⟩
    rw [if_neg z1, if_pos (show 0 ≤ A1 11 0 s by rw [e11]; clear z0; omega), if_pos (show g32 (A1 12 0 s) by rw [e12]; clear z0 z1; unfold g32; omega)]
    by_cases z2 : 10 < A 12 0 s
    · rw [if_pos z2, if_neg (show ¬ A1 12 0 s ≤ 10 by rw [e12]; clear z0 z1; omega)]
      exact ⟨A1, rfl, a5, a2⟩
    rw [if_neg z2, if_pos (show A1 12 0 s ≤ 10 by rw [e12]; clear z0 z1; omega), if_pos (show g32 v by clear z0 z1; unfold g32; omega)]
    have l0 : 0 < (oC A1 1).length := by rw [y2.length_eq]; clear z1; omega
    by_cases v0 : v = 0
    · rw [if_pos v0, if_pos v0, m_othw hS1 hs q1 gl l0 hn, obind]
      refine ⟨A1, ?_, a5, a2⟩
      dsimp only
      have e : otE A1 s (oC A1 1) n = otE A s l n := by
        rw [otE_perm y2]
        funext j
        show decide (A1 49 s j = hun l n j) = decide (A 49 s j = hun l n j)
        rw [a5 49 s j (by omega)]
      rw [e, e12]
    rw [if_neg v0, if_neg v0]
    by_cases v1 : v = 1
    · rw [if_pos v1, v1]
      obtain ⟨A', t1, t2, t3⟩ := m_105 (A0 := A) (x := x) (C := C) (s := s) (n := n) hT hm h8 hS hs hn hcn (Bf := prB A T cnt s n (dsum (A 8 0))) (fun _ => rfl) (p := (P : Int)) (o := 1) 6 0 20 0 A1 (by decide) (by decide) a5 a2
      exact ⟨A', t1, t2, t3⟩
    rw [if_neg v1]
    by_cases v2 : v = 2
    · rw [if_pos v2, v2]
      have e : ∀ u, (fun u => soV A s u (some l)) u = soV A1 s u (some (oC A1 1)) := fun u => by
        show soV A s u (some l) = _
        rw [soV_perm y2]
        exact (soV_cg (fun f a j q => a5 f a j (by omega))).symm
      have t1 := m_149 (A := A1) (x := x) (C := C) (s := s) (n := n) (p := (P : Int)) hS1 hs q1 gl l0 (Bf := fun u => soV A s u (some l)) e 6 0 20 0 (by decide) (by decide)
      refine ⟨A1, ?_, a5, a2⟩
      unfold f_Mo_tells_105
      rw [if_pos (show g32 (2 : Int) by decide), if_neg (show ¬ (2 : Int) = 1 by decide)]
      exact t1
    rw [if_neg v2]
    have v3 : v = 3 := by clear z0 z1; omega
    rw [v3]
    obtain ⟨A', t1, t2, t3⟩ := m_201 (A0 := A) (x := x) (C := C) (s := s) (n := n) (P := P) hT hm h8 hS hs hn hP (Bf := stB A T s P n (dsum (A 8 0))) (fun _ => rfl) 10 0 20 0 A1 (by decide) (by decide) (fun f a i q => a5 f a i (fun r => q (Or.inl r))) a2
    refine ⟨A', ?_, t2, t3⟩
    unfold f_Mo_tells_105
    rw [if_pos (show g32 (3 : Int) by decide), if_neg (show ¬ (3 : Int) = 1 by decide)]
    unfold f_Mo_tells_149
    rw [if_pos (show g32 (3 : Int) by decide), if_neg (show ¬ (3 : Int) = 2 by decide), e8 0]
    exact t1
  · have eT : tlZ A T cnt s P n v (dsum (A 8 0)) = -6 := by unfold tlZ; rw [y1]
    rw [eT, if_pos y, if_pos (show g32 (-6) by decide), if_neg (by decide)]
    exact ⟨A1, rfl, a5, a2⟩
end YOM
