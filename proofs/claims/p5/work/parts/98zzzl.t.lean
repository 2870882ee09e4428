/-! what COMES, by both (own work) -/
theorem tm_neg {v : Int} (h : v < 0) : Int.tmod v 10 = -((-v) % 10) := by
  have e : Int.tmod (-(-v)) 10 = -(Int.tmod (-v) 10) := Int.neg_tmod _ _
  rw [Int.neg_neg] at e
  rw [e, Int.tmod_eq_emod_of_nonneg (by omega)]
theorem iXor_s {v : Int} (h : g32 v) : 0 ≤ iXor v 10 ↔ 0 ≤ v := by
  have k : ∀ x : Int32, (0 ≤ x.toInt ↔ x.toBitVec.msb = false) := fun x => by
    show 0 ≤ x.toBitVec.toInt ↔ _
    rw [BitVec.toInt_eq_msb_cond]
    have := x.toBitVec.isLt
    cases x.toBitVec.msb
    · simp
    · simp
      omega
  have e : (iXor v 10) = (Int32.ofInt v ^^^ Int32.ofInt 10).toInt := rfl
  have e2 : v = (Int32.ofInt v).toInt := (can32 h).symm
  rw [e, k]
  constructor
  · intro q
    rw [e2, k]
    have q2 : ((Int32.ofInt v).toBitVec ^^^ (Int32.ofInt 10).toBitVec).msb = false := q
    rw [BitVec.msb_xor] at q2
    have z : (Int32.ofInt 10).toBitVec.msb = false := by decide
    rw [z] at q2
    simpa using q2
  · intro q
    rw [e2, k] at q
    show ((Int32.ofInt v).toBitVec ^^^ (Int32.ofInt 10).toBitVec).msb = false
    rw [BitVec.msb_xor, q]
    decide
theorem c_floor {C : mA} {v : Int} (h : g32 v) : f_Math_floorMod C v 10 = some (v % 10, C) := by
  have p := Int.emod_nonneg v (show (10 : Int) ≠ 0 by decide)
  have p2 := Int.emod_lt_of_pos v (show (0 : Int) < 10 by decide)
  unfold f_Math_floorMod
  rw [if_pos h, if_pos (show g32 (10 : Int) by decide), if_pos (show (10 : Int) ≠ 0 by decide)]
  by_cases q : 0 ≤ v
  · rw [if_pos ((iXor_s h).mpr q), Int.tmod_eq_emod_of_nonneg q]
  · have e := tm_neg (v := v) (by omega)
    rw [if_neg (fun r => q ((iXor_s h).mp r)), e, if_pos (by unfold g32; omega)]
    by_cases z : -((-v) % 10) = 0
    · rw [if_pos z]
      congr 2
      omega
    · rw [if_neg z]
      congr 2
      omega
theorem m_digit {A : mA} {v : Int} (h : g32 v) : f_Mo_digit A v = some (v % 10, A) := by
  have p := Int.emod_nonneg v (show (10 : Int) ≠ 0 by decide)
  have p2 := Int.emod_lt_of_pos v (show (0 : Int) < 10 by decide)
  unfold f_Mo_digit
  rw [if_pos h]
  by_cases q : 0 ≤ v
  · rw [Int.tmod_eq_emod_of_nonneg q, if_pos (by unfold g32; omega), if_pos p]
  · have e := tm_neg (v := v) (by omega)
    rw [e, if_pos (by unfold g32; omega)]
    by_cases z : 0 ≤ -((-v) % 10)
    · rw [if_pos z]
      congr 2
      omega
    · rw [if_neg z]
      congr 2
      omega
section VB
variable {C A : mA} {P pr i : Nat} {s t : Int} {d : Nat → Int} {e : kS}
/-- a step's E, by both -/
theorem val_both (hP : P < 6) (hC : cS9 C pr i e) (hM : mS9 A P i e) (k0 : sK e ≠ 0) (k4 : sK e ≠ 4) (hs : st9 s d) (ht : tn9 t d) : ∃ v C', g32 v ∧ 0 ≤ A 39 P i ∧ A 39 P i < 120 ∧ f_Mo_worthN 121 A P (A 39 P i) t = some (v, A) ∧ f_Prog_valueOf C pr (sAd C pr i) s = some (v, C') ∧ stk (C 2 pr 7).toNat C C' 0 := by
  obtain ⟨n, c1, c2, c3, c4⟩ := hC.2.2.2.1 k0 k4
  obtain ⟨m1, m, m2⟩ := hM.2.1 k0 k4
  have m0 := nT_nn m2
  obtain ⟨v, g, w1, w2⟩ := val9 (pr := pr) (b1 := sAd C pr i) (ca := (C 2 pr 2).toNat) (sp := (C 2 pr 7).toNat) hP hs ht m _ _ m2 m1
  obtain ⟨C', s1, s2, s3⟩ := w2 C (200 - (sC e).length) n 0 (n + (sC e).length) ⟨rfl, rfl, c2, Nat.le_refl _, c3, by omega, c4⟩
  refine ⟨v, C', g, m0, m1, w1 121 (by omega), ?_, s1⟩
  unfold f_Prog_valueOf
  rw [c1, if_pos (show g32 (n : Int) by unfold g32; omega), show max (0 : Int) (n : Int) = (n : Int) by omega]
  rw [show 200 - (sC e).length + (sC e).length = 200 by omega] at s3
  have s3' : f_Prog_valueOf_12 200 C pr (sAd C pr i) s 0 n = f_Prog_valueOf_12 (200 - (sC e).length) C' pr (sAd C pr i) s 1 ((n + (sC e).length : Nat) : Int) := s3
  obtain ⟨F, eF⟩ : ∃ F, 200 - (sC e).length = F + 1 := ⟨199 - (sC e).length, by omega⟩
  have q10 : C' 6 (sAd C pr i) 10 = ((n + (sC e).length : Nat) : Int) := (s1 6 _ 10 (fun r => by omega)).trans c2
  have q7 : C' 2 pr 7 = C 2 pr 7 := s1 2 pr 7 (fun r => by omega)
  rw [s3', eF, f_Prog_valueOf_12, if_pos (show g32 ((n + (sC e).length : Nat) : Int) by unfold g32; omega), q10, if_pos (show g32 ((n + (sC e).length : Nat) : Int) by unfold g32; omega), if_pos (Int.le_refl _), q7, s2, nm32_id g]
theorem dig_both (hP : P < 6) (hC : cS9 C pr i e) (hM : mS9 A P i e) (k0 : sK e ≠ 0) (k4 : sK e ≠ 4) (hs : st9 s d) (ht : tn9 t d) : ∃ v C', g32 v ∧ 0 ≤ A 39 P i ∧ A 39 P i < 120 ∧ f_Mo_worthN 121 A P (A 39 P i) t = some (v, A) ∧ f_Mo_digit A v = some (v % 10, A) ∧ f_Prog_digitOf C pr (sAd C pr i) s = some (v % 10, C') ∧ stk (C 2 pr 7).toNat C C' 0 := by
  obtain ⟨v, C', g, a1, a2, a3, a4, a5⟩ := val_both hP hC hM k0 k4 hs ht
  refine ⟨v, C', g, a1, a2, a3, m_digit g, ?_, a5⟩
  unfold f_Prog_digitOf
  rw [a4, obind]
  show Option.bind (f_Math_floorMod C' v 10) _ = _
  rw [c_floor g, obind]
end VB
/-! draws -/
theorem ush9 (z : Int) : 0 ≤ iUsh z 9 ∧ iUsh z 9 < 8388608 := by
  have e : iUsh z 9 = ((Int32.ofInt z).toUInt32 >>> 9).toInt32.toInt := rfl
  have b : ((Int32.ofInt z).toUInt32 >>> 9).toInt32.toBitVec = (Int32.ofInt z).toBitVec >>> 9 := rfl
  have t : ((Int32.ofInt z).toBitVec >>> 9).toNat < 8388608 := by
    rw [BitVec.toNat_ushiftRight, Nat.shiftRight_eq_div_pow]
    have := (Int32.ofInt z).toBitVec.isLt
    omega
  have k := i32_small b (by omega)
  rw [e, k]
  omega
theorem and_mod {u : Int} {b : Nat} (h : 0 ≤ u ∧ u < 8388608) (hb : b ≤ 4) : iAnd u (2 ^ b - 1 : Nat) = Int.tmod u (2 ^ b : Nat) := by
  have hp : 2 ^ b ≤ 2 ^ 4 := Nat.pow_le_pow_right (by decide) hb
  have hp1 : 1 ≤ 2 ^ b := Nat.one_le_two_pow
  have e : iAnd u (2 ^ b - 1 : Nat) = (Int32.ofInt u &&& Int32.ofInt ((2 ^ b - 1 : Nat) : Int)).toInt := rfl
  have n : ((Int32.ofInt u).toBitVec &&& (Int32.ofInt ((2 ^ b - 1 : Nat) : Int)).toBitVec).toNat = u.toNat % 2 ^ b := by
    rw [BitVec.toNat_and, bv_of h.1 (by omega), bv_of (by omega) (by omega), Int.toNat_natCast]
    exact Nat.and_two_pow_sub_one_eq_mod _ b
  have lt : u.toNat % 2 ^ b < 2 ^ b := Nat.mod_lt _ (by omega)
  have k := i32_small (z := Int32.ofInt u &&& Int32.ofInt ((2 ^ b - 1 : Nat) : Int)) (X := (Int32.ofInt u).toBitVec &&& (Int32.ofInt ((2 ^ b - 1 : Nat) : Int)).toBitVec) rfl (by rw [n]; omega)
  rw [e, k, n, Int.tmod_eq_emod_of_nonneg h.1]
  obtain ⟨m, rfl⟩ : ∃ m : Nat, u = m := ⟨u.toNat, by omega⟩
  rw [Int.toNat_natCast]
  rfl
theorem dr_eq {z S : Int} (h : 0 < kBt S) : iAnd (iUsh z 9) (iShl 1 (kBt S) - 1) = Int.tmod (iUsh z 9) S := by
  have u := ush9 z
  unfold kBt at h ⊢
  by_cases s2 : S = 2
  · rw [if_pos s2, s2]
    exact and_mod (b := 1) u (by decide)
  rw [if_neg s2] at h ⊢
  by_cases s4 : S = 4
  · rw [if_pos s4, s4]
    exact and_mod (b := 2) u (by decide)
  rw [if_neg s4] at h ⊢
  by_cases s8 : S = 8
  · rw [if_pos s8, s8]
    exact and_mod (b := 3) u (by decide)
  rw [if_neg s8] at h ⊢
  by_cases s16 : S = 16
  · rw [if_pos s16, s16]
    exact and_mod (b := 4) u (by decide)
  · rw [if_neg s16] at h
    exact absurd h (by decide)
theorem kSumW_c (q : Int × Int) (l : List (Int × Int)) : kSumW (q :: l) = q.2 + kSumW l := rfl
section DRW
variable {C A : mA} {P pr i b1 n0 m0 : Nat} {s t : Int} {d : Nat → Int} {e : kS}
theorem c_lotW {k : Nat} {w : Int} (h11 : C 6 b1 11 = n0) (hk : n0 + k < 60) (hw : C 27 (C 2 pr 5).toNat (n0 + k) = w) : f_Prog_lotWeight C pr b1 k = some (w, C) := by
  unfold f_Prog_lotWeight
  rw [h11, show (n0 : Int) + (k : Int) = ((n0 + k : Nat) : Int) by omega, if_pos (show g32 ((n0 + k : Nat) : Int) by unfold g32; omega), if_neg (by omega), if_pos (show g32 ((60 : Nat) : Int) by decide), if_neg (by omega), if_pos (show 0 ≤ ((n0 + k : Nat) : Int) ∧ ((n0 + k : Nat) : Int) < ((60 : Nat) : Int) by omega), Int.toNat_natCast, hw]
theorem c_lotV {k : Nat} {w : Int} (h11 : C 6 b1 11 = n0) (hk : n0 + k < 60) (hw : C 27 (C 2 pr 4).toNat (n0 + k) = w) : f_Prog_lotValue C pr b1 k = some (w, C) := by
  unfold f_Prog_lotValue
  rw [h11, show (n0 : Int) + (k : Int) = ((n0 + k : Nat) : Int) by omega, if_pos (show g32 ((n0 + k : Nat) : Int) by unfold g32; omega), if_neg (by omega), if_pos (show g32 ((60 : Nat) : Int) by decide), if_neg (by omega), if_pos (show 0 ≤ ((n0 + k : Nat) : Int) ∧ ((n0 + k : Nat) : Int) < ((60 : Nat) : Int) by omega), Int.toNat_natCast, hw]
/-- the lot that is drawn, by both -/
theorem draw_both {cst : mA → Int → Int → Int → Option (Int × mA)} (hP : P < 6) (hi : i < 16) (h11 : C 6 b1 11 = n0) (h60 : n0 + (sL e).length ≤ 60) (h120 : m0 + (sL e).length ≤ 120) (h8 : (sL e).length ≤ 8) (hl : ∀ q ∈ sL e, (0 ≤ q.1 ∧ q.1 ≤ 9) ∧ (1 ≤ q.2 ∧ q.2 ≤ 16)) (hc : lotsAt C (C 2 pr 4).toNat (C 2 pr 5).toNat n0 (sL e)) (hm : lotsM A P m0 (sL e)) : ∀ (l2 l1 : List (Int × Int)) (rest : Int) (F : Nat), sL e = l1 ++ l2 → 0 ≤ rest → rest < kSumW l2 → rest < 8388608 → l2.length < F → ∃ v, (0 ≤ v ∧ v ≤ 9) ∧ f_Walk_drawn_38 F C pr b1 rest l1.length l1.length = some (v, C) ∧ f_Mo_comeStepT_118 cst F A P i t rest (m0 + l1.length : Nat) = Option.bind (f_Mo_with A t (A 35 P i) v) (fun q21 => some (q21.1, q21.2)) := by
  intro l2
  induction l2 with
  | nil =>
    intro l1 rest F h1 h2 h3 hr h4
    have h3 : rest < 0 := h3
    omega
  | cons q l2 ih =>
    intro l1 rest F h1 h2 h3 hr h4
    obtain ⟨F, rfl⟩ : ∃ G, F = G + 1 := ⟨F - 1, by omega⟩
    have ll : (sL e).length = l1.length + (l2.length + 1) := by
      rw [h1, List.length_append]
      rfl
    have gq : (sL e).getD l1.length (0, 0) = q := by
      rw [h1, List.getD_eq_getElem?_getD, List.getElem?_append_right (Nat.le_refl _), Nat.sub_self]
      rfl
    have hq := hl q (by rw [h1]; exact List.mem_append_right _ List.mem_cons_self)
    obtain ⟨k1, k2⟩ := hc l1.length (by omega)
    obtain ⟨k3, k4⟩ := hm l1.length (by omega)
    rw [gq] at k1 k2 k3 k4
    rw [kSumW_c] at h3
    have lw := c_lotW (pr := pr) h11 (show n0 + l1.length < 60 by omega) k2
    have lv := c_lotV (pr := pr) h11 (show n0 + l1.length < 60 by omega) k1
    have h4 : l2.length + 1 < F + 1 := h4
    by_cases c : rest < q.2
    · refine ⟨q.1, hq.1, ?_, ?_⟩
      · rw [f_Walk_drawn_38, if_pos (show g32 (l1.length : Int) by unfold g32; omega), if_neg (by omega), lw, obind, if_pos (show g32 rest by unfold g32; omega), if_pos (show g32 q.2 by unfold g32; omega), if_pos c, lv, obind]
      · rw [f_Mo_comeStepT_118]
        simp only [Int.toNat_natCast]
        rw [if_pos (show 0 ≤ (P : Int) ∧ (P : Int) < ((6 : Nat) : Int) by omega), if_pos (show 0 ≤ ((m0 + l1.length : Nat) : Int) ∧ ((m0 + l1.length : Nat) : Int) < ((120 : Nat) : Int) by omega), k3, k4, if_pos (show g32 rest by unfold g32; omega), if_pos (show g32 q.2 by unfold g32; omega), if_pos c, if_pos (show 0 ≤ (i : Int) ∧ (i : Int) < ((16 : Nat) : Int) by omega)]
    · obtain ⟨v, v1, v2, v3⟩ := ih (l1 ++ [q]) (rest - q.2) F (by rw [List.append_assoc]; exact h1) (by omega) (by omega) (by omega) (by omega)
      have e1 : (l1 ++ [q]).length = l1.length + 1 := by
        rw [List.length_append]
        rfl
      rw [e1] at v2 v3
      refine ⟨v, v1, ?_, ?_⟩
      · rw [f_Walk_drawn_38, if_pos (show g32 (l1.length : Int) by unfold g32; omega), if_neg (by omega), lw, obind, if_pos (show g32 rest by unfold g32; omega), if_pos (show g32 q.2 by unfold g32; omega), if_neg c, lw, obind]
        exact v2
      · rw [f_Mo_comeStepT_118]
        simp only [Int.toNat_natCast]
        rw [if_pos (show 0 ≤ (P : Int) ∧ (P : Int) < ((6 : Nat) : Int) by omega), if_pos (show 0 ≤ ((m0 + l1.length : Nat) : Int) ∧ ((m0 + l1.length : Nat) : Int) < ((120 : Nat) : Int) by omega), k4, if_pos (show g32 rest by unfold g32; omega), if_pos (show g32 q.2 by unfold g32; omega), if_neg c]
        have e2 : ((m0 + l1.length : Nat) : Int) + 1 = ((m0 + (l1.length + 1) : Nat) : Int) := by omega
        rw [e2]
        exact v3
end DRW
