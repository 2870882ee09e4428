/-! the reference: smallest methods (own work, by program) -/
def tnF (n : Int) : Int := if n = -1 then 1000000 else if n = 0 then 100000 else if n = 1 then 10000 else if n = 2 then 1000 else if n = 3 then 100 else if n = 4 then 10 else 1
def dg (s n : Int) : Int := s / tnF n % 10
theorem tF_of {n z : Int} (h : n = -1 ∧ z = 1000000 ∨ n = 0 ∧ z = 100000 ∨ n = 1 ∧ z = 10000 ∨ n = 2 ∧ z = 1000 ∨ n = 3 ∧ z = 100 ∨ n = 4 ∧ z = 10 ∨ 5 ≤ n ∧ z = 1) : z = tnF n := by
  unfold tnF
  repeat' split
  all_goals omega
theorem tF_cs {n : Int} (h : -1 ≤ n) : n = -1 ∧ tnF n = 1000000 ∨ n = 0 ∧ tnF n = 100000 ∨ n = 1 ∧ tnF n = 10000 ∨ n = 2 ∧ tnF n = 1000 ∨ n = 3 ∧ tnF n = 100 ∨ n = 4 ∧ tnF n = 10 ∨ 5 ≤ n ∧ tnF n = 1 := by
  unfold tnF
  repeat' split
  all_goals omega
theorem vo_ok {s n z : Int} (hs : 0 ≤ s) (h : n = -1 ∧ z = 1000000 ∨ n = 0 ∧ z = 100000 ∨ n = 1 ∧ z = 10000 ∨ n = 2 ∧ z = 1000 ∨ n = 3 ∧ z = 100 ∨ n = 4 ∧ z = 10 ∨ 5 ≤ n ∧ z = 1) : Int.tmod (Int.tdiv s z) 10 = dg s n ∧ 0 ≤ Int.tmod (Int.tdiv s z) 10 ∧ Int.tmod (Int.tdiv s z) 10 ≤ 9 := by
  have e := tF_of h
  subst e
  have hz : 0 ≤ tnF n := by omega
  have e1 : Int.tdiv s (tnF n) = s / tnF n := Int.tdiv_eq_ediv_of_nonneg hs
  have e2 : 0 ≤ s / tnF n := Int.ediv_nonneg hs hz
  have e3 : Int.tmod (s / tnF n) 10 = s / tnF n % 10 := Int.tmod_eq_emod_of_nonneg e2
  rw [e1, e3]
  exact ⟨rfl, by omega, by omega⟩
theorem td_rng {s z : Int} (hs : 0 ≤ s ∧ s ≤ 2147483647) (hz : 1 ≤ z) : -2147483648 ≤ Int.tdiv s z ∧ Int.tdiv s z ≤ 2147483647 := by
  rw [Int.tdiv_eq_ediv_of_nonneg hs.1]
  have h1 : 0 ≤ s / z := Int.ediv_nonneg hs.1 (by omega)
  have h2 : s / z ≤ s := Int.ediv_le_self z hs.1
  omega
theorem wi_ok {s n v : Int} (hs : 0 ≤ s ∧ s ≤ 9999999) (hn : -1 ≤ n ∧ n ≤ 5) (hv : 0 ≤ v ∧ v ≤ 9) : 0 ≤ s + (v - dg s n) * tnF n ∧ s + (v - dg s n) * tnF n ≤ 9999999 := by
  unfold dg
  rcases tF_cs hn.1 with h | h | h | h | h | h | h
  all_goals (rw [h.2]; omega)
theorem tm10 (v : Int) : Int.tmod v 10 = v % 10 ∨ (v < 0 ∧ Int.tmod v 10 = -((-v) % 10)) := by
  by_cases h : 0 ≤ v
  · exact Or.inl (Int.tmod_eq_emod_of_nonneg h)
  · refine Or.inr ⟨by omega, ?_⟩
    have : Int.tmod (-v) 10 = (-v) % 10 := Int.tmod_eq_emod_of_nonneg (by omega)
    rw [Int.neg_tmod] at this
    omega
theorem f_q_in_0_2 : mblkB b_Mo_in [(0, .iload_n 0, vi 0), (1, .iload_n 1, vi 0)] = true := by decide +kernel
theorem e_q_in_2 : decode b_Mo_in 2 = .ok (.if_icmp .lt 12, 3) := by decide +kernel
theorem f_q_in_14_1 : mblkB b_Mo_in [(14, .iconst 0, vi 0)] = true := by decide +kernel
theorem e_q_in_15 : decode b_Mo_in 15 = .ok (.ireturn, 1) := by decide +kernel
theorem f_q_in_5_2 : mblkB b_Mo_in [(5, .iload_n 0, vi 0), (6, .iload_n 2, vi 0)] = true := by decide +kernel
theorem e_q_in_7 : decode b_Mo_in 7 = .ok (.if_icmp .gt 7, 3) := by decide +kernel
theorem f_q_in_10_2 : mblkB b_Mo_in [(10, .iconst 1, vi 1), (11, .goto 4, vi 15)] = true := by decide +kernel
set_option maxHeartbeats 40000000 in
set_option maxRecDepth 100000 in
theorem q_in (l : Launch) (D : va_G) (B : Nat) (H0 : Heap) (ad : mAd) (A : mA) (v a b : Int) (hv : -2147483648 ≤ v ∧ v ≤ 2147483647) (ha : -2147483648 ≤ a ∧ a ≤ 2147483647) (hb : -2147483648 ≤ b ∧ b ≤ 2147483647) : mMet l D B H0 ad y_Mo_in b_Mo_in 3 (some .boolean) 0 0 [vi v, vi a, vi b] A (fun v9 A9 => ∃ z : Int, v9 = some (vi z) ∧ A = A9 ∧ (z = 1 ∧ a ≤ v ∧ v ≤ b ∨ z = 0 ∧ ¬ (a ≤ v ∧ v ≤ b))) := by
  refine m_met (by decide) rfl (fun g w0 C Rm Y E => ?_)
  show JM g D ad w0 A 0 [(0, vi v), (1, vi a), (2, vi b)] []
  refine m_blk 2 [(0, vi v), (1, vi a), (2, vi b)] [vi a, vi v] C f_q_in_0_2 rfl ?_
  refine m_icmp_lt (tgt := 14) C e_q_in_2 (by decide) (by omega) (by omega) (fun c1 => ?_) (fun c1 => ?_)
  · refine m_blk 15 [(0, vi v), (1, vi a), (2, vi b)] [vi 0] C f_q_in_14_1 rfl ?_
    exact m_zret C Rm E (Or.inl rfl) e_q_in_15 ⟨_, rfl, rfl, by omega⟩
  · refine m_blk 7 [(0, vi v), (1, vi a), (2, vi b)] [vi b, vi v] C f_q_in_5_2 rfl ?_
    refine m_icmp_gt (tgt := 14) C e_q_in_7 (by decide) (by omega) (by omega) (fun c2 => ?_) (fun c2 => ?_)
    · refine m_blk 15 [(0, vi v), (1, vi a), (2, vi b)] [vi 0] C f_q_in_14_1 rfl ?_
      exact m_zret C Rm E (Or.inl rfl) e_q_in_15 ⟨_, rfl, rfl, by omega⟩
    · refine m_blk 15 [(0, vi v), (1, vi a), (2, vi b)] [vi 1] C f_q_in_10_2 rfl ?_
      exact m_zret C Rm E (Or.inr rfl) e_q_in_15 ⟨_, rfl, rfl, by omega⟩

theorem f_q_isName_0_3 : mblkB b_Mo_isName [(0, .iload_n 0, vi 0), (1, .iconst 0, vi 0), (2, .iconst 5, vi 5)] = true := by decide +kernel
theorem e_q_isName_3 : decode b_Mo_isName 3 = .ok (.invokestatic 108, 3) := by decide +kernel
theorem e_q_isName_6 : decode b_Mo_isName 6 = .ok (.ireturn, 1) := by decide +kernel
set_option maxHeartbeats 40000000 in
set_option maxRecDepth 100000 in
theorem q_isName (l : Launch) (D : va_G) (B : Nat) (H0 : Heap) (ad : mAd) (A : mA) (v : Int) (hv : -2147483648 ≤ v ∧ v ≤ 2147483647) : mMet l D B H0 ad y_Mo_isName b_Mo_isName 1 (some .boolean) 1 40 [vi v] A (fun v9 A9 => ∃ z : Int, v9 = some (vi z) ∧ A = A9 ∧ (z = 1 ∧ 0 ≤ v ∧ v ≤ 5 ∨ z = 0 ∧ ¬ (0 ≤ v ∧ v ≤ 5))) := by
  refine m_met (by decide) rfl (fun g w0 C Rm Y E => ?_)
  show JM g D ad w0 A 0 [(0, vi v)] []
  refine m_blk 3 [(0, vi v)] [vi 5, vi 0, vi v] C f_q_isName_0_3 rfl ?_
  refine m_callS C Rm Y [vi v, vi 0, vi 5] [] (q_in l D B H0 ad _ v 0 5 (by omega) (by decide) (by decide)) cl_Mo_108 e_q_isName_3 rfl rfl rfl ⟨by decide, by decide⟩ ?_
  rintro v1 A2 ⟨z4, rfl, rfl, hz4⟩
  show JM g D ad w0 A 6 [(0, vi v)] [vi z4]
  exact m_zret C Rm E (by omega) e_q_isName_6 ⟨_, rfl, rfl, by omega⟩

theorem f_q_isByte_0_3 : mblkB b_Mo_isByte [(0, .iload_n 0, vi 0), (1, .iconst 0, vi 0), (2, .sipush 255, vi 255)] = true := by decide +kernel
theorem e_q_isByte_5 : decode b_Mo_isByte 5 = .ok (.invokestatic 108, 3) := by decide +kernel
theorem e_q_isByte_8 : decode b_Mo_isByte 8 = .ok (.ireturn, 1) := by decide +kernel
set_option maxHeartbeats 40000000 in
set_option maxRecDepth 100000 in
theorem q_isByte (l : Launch) (D : va_G) (B : Nat) (H0 : Heap) (ad : mAd) (A : mA) (v : Int) (hv : -2147483648 ≤ v ∧ v ≤ 2147483647) : mMet l D B H0 ad y_Mo_isByte b_Mo_isByte 1 (some .boolean) 1 40 [vi v] A (fun v9 A9 => ∃ z : Int, v9 = some (vi z) ∧ A = A9 ∧ (z = 1 ∧ 0 ≤ v ∧ v ≤ 255 ∨ z = 0 ∧ ¬ (0 ≤ v ∧ v ≤ 255))) := by
  refine m_met (by decide) rfl (fun g w0 C Rm Y E => ?_)
  show JM g D ad w0 A 0 [(0, vi v)] []
  refine m_blk 5 [(0, vi v)] [vi 255, vi 0, vi v] C f_q_isByte_0_3 rfl ?_
  refine m_callS C Rm Y [vi v, vi 0, vi 255] [] (q_in l D B H0 ad _ v 0 255 (by omega) (by decide) (by decide)) cl_Mo_108 e_q_isByte_5 rfl rfl rfl ⟨by decide, by decide⟩ ?_
  rintro v1 A2 ⟨z4, rfl, rfl, hz4⟩
  show JM g D ad w0 A 8 [(0, vi v)] [vi z4]
  exact m_zret C Rm E (by omega) e_q_isByte_8 ⟨_, rfl, rfl, by omega⟩

theorem f_q_isSheet_0_3 : mblkB b_Mo_isSheet [(0, .iload_n 0, vi 0), (1, .iconst 0, vi 0), (2, .iconst 3, vi 3)] = true := by decide +kernel
theorem e_q_isSheet_3 : decode b_Mo_isSheet 3 = .ok (.invokestatic 108, 3) := by decide +kernel
theorem e_q_isSheet_6 : decode b_Mo_isSheet 6 = .ok (.ireturn, 1) := by decide +kernel
set_option maxHeartbeats 40000000 in
set_option maxRecDepth 100000 in
theorem q_isSheet (l : Launch) (D : va_G) (B : Nat) (H0 : Heap) (ad : mAd) (A : mA) (v : Int) (hv : -2147483648 ≤ v ∧ v ≤ 2147483647) : mMet l D B H0 ad y_Mo_isSheet b_Mo_isSheet 1 (some .boolean) 1 40 [vi v] A (fun v9 A9 => ∃ z : Int, v9 = some (vi z) ∧ A = A9 ∧ (z = 1 ∧ 0 ≤ v ∧ v ≤ 3 ∨ z = 0 ∧ ¬ (0 ≤ v ∧ v ≤ 3))) := by
  refine m_met (by decide) rfl (fun g w0 C Rm Y E => ?_)
  show JM g D ad w0 A 0 [(0, vi v)] []
  refine m_blk 3 [(0, vi v)] [vi 3, vi 0, vi v] C f_q_isSheet_0_3 rfl ?_
  refine m_callS C Rm Y [vi v, vi 0, vi 3] [] (q_in l D B H0 ad _ v 0 3 (by omega) (by decide) (by decide)) cl_Mo_108 e_q_isSheet_3 rfl rfl rfl ⟨by decide, by decide⟩ ?_
  rintro v1 A2 ⟨z4, rfl, rfl, hz4⟩
  show JM g D ad w0 A 6 [(0, vi v)] [vi z4]
  exact m_zret C Rm E (by omega) e_q_isSheet_6 ⟨_, rfl, rfl, by omega⟩

theorem f_q_isProgram_0_3 : mblkB b_Mo_isProgram [(0, .iload_n 1, vi 0), (1, .iconst 0, vi 0), (2, .aload_n 0, vi 0)] = true := by decide +kernel
theorem e_q_isProgram_3 : decode b_Mo_isProgram 3 = .ok (.getfield 105, 3) := by decide +kernel
theorem f_q_isProgram_6_2 : mblkB b_Mo_isProgram [(6, .iconst 1, vi 1), (7, .isub, vi 0)] = true := by decide +kernel
theorem e_q_isProgram_8 : decode b_Mo_isProgram 8 = .ok (.invokestatic 108, 3) := by decide +kernel
theorem e_q_isProgram_11 : decode b_Mo_isProgram 11 = .ok (.ireturn, 1) := by decide +kernel
set_option maxHeartbeats 40000000 in
set_option maxRecDepth 100000 in
theorem q_isProgram (l : Launch) (D : va_G) (B : Nat) (H0 : Heap) (ad : mAd) (A : mA) (hT : mTy A) (v : Int) (hv : -2147483648 ≤ v ∧ v ≤ 2147483647) : mMet l D B H0 ad y_Mo_isProgram b_Mo_isProgram 2 (some .boolean) 1 40 [vr 0 0, vi v] A (fun v9 A9 => ∃ z : Int, v9 = some (vi z) ∧ A = A9 ∧ (z = 1 ∧ 0 ≤ v ∧ v < A 0 0 0 ∨ z = 0 ∧ ¬ (0 ≤ v ∧ v < A 0 0 0))) := by
  refine m_met (by decide) rfl (fun g w0 C Rm Y E => ?_)
  show JM g D ad w0 A 0 [(0, vr 0 0), (1, vi v)] []
  refine m_blk 3 [(0, vr 0 0), (1, vi v)] [vr 0 0, vi 0, vi v] C f_q_isProgram_0_3 rfl ?_
  obtain ⟨x1, hx1⟩ : ∃ x, A 0 0 0 = x := ⟨_, rfl⟩
  have rx1 : 0 ≤ x1 ∧ x1 ≤ 6 := mrg hT hx1 rfl
  refine m_geti C e_q_isProgram_3 fg_Mo_105 rfl (by decide) rfl x1 hx1 ?_
  refine m_blk 8 [(0, vr 0 0), (1, vi v)] [vi (x1 - 1), vi 0, vi v] C f_q_isProgram_6_2 rfl ?_
  refine m_callS C Rm Y [vi v, vi 0, vi (x1 - 1)] [] (q_in l D B H0 ad _ v 0 (x1 - 1) (by omega) (by decide) (by omega)) cl_Mo_108 e_q_isProgram_8 rfl rfl rfl ⟨by decide, by decide⟩ ?_
  rintro v2 A3 ⟨z5, rfl, rfl, hz5⟩
  show JM g D ad w0 A 11 [(0, vr 0 0), (1, vi v)] [vi z5]
  exact m_zret C Rm E (by omega) e_q_isProgram_11 ⟨_, rfl, rfl, by omega⟩

theorem f_q_byteAt_0_2 : mblkB b_Mo_byteAt [(0, .iload_n 1, vi 0), (1, .aload_n 0, vi 0)] = true := by decide +kernel
theorem e_q_byteAt_2 : decode b_Mo_byteAt 2 = .ok (.getfield 116, 3) := by decide +kernel
theorem e_q_byteAt_5 : decode b_Mo_byteAt 5 = .ok (.if_icmp .ge 12, 3) := by decide +kernel
theorem f_q_byteAt_17_1 : mblkB b_Mo_byteAt [(17, .iconst (-1), vi (-1))] = true := by decide +kernel
theorem e_q_byteAt_18 : decode b_Mo_byteAt 18 = .ok (.ireturn, 1) := by decide +kernel
theorem f_q_byteAt_8_1 : mblkB b_Mo_byteAt [(8, .aload_n 0, vi 0)] = true := by decide +kernel
theorem e_q_byteAt_9 : decode b_Mo_byteAt 9 = .ok (.getfield 76, 3) := by decide +kernel
theorem f_q_byteAt_12_1 : mblkB b_Mo_byteAt [(12, .iload_n 1, vi 0)] = true := by decide +kernel
theorem e_q_byteAt_13 : decode b_Mo_byteAt 13 = .ok (.iaload, 1) := by decide +kernel
theorem f_q_byteAt_14_1 : mblkB b_Mo_byteAt [(14, .goto 4, vi 18)] = true := by decide +kernel
set_option maxHeartbeats 40000000 in
set_option maxRecDepth 100000 in
theorem q_byteAt (l : Launch) (D : va_G) (B : Nat) (H0 : Heap) (ad : mAd) (A : mA) (hT : mTy A) (k : Int) (hk : 0 ≤ k ∧ k ≤ 2147483647) : mMet l D B H0 ad y_Mo_byteAt b_Mo_byteAt 2 (some .int) 0 0 [vr 0 0, vi k] A (fun v9 A9 => ∃ z : Int, v9 = some (vi z) ∧ A = A9 ∧ (A 0 0 22 ≤ k ∧ z = -1 ∨ k < A 0 0 22 ∧ 0 ≤ z ∧ z ≤ 255 ∧ z = A 9 0 k.toNat)) := by
  refine m_met (by decide) rfl (fun g w0 C Rm Y E => ?_)
  show JM g D ad w0 A 0 [(0, vr 0 0), (1, vi k)] []
  refine m_blk 2 [(0, vr 0 0), (1, vi k)] [vr 0 0, vi k] C f_q_byteAt_0_2 rfl ?_
  obtain ⟨x1, hx1⟩ : ∃ x, A 0 0 22 = x := ⟨_, rfl⟩
  have rx1 : 0 ≤ x1 ∧ x1 ≤ 120 := mrg hT hx1 rfl
  refine m_geti C e_q_byteAt_2 fg_Mo_116 rfl (by decide) rfl x1 hx1 ?_
  refine m_icmp_ge (tgt := 17) C e_q_byteAt_5 (by decide) (by omega) (by omega) (fun c2 => ?_) (fun c2 => ?_)
  · refine m_blk 18 [(0, vr 0 0), (1, vi k)] [vi (-1)] C f_q_byteAt_17_1 rfl ?_
    exact m_iret C Rm E e_q_byteAt_18 ⟨_, rfl, rfl, by omega⟩
  · refine m_blk 9 [(0, vr 0 0), (1, vi k)] [vr 0 0] C f_q_byteAt_8_1 rfl ?_
    refine m_getr C e_q_byteAt_9 fg_Mo_76 rfl (by decide) rfl ?_
    refine m_blk 13 [(0, vr 0 0), (1, vi k)] [vi k, vr 9 0] C f_q_byteAt_12_1 rfl ?_
    obtain ⟨x3, hx3⟩ : ∃ x, A 9 0 k.toNat = x := ⟨_, rfl⟩
    have rx3 : 0 ≤ x3 ∧ x3 ≤ 255 := mrg hT hx3 rfl
    refine m_iald C e_q_byteAt_13 rfl (by decide) (by decide) (by omega) (by show k < ((120 : Nat) : Int); omega) x3 hx3 ?_
    refine m_blk 18 [(0, vr 0 0), (1, vi k)] [vi x3] C f_q_byteAt_14_1 rfl ?_
    exact m_iret C Rm E e_q_byteAt_18 ⟨_, rfl, rfl, by omega⟩

theorem f_q_isSign_0_1 : mblkB b_Mo_isSign [(0, .aload_n 0, vi 0)] = true := by decide +kernel
theorem e_q_isSign_1 : decode b_Mo_isSign 1 = .ok (.getfield 155, 3) := by decide +kernel
theorem e_q_isSign_4 : decode b_Mo_isSign 4 = .ok (.ifCond .ne 23, 3) := by decide +kernel
theorem f_q_isSign_27_1 : mblkB b_Mo_isSign [(27, .iconst 0, vi 0)] = true := by decide +kernel
theorem e_q_isSign_28 : decode b_Mo_isSign 28 = .ok (.ireturn, 1) := by decide +kernel
theorem f_q_isSign_7_1 : mblkB b_Mo_isSign [(7, .aload_n 0, vi 0)] = true := by decide +kernel
theorem e_q_isSign_8 : decode b_Mo_isSign 8 = .ok (.getfield 159, 3) := by decide +kernel
theorem f_q_isSign_11_1 : mblkB b_Mo_isSign [(11, .iconst 4, vi 4)] = true := by decide +kernel
theorem e_q_isSign_12 : decode b_Mo_isSign 12 = .ok (.if_icmp .ne 15, 3) := by decide +kernel
theorem f_q_isSign_15_1 : mblkB b_Mo_isSign [(15, .aload_n 0, vi 0)] = true := by decide +kernel
theorem e_q_isSign_16 : decode b_Mo_isSign 16 = .ok (.getfield 165, 3) := by decide +kernel
theorem f_q_isSign_19_1 : mblkB b_Mo_isSign [(19, .iload_n 1, vi 0)] = true := by decide +kernel
theorem e_q_isSign_20 : decode b_Mo_isSign 20 = .ok (.if_icmp .ne 7, 3) := by decide +kernel
theorem f_q_isSign_23_2 : mblkB b_Mo_isSign [(23, .iconst 1, vi 1), (24, .goto 4, vi 28)] = true := by decide +kernel
set_option maxHeartbeats 40000000 in
set_option maxRecDepth 100000 in
theorem q_isSign (l : Launch) (D : va_G) (B : Nat) (H0 : Heap) (ad : mAd) (A : mA) (hT : mTy A) (c : Int) (hc : -2147483648 ≤ c ∧ c ≤ 2147483647) : mMet l D B H0 ad y_Mo_isSign b_Mo_isSign 2 (some .boolean) 0 0 [vr 0 0, vi c] A (fun v9 A9 => ∃ z : Int, v9 = some (vi z) ∧ A = A9 ∧ (z = 1 ∧ A 0 0 31 = 0 ∧ A 0 0 25 = 4 ∧ A 0 0 26 = c ∨ z = 0 ∧ ¬ (A 0 0 31 = 0 ∧ A 0 0 25 = 4 ∧ A 0 0 26 = c))) := by
  refine m_met (by decide) rfl (fun g w0 C Rm Y E => ?_)
  show JM g D ad w0 A 0 [(0, vr 0 0), (1, vi c)] []
  refine m_blk 1 [(0, vr 0 0), (1, vi c)] [vr 0 0] C f_q_isSign_0_1 rfl ?_
  obtain ⟨x1, hx1⟩ : ∃ x, A 0 0 31 = x := ⟨_, rfl⟩
  have rx1 : 0 ≤ x1 ∧ x1 ≤ 1 := mrg hT hx1 rfl
  refine m_geti C e_q_isSign_1 fg_Mo_155 rfl (by decide) rfl x1 hx1 ?_
  refine m_if_ne (tgt := 27) C e_q_isSign_4 (by decide) (by omega) (fun c2 => ?_) (fun c2 => ?_)
  · refine m_blk 28 [(0, vr 0 0), (1, vi c)] [vi 0] C f_q_isSign_27_1 rfl ?_
    exact m_zret C Rm E (Or.inl rfl) e_q_isSign_28 ⟨_, rfl, rfl, by omega⟩
  · refine m_blk 8 [(0, vr 0 0), (1, vi c)] [vr 0 0] C f_q_isSign_7_1 rfl ?_
    obtain ⟨x3, hx3⟩ : ∃ x, A 0 0 25 = x := ⟨_, rfl⟩
    have rx3 : 0 ≤ x3 ∧ x3 ≤ 4 := mrg hT hx3 rfl
    refine m_geti C e_q_isSign_8 fg_Mo_159 rfl (by decide) rfl x3 hx3 ?_
    refine m_blk 12 [(0, vr 0 0), (1, vi c)] [vi 4, vi x3] C f_q_isSign_11_1 rfl ?_
    refine m_icmp_ne (tgt := 27) C e_q_isSign_12 (by decide) (by omega) (by decide) (fun c4 => ?_) (fun c4 => ?_)
    · refine m_blk 28 [(0, vr 0 0), (1, vi c)] [vi 0] C f_q_isSign_27_1 rfl ?_
      exact m_zret C Rm E (Or.inl rfl) e_q_isSign_28 ⟨_, rfl, rfl, by omega⟩
    · refine m_blk 16 [(0, vr 0 0), (1, vi c)] [vr 0 0] C f_q_isSign_15_1 rfl ?_
      obtain ⟨x5, hx5⟩ : ∃ x, A 0 0 26 = x := ⟨_, rfl⟩
      have rx5 : (-1) ≤ x5 ∧ x5 ≤ 255 := mrg hT hx5 rfl
      refine m_geti C e_q_isSign_16 fg_Mo_165 rfl (by decide) rfl x5 hx5 ?_
      refine m_blk 20 [(0, vr 0 0), (1, vi c)] [vi c, vi x5] C f_q_isSign_19_1 rfl ?_
      refine m_icmp_ne (tgt := 27) C e_q_isSign_20 (by decide) (by omega) (by omega) (fun c6 => ?_) (fun c6 => ?_)
      · refine m_blk 28 [(0, vr 0 0), (1, vi c)] [vi 0] C f_q_isSign_27_1 rfl ?_
        exact m_zret C Rm E (Or.inl rfl) e_q_isSign_28 ⟨_, rfl, rfl, by omega⟩
      · refine m_blk 28 [(0, vr 0 0), (1, vi c)] [vi 1] C f_q_isSign_23_2 rfl ?_
        exact m_zret C Rm E (Or.inr rfl) e_q_isSign_28 ⟨_, rfl, rfl, by omega⟩

theorem f_q_tens_0_6 : mblkB b_Mo_tens [(0, .iconst 1, vi 1), (1, .istore_n 1, vi 0), (2, .iload_n 0, vi 0), (3, .istore_n 2, vi 0), (4, .iload_n 2, vi 0), (5, .iconst 5, vi 5)] = true := by decide +kernel
theorem e_q_tens_6 : decode b_Mo_tens 6 = .ok (.if_icmp .ge 14, 3) := by decide +kernel
theorem f_q_tens_9_6 : mblkB b_Mo_tens [(9, .iload_n 1, vi 0), (10, .bipush 10, vi 10), (12, .imul, vi 0), (13, .istore_n 1, vi 0), (14, .iinc 2 1, vi 1), (17, .goto (-13), vi 4)] = true := by decide +kernel
theorem f_q_tens_4_2 : mblkB b_Mo_tens [(4, .iload_n 2, vi 0), (5, .iconst 5, vi 5)] = true := by decide +kernel
theorem f_q_tens_20_1 : mblkB b_Mo_tens [(20, .iload_n 1, vi 0)] = true := by decide +kernel
theorem e_q_tens_21 : decode b_Mo_tens 21 = .ok (.ireturn, 1) := by decide +kernel
set_option maxHeartbeats 40000000 in
set_option maxRecDepth 100000 in
theorem q_tens (l : Launch) (D : va_G) (B : Nat) (H0 : Heap) (ad : mAd) (A : mA) (n : Int) (hn : -1 ≤ n ∧ n ≤ 2147483647) : mMet l D B H0 ad y_Mo_tens b_Mo_tens 3 (some .int) 0 0 [vi n] A (fun v9 A9 => ∃ z : Int, v9 = some (vi z) ∧ A = A9 ∧ (n = -1 ∧ z = 1000000 ∨ n = 0 ∧ z = 100000 ∨ n = 1 ∧ z = 10000 ∨ n = 2 ∧ z = 1000 ∨ n = 3 ∧ z = 100 ∨ n = 4 ∧ z = 10 ∨ 5 ≤ n ∧ z = 1)) := by
  refine m_met (by decide) rfl (fun g w0 C Rm Y E => ?_)
  show JM g D ad w0 A 0 [(0, vi n)] []
  by_cases g0 : n = (-1)
  · subst g0
    refine m_blk 6 [(2, vi (-1)), (1, vi 1), (0, vi (-1))] [vi 5, vi (-1)] C f_q_tens_0_6 rfl ?_
    refine m_icmp_ge (tgt := 20) C e_q_tens_6 (by decide) (by decide) (by decide) (fun c1 => (by omega : False).elim) (fun c1 => ?_)
    refine m_blk 4 [(2, vi 0), (1, vi 10), (0, vi (-1))] [] C f_q_tens_9_6 rfl ?_
    refine m_blk 6 [(2, vi 0), (1, vi 10), (0, vi (-1))] [vi 5, vi 0] C f_q_tens_4_2 rfl ?_
    refine m_icmp_ge (tgt := 20) C e_q_tens_6 (by decide) (by decide) (by decide) (fun c2 => (by omega : False).elim) (fun c2 => ?_)
    refine m_blk 4 [(2, vi 1), (1, vi 100), (0, vi (-1))] [] C f_q_tens_9_6 rfl ?_
    refine m_blk 6 [(2, vi 1), (1, vi 100), (0, vi (-1))] [vi 5, vi 1] C f_q_tens_4_2 rfl ?_
    refine m_icmp_ge (tgt := 20) C e_q_tens_6 (by decide) (by decide) (by decide) (fun c3 => (by omega : False).elim) (fun c3 => ?_)
    refine m_blk 4 [(2, vi 2), (1, vi 1000), (0, vi (-1))] [] C f_q_tens_9_6 rfl ?_
    refine m_blk 6 [(2, vi 2), (1, vi 1000), (0, vi (-1))] [vi 5, vi 2] C f_q_tens_4_2 rfl ?_
    refine m_icmp_ge (tgt := 20) C e_q_tens_6 (by decide) (by decide) (by decide) (fun c4 => (by omega : False).elim) (fun c4 => ?_)
    refine m_blk 4 [(2, vi 3), (1, vi 10000), (0, vi (-1))] [] C f_q_tens_9_6 rfl ?_
    refine m_blk 6 [(2, vi 3), (1, vi 10000), (0, vi (-1))] [vi 5, vi 3] C f_q_tens_4_2 rfl ?_
    refine m_icmp_ge (tgt := 20) C e_q_tens_6 (by decide) (by decide) (by decide) (fun c5 => (by omega : False).elim) (fun c5 => ?_)
    refine m_blk 4 [(2, vi 4), (1, vi 100000), (0, vi (-1))] [] C f_q_tens_9_6 rfl ?_
    refine m_blk 6 [(2, vi 4), (1, vi 100000), (0, vi (-1))] [vi 5, vi 4] C f_q_tens_4_2 rfl ?_
    refine m_icmp_ge (tgt := 20) C e_q_tens_6 (by decide) (by decide) (by decide) (fun c6 => (by omega : False).elim) (fun c6 => ?_)
    refine m_blk 4 [(2, vi 5), (1, vi 1000000), (0, vi (-1))] [] C f_q_tens_9_6 rfl ?_
    refine m_blk 6 [(2, vi 5), (1, vi 1000000), (0, vi (-1))] [vi 5, vi 5] C f_q_tens_4_2 rfl ?_
    refine m_icmp_ge (tgt := 20) C e_q_tens_6 (by decide) (by decide) (by decide) (fun c7 => ?_) (fun c7 => (by omega : False).elim)
    refine m_blk 21 [(2, vi 5), (1, vi 1000000), (0, vi (-1))] [vi 1000000] C f_q_tens_20_1 rfl ?_
    exact m_iret C Rm E e_q_tens_21 ⟨_, rfl, rfl, by omega⟩
  by_cases g1 : n = 0
  · subst g1
    refine m_blk 6 [(2, vi 0), (1, vi 1), (0, vi 0)] [vi 5, vi 0] C f_q_tens_0_6 rfl ?_
    refine m_icmp_ge (tgt := 20) C e_q_tens_6 (by decide) (by decide) (by decide) (fun c8 => (by omega : False).elim) (fun c8 => ?_)
    refine m_blk 4 [(2, vi 1), (1, vi 10), (0, vi 0)] [] C f_q_tens_9_6 rfl ?_
    refine m_blk 6 [(2, vi 1), (1, vi 10), (0, vi 0)] [vi 5, vi 1] C f_q_tens_4_2 rfl ?_
    refine m_icmp_ge (tgt := 20) C e_q_tens_6 (by decide) (by decide) (by decide) (fun c9 => (by omega : False).elim) (fun c9 => ?_)
    refine m_blk 4 [(2, vi 2), (1, vi 100), (0, vi 0)] [] C f_q_tens_9_6 rfl ?_
    refine m_blk 6 [(2, vi 2), (1, vi 100), (0, vi 0)] [vi 5, vi 2] C f_q_tens_4_2 rfl ?_
    refine m_icmp_ge (tgt := 20) C e_q_tens_6 (by decide) (by decide) (by decide) (fun c10 => (by omega : False).elim) (fun c10 => ?_)
    refine m_blk 4 [(2, vi 3), (1, vi 1000), (0, vi 0)] [] C f_q_tens_9_6 rfl ?_
    refine m_blk 6 [(2, vi 3), (1, vi 1000), (0, vi 0)] [vi 5, vi 3] C f_q_tens_4_2 rfl ?_
    refine m_icmp_ge (tgt := 20) C e_q_tens_6 (by decide) (by decide) (by decide) (fun c11 => (by omega : False).elim) (fun c11 => ?_)
    refine m_blk 4 [(2, vi 4), (1, vi 10000), (0, vi 0)] [] C f_q_tens_9_6 rfl ?_
    refine m_blk 6 [(2, vi 4), (1, vi 10000), (0, vi 0)] [vi 5, vi 4] C f_q_tens_4_2 rfl ?_
    refine m_icmp_ge (tgt := 20) C e_q_tens_6 (by decide) (by decide) (by decide) (fun c12 => (by omega : False).elim) (fun c12 => ?_)
    refine m_blk 4 [(2, vi 5), (1, vi 100000), (0, vi 0)] [] C f_q_tens_9_6 rfl ?_
    refine m_blk 6 [(2, vi 5), (1, vi 100000), (0, vi 0)] [vi 5, vi 5] C f_q_tens_4_2 rfl ?_
    refine m_icmp_ge (tgt := 20) C e_q_tens_6 (by decide) (by decide) (by decide) (fun c13 => ?_) (fun c13 => (by omega : False).elim)
    refine m_blk 21 [(2, vi 5), (1, vi 100000), (0, vi 0)] [vi 100000] C f_q_tens_20_1 rfl ?_
    exact m_iret C Rm E e_q_tens_21 ⟨_, rfl, rfl, by omega⟩
  by_cases g2 : n = 1
  · subst g2
    refine m_blk 6 [(2, vi 1), (1, vi 1), (0, vi 1)] [vi 5, vi 1] C f_q_tens_0_6 rfl ?_
    refine m_icmp_ge (tgt := 20) C e_q_tens_6 (by decide) (by decide) (by decide) (fun c14 => (by omega : False).elim) (fun c14 => ?_)
    refine m_blk 4 [(2, vi 2), (1, vi 10), (0, vi 1)] [] C f_q_tens_9_6 rfl ?_
    refine m_blk 6 [(2, vi 2), (1, vi 10), (0, vi 1)] [vi 5, vi 2] C f_q_tens_4_2 rfl ?_
    refine m_icmp_ge (tgt := 20) C e_q_tens_6 (by decide) (by decide) (by decide) (fun c15 => (by omega : False).elim) (fun c15 => ?_)
    refine m_blk 4 [(2, vi 3), (1, vi 100), (0, vi 1)] [] C f_q_tens_9_6 rfl ?_
    refine m_blk 6 [(2, vi 3), (1, vi 100), (0, vi 1)] [vi 5, vi 3] C f_q_tens_4_2 rfl ?_
    refine m_icmp_ge (tgt := 20) C e_q_tens_6 (by decide) (by decide) (by decide) (fun c16 => (by omega : False).elim) (fun c16 => ?_)
    refine m_blk 4 [(2, vi 4), (1, vi 1000), (0, vi 1)] [] C f_q_tens_9_6 rfl ?_
    refine m_blk 6 [(2, vi 4), (1, vi 1000), (0, vi 1)] [vi 5, vi 4] C f_q_tens_4_2 rfl ?_
    refine m_icmp_ge (tgt := 20) C e_q_tens_6 (by decide) (by decide) (by decide) (fun c17 => (by omega : False).elim) (fun c17 => ?_)
    refine m_blk 4 [(2, vi 5), (1, vi 10000), (0, vi 1)] [] C f_q_tens_9_6 rfl ?_
    refine m_blk 6 [(2, vi 5), (1, vi 10000), (0, vi 1)] [vi 5, vi 5] C f_q_tens_4_2 rfl ?_
    refine m_icmp_ge (tgt := 20) C e_q_tens_6 (by decide) (by decide) (by decide) (fun c18 => ?_) (fun c18 => (by omega : False).elim)
    refine m_blk 21 [(2, vi 5), (1, vi 10000), (0, vi 1)] [vi 10000] C f_q_tens_20_1 rfl ?_
    exact m_iret C Rm E e_q_tens_21 ⟨_, rfl, rfl, by omega⟩
  by_cases g3 : n = 2
  · subst g3
    refine m_blk 6 [(2, vi 2), (1, vi 1), (0, vi 2)] [vi 5, vi 2] C f_q_tens_0_6 rfl ?_
    refine m_icmp_ge (tgt := 20) C e_q_tens_6 (by decide) (by decide) (by decide) (fun c19 => (by omega : False).elim) (fun c19 => ?_)
    refine m_blk 4 [(2, vi 3), (1, vi 10), (0, vi 2)] [] C f_q_tens_9_6 rfl ?_
    refine m_blk 6 [(2, vi 3), (1, vi 10), (0, vi 2)] [vi 5, vi 3] C f_q_tens_4_2 rfl ?_
    refine m_icmp_ge (tgt := 20) C e_q_tens_6 (by decide) (by decide) (by decide) (fun c20 => (by omega : False).elim) (fun c20 => ?_)
    refine m_blk 4 [(2, vi 4), (1, vi 100), (0, vi 2)] [] C f_q_tens_9_6 rfl ?_
    refine m_blk 6 [(2, vi 4), (1, vi 100), (0, vi 2)] [vi 5, vi 4] C f_q_tens_4_2 rfl ?_
    refine m_icmp_ge (tgt := 20) C e_q_tens_6 (by decide) (by decide) (by decide) (fun c21 => (by omega : False).elim) (fun c21 => ?_)
    refine m_blk 4 [(2, vi 5), (1, vi 1000), (0, vi 2)] [] C f_q_tens_9_6 rfl ?_
    refine m_blk 6 [(2, vi 5), (1, vi 1000), (0, vi 2)] [vi 5, vi 5] C f_q_tens_4_2 rfl ?_
    refine m_icmp_ge (tgt := 20) C e_q_tens_6 (by decide) (by decide) (by decide) (fun c22 => ?_) (fun c22 => (by omega : False).elim)
    refine m_blk 21 [(2, vi 5), (1, vi 1000), (0, vi 2)] [vi 1000] C f_q_tens_20_1 rfl ?_
    exact m_iret C Rm E e_q_tens_21 ⟨_, rfl, rfl, by omega⟩
  by_cases g4 : n = 3
  · subst g4
    refine m_blk 6 [(2, vi 3), (1, vi 1), (0, vi 3)] [vi 5, vi 3] C f_q_tens_0_6 rfl ?_
    refine m_icmp_ge (tgt := 20) C e_q_tens_6 (by decide) (by decide) (by decide) (fun c23 => (by omega : False).elim) (fun c23 => ?_)
    refine m_blk 4 [(2, vi 4), (1, vi 10), (0, vi 3)] [] C f_q_tens_9_6 rfl ?_
    refine m_blk 6 [(2, vi 4), (1, vi 10), (0, vi 3)] [vi 5, vi 4] C f_q_tens_4_2 rfl ?_
    refine m_icmp_ge (tgt := 20) C e_q_tens_6 (by decide) (by decide) (by decide) (fun c24 => (by omega : False).elim) (fun c24 => ?_)
    refine m_blk 4 [(2, vi 5), (1, vi 100), (0, vi 3)] [] C f_q_tens_9_6 rfl ?_
    refine m_blk 6 [(2, vi 5), (1, vi 100), (0, vi 3)] [vi 5, vi 5] C f_q_tens_4_2 rfl ?_
    refine m_icmp_ge (tgt := 20) C e_q_tens_6 (by decide) (by decide) (by decide) (fun c25 => ?_) (fun c25 => (by omega : False).elim)
    refine m_blk 21 [(2, vi 5), (1, vi 100), (0, vi 3)] [vi 100] C f_q_tens_20_1 rfl ?_
    exact m_iret C Rm E e_q_tens_21 ⟨_, rfl, rfl, by omega⟩
  by_cases g5 : n = 4
  · subst g5
    refine m_blk 6 [(2, vi 4), (1, vi 1), (0, vi 4)] [vi 5, vi 4] C f_q_tens_0_6 rfl ?_
    refine m_icmp_ge (tgt := 20) C e_q_tens_6 (by decide) (by decide) (by decide) (fun c26 => (by omega : False).elim) (fun c26 => ?_)
    refine m_blk 4 [(2, vi 5), (1, vi 10), (0, vi 4)] [] C f_q_tens_9_6 rfl ?_
    refine m_blk 6 [(2, vi 5), (1, vi 10), (0, vi 4)] [vi 5, vi 5] C f_q_tens_4_2 rfl ?_
    refine m_icmp_ge (tgt := 20) C e_q_tens_6 (by decide) (by decide) (by decide) (fun c27 => ?_) (fun c27 => (by omega : False).elim)
    refine m_blk 21 [(2, vi 5), (1, vi 10), (0, vi 4)] [vi 10] C f_q_tens_20_1 rfl ?_
    exact m_iret C Rm E e_q_tens_21 ⟨_, rfl, rfl, by omega⟩
  refine m_blk 6 [(2, vi n), (1, vi 1), (0, vi n)] [vi 5, vi n] C f_q_tens_0_6 rfl ?_
  refine m_icmp_ge (tgt := 20) C e_q_tens_6 (by decide) (by omega) (by decide) (fun c28 => ?_) (fun c28 => (by omega : False).elim)
  refine m_blk 21 [(2, vi n), (1, vi 1), (0, vi n)] [vi 1] C f_q_tens_20_1 rfl ?_
  exact m_iret C Rm E e_q_tens_21 ⟨_, rfl, rfl, by omega⟩

theorem f_q_valueOf_0_2 : mblkB b_Mo_valueOf [(0, .iload_n 0, vi 0), (1, .iload_n 1, vi 0)] = true := by decide +kernel
theorem e_q_valueOf_2 : decode b_Mo_valueOf 2 = .ok (.invokestatic 257, 3) := by decide +kernel
theorem e_q_valueOf_5 : decode b_Mo_valueOf 5 = .ok (.idiv, 1) := by decide +kernel
theorem f_q_valueOf_6_1 : mblkB b_Mo_valueOf [(6, .bipush 10, vi 10)] = true := by decide +kernel
theorem e_q_valueOf_8 : decode b_Mo_valueOf 8 = .ok (.irem, 1) := by decide +kernel
theorem e_q_valueOf_9 : decode b_Mo_valueOf 9 = .ok (.ireturn, 1) := by decide +kernel
set_option maxHeartbeats 40000000 in
set_option maxRecDepth 100000 in
theorem q_valueOf (l : Launch) (D : va_G) (B : Nat) (H0 : Heap) (ad : mAd) (A : mA) (s n : Int) (hs : 0 ≤ s ∧ s ≤ 2147483647) (hn : -1 ≤ n ∧ n ≤ 2147483647) : mMet l D B H0 ad y_Mo_valueOf b_Mo_valueOf 2 (some .int) 1 40 [vi s, vi n] A (fun v9 A9 => ∃ z : Int, v9 = some (vi z) ∧ A = A9 ∧ (z = dg s n ∧ 0 ≤ z ∧ z ≤ 9)) := by
  refine m_met (by decide) rfl (fun g w0 C Rm Y E => ?_)
  show JM g D ad w0 A 0 [(0, vi s), (1, vi n)] []
  refine m_blk 2 [(0, vi s), (1, vi n)] [vi n, vi s] C f_q_valueOf_0_2 rfl ?_
  refine m_callS C Rm Y [vi n] [vi s] (q_tens l D B H0 ad _ n (by omega)) cl_Mo_257 e_q_valueOf_2 rfl rfl rfl ⟨by decide, by decide⟩ ?_
  rintro v1 A2 ⟨z4, rfl, rfl, hz4⟩
  show JM g D ad w0 A 5 [(0, vi s), (1, vi n)] [vi z4, vi s]
  refine m_idiv C e_q_valueOf_5 (by omega) (by omega) (by omega) ?_
  refine m_blk 8 [(0, vi s), (1, vi n)] [vi 10, vi (Int.tdiv s z4)] C f_q_valueOf_6_1 rfl ?_
  refine m_irem C e_q_valueOf_8 (td_rng hs (by omega)) (by decide) (by decide) ?_
  exact m_iret C Rm E e_q_valueOf_9 ⟨_, rfl, rfl, vo_ok hs.1 hz4⟩

theorem f_q_with_0_4 : mblkB b_Mo_with [(0, .iload_n 0, vi 0), (1, .iload_n 2, vi 0), (2, .iload_n 0, vi 0), (3, .iload_n 1, vi 0)] = true := by decide +kernel
theorem e_q_with_4 : decode b_Mo_with 4 = .ok (.invokestatic 260, 3) := by decide +kernel
theorem f_q_with_7_2 : mblkB b_Mo_with [(7, .isub, vi 0), (8, .iload_n 1, vi 0)] = true := by decide +kernel
theorem e_q_with_9 : decode b_Mo_with 9 = .ok (.invokestatic 257, 3) := by decide +kernel
theorem f_q_with_12_2 : mblkB b_Mo_with [(12, .imul, vi 0), (13, .iadd, vi 0)] = true := by decide +kernel
theorem e_q_with_14 : decode b_Mo_with 14 = .ok (.ireturn, 1) := by decide +kernel
set_option maxHeartbeats 40000000 in
set_option maxRecDepth 100000 in
theorem q_with (l : Launch) (D : va_G) (B : Nat) (H0 : Heap) (ad : mAd) (A : mA) (s n v : Int) (hs : 0 ≤ s ∧ s ≤ 9999999) (hn : -1 ≤ n ∧ n ≤ 5) (hv : 0 ≤ v ∧ v ≤ 9) : mMet l D B H0 ad y_Mo_with b_Mo_with 3 (some .int) 2 80 [vi s, vi n, vi v] A (fun v9 A9 => ∃ z : Int, v9 = some (vi z) ∧ A = A9 ∧ (z = s + (v - dg s n) * tnF n ∧ 0 ≤ z ∧ z ≤ 9999999)) := by
  refine m_met (by decide) rfl (fun g w0 C Rm Y E => ?_)
  show JM g D ad w0 A 0 [(0, vi s), (1, vi n), (2, vi v)] []
  refine m_blk 4 [(0, vi s), (1, vi n), (2, vi v)] [vi n, vi s, vi v, vi s] C f_q_with_0_4 rfl ?_
  refine m_callS C Rm Y [vi s, vi n] [vi v, vi s] (q_valueOf l D B H0 ad _ s n (by omega) (by omega)) cl_Mo_260 e_q_with_4 rfl rfl rfl ⟨by decide, by decide⟩ ?_
  rintro v1 A2 ⟨z4, rfl, rfl, hz4⟩
  show JM g D ad w0 A 7 [(0, vi s), (1, vi n), (2, vi v)] [vi z4, vi v, vi s]
  refine m_blk 9 [(0, vi s), (1, vi n), (2, vi v)] [vi n, vi (v - z4), vi s] C f_q_with_7_2 rfl ?_
  refine m_callS C Rm Y [vi n] [vi (v - z4), vi s] (q_tens l D B H0 ad _ n (by omega)) cl_Mo_257 e_q_with_9 rfl rfl rfl ⟨by decide, by decide⟩ ?_
  rintro v5 A6 ⟨z8, rfl, rfl, hz8⟩
  show JM g D ad w0 A 12 [(0, vi s), (1, vi n), (2, vi v)] [vi z8, vi (v - z4), vi s]
  refine m_blk 14 [(0, vi s), (1, vi n), (2, vi v)] [vi (s + ((v - z4) * z8))] C f_q_with_12_2 rfl ?_
  exact m_iret C Rm E e_q_with_14 ⟨_, rfl, rfl, by rw [hz4.1, tF_of hz8]; exact ⟨rfl, wi_ok hs hn hv⟩⟩

theorem f_q_startState_0_6 : mblkB b_Mo_startState [(0, .iconst 0, vi 0), (1, .istore_n 1, vi 0), (2, .iconst 0, vi 0), (3, .istore_n 2, vi 0), (4, .iload_n 2, vi 0), (5, .bipush 6, vi 6)] = true := by decide +kernel
theorem e_q_startState_7 : decode b_Mo_startState 7 = .ok (.if_icmp .ge 21, 3) := by decide +kernel
theorem f_q_startState_10_4 : mblkB b_Mo_startState [(10, .bipush 10, vi 10), (12, .iload_n 1, vi 0), (13, .imul, vi 0), (14, .aload_n 0, vi 0)] = true := by decide +kernel
theorem e_q_startState_15 : decode b_Mo_startState 15 = .ok (.getfield 60, 3) := by decide +kernel
theorem f_q_startState_18_1 : mblkB b_Mo_startState [(18, .iload_n 2, vi 0)] = true := by decide +kernel
theorem e_q_startState_19 : decode b_Mo_startState 19 = .ok (.iaload, 1) := by decide +kernel
theorem f_q_startState_20_4 : mblkB b_Mo_startState [(20, .iadd, vi 0), (21, .istore_n 1, vi 0), (22, .iinc 2 1, vi 1), (25, .goto (-21), vi 4)] = true := by decide +kernel
theorem f_q_startState_4_2 : mblkB b_Mo_startState [(4, .iload_n 2, vi 0), (5, .bipush 6, vi 6)] = true := by decide +kernel
theorem f_q_startState_28_1 : mblkB b_Mo_startState [(28, .iload_n 1, vi 0)] = true := by decide +kernel
theorem e_q_startState_29 : decode b_Mo_startState 29 = .ok (.ireturn, 1) := by decide +kernel
set_option maxHeartbeats 40000000 in
set_option maxRecDepth 100000 in
theorem q_startState (l : Launch) (D : va_G) (B : Nat) (H0 : Heap) (ad : mAd) (A : mA) (hT : mTy A) : mMet l D B H0 ad y_Mo_startState b_Mo_startState 3 (some .int) 0 0 [vr 0 0] A (fun v9 A9 => ∃ z : Int, v9 = some (vi z) ∧ A = A9 ∧ (0 ≤ z ∧ z ≤ 999999 ∧ z = ((((A 8 0 0 * 10 + A 8 0 1) * 10 + A 8 0 2) * 10 + A 8 0 3) * 10 + A 8 0 4) * 10 + A 8 0 5)) := by
  refine m_met (by decide) rfl (fun g w0 C Rm Y E => ?_)
  show JM g D ad w0 A 0 [(0, vr 0 0)] []
  refine m_blk 7 [(2, vi 0), (1, vi 0), (0, vr 0 0)] [vi 6, vi 0] C f_q_startState_0_6 rfl ?_
  refine m_icmp_ge (tgt := 28) C e_q_startState_7 (by decide) (by decide) (by decide) (fun c1 => (by omega : False).elim) (fun c1 => ?_)
  refine m_blk 15 [(2, vi 0), (1, vi 0), (0, vr 0 0)] [vr 0 0, vi 0] C f_q_startState_10_4 rfl ?_
  refine m_getr C e_q_startState_15 fg_Mo_60 rfl (by decide) rfl ?_
  refine m_blk 19 [(2, vi 0), (1, vi 0), (0, vr 0 0)] [vi 0, vr 8 0, vi 0] C f_q_startState_18_1 rfl ?_
  obtain ⟨x2, hx2⟩ : ∃ x, A 8 0 0 = x := ⟨_, rfl⟩
  have rx2 : 0 ≤ x2 ∧ x2 ≤ 9 := mrg hT hx2 rfl
  refine m_iald C e_q_startState_19 rfl (by decide) (by decide) (by decide) (by decide) x2 hx2 ?_
  refine m_blk 4 [(2, vi 1), (1, vi (0 + x2)), (0, vr 0 0)] [] C f_q_startState_20_4 rfl ?_
  refine m_blk 7 [(2, vi 1), (1, vi (0 + x2)), (0, vr 0 0)] [vi 6, vi 1] C f_q_startState_4_2 rfl ?_
  refine m_icmp_ge (tgt := 28) C e_q_startState_7 (by decide) (by decide) (by decide) (fun c3 => (by omega : False).elim) (fun c3 => ?_)
  refine m_blk 15 [(2, vi 1), (1, vi (0 + x2)), (0, vr 0 0)] [vr 0 0, vi (10 * (0 + x2))] C f_q_startState_10_4 rfl ?_
  refine m_getr C e_q_startState_15 fg_Mo_60 rfl (by decide) rfl ?_
  refine m_blk 19 [(2, vi 1), (1, vi (0 + x2)), (0, vr 0 0)] [vi 1, vr 8 0, vi (10 * (0 + x2))] C f_q_startState_18_1 rfl ?_
  obtain ⟨x4, hx4⟩ : ∃ x, A 8 0 1 = x := ⟨_, rfl⟩
  have rx4 : 0 ≤ x4 ∧ x4 ≤ 9 := mrg hT hx4 rfl
  refine m_iald C e_q_startState_19 rfl (by decide) (by decide) (by decide) (by decide) x4 hx4 ?_
  refine m_blk 4 [(2, vi 2), (1, vi ((10 * (0 + x2)) + x4)), (0, vr 0 0)] [] C f_q_startState_20_4 rfl ?_
  refine m_blk 7 [(2, vi 2), (1, vi ((10 * (0 + x2)) + x4)), (0, vr 0 0)] [vi 6, vi 2] C f_q_startState_4_2 rfl ?_
  refine m_icmp_ge (tgt := 28) C e_q_startState_7 (by decide) (by decide) (by decide) (fun c5 => (by omega : False).elim) (fun c5 => ?_)
  refine m_blk 15 [(2, vi 2), (1, vi ((10 * (0 + x2)) + x4)), (0, vr 0 0)] [vr 0 0, vi (10 * ((10 * (0 + x2)) + x4))] C f_q_startState_10_4 rfl ?_
  refine m_getr C e_q_startState_15 fg_Mo_60 rfl (by decide) rfl ?_
  refine m_blk 19 [(2, vi 2), (1, vi ((10 * (0 + x2)) + x4)), (0, vr 0 0)] [vi 2, vr 8 0, vi (10 * ((10 * (0 + x2)) + x4))] C f_q_startState_18_1 rfl ?_
  obtain ⟨x6, hx6⟩ : ∃ x, A 8 0 2 = x := ⟨_, rfl⟩
  have rx6 : 0 ≤ x6 ∧ x6 ≤ 9 := mrg hT hx6 rfl
  refine m_iald C e_q_startState_19 rfl (by decide) (by decide) (by decide) (by decide) x6 hx6 ?_
  refine m_blk 4 [(2, vi 3), (1, vi ((10 * ((10 * (0 + x2)) + x4)) + x6)), (0, vr 0 0)] [] C f_q_startState_20_4 rfl ?_
  refine m_blk 7 [(2, vi 3), (1, vi ((10 * ((10 * (0 + x2)) + x4)) + x6)), (0, vr 0 0)] [vi 6, vi 3] C f_q_startState_4_2 rfl ?_
  refine m_icmp_ge (tgt := 28) C e_q_startState_7 (by decide) (by decide) (by decide) (fun c7 => (by omega : False).elim) (fun c7 => ?_)
  refine m_blk 15 [(2, vi 3), (1, vi ((10 * ((10 * (0 + x2)) + x4)) + x6)), (0, vr 0 0)] [vr 0 0, vi (10 * ((10 * ((10 * (0 + x2)) + x4)) + x6))] C f_q_startState_10_4 rfl ?_
  refine m_getr C e_q_startState_15 fg_Mo_60 rfl (by decide) rfl ?_
  refine m_blk 19 [(2, vi 3), (1, vi ((10 * ((10 * (0 + x2)) + x4)) + x6)), (0, vr 0 0)] [vi 3, vr 8 0, vi (10 * ((10 * ((10 * (0 + x2)) + x4)) + x6))] C f_q_startState_18_1 rfl ?_
  obtain ⟨x8, hx8⟩ : ∃ x, A 8 0 3 = x := ⟨_, rfl⟩
  have rx8 : 0 ≤ x8 ∧ x8 ≤ 9 := mrg hT hx8 rfl
  refine m_iald C e_q_startState_19 rfl (by decide) (by decide) (by decide) (by decide) x8 hx8 ?_
  refine m_blk 4 [(2, vi 4), (1, vi ((10 * ((10 * ((10 * (0 + x2)) + x4)) + x6)) + x8)), (0, vr 0 0)] [] C f_q_startState_20_4 rfl ?_
  refine m_blk 7 [(2, vi 4), (1, vi ((10 * ((10 * ((10 * (0 + x2)) + x4)) + x6)) + x8)), (0, vr 0 0)] [vi 6, vi 4] C f_q_startState_4_2 rfl ?_
  refine m_icmp_ge (tgt := 28) C e_q_startState_7 (by decide) (by decide) (by decide) (fun c9 => (by omega : False).elim) (fun c9 => ?_)
  refine m_blk 15 [(2, vi 4), (1, vi ((10 * ((10 * ((10 * (0 + x2)) + x4)) + x6)) + x8)), (0, vr 0 0)] [vr 0 0, vi (10 * ((10 * ((10 * ((10 * (0 + x2)) + x4)) + x6)) + x8))] C f_q_startState_10_4 rfl ?_
  refine m_getr C e_q_startState_15 fg_Mo_60 rfl (by decide) rfl ?_
  refine m_blk 19 [(2, vi 4), (1, vi ((10 * ((10 * ((10 * (0 + x2)) + x4)) + x6)) + x8)), (0, vr 0 0)] [vi 4, vr 8 0, vi (10 * ((10 * ((10 * ((10 * (0 + x2)) + x4)) + x6)) + x8))] C f_q_startState_18_1 rfl ?_
  obtain ⟨x10, hx10⟩ : ∃ x, A 8 0 4 = x := ⟨_, rfl⟩
  have rx10 : 0 ≤ x10 ∧ x10 ≤ 9 := mrg hT hx10 rfl
  refine m_iald C e_q_startState_19 rfl (by decide) (by decide) (by decide) (by decide) x10 hx10 ?_
  refine m_blk 4 [(2, vi 5), (1, vi ((10 * ((10 * ((10 * ((10 * (0 + x2)) + x4)) + x6)) + x8)) + x10)), (0, vr 0 0)] [] C f_q_startState_20_4 rfl ?_
  refine m_blk 7 [(2, vi 5), (1, vi ((10 * ((10 * ((10 * ((10 * (0 + x2)) + x4)) + x6)) + x8)) + x10)), (0, vr 0 0)] [vi 6, vi 5] C f_q_startState_4_2 rfl ?_
  refine m_icmp_ge (tgt := 28) C e_q_startState_7 (by decide) (by decide) (by decide) (fun c11 => (by omega : False).elim) (fun c11 => ?_)
  refine m_blk 15 [(2, vi 5), (1, vi ((10 * ((10 * ((10 * ((10 * (0 + x2)) + x4)) + x6)) + x8)) + x10)), (0, vr 0 0)] [vr 0 0, vi (10 * ((10 * ((10 * ((10 * ((10 * (0 + x2)) + x4)) + x6)) + x8)) + x10))] C f_q_startState_10_4 rfl ?_
  refine m_getr C e_q_startState_15 fg_Mo_60 rfl (by decide) rfl ?_
  refine m_blk 19 [(2, vi 5), (1, vi ((10 * ((10 * ((10 * ((10 * (0 + x2)) + x4)) + x6)) + x8)) + x10)), (0, vr 0 0)] [vi 5, vr 8 0, vi (10 * ((10 * ((10 * ((10 * ((10 * (0 + x2)) + x4)) + x6)) + x8)) + x10))] C f_q_startState_18_1 rfl ?_
  obtain ⟨x12, hx12⟩ : ∃ x, A 8 0 5 = x := ⟨_, rfl⟩
  have rx12 : 0 ≤ x12 ∧ x12 ≤ 9 := mrg hT hx12 rfl
  refine m_iald C e_q_startState_19 rfl (by decide) (by decide) (by decide) (by decide) x12 hx12 ?_
  refine m_blk 4 [(2, vi 6), (1, vi ((10 * ((10 * ((10 * ((10 * ((10 * (0 + x2)) + x4)) + x6)) + x8)) + x10)) + x12)), (0, vr 0 0)] [] C f_q_startState_20_4 rfl ?_
  refine m_blk 7 [(2, vi 6), (1, vi ((10 * ((10 * ((10 * ((10 * ((10 * (0 + x2)) + x4)) + x6)) + x8)) + x10)) + x12)), (0, vr 0 0)] [vi 6, vi 6] C f_q_startState_4_2 rfl ?_
  refine m_icmp_ge (tgt := 28) C e_q_startState_7 (by decide) (by decide) (by decide) (fun c13 => ?_) (fun c13 => (by omega : False).elim)
  refine m_blk 29 [(2, vi 6), (1, vi ((10 * ((10 * ((10 * ((10 * ((10 * (0 + x2)) + x4)) + x6)) + x8)) + x10)) + x12)), (0, vr 0 0)] [vi ((10 * ((10 * ((10 * ((10 * ((10 * (0 + x2)) + x4)) + x6)) + x8)) + x10)) + x12)] C f_q_startState_28_1 rfl ?_
  exact m_iret C Rm E e_q_startState_29 ⟨_, rfl, rfl, by omega⟩

theorem f_q_digit_0_2 : mblkB b_Mo_digit [(0, .iload_n 0, vi 0), (1, .bipush 10, vi 10)] = true := by decide +kernel
theorem e_q_digit_3 : decode b_Mo_digit 3 = .ok (.irem, 1) := by decide +kernel
theorem f_q_digit_4_2 : mblkB b_Mo_digit [(4, .istore_n 1, vi 0), (5, .iload_n 1, vi 0)] = true := by decide +kernel
theorem e_q_digit_6 : decode b_Mo_digit 6 = .ok (.ifCond .ge 10, 3) := by decide +kernel
theorem f_q_digit_16_1 : mblkB b_Mo_digit [(16, .iload_n 1, vi 0)] = true := by decide +kernel
theorem e_q_digit_17 : decode b_Mo_digit 17 = .ok (.ireturn, 1) := by decide +kernel
theorem f_q_digit_9_4 : mblkB b_Mo_digit [(9, .iload_n 1, vi 0), (10, .bipush 10, vi 10), (12, .iadd, vi 0), (13, .goto 4, vi 17)] = true := by decide +kernel
set_option maxHeartbeats 40000000 in
set_option maxRecDepth 100000 in
theorem q_digit (l : Launch) (D : va_G) (B : Nat) (H0 : Heap) (ad : mAd) (A : mA) (v : Int) (hv : -2147483648 ≤ v ∧ v ≤ 2147483647) : mMet l D B H0 ad y_Mo_digit b_Mo_digit 2 (some .int) 0 0 [vi v] A (fun v9 A9 => ∃ z : Int, v9 = some (vi z) ∧ A = A9 ∧ (z = v % 10 ∧ 0 ≤ z ∧ z ≤ 9)) := by
  refine m_met (by decide) rfl (fun g w0 C Rm Y E => ?_)
  show JM g D ad w0 A 0 [(0, vi v)] []
  refine m_blk 3 [(0, vi v)] [vi 10, vi v] C f_q_digit_0_2 rfl ?_
  refine m_irem C e_q_digit_3 (by omega) (by decide) (by decide) ?_
  have hd : Int.tmod v 10 = v % 10 ∨ (v < 0 ∧ Int.tmod v 10 = -((-v) % 10)) := tm10 v
  rw [show vi (Int.tmod v 10) = vi (Int.tmod v 10) from rfl]
  refine m_blk 6 [(1, vi (Int.tmod v 10)), (0, vi v)] [vi (Int.tmod v 10)] C f_q_digit_4_2 rfl ?_
  refine m_if_ge (tgt := 16) C e_q_digit_6 (by decide) (by omega) (fun c1 => ?_) (fun c1 => ?_)
  · refine m_blk 17 [(1, vi (Int.tmod v 10)), (0, vi v)] [vi (Int.tmod v 10)] C f_q_digit_16_1 rfl ?_
    exact m_iret C Rm E e_q_digit_17 ⟨_, rfl, rfl, by omega⟩
  · refine m_blk 17 [(1, vi (Int.tmod v 10)), (0, vi v)] [vi ((Int.tmod v 10) + 10)] C f_q_digit_9_4 rfl ?_
    exact m_iret C Rm E e_q_digit_17 ⟨_, rfl, rfl, by omega⟩
