/-! the reference: faces that ask about odds (own work, by program) -/
theorem fo_3 {v : Int} (h : 0 ≤ v ∧ v ≤ 9) : (0 ≤ v * v ∧ v * v ≤ 81) ∧ (0 ≤ v * v * v ∧ v * v * v ≤ 729) ∧ (0 ≤ Int.tmod v 2 ∧ Int.tmod v 2 ≤ 1) := by
  obtain ⟨h0, h1⟩ := h
  have e : v = 0 ∨ v = 1 ∨ v = 2 ∨ v = 3 ∨ v = 4 ∨ v = 5 ∨ v = 6 ∨ v = 7 ∨ v = 8 ∨ v = 9 := by omega
  rcases e with e | e | e | e | e | e | e | e | e | e <;> rw [e] <;> decide
theorem fo_w {f w : Int} (hf : 0 ≤ f ∧ f ≤ 729) (hw : 0 ≤ w ∧ w ≤ 1125899906842624) : 0 ≤ f * w ∧ f * w ≤ 820781032088272896 := by
  refine ⟨Int.mul_nonneg hf.1 hw.1, ?_⟩
  have h1 : f * w ≤ 729 * w := Int.mul_le_mul_of_nonneg_right hf.2 hw.1
  omega
theorem f_q_left_0_2 : mblkB b_Mo_left [(0, .aload_n 0, vi 0), (1, .iload_n 1, vi 0)] = true := by decide +kernel
theorem e_q_left_2 : decode b_Mo_left 2 = .ok (.invokevirtual 364, 3) := by decide +kernel
theorem e_q_left_5 : decode b_Mo_left 5 = .ok (.ifCond .eq 12, 3) := by decide +kernel
theorem f_q_left_8_3 : mblkB b_Mo_left [(8, .iload_n 2, vi 0), (9, .iconst 0, vi 0), (10, .iconst 1, vi 1)] = true := by decide +kernel
theorem e_q_left_11 : decode b_Mo_left 11 = .ok (.invokestatic 108, 3) := by decide +kernel
theorem e_q_left_14 : decode b_Mo_left 14 = .ok (.ifCond .ne 7, 3) := by decide +kernel
theorem f_q_left_21_3 : mblkB b_Mo_left [(21, .aload_n 0, vi 0), (22, .iload_n 1, vi 0), (23, .iconst (-1), vi (-1))] = true := by decide +kernel
theorem e_q_left_24 : decode b_Mo_left 24 = .ok (.invokevirtual 367, 3) := by decide +kernel
theorem f_q_left_27_2 : mblkB b_Mo_left [(27, .astore_n 3, vi 0), (28, .aload_n 0, vi 0)] = true := by decide +kernel
theorem e_q_left_29 : decode b_Mo_left 29 = .ok (.getfield 297, 3) := by decide +kernel
theorem e_q_left_32 : decode b_Mo_left 32 = .ok (.ifCond .eq 9, 3) := by decide +kernel
theorem f_q_left_41_1 : mblkB b_Mo_left [(41, .aload_n 3, vi 0)] = true := by decide +kernel
theorem e_q_left_42 : decode b_Mo_left 42 = .ok (.invokevirtual 372, 3) := by decide +kernel
theorem e_q_left_45 : decode b_Mo_left 45 = .ok (.ldc2_w 340, 3) := by decide +kernel
theorem f_q_left_48_1 : mblkB b_Mo_left [(48, .iload_n 2, vi 0)] = true := by decide +kernel
theorem e_q_left_49 : decode b_Mo_left 49 = .ok (.invokestatic 376, 3) := by decide +kernel
theorem e_q_left_52 : decode b_Mo_left 52 = .ok (.lreturn, 1) := by decide +kernel
theorem e_q_left_35 : decode b_Mo_left 35 = .ok (.ldc2_w 370, 3) := by decide +kernel
theorem f_q_left_38_1 : mblkB b_Mo_left [(38, .goto 14, vi 52)] = true := by decide +kernel
theorem e_q_left_17 : decode b_Mo_left 17 = .ok (.ldc2_w 370, 3) := by decide +kernel
theorem e_q_left_20 : decode b_Mo_left 20 = .ok (.lreturn, 1) := by decide +kernel
set_option maxHeartbeats 40000000 in
set_option maxRecDepth 100000 in
theorem q_left (l : Launch) (D : va_G) (B : Nat) (H0 : Heap) (ad : mAd) (A : mA) (hT : mTy A)  (p : Int) (x : Int) (hpr : -2147483648 ≤ p ∧ p ≤ 2147483647) (hxr : -2147483648 ≤ x ∧ x ≤ 2147483647) (hI : mI A)  : mMet l D B H0 ad y_Mo_left b_Mo_left 4 (some .long) 910 23500 [vr 0 0, vi p, vi x] A (fun v9 A9 => ∃ z : Int, v9 = some (vl z) ∧ mTy A9 ∧ mEq (rm 0) A A9 ∧ (mI A9)) := by
  refine m_met (by decide) rfl (fun g w0 C Rm Y E => ?_)
  have hE0 : mEq (rm 0) A A := mEq.rfl'
  show JM g D ad w0 A 0 [(0, vr 0 0), (1, vi p), (2, vi x)] []
  have r0 : 0 ≤ A 0 0 0 ∧ A 0 0 0 ≤ 6 := hT 0 0 0
  refine m_blk 2 [(0, vr 0 0), (1, vi p), (2, vi x)] [vi p, vr 0 0] C f_q_left_0_2 rfl ?_
  refine m_callV C Rm Y [vi p] [] (q_isProgram l D B H0 ad _ hT p (by show -2147483648 ≤ p ∧ p ≤ 2147483647; omega)) cl_Mo_364 rfl (by decide) rfl rfl e_q_left_2 rfl rfl rfl ⟨by decide, by decide⟩ ?_
  rintro v1 A2 ⟨z5, rfl, rfl, raw_hz_n4⟩
  show JM g D ad w0 A 5 [(0, vr 0 0), (1, vi p), (2, vi x)] [vi z5]
  have hz_n4 : z5 = 1 ∧ 0 ≤ p ∧ p < A 0 0 0 ∨ z5 = 0 ∧ ¬ (0 ≤ p ∧ p < A 0 0 0) := raw_hz_n4
  clear raw_hz_n4
  rcases hz_n4 with ⟨e_n4, hz_n4⟩ | ⟨e_n4, hz_n4⟩
  · subst e_n4
    refine m_if_eq (tgt := 17) C e_q_left_5 (by decide) (by decide) (fun c6 => (by omega : False).elim) (fun c6 => ?_)
    refine m_blk 11 [(0, vr 0 0), (1, vi p), (2, vi x)] [vi 1, vi 0, vi x] C f_q_left_8_3 rfl ?_
    refine m_callS C Rm Y [vi x, vi 0, vi 1] [] (q_in l D B H0 ad _ x 0 1 (by show -2147483648 ≤ x ∧ x ≤ 2147483647; omega) (by show -2147483648 ≤ 0 ∧ 0 ≤ 2147483647; omega) (by show -2147483648 ≤ 1 ∧ 1 ≤ 2147483647; omega)) cl_Mo_108 e_q_left_11 rfl rfl rfl ⟨by decide, by decide⟩ ?_
    rintro v7 A8 ⟨z11, rfl, rfl, raw_hz_n10⟩
    show JM g D ad w0 A 14 [(0, vr 0 0), (1, vi p), (2, vi x)] [vi z11]
    have hz_n10 : z11 = 1 ∧ 0 ≤ x ∧ x ≤ 1 ∨ z11 = 0 ∧ ¬ (0 ≤ x ∧ x ≤ 1) := raw_hz_n10
    clear raw_hz_n10
    rcases hz_n10 with ⟨e_n10, hz_n10⟩ | ⟨e_n10, hz_n10⟩
    · subst e_n10
      refine m_if_ne (tgt := 21) C e_q_left_14 (by decide) (by decide) (fun c12 => ?_) (fun c12 => (by omega : False).elim)
      refine m_blk 24 [(0, vr 0 0), (1, vi p), (2, vi x)] [vi (-1), vi p, vr 0 0] C f_q_left_21_3 rfl ?_
      refine m_callV C Rm Y [vi p, vi (-1)] [] (q_odds l D B H0 ad _ hT p (-1) (by show 0 ≤ p ∧ p ≤ 5; omega) ((hI.ok (by omega)).rmk hE0) (by show -2147483648 ≤ (-1) ∧ (-1) ≤ 2147483647; omega) hI.2.2) cl_Mo_367 rfl (by decide) rfl rfl e_q_left_24 rfl rfl rfl ⟨by decide, by decide⟩ ?_
      rintro v13 A14 ⟨z17, rfl, hT_n16, hE_n16, raw_hz_n16, raw_hu_n16, raw_hO_n16, raw_hS_n16⟩
      have hF_n16 := hE0.trans (hE_n16.sub (rm_rm (Nat.zero_le _)))
      have hz_n16 : 0 ≤ (z17 : Int) ∧ (z17 : Int) < A14 0 0 33 := raw_hz_n16
      clear raw_hz_n16
      have hu_n16 : A14 0 0 33 ≤ 24 := raw_hu_n16
      clear raw_hu_n16
      have hO_n16 : oG A14 z17 1125899906842624 := raw_hO_n16
      clear raw_hO_n16
      have hS_n16 : mS A14 := raw_hS_n16
      clear raw_hS_n16
      show JM g D ad w0 A14 27 [(0, vr 0 0), (1, vi p), (2, vi x)] [vr 1 z17]
      refine m_blk 29 [(3, vr 1 z17), (0, vr 0 0), (1, vi p), (2, vi x)] [vr 0 0] C f_q_left_27_2 rfl ?_
      obtain ⟨x18, hx18⟩ : ∃ x, A14 0 0 34 = x := ⟨_, rfl⟩
      have rx18 : 0 ≤ x18 ∧ x18 ≤ 1 := mrg hT_n16 hx18 rfl
      refine m_geti C e_q_left_29 fg_Mo_297 rfl (by decide) rfl x18 hx18 ?_
      refine m_if_eq (tgt := 41) C e_q_left_32 (by decide) (by omega) (fun c19 => ?_) (fun c19 => ?_)
      · refine m_blk 42 [(3, vr 1 z17), (0, vr 0 0), (1, vi p), (2, vi x)] [vr 1 z17] C f_q_left_41_1 rfl ?_
        refine m_callV C Rm Y [] [] (q_all l D B H0 ad _ hT_n16 z17 1125899906842624 (by show z17 < 200; omega) hO_n16 (by show 1125899906842624 ≤ 1125899906842624; omega)) cl_Mo_372 rfl (by omega) rfl rfl e_q_left_42 rfl rfl rfl ⟨by decide, by decide⟩ ?_
        rintro v20 A21 ⟨z24, rfl, rfl, raw_hz_n23⟩
        have hz_n23 : z24 = ws (A14 4 z17) 0 (Int.toNat (A14 1 z17 2)) ∧ 0 ≤ z24 ∧ z24 ≤ 1125899906842624 ∧ A14 1 z17 2 ≤ z24 := raw_hz_n23
        clear raw_hz_n23
        show JM g D ad w0 A14 45 [(3, vr 1 z17), (0, vr 0 0), (1, vi p), (2, vi x)] [vl z24]
        refine m_ldc2 C 1125899906842624 e_q_left_45 ld_Mo_340 (by decide) ?_
        refine m_blk 49 [(3, vr 1 z17), (0, vr 0 0), (1, vi p), (2, vi x)] [vi x, vl 1125899906842624, vl z24] C f_q_left_48_1 rfl ?_
        refine m_callS C Rm Y [vl z24, vl 1125899906842624, vi x] [] (q_lowest l D B H0 ad _ z24 1125899906842624 x (by show 0 ≤ z24 ∧ z24 ≤ 9223372036854775807; omega) (by show 1 ≤ 1125899906842624 ∧ 1125899906842624 ≤ 9223372036854775807; omega) (by show -2147483648 ≤ x ∧ x ≤ 2147483647; omega)) cl_Mo_376 e_q_left_49 rfl rfl rfl ⟨by decide, by decide⟩ ?_
        rintro v25 A26 ⟨z29, rfl, rfl, raw_hz_n28⟩
        have hz_n28 : 0 ≤ z29 ∧ z29 ≤ 9223372036854775807 := raw_hz_n28
        clear raw_hz_n28
        show JM g D ad w0 A14 52 [(3, vr 1 z17), (0, vr 0 0), (1, vi p), (2, vi x)] [vl z29]
        exact m_lret C Rm E e_q_left_52 ⟨z29, rfl, hT_n16, hF_n16, (hI.rm0 hF_n16 hS_n16)⟩
      · refine m_ldc2 C (-4611686018427387904) e_q_left_35 ld_Mo_370 (by decide) ?_
        refine m_blk 52 [(3, vr 1 z17), (0, vr 0 0), (1, vi p), (2, vi x)] [vl (-4611686018427387904)] C f_q_left_38_1 rfl ?_
        exact m_lret C Rm E e_q_left_52 ⟨(-4611686018427387904), rfl, hT_n16, hF_n16, (hI.rm0 hF_n16 hS_n16)⟩
    · subst e_n10
      refine m_if_ne (tgt := 21) C e_q_left_14 (by decide) (by decide) (fun c30 => (by omega : False).elim) (fun c30 => ?_)
      refine m_ldc2 C (-4611686018427387904) e_q_left_17 ld_Mo_370 (by decide) ?_
      exact m_lret C Rm E e_q_left_20 ⟨(-4611686018427387904), rfl, hT, hE0, (hI.rm0 hE0 hI.2.2)⟩
  · subst e_n4
    clear hz_n4
    refine m_if_eq (tgt := 17) C e_q_left_5 (by decide) (by decide) (fun c31 => ?_) (fun c31 => (by omega : False).elim)
    refine m_ldc2 C (-4611686018427387904) e_q_left_17 ld_Mo_370 (by decide) ?_
    exact m_lret C Rm E e_q_left_20 ⟨(-4611686018427387904), rfl, hT, hE0, (hI.rm0 hE0 hI.2.2)⟩

theorem f_q_oddsF_0_2 : mblkB b_Mo_odds_1 [(0, .aload_n 0, vi 0), (1, .iload_n 1, vi 0)] = true := by decide +kernel
theorem e_q_oddsF_2 : decode b_Mo_odds_1 2 = .ok (.invokevirtual 364, 3) := by decide +kernel
theorem e_q_oddsF_5 : decode b_Mo_odds_1 5 = .ok (.ifCond .eq 30, 3) := by decide +kernel
theorem f_q_oddsF_8_1 : mblkB b_Mo_odds_1 [(8, .iload_n 2, vi 0)] = true := by decide +kernel
theorem e_q_oddsF_9 : decode b_Mo_odds_1 9 = .ok (.invokestatic 254, 3) := by decide +kernel
theorem e_q_oddsF_12 : decode b_Mo_odds_1 12 = .ok (.ifCond .eq 23, 3) := by decide +kernel
theorem f_q_oddsF_15_3 : mblkB b_Mo_odds_1 [(15, .iload_n 3, vi 0), (16, .iconst 0, vi 0), (17, .bipush 9, vi 9)] = true := by decide +kernel
theorem e_q_oddsF_19 : decode b_Mo_odds_1 19 = .ok (.invokestatic 108, 3) := by decide +kernel
theorem e_q_oddsF_22 : decode b_Mo_odds_1 22 = .ok (.ifCond .eq 13, 3) := by decide +kernel
theorem f_q_oddsF_25_3 : mblkB b_Mo_odds_1 [(25, .iload 4, vi 0), (27, .iconst 0, vi 0), (28, .iconst 1, vi 1)] = true := by decide +kernel
theorem e_q_oddsF_29 : decode b_Mo_odds_1 29 = .ok (.invokestatic 108, 3) := by decide +kernel
theorem e_q_oddsF_32 : decode b_Mo_odds_1 32 = .ok (.ifCond .ne 7, 3) := by decide +kernel
theorem f_q_oddsF_39_3 : mblkB b_Mo_odds_1 [(39, .aload_n 0, vi 0), (40, .iload_n 1, vi 0), (41, .iconst (-1), vi (-1))] = true := by decide +kernel
theorem e_q_oddsF_42 : decode b_Mo_odds_1 42 = .ok (.invokevirtual 367, 3) := by decide +kernel
theorem f_q_oddsF_45_3 : mblkB b_Mo_odds_1 [(45, .astore 5, vi 0), (47, .aload_n 0, vi 0), (48, .aload 5, vi 0)] = true := by decide +kernel
theorem e_q_oddsF_50 : decode b_Mo_odds_1 50 = .ok (.invokevirtual 380, 3) := by decide +kernel
theorem e_q_oddsF_53 : decode b_Mo_odds_1 53 = .ok (.ifCond .eq 9, 3) := by decide +kernel
theorem f_q_oddsF_62_3 : mblkB b_Mo_odds_1 [(62, .aload 5, vi 0), (64, .iload_n 2, vi 0), (65, .iload_n 3, vi 0)] = true := by decide +kernel
theorem e_q_oddsF_66 : decode b_Mo_odds_1 66 = .ok (.invokestatic 384, 3) := by decide +kernel
theorem f_q_oddsF_69_1 : mblkB b_Mo_odds_1 [(69, .aload 5, vi 0)] = true := by decide +kernel
theorem e_q_oddsF_71 : decode b_Mo_odds_1 71 = .ok (.invokevirtual 372, 3) := by decide +kernel
theorem f_q_oddsF_74_1 : mblkB b_Mo_odds_1 [(74, .iload 4, vi 0)] = true := by decide +kernel
theorem e_q_oddsF_76 : decode b_Mo_odds_1 76 = .ok (.invokestatic 376, 3) := by decide +kernel
theorem e_q_oddsF_79 : decode b_Mo_odds_1 79 = .ok (.lreturn, 1) := by decide +kernel
theorem e_q_oddsF_56 : decode b_Mo_odds_1 56 = .ok (.ldc2_w 370, 3) := by decide +kernel
theorem f_q_oddsF_59_1 : mblkB b_Mo_odds_1 [(59, .goto 20, vi 79)] = true := by decide +kernel
theorem e_q_oddsF_35 : decode b_Mo_odds_1 35 = .ok (.ldc2_w 370, 3) := by decide +kernel
theorem e_q_oddsF_38 : decode b_Mo_odds_1 38 = .ok (.lreturn, 1) := by decide +kernel
set_option maxHeartbeats 40000000 in
set_option maxRecDepth 100000 in
theorem q_oddsF (l : Launch) (D : va_G) (B : Nat) (H0 : Heap) (ad : mAd) (A : mA) (hT : mTy A)  (p : Int) (n : Int) (v : Int) (x : Int) (hpr : -2147483648 ≤ p ∧ p ≤ 2147483647) (hnr : -2147483648 ≤ n ∧ n ≤ 2147483647) (hvr : -2147483648 ≤ v ∧ v ≤ 2147483647) (hxr : -2147483648 ≤ x ∧ x ≤ 2147483647) (hI : mI A)  : mMet l D B H0 ad y_Mo_odds_1 b_Mo_odds_1 6 (some .long) 910 23500 [vr 0 0, vi p, vi n, vi v, vi x] A (fun v9 A9 => ∃ z : Int, v9 = some (vl z) ∧ mTy A9 ∧ mEq (rm 0) A A9 ∧ (mI A9)) := by
  refine m_met (by decide) rfl (fun g w0 C Rm Y E => ?_)
  have hE0 : mEq (rm 0) A A := mEq.rfl'
  show JM g D ad w0 A 0 [(0, vr 0 0), (1, vi p), (2, vi n), (3, vi v), (4, vi x)] []
  have r0 : 0 ≤ A 0 0 0 ∧ A 0 0 0 ≤ 6 := hT 0 0 0
  refine m_blk 2 [(0, vr 0 0), (1, vi p), (2, vi n), (3, vi v), (4, vi x)] [vi p, vr 0 0] C f_q_oddsF_0_2 rfl ?_
  refine m_callV C Rm Y [vi p] [] (q_isProgram l D B H0 ad _ hT p (by show -2147483648 ≤ p ∧ p ≤ 2147483647; omega)) cl_Mo_364 rfl (by decide) rfl rfl e_q_oddsF_2 rfl rfl rfl ⟨by decide, by decide⟩ ?_
  rintro v1 A2 ⟨z5, rfl, rfl, raw_hz_n4⟩
  show JM g D ad w0 A 5 [(0, vr 0 0), (1, vi p), (2, vi n), (3, vi v), (4, vi x)] [vi z5]
  have hz_n4 : z5 = 1 ∧ 0 ≤ p ∧ p < A 0 0 0 ∨ z5 = 0 ∧ ¬ (0 ≤ p ∧ p < A 0 0 0) := raw_hz_n4
  clear raw_hz_n4
  rcases hz_n4 with ⟨e_n4, hz_n4⟩ | ⟨e_n4, hz_n4⟩
  · subst e_n4
    refine m_if_eq (tgt := 35) C e_q_oddsF_5 (by decide) (by decide) (fun c6 => (by omega : False).elim) (fun c6 => ?_)
    refine m_blk 9 [(0, vr 0 0), (1, vi p), (2, vi n), (3, vi v), (4, vi x)] [vi n] C f_q_oddsF_8_1 rfl ?_
    refine m_callS C Rm Y [vi n] [] (q_isName l D B H0 ad _ n (by show -2147483648 ≤ n ∧ n ≤ 2147483647; omega)) cl_Mo_254 e_q_oddsF_9 rfl rfl rfl ⟨by decide, by decide⟩ ?_
    rintro v7 A8 ⟨z11, rfl, rfl, raw_hz_n10⟩
    show JM g D ad w0 A 12 [(0, vr 0 0), (1, vi p), (2, vi n), (3, vi v), (4, vi x)] [vi z11]
    have hz_n10 : z11 = 1 ∧ 0 ≤ n ∧ n ≤ 5 ∨ z11 = 0 ∧ ¬ (0 ≤ n ∧ n ≤ 5) := raw_hz_n10
    clear raw_hz_n10
    rcases hz_n10 with ⟨e_n10, hz_n10⟩ | ⟨e_n10, hz_n10⟩
    · subst e_n10
      refine m_if_eq (tgt := 35) C e_q_oddsF_12 (by decide) (by decide) (fun c12 => (by omega : False).elim) (fun c12 => ?_)
      refine m_blk 19 [(0, vr 0 0), (1, vi p), (2, vi n), (3, vi v), (4, vi x)] [vi 9, vi 0, vi v] C f_q_oddsF_15_3 rfl ?_
      refine m_callS C Rm Y [vi v, vi 0, vi 9] [] (q_in l D B H0 ad _ v 0 9 (by show -2147483648 ≤ v ∧ v ≤ 2147483647; omega) (by show -2147483648 ≤ 0 ∧ 0 ≤ 2147483647; omega) (by show -2147483648 ≤ 9 ∧ 9 ≤ 2147483647; omega)) cl_Mo_108 e_q_oddsF_19 rfl rfl rfl ⟨by decide, by decide⟩ ?_
      rintro v13 A14 ⟨z17, rfl, rfl, raw_hz_n16⟩
      show JM g D ad w0 A 22 [(0, vr 0 0), (1, vi p), (2, vi n), (3, vi v), (4, vi x)] [vi z17]
      have hz_n16 : z17 = 1 ∧ 0 ≤ v ∧ v ≤ 9 ∨ z17 = 0 ∧ ¬ (0 ≤ v ∧ v ≤ 9) := raw_hz_n16
      clear raw_hz_n16
      rcases hz_n16 with ⟨e_n16, hz_n16⟩ | ⟨e_n16, hz_n16⟩
      · subst e_n16
        refine m_if_eq (tgt := 35) C e_q_oddsF_22 (by decide) (by decide) (fun c18 => (by omega : False).elim) (fun c18 => ?_)
        refine m_blk 29 [(0, vr 0 0), (1, vi p), (2, vi n), (3, vi v), (4, vi x)] [vi 1, vi 0, vi x] C f_q_oddsF_25_3 rfl ?_
        refine m_callS C Rm Y [vi x, vi 0, vi 1] [] (q_in l D B H0 ad _ x 0 1 (by show -2147483648 ≤ x ∧ x ≤ 2147483647; omega) (by show -2147483648 ≤ 0 ∧ 0 ≤ 2147483647; omega) (by show -2147483648 ≤ 1 ∧ 1 ≤ 2147483647; omega)) cl_Mo_108 e_q_oddsF_29 rfl rfl rfl ⟨by decide, by decide⟩ ?_
        rintro v19 A20 ⟨z23, rfl, rfl, raw_hz_n22⟩
        show JM g D ad w0 A 32 [(0, vr 0 0), (1, vi p), (2, vi n), (3, vi v), (4, vi x)] [vi z23]
        have hz_n22 : z23 = 1 ∧ 0 ≤ x ∧ x ≤ 1 ∨ z23 = 0 ∧ ¬ (0 ≤ x ∧ x ≤ 1) := raw_hz_n22
        clear raw_hz_n22
        rcases hz_n22 with ⟨e_n22, hz_n22⟩ | ⟨e_n22, hz_n22⟩
        · subst e_n22
          refine m_if_ne (tgt := 39) C e_q_oddsF_32 (by decide) (by decide) (fun c24 => ?_) (fun c24 => (by omega : False).elim)
          refine m_blk 42 [(0, vr 0 0), (1, vi p), (2, vi n), (3, vi v), (4, vi x)] [vi (-1), vi p, vr 0 0] C f_q_oddsF_39_3 rfl ?_
          refine m_callV C Rm Y [vi p, vi (-1)] [] (q_odds l D B H0 ad _ hT p (-1) (by show 0 ≤ p ∧ p ≤ 5; omega) ((hI.ok (by omega)).rmk hE0) (by show -2147483648 ≤ (-1) ∧ (-1) ≤ 2147483647; omega) hI.2.2) cl_Mo_367 rfl (by decide) rfl rfl e_q_oddsF_42 rfl rfl rfl ⟨by decide, by decide⟩ ?_
          rintro v25 A26 ⟨z29, rfl, hT_n28, hE_n28, raw_hz_n28, raw_hu_n28, raw_hO_n28, raw_hS_n28⟩
          have hF_n28 := hE0.trans (hE_n28.sub (rm_rm (Nat.zero_le _)))
          have hz_n28 : 0 ≤ (z29 : Int) ∧ (z29 : Int) < A26 0 0 33 := raw_hz_n28
          clear raw_hz_n28
          have hu_n28 : A26 0 0 33 ≤ 24 := raw_hu_n28
          clear raw_hu_n28
          have hO_n28 : oG A26 z29 1125899906842624 := raw_hO_n28
          clear raw_hO_n28
          have hS_n28 : mS A26 := raw_hS_n28
          clear raw_hS_n28
          show JM g D ad w0 A26 45 [(0, vr 0 0), (1, vi p), (2, vi n), (3, vi v), (4, vi x)] [vr 1 z29]
          refine m_blk 50 [(5, vr 1 z29), (0, vr 0 0), (1, vi p), (2, vi n), (3, vi v), (4, vi x)] [vr 1 z29, vr 0 0] C f_q_oddsF_45_3 rfl ?_
          refine m_callV C Rm Y [vr 1 z29] [] (q_against l D B H0 ad _ hT_n28 z29 (by show z29 < 200; omega)) cl_Mo_380 rfl (by decide) rfl rfl e_q_oddsF_50 rfl rfl rfl ⟨by decide, by decide⟩ ?_
          rintro v30 A31 ⟨z34, rfl, rfl, raw_hz_n33, raw_hn_n33⟩
          have hz_n33 : -7 ≤ z34 ∧ z34 ≤ 0 := raw_hz_n33
          clear raw_hz_n33
          have hn_n33 : nQ A26 z29 z34 := raw_hn_n33
          clear raw_hn_n33
          show JM g D ad w0 A26 53 [(5, vr 1 z29), (0, vr 0 0), (1, vi p), (2, vi n), (3, vi v), (4, vi x)] [vi z34]
          refine m_if_eq (tgt := 62) C e_q_oddsF_53 (by decide) (by omega) (fun c35 => ?_) (fun c35 => ?_)
          · refine m_blk 66 [(5, vr 1 z29), (0, vr 0 0), (1, vi p), (2, vi n), (3, vi v), (4, vi x)] [vi v, vi n, vr 1 z29] C f_q_oddsF_62_3 rfl ?_
            refine m_callS C Rm Y [vr 1 z29, vi n, vi v] [] (q_weightOf l D B H0 ad _ hT_n28 1125899906842624 z29 n v (by show z29 < 200; omega) hO_n28 (by show 0 ≤ 1125899906842624 ∧ 1125899906842624 ≤ 1125899906842624; omega) (by show -1 ≤ n ∧ n ≤ 2147483647; omega) (by show -2147483648 ≤ v ∧ v ≤ 2147483647; omega)) cl_Mo_384 e_q_oddsF_66 rfl rfl rfl ⟨by decide, by decide⟩ ?_
            rintro v36 A37 ⟨z40, rfl, rfl, raw_hz_n39⟩
            have hz_n39 : 0 ≤ z40 ∧ z40 ≤ 1125899906842624 := raw_hz_n39
            clear raw_hz_n39
            show JM g D ad w0 A26 69 [(5, vr 1 z29), (0, vr 0 0), (1, vi p), (2, vi n), (3, vi v), (4, vi x)] [vl z40]
            have n1 := hn_n33 (by omega)
            refine m_blk 71 [(5, vr 1 z29), (0, vr 0 0), (1, vi p), (2, vi n), (3, vi v), (4, vi x)] [vr 1 z29, vl z40] C f_q_oddsF_69_1 rfl ?_
            refine m_callV C Rm Y [] [vl z40] (q_all l D B H0 ad _ hT_n28 z29 1125899906842624 (by show z29 < 200; omega) hO_n28 (by show 1125899906842624 ≤ 1125899906842624; omega)) cl_Mo_372 rfl (by omega) rfl rfl e_q_oddsF_71 rfl rfl rfl ⟨by decide, by decide⟩ ?_
            rintro v41 A42 ⟨z45, rfl, rfl, raw_hz_n44⟩
            have hz_n44 : z45 = ws (A26 4 z29) 0 (Int.toNat (A26 1 z29 2)) ∧ 0 ≤ z45 ∧ z45 ≤ 1125899906842624 ∧ A26 1 z29 2 ≤ z45 := raw_hz_n44
            clear raw_hz_n44
            show JM g D ad w0 A26 74 [(5, vr 1 z29), (0, vr 0 0), (1, vi p), (2, vi n), (3, vi v), (4, vi x)] [vl z45, vl z40]
            refine m_blk 76 [(5, vr 1 z29), (0, vr 0 0), (1, vi p), (2, vi n), (3, vi v), (4, vi x)] [vi x, vl z45, vl z40] C f_q_oddsF_74_1 rfl ?_
            refine m_callS C Rm Y [vl z40, vl z45, vi x] [] (q_lowest l D B H0 ad _ z40 z45 x (by show 0 ≤ z40 ∧ z40 ≤ 9223372036854775807; omega) (by show 1 ≤ z45 ∧ z45 ≤ 9223372036854775807; omega) (by show -2147483648 ≤ x ∧ x ≤ 2147483647; omega)) cl_Mo_376 e_q_oddsF_76 rfl rfl rfl ⟨by decide, by decide⟩ ?_
            rintro v46 A47 ⟨z50, rfl, rfl, raw_hz_n49⟩
            have hz_n49 : 0 ≤ z50 ∧ z50 ≤ 9223372036854775807 := raw_hz_n49
            clear raw_hz_n49
            show JM g D ad w0 A26 79 [(5, vr 1 z29), (0, vr 0 0), (1, vi p), (2, vi n), (3, vi v), (4, vi x)] [vl z50]
            exact m_lret C Rm E e_q_oddsF_79 ⟨z50, rfl, hT_n28, hF_n28, (hI.rm0 hF_n28 hS_n28)⟩
          · refine m_ldc2 C (-4611686018427387904) e_q_oddsF_56 ld_Mo_370 (by decide) ?_
            refine m_blk 79 [(5, vr 1 z29), (0, vr 0 0), (1, vi p), (2, vi n), (3, vi v), (4, vi x)] [vl (-4611686018427387904)] C f_q_oddsF_59_1 rfl ?_
            exact m_lret C Rm E e_q_oddsF_79 ⟨(-4611686018427387904), rfl, hT_n28, hF_n28, (hI.rm0 hF_n28 hS_n28)⟩
        · subst e_n22
          refine m_if_ne (tgt := 39) C e_q_oddsF_32 (by decide) (by decide) (fun c51 => (by omega : False).elim) (fun c51 => ?_)
          refine m_ldc2 C (-4611686018427387904) e_q_oddsF_35 ld_Mo_370 (by decide) ?_
          exact m_lret C Rm E e_q_oddsF_38 ⟨(-4611686018427387904), rfl, hT, hE0, (hI.rm0 hE0 hI.2.2)⟩
      · subst e_n16
        refine m_if_eq (tgt := 35) C e_q_oddsF_22 (by decide) (by decide) (fun c52 => ?_) (fun c52 => (by omega : False).elim)
        refine m_ldc2 C (-4611686018427387904) e_q_oddsF_35 ld_Mo_370 (by decide) ?_
        exact m_lret C Rm E e_q_oddsF_38 ⟨(-4611686018427387904), rfl, hT, hE0, (hI.rm0 hE0 hI.2.2)⟩
    · subst e_n10
      clear hz_n10
      refine m_if_eq (tgt := 35) C e_q_oddsF_12 (by decide) (by decide) (fun c53 => ?_) (fun c53 => (by omega : False).elim)
      refine m_ldc2 C (-4611686018427387904) e_q_oddsF_35 ld_Mo_370 (by decide) ?_
      exact m_lret C Rm E e_q_oddsF_38 ⟨(-4611686018427387904), rfl, hT, hE0, (hI.rm0 hE0 hI.2.2)⟩
  · subst e_n4
    clear hz_n4
    refine m_if_eq (tgt := 35) C e_q_oddsF_5 (by decide) (by decide) (fun c54 => ?_) (fun c54 => (by omega : False).elim)
    refine m_ldc2 C (-4611686018427387904) e_q_oddsF_35 ld_Mo_370 (by decide) ?_
    exact m_lret C Rm E e_q_oddsF_38 ⟨(-4611686018427387904), rfl, hT, hE0, (hI.rm0 hE0 hI.2.2)⟩

theorem f_q_state_0_2 : mblkB b_Mo_state [(0, .aload_n 0, vi 0), (1, .iload_n 1, vi 0)] = true := by decide +kernel
theorem e_q_state_2 : decode b_Mo_state 2 = .ok (.invokevirtual 364, 3) := by decide +kernel
theorem e_q_state_5 : decode b_Mo_state 5 = .ok (.ifCond .eq 23, 3) := by decide +kernel
theorem f_q_state_8_2 : mblkB b_Mo_state [(8, .iload_n 2, vi 0), (9, .iconst 0, vi 0)] = true := by decide +kernel
theorem e_q_state_10 : decode b_Mo_state 10 = .ok (.ldc_w 388, 3) := by decide +kernel
theorem e_q_state_13 : decode b_Mo_state 13 = .ok (.invokestatic 108, 3) := by decide +kernel
theorem e_q_state_16 : decode b_Mo_state 16 = .ok (.ifCond .eq 12, 3) := by decide +kernel
theorem f_q_state_19_3 : mblkB b_Mo_state [(19, .iload_n 3, vi 0), (20, .iconst 0, vi 0), (21, .iconst 1, vi 1)] = true := by decide +kernel
theorem e_q_state_22 : decode b_Mo_state 22 = .ok (.invokestatic 108, 3) := by decide +kernel
theorem e_q_state_25 : decode b_Mo_state 25 = .ok (.ifCond .ne 7, 3) := by decide +kernel
theorem f_q_state_32_3 : mblkB b_Mo_state [(32, .aload_n 0, vi 0), (33, .iload_n 1, vi 0), (34, .iconst (-1), vi (-1))] = true := by decide +kernel
theorem e_q_state_35 : decode b_Mo_state 35 = .ok (.invokevirtual 367, 3) := by decide +kernel
theorem f_q_state_38_3 : mblkB b_Mo_state [(38, .astore 4, vi 0), (40, .aload_n 0, vi 0), (41, .aload 4, vi 0)] = true := by decide +kernel
theorem e_q_state_43 : decode b_Mo_state 43 = .ok (.invokevirtual 380, 3) := by decide +kernel
theorem e_q_state_46 : decode b_Mo_state 46 = .ok (.ifCond .eq 7, 3) := by decide +kernel
theorem f_q_state_53_4 : mblkB b_Mo_state [(53, .lconst 0, vl 0), (54, .lstore 5, vi 0), (56, .iconst 0, vi 0), (57, .istore 7, vi 0)] = true := by decide +kernel
theorem f_q_state_59_2 : mblkB b_Mo_state [(59, .iload 7, vi 0), (61, .aload 4, vi 0)] = true := by decide +kernel
theorem e_q_state_63 : decode b_Mo_state 63 = .ok (.getfield 272, 3) := by decide +kernel
theorem e_q_state_66 : decode b_Mo_state 66 = .ok (.if_icmp .ge 31, 3) := by decide +kernel
theorem f_q_state_97_2 : mblkB b_Mo_state [(97, .lload 5, vi 0), (99, .aload 4, vi 0)] = true := by decide +kernel
theorem e_q_state_101 : decode b_Mo_state 101 = .ok (.invokevirtual 372, 3) := by decide +kernel
theorem f_q_state_104_1 : mblkB b_Mo_state [(104, .iload_n 3, vi 0)] = true := by decide +kernel
theorem e_q_state_105 : decode b_Mo_state 105 = .ok (.invokestatic 376, 3) := by decide +kernel
theorem e_q_state_108 : decode b_Mo_state 108 = .ok (.lreturn, 1) := by decide +kernel
theorem f_q_state_69_1 : mblkB b_Mo_state [(69, .aload 4, vi 0)] = true := by decide +kernel
theorem e_q_state_71 : decode b_Mo_state 71 = .ok (.getfield 279, 3) := by decide +kernel
theorem f_q_state_74_1 : mblkB b_Mo_state [(74, .iload 7, vi 0)] = true := by decide +kernel
theorem e_q_state_76 : decode b_Mo_state 76 = .ok (.iaload, 1) := by decide +kernel
theorem f_q_state_77_1 : mblkB b_Mo_state [(77, .iload_n 2, vi 0)] = true := by decide +kernel
theorem e_q_state_78 : decode b_Mo_state 78 = .ok (.if_icmp .ne 13, 3) := by decide +kernel
theorem f_q_state_91_2 : mblkB b_Mo_state [(91, .iinc 7 1, vi 1), (94, .goto (-35), vi 59)] = true := by decide +kernel
theorem f_q_state_81_1 : mblkB b_Mo_state [(81, .aload 4, vi 0)] = true := by decide +kernel
theorem e_q_state_83 : decode b_Mo_state 83 = .ok (.getfield 285, 3) := by decide +kernel
theorem f_q_state_86_1 : mblkB b_Mo_state [(86, .iload 7, vi 0)] = true := by decide +kernel
theorem e_q_state_88 : decode b_Mo_state 88 = .ok (.laload, 1) := by decide +kernel
theorem f_q_state_89_3 : mblkB b_Mo_state [(89, .lstore 5, vi 0), (91, .iinc 7 1, vi 1), (94, .goto (-35), vi 59)] = true := by decide +kernel
theorem e_q_state_49 : decode b_Mo_state 49 = .ok (.ldc2_w 370, 3) := by decide +kernel
theorem e_q_state_52 : decode b_Mo_state 52 = .ok (.lreturn, 1) := by decide +kernel
theorem e_q_state_28 : decode b_Mo_state 28 = .ok (.ldc2_w 370, 3) := by decide +kernel
theorem e_q_state_31 : decode b_Mo_state 31 = .ok (.lreturn, 1) := by decide +kernel
set_option maxHeartbeats 40000000 in
set_option maxRecDepth 100000 in
theorem q_state (l : Launch) (D : va_G) (B : Nat) (H0 : Heap) (ad : mAd) (A : mA) (hT : mTy A)  (p : Int) (s : Int) (x : Int) (hpr : -2147483648 ≤ p ∧ p ≤ 2147483647) (hsr : -2147483648 ≤ s ∧ s ≤ 2147483647) (hxr : -2147483648 ≤ x ∧ x ≤ 2147483647) (hI : mI A)  : mMet l D B H0 ad y_Mo_state b_Mo_state 8 (some .long) 910 23500 [vr 0 0, vi p, vi s, vi x] A (fun v9 A9 => ∃ z : Int, v9 = some (vl z) ∧ mTy A9 ∧ mEq (rm 0) A A9 ∧ (mI A9)) := by
  refine m_met (by decide) rfl (fun g w0 C Rm Y E => ?_)
  have hE0 : mEq (rm 0) A A := mEq.rfl'
  show JM g D ad w0 A 0 [(0, vr 0 0), (1, vi p), (2, vi s), (3, vi x)] []
  have r0 : 0 ≤ A 0 0 0 ∧ A 0 0 0 ≤ 6 := hT 0 0 0
  refine m_blk 2 [(0, vr 0 0), (1, vi p), (2, vi s), (3, vi x)] [vi p, vr 0 0] C f_q_state_0_2 rfl ?_
  refine m_callV C Rm Y [vi p] [] (q_isProgram l D B H0 ad _ hT p (by show -2147483648 ≤ p ∧ p ≤ 2147483647; omega)) cl_Mo_364 rfl (by decide) rfl rfl e_q_state_2 rfl rfl rfl ⟨by decide, by decide⟩ ?_
  rintro v1 A2 ⟨z5, rfl, rfl, raw_hz_n4⟩
  show JM g D ad w0 A 5 [(0, vr 0 0), (1, vi p), (2, vi s), (3, vi x)] [vi z5]
  have hz_n4 : z5 = 1 ∧ 0 ≤ p ∧ p < A 0 0 0 ∨ z5 = 0 ∧ ¬ (0 ≤ p ∧ p < A 0 0 0) := raw_hz_n4
  clear raw_hz_n4
  rcases hz_n4 with ⟨e_n4, hz_n4⟩ | ⟨e_n4, hz_n4⟩
  · subst e_n4
    refine m_if_eq (tgt := 28) C e_q_state_5 (by decide) (by decide) (fun c6 => (by omega : False).elim) (fun c6 => ?_)
    refine m_blk 10 [(0, vr 0 0), (1, vi p), (2, vi s), (3, vi x)] [vi 0, vi s] C f_q_state_8_2 rfl ?_
    refine m_ldcw C 999999 e_q_state_10 ld_Mo_388 (by decide) ?_
    refine m_callS C Rm Y [vi s, vi 0, vi 999999] [] (q_in l D B H0 ad _ s 0 999999 (by show -2147483648 ≤ s ∧ s ≤ 2147483647; omega) (by show -2147483648 ≤ 0 ∧ 0 ≤ 2147483647; omega) (by show -2147483648 ≤ 999999 ∧ 999999 ≤ 2147483647; omega)) cl_Mo_108 e_q_state_13 rfl rfl rfl ⟨by decide, by decide⟩ ?_
    rintro v7 A8 ⟨z11, rfl, rfl, raw_hz_n10⟩
    show JM g D ad w0 A 16 [(0, vr 0 0), (1, vi p), (2, vi s), (3, vi x)] [vi z11]
    have hz_n10 : z11 = 1 ∧ 0 ≤ s ∧ s ≤ 999999 ∨ z11 = 0 ∧ ¬ (0 ≤ s ∧ s ≤ 999999) := raw_hz_n10
    clear raw_hz_n10
    rcases hz_n10 with ⟨e_n10, hz_n10⟩ | ⟨e_n10, hz_n10⟩
    · subst e_n10
      refine m_if_eq (tgt := 28) C e_q_state_16 (by decide) (by decide) (fun c12 => (by omega : False).elim) (fun c12 => ?_)
      refine m_blk 22 [(0, vr 0 0), (1, vi p), (2, vi s), (3, vi x)] [vi 1, vi 0, vi x] C f_q_state_19_3 rfl ?_
      refine m_callS C Rm Y [vi x, vi 0, vi 1] [] (q_in l D B H0 ad _ x 0 1 (by show -2147483648 ≤ x ∧ x ≤ 2147483647; omega) (by show -2147483648 ≤ 0 ∧ 0 ≤ 2147483647; omega) (by show -2147483648 ≤ 1 ∧ 1 ≤ 2147483647; omega)) cl_Mo_108 e_q_state_22 rfl rfl rfl ⟨by decide, by decide⟩ ?_
      rintro v13 A14 ⟨z17, rfl, rfl, raw_hz_n16⟩
      show JM g D ad w0 A 25 [(0, vr 0 0), (1, vi p), (2, vi s), (3, vi x)] [vi z17]
      have hz_n16 : z17 = 1 ∧ 0 ≤ x ∧ x ≤ 1 ∨ z17 = 0 ∧ ¬ (0 ≤ x ∧ x ≤ 1) := raw_hz_n16
      clear raw_hz_n16
      rcases hz_n16 with ⟨e_n16, hz_n16⟩ | ⟨e_n16, hz_n16⟩
      · subst e_n16
        refine m_if_ne (tgt := 32) C e_q_state_25 (by decide) (by decide) (fun c18 => ?_) (fun c18 => (by omega : False).elim)
        refine m_blk 35 [(0, vr 0 0), (1, vi p), (2, vi s), (3, vi x)] [vi (-1), vi p, vr 0 0] C f_q_state_32_3 rfl ?_
        refine m_callV C Rm Y [vi p, vi (-1)] [] (q_odds l D B H0 ad _ hT p (-1) (by show 0 ≤ p ∧ p ≤ 5; omega) ((hI.ok (by omega)).rmk hE0) (by show -2147483648 ≤ (-1) ∧ (-1) ≤ 2147483647; omega) hI.2.2) cl_Mo_367 rfl (by decide) rfl rfl e_q_state_35 rfl rfl rfl ⟨by decide, by decide⟩ ?_
        rintro v19 A20 ⟨z23, rfl, hT_n22, hE_n22, raw_hz_n22, raw_hu_n22, raw_hO_n22, raw_hS_n22⟩
        have hF_n22 := hE0.trans (hE_n22.sub (rm_rm (Nat.zero_le _)))
        have hz_n22 : 0 ≤ (z23 : Int) ∧ (z23 : Int) < A20 0 0 33 := raw_hz_n22
        clear raw_hz_n22
        have hu_n22 : A20 0 0 33 ≤ 24 := raw_hu_n22
        clear raw_hu_n22
        have hO_n22 : oG A20 z23 1125899906842624 := raw_hO_n22
        clear raw_hO_n22
        have hS_n22 : mS A20 := raw_hS_n22
        clear raw_hS_n22
        show JM g D ad w0 A20 38 [(0, vr 0 0), (1, vi p), (2, vi s), (3, vi x)] [vr 1 z23]
        refine m_blk 43 [(4, vr 1 z23), (0, vr 0 0), (1, vi p), (2, vi s), (3, vi x)] [vr 1 z23, vr 0 0] C f_q_state_38_3 rfl ?_
        refine m_callV C Rm Y [vr 1 z23] [] (q_against l D B H0 ad _ hT_n22 z23 (by show z23 < 200; omega)) cl_Mo_380 rfl (by decide) rfl rfl e_q_state_43 rfl rfl rfl ⟨by decide, by decide⟩ ?_
        rintro v24 A25 ⟨z28, rfl, rfl, raw_hz_n27, raw_hn_n27⟩
        have hz_n27 : -7 ≤ z28 ∧ z28 ≤ 0 := raw_hz_n27
        clear raw_hz_n27
        have hn_n27 : nQ A20 z23 z28 := raw_hn_n27
        clear raw_hn_n27
        show JM g D ad w0 A20 46 [(4, vr 1 z23), (0, vr 0 0), (1, vi p), (2, vi s), (3, vi x)] [vi z28]
        refine m_if_eq (tgt := 53) C e_q_state_46 (by decide) (by omega) (fun c29 => ?_) (fun c29 => ?_)
        · refine m_blk 59 [(7, vi 0), (5, vl 0), (4, vr 1 z23), (0, vr 0 0), (1, vi p), (2, vi s), (3, vi x)] [] C f_q_state_53_4 rfl ?_
          have hd_59 : ∀ (NZ : Nat) (k : Int) (w : Int), 0 ≤ k ∧ k ≤ 301 → 0 ≤ w ∧ w ≤ 1125899906842624 → (400 - k) < (NZ : Int) → JM g D ad w0 A20 59 [(7, vi k), (5, vl w), (4, vr 1 z23), (0, vr 0 0), (1, vi p), (2, vi s), (3, vi x)] [] := by
            intro NZ
            induction NZ with
            | zero => intro k w hk9 hw9 hm59; exact absurd hm59 (by omega)
            | succ NZ ih59 =>
              intro k w hk9 hw9 hm59
              refine m_blk 63 [(7, vi k), (5, vl w), (4, vr 1 z23), (0, vr 0 0), (1, vi p), (2, vi s), (3, vi x)] [vr 1 z23, vi k] C f_q_state_59_2 rfl ?_
              obtain ⟨x30, hx30⟩ : ∃ x, A20 1 z23 2 = x := ⟨_, rfl⟩
              have rx30 : 0 ≤ x30 ∧ x30 ≤ 301 := mrg hT_n22 hx30 rfl
              refine m_getiN C e_q_state_63 fg_Mo_272 rfl (by omega) rfl x30 hx30 ?_
              refine m_icmp_ge (tgt := 97) C e_q_state_66 (by decide) (by omega) (by omega) (fun c31 => ?_) (fun c31 => ?_)
              · have n1 := hn_n27 (by omega)
                refine m_blk 101 [(7, vi k), (5, vl w), (4, vr 1 z23), (0, vr 0 0), (1, vi p), (2, vi s), (3, vi x)] [vr 1 z23, vl w] C f_q_state_97_2 rfl ?_
                refine m_callV C Rm Y [] [vl w] (q_all l D B H0 ad _ hT_n22 z23 1125899906842624 (by show z23 < 200; omega) hO_n22 (by show 1125899906842624 ≤ 1125899906842624; omega)) cl_Mo_372 rfl (by omega) rfl rfl e_q_state_101 rfl rfl rfl ⟨by decide, by decide⟩ ?_
                rintro v32 A33 ⟨z36, rfl, rfl, raw_hz_n35⟩
                have hz_n35 : z36 = ws (A20 4 z23) 0 (Int.toNat (A20 1 z23 2)) ∧ 0 ≤ z36 ∧ z36 ≤ 1125899906842624 ∧ A20 1 z23 2 ≤ z36 := raw_hz_n35
                clear raw_hz_n35
                show JM g D ad w0 A20 104 [(7, vi k), (5, vl w), (4, vr 1 z23), (0, vr 0 0), (1, vi p), (2, vi s), (3, vi x)] [vl z36, vl w]
                refine m_blk 105 [(7, vi k), (5, vl w), (4, vr 1 z23), (0, vr 0 0), (1, vi p), (2, vi s), (3, vi x)] [vi x, vl z36, vl w] C f_q_state_104_1 rfl ?_
                refine m_callS C Rm Y [vl w, vl z36, vi x] [] (q_lowest l D B H0 ad _ w z36 x (by show 0 ≤ w ∧ w ≤ 9223372036854775807; omega) (by show 1 ≤ z36 ∧ z36 ≤ 9223372036854775807; omega) (by show -2147483648 ≤ x ∧ x ≤ 2147483647; omega)) cl_Mo_376 e_q_state_105 rfl rfl rfl ⟨by decide, by decide⟩ ?_
                rintro v37 A38 ⟨z41, rfl, rfl, raw_hz_n40⟩
                have hz_n40 : 0 ≤ z41 ∧ z41 ≤ 9223372036854775807 := raw_hz_n40
                clear raw_hz_n40
                show JM g D ad w0 A20 108 [(7, vi k), (5, vl w), (4, vr 1 z23), (0, vr 0 0), (1, vi p), (2, vi s), (3, vi x)] [vl z41]
                exact m_lret C Rm E e_q_state_108 ⟨z41, rfl, hT_n22, hF_n22, (hI.rm0 hF_n22 hS_n22)⟩
              · refine m_blk 71 [(7, vi k), (5, vl w), (4, vr 1 z23), (0, vr 0 0), (1, vi p), (2, vi s), (3, vi x)] [vr 1 z23] C f_q_state_69_1 rfl ?_
                refine m_getrN C e_q_state_71 fg_Mo_279 rfl (by omega) rfl ?_
                refine m_blk 76 [(7, vi k), (5, vl w), (4, vr 1 z23), (0, vr 0 0), (1, vi p), (2, vi s), (3, vi x)] [vi k, vr 3 z23] C f_q_state_74_1 rfl ?_
                obtain ⟨x42, hx42⟩ : ∃ x, A20 3 z23 k.toNat = x := ⟨_, rfl⟩
                have rx42 : 0 ≤ x42 ∧ x42 ≤ 9999999 := mrg hT_n22 hx42 rfl
                refine m_iald C e_q_state_76 rfl (by omega) (by decide) (by omega) (by show k < ((301 : Nat) : Int); omega) x42 hx42 ?_
                refine m_blk 78 [(7, vi k), (5, vl w), (4, vr 1 z23), (0, vr 0 0), (1, vi p), (2, vi s), (3, vi x)] [vi s, vi x42] C f_q_state_77_1 rfl ?_
                refine m_icmp_ne (tgt := 91) C e_q_state_78 (by decide) (by omega) (by omega) (fun c43 => ?_) (fun c43 => ?_)
                · refine m_blk 59 [(7, vi (k + 1)), (5, vl w), (4, vr 1 z23), (0, vr 0 0), (1, vi p), (2, vi s), (3, vi x)] [] C f_q_state_91_2 rfl ?_
                  refine m_loc [(7, vi (k + 1)), (5, vl w), (4, vr 1 z23), (0, vr 0 0), (1, vi p), (2, vi s), (3, vi x)] ⟨rfl, rfl, rfl, rfl, rfl, rfl, rfl, trivial⟩ ?_
                  exact ih59 (k + 1) w (by show 0 ≤ (k + 1) ∧ (k + 1) ≤ 301; omega) (by show 0 ≤ w ∧ w ≤ 1125899906842624; omega) (by show (400 - (k + 1)) < _; omega)
                · refine m_blk 83 [(7, vi k), (5, vl w), (4, vr 1 z23), (0, vr 0 0), (1, vi p), (2, vi s), (3, vi x)] [vr 1 z23] C f_q_state_81_1 rfl ?_
                  refine m_getrN C e_q_state_83 fg_Mo_285 rfl (by omega) rfl ?_
                  refine m_blk 88 [(7, vi k), (5, vl w), (4, vr 1 z23), (0, vr 0 0), (1, vi p), (2, vi s), (3, vi x)] [vi k, vr 4 z23] C f_q_state_86_1 rfl ?_
                  obtain ⟨x44, hx44⟩ : ∃ x, A20 4 z23 k.toNat = x := ⟨_, rfl⟩
                  have rx44 : (-9223372036854775808) ≤ x44 ∧ x44 ≤ 9223372036854775807 := mrg hT_n22 hx44 rfl
                  have pw9 := hO_n22.el (v := Int.toNat k) (by omega)
                  rw [hx44] at pw9
                  refine m_lald C e_q_state_88 rfl (by omega) (by decide) (by omega) (by show k < ((301 : Nat) : Int); omega) x44 hx44 ?_
                  refine m_blk 59 [(7, vi (k + 1)), (5, vl x44), (4, vr 1 z23), (0, vr 0 0), (1, vi p), (2, vi s), (3, vi x)] [] C f_q_state_89_3 rfl ?_
                  refine m_loc [(7, vi (k + 1)), (5, vl x44), (4, vr 1 z23), (0, vr 0 0), (1, vi p), (2, vi s), (3, vi x)] ⟨rfl, rfl, rfl, rfl, rfl, rfl, rfl, trivial⟩ ?_
                  exact ih59 (k + 1) x44 (by show 0 ≤ (k + 1) ∧ (k + 1) ≤ 301; omega) (by show 0 ≤ x44 ∧ x44 ≤ 1125899906842624; omega) (by show (400 - (k + 1)) < _; omega)
          refine m_loc [(7, vi 0), (5, vl 0), (4, vr 1 z23), (0, vr 0 0), (1, vi p), (2, vi s), (3, vi x)] ⟨rfl, rfl, rfl, rfl, rfl, rfl, rfl, trivial⟩ ?_
          exact hd_59 (Int.toNat ((400 - 0)) + 1) 0 0 (by show 0 ≤ 0 ∧ 0 ≤ 301; omega) (by show 0 ≤ 0 ∧ 0 ≤ 1125899906842624; omega) (by show (400 - 0) < _; omega)
        · refine m_ldc2 C (-4611686018427387904) e_q_state_49 ld_Mo_370 (by decide) ?_
          exact m_lret C Rm E e_q_state_52 ⟨(-4611686018427387904), rfl, hT_n22, hF_n22, (hI.rm0 hF_n22 hS_n22)⟩
      · subst e_n16
        refine m_if_ne (tgt := 32) C e_q_state_25 (by decide) (by decide) (fun c45 => (by omega : False).elim) (fun c45 => ?_)
        refine m_ldc2 C (-4611686018427387904) e_q_state_28 ld_Mo_370 (by decide) ?_
        exact m_lret C Rm E e_q_state_31 ⟨(-4611686018427387904), rfl, hT, hE0, (hI.rm0 hE0 hI.2.2)⟩
    · subst e_n10
      refine m_if_eq (tgt := 28) C e_q_state_16 (by decide) (by decide) (fun c46 => ?_) (fun c46 => (by omega : False).elim)
      refine m_ldc2 C (-4611686018427387904) e_q_state_28 ld_Mo_370 (by decide) ?_
      exact m_lret C Rm E e_q_state_31 ⟨(-4611686018427387904), rfl, hT, hE0, (hI.rm0 hE0 hI.2.2)⟩
  · subst e_n4
    clear hz_n4
    refine m_if_eq (tgt := 28) C e_q_state_5 (by decide) (by decide) (fun c47 => ?_) (fun c47 => (by omega : False).elim)
    refine m_ldc2 C (-4611686018427387904) e_q_state_28 ld_Mo_370 (by decide) ?_
    exact m_lret C Rm E e_q_state_31 ⟨(-4611686018427387904), rfl, hT, hE0, (hI.rm0 hE0 hI.2.2)⟩

theorem f_q_foldG_0_1 : mblkB b_Mo_fold_0 [(0, .iload_n 0, vi 0)] = true := by decide +kernel
theorem e_q_foldG_1 : decode b_Mo_fold_0 1 = .ok (.ifCond .ne 7, 3) := by decide +kernel
theorem f_q_foldG_8_2 : mblkB b_Mo_fold_0 [(8, .iload_n 0, vi 0), (9, .iconst 1, vi 1)] = true := by decide +kernel
theorem e_q_foldG_10 : decode b_Mo_fold_0 10 = .ok (.if_icmp .ne 9, 3) := by decide +kernel
theorem f_q_foldG_19_2 : mblkB b_Mo_fold_0 [(19, .iload_n 0, vi 0), (20, .iconst 2, vi 2)] = true := by decide +kernel
theorem e_q_foldG_21 : decode b_Mo_fold_0 21 = .ok (.if_icmp .ne 11, 3) := by decide +kernel
theorem f_q_foldG_32_2 : mblkB b_Mo_fold_0 [(32, .iload_n 0, vi 0), (33, .iconst 3, vi 3)] = true := by decide +kernel
theorem e_q_foldG_34 : decode b_Mo_fold_0 34 = .ok (.if_icmp .ne 11, 3) := by decide +kernel
theorem f_q_foldG_45_2 : mblkB b_Mo_fold_0 [(45, .iload_n 0, vi 0), (46, .iconst 4, vi 4)] = true := by decide +kernel
theorem e_q_foldG_47 : decode b_Mo_fold_0 47 = .ok (.if_icmp .ne 9, 3) := by decide +kernel
theorem f_q_foldG_56_3 : mblkB b_Mo_fold_0 [(56, .bipush 9, vi 9), (58, .iload_n 1, vi 0), (59, .isub, vi 0)] = true := by decide +kernel
theorem e_q_foldG_60 : decode b_Mo_fold_0 60 = .ok (.ireturn, 1) := by decide +kernel
theorem f_q_foldG_50_2 : mblkB b_Mo_fold_0 [(50, .iload_n 1, vi 0), (51, .iconst 2, vi 2)] = true := by decide +kernel
theorem e_q_foldG_52 : decode b_Mo_fold_0 52 = .ok (.irem, 1) := by decide +kernel
theorem f_q_foldG_53_1 : mblkB b_Mo_fold_0 [(53, .goto 7, vi 60)] = true := by decide +kernel
theorem f_q_foldG_37_6 : mblkB b_Mo_fold_0 [(37, .iload_n 1, vi 0), (38, .iload_n 1, vi 0), (39, .imul, vi 0), (40, .iload_n 1, vi 0), (41, .imul, vi 0), (42, .goto 18, vi 60)] = true := by decide +kernel
theorem f_q_foldG_24_3 : mblkB b_Mo_fold_0 [(24, .iconst 1, vi 1), (25, .iload_n 1, vi 0), (26, .iconst 2, vi 2)] = true := by decide +kernel
theorem e_q_foldG_27 : decode b_Mo_fold_0 27 = .ok (.irem, 1) := by decide +kernel
theorem f_q_foldG_28_2 : mblkB b_Mo_fold_0 [(28, .isub, vi 0), (29, .goto 31, vi 60)] = true := by decide +kernel
theorem f_q_foldG_13_4 : mblkB b_Mo_fold_0 [(13, .iload_n 1, vi 0), (14, .iload_n 1, vi 0), (15, .imul, vi 0), (16, .goto 44, vi 60)] = true := by decide +kernel
theorem f_q_foldG_4_2 : mblkB b_Mo_fold_0 [(4, .iload_n 1, vi 0), (5, .goto 55, vi 60)] = true := by decide +kernel
set_option maxHeartbeats 40000000 in
set_option maxRecDepth 100000 in
theorem q_foldG (l : Launch) (D : va_G) (B : Nat) (H0 : Heap) (ad : mAd) (A : mA)  (k : Int) (v : Int) (hk : 0 ≤ k ∧ k ≤ 5) (hv : 0 ≤ v ∧ v ≤ 9)  : mMet l D B H0 ad y_Mo_fold_0 b_Mo_fold_0 2 (some .int) 0 0 [vi k, vi v] A (fun v9 A9 => ∃ z : Int, v9 = some (vi z) ∧ A = A9 ∧ (0 ≤ z ∧ z ≤ 729)) := by
  refine m_met (by decide) rfl (fun g w0 C Rm Y E => ?_)
  show JM g D ad w0 A 0 [(0, vi k), (1, vi v)] []
  refine m_blk 1 [(0, vi k), (1, vi v)] [vi k] C f_q_foldG_0_1 rfl ?_
  refine m_if_ne (tgt := 8) C e_q_foldG_1 (by decide) (by omega) (fun c1 => ?_) (fun c1 => ?_)
  · refine m_blk 10 [(0, vi k), (1, vi v)] [vi 1, vi k] C f_q_foldG_8_2 rfl ?_
    refine m_icmp_ne (tgt := 19) C e_q_foldG_10 (by decide) (by omega) (by decide) (fun c2 => ?_) (fun c2 => ?_)
    · refine m_blk 21 [(0, vi k), (1, vi v)] [vi 2, vi k] C f_q_foldG_19_2 rfl ?_
      refine m_icmp_ne (tgt := 32) C e_q_foldG_21 (by decide) (by omega) (by decide) (fun c3 => ?_) (fun c3 => ?_)
      · refine m_blk 34 [(0, vi k), (1, vi v)] [vi 3, vi k] C f_q_foldG_32_2 rfl ?_
        refine m_icmp_ne (tgt := 45) C e_q_foldG_34 (by decide) (by omega) (by decide) (fun c4 => ?_) (fun c4 => ?_)
        · refine m_blk 47 [(0, vi k), (1, vi v)] [vi 4, vi k] C f_q_foldG_45_2 rfl ?_
          refine m_icmp_ne (tgt := 56) C e_q_foldG_47 (by decide) (by omega) (by decide) (fun c5 => ?_) (fun c5 => ?_)
          · refine m_blk 60 [(0, vi k), (1, vi v)] [vi (9 - v)] C f_q_foldG_56_3 rfl ?_
            exact m_iret C Rm E e_q_foldG_60 ⟨(9 - v), rfl, rfl, (by have h9 := fo_3 hv; show 0 ≤ (9 - v) ∧ (9 - v) ≤ 729; omega)⟩
          · refine m_blk 52 [(0, vi k), (1, vi v)] [vi 2, vi v] C f_q_foldG_50_2 rfl ?_
            refine m_irem C e_q_foldG_52 (by omega) (by decide) (by decide) ?_
            refine m_blk 60 [(0, vi k), (1, vi v)] [vi (Int.tmod v 2)] C f_q_foldG_53_1 rfl ?_
            exact m_iret C Rm E e_q_foldG_60 ⟨(Int.tmod v 2), rfl, rfl, (by have h9 := fo_3 hv; show 0 ≤ (Int.tmod v 2) ∧ (Int.tmod v 2) ≤ 729; omega)⟩
        · refine m_blk 60 [(0, vi k), (1, vi v)] [vi ((v * v) * v)] C f_q_foldG_37_6 rfl ?_
          exact m_iret C Rm E e_q_foldG_60 ⟨((v * v) * v), rfl, rfl, (by have h9 := fo_3 hv; show 0 ≤ ((v * v) * v) ∧ ((v * v) * v) ≤ 729; omega)⟩
      · refine m_blk 27 [(0, vi k), (1, vi v)] [vi 2, vi v, vi 1] C f_q_foldG_24_3 rfl ?_
        refine m_irem C e_q_foldG_27 (by omega) (by decide) (by decide) ?_
        refine m_blk 60 [(0, vi k), (1, vi v)] [vi (1 - (Int.tmod v 2))] C f_q_foldG_28_2 rfl ?_
        exact m_iret C Rm E e_q_foldG_60 ⟨(1 - (Int.tmod v 2)), rfl, rfl, (by have h9 := fo_3 hv; show 0 ≤ (1 - (Int.tmod v 2)) ∧ (1 - (Int.tmod v 2)) ≤ 729; omega)⟩
    · refine m_blk 60 [(0, vi k), (1, vi v)] [vi (v * v)] C f_q_foldG_13_4 rfl ?_
      exact m_iret C Rm E e_q_foldG_60 ⟨(v * v), rfl, rfl, (by have h9 := fo_3 hv; show 0 ≤ (v * v) ∧ (v * v) ≤ 729; omega)⟩
  · refine m_blk 60 [(0, vi k), (1, vi v)] [vi v] C f_q_foldG_4_2 rfl ?_
    exact m_iret C Rm E e_q_foldG_60 ⟨v, rfl, rfl, (by have h9 := fo_3 hv; show 0 ≤ v ∧ v ≤ 729; omega)⟩

theorem f_q_foldF_0_2 : mblkB b_Mo_fold_1 [(0, .aload_n 0, vi 0), (1, .iload_n 1, vi 0)] = true := by decide +kernel
theorem e_q_foldF_2 : decode b_Mo_fold_1 2 = .ok (.invokevirtual 364, 3) := by decide +kernel
theorem e_q_foldF_5 : decode b_Mo_fold_1 5 = .ok (.ifCond .eq 29, 3) := by decide +kernel
theorem f_q_foldF_8_1 : mblkB b_Mo_fold_1 [(8, .iload_n 2, vi 0)] = true := by decide +kernel
theorem e_q_foldF_9 : decode b_Mo_fold_1 9 = .ok (.invokestatic 254, 3) := by decide +kernel
theorem e_q_foldF_12 : decode b_Mo_fold_1 12 = .ok (.ifCond .eq 22, 3) := by decide +kernel
theorem f_q_foldF_15_3 : mblkB b_Mo_fold_1 [(15, .iload_n 3, vi 0), (16, .iconst 0, vi 0), (17, .iconst 5, vi 5)] = true := by decide +kernel
theorem e_q_foldF_18 : decode b_Mo_fold_1 18 = .ok (.invokestatic 108, 3) := by decide +kernel
theorem e_q_foldF_21 : decode b_Mo_fold_1 21 = .ok (.ifCond .eq 13, 3) := by decide +kernel
theorem f_q_foldF_24_3 : mblkB b_Mo_fold_1 [(24, .iload 4, vi 0), (26, .iconst 0, vi 0), (27, .iconst 1, vi 1)] = true := by decide +kernel
theorem e_q_foldF_28 : decode b_Mo_fold_1 28 = .ok (.invokestatic 108, 3) := by decide +kernel
theorem e_q_foldF_31 : decode b_Mo_fold_1 31 = .ok (.ifCond .ne 7, 3) := by decide +kernel
theorem f_q_foldF_38_3 : mblkB b_Mo_fold_1 [(38, .aload_n 0, vi 0), (39, .iload_n 1, vi 0), (40, .iconst (-1), vi (-1))] = true := by decide +kernel
theorem e_q_foldF_41 : decode b_Mo_fold_1 41 = .ok (.invokevirtual 367, 3) := by decide +kernel
theorem f_q_foldF_44_3 : mblkB b_Mo_fold_1 [(44, .astore 5, vi 0), (46, .aload_n 0, vi 0), (47, .aload 5, vi 0)] = true := by decide +kernel
theorem e_q_foldF_49 : decode b_Mo_fold_1 49 = .ok (.invokevirtual 380, 3) := by decide +kernel
theorem e_q_foldF_52 : decode b_Mo_fold_1 52 = .ok (.ifCond .eq 7, 3) := by decide +kernel
theorem f_q_foldF_59_4 : mblkB b_Mo_fold_1 [(59, .lconst 0, vl 0), (60, .lstore 6, vi 0), (62, .iconst 0, vi 0), (63, .istore 8, vi 0)] = true := by decide +kernel
theorem f_q_foldF_65_2 : mblkB b_Mo_fold_1 [(65, .iload 8, vi 0), (67, .bipush 10, vi 10)] = true := by decide +kernel
theorem e_q_foldF_69 : decode b_Mo_fold_1 69 = .ok (.if_icmp .ge 30, 3) := by decide +kernel
theorem f_q_foldF_99_2 : mblkB b_Mo_fold_1 [(99, .lload 6, vi 0), (101, .aload 5, vi 0)] = true := by decide +kernel
theorem e_q_foldF_103 : decode b_Mo_fold_1 103 = .ok (.invokevirtual 372, 3) := by decide +kernel
theorem f_q_foldF_106_1 : mblkB b_Mo_fold_1 [(106, .iload 4, vi 0)] = true := by decide +kernel
theorem e_q_foldF_108 : decode b_Mo_fold_1 108 = .ok (.invokestatic 376, 3) := by decide +kernel
theorem e_q_foldF_111 : decode b_Mo_fold_1 111 = .ok (.lreturn, 1) := by decide +kernel
theorem f_q_foldF_72_3 : mblkB b_Mo_fold_1 [(72, .lload 6, vi 0), (74, .iload_n 3, vi 0), (75, .iload 8, vi 0)] = true := by decide +kernel
theorem e_q_foldF_77 : decode b_Mo_fold_1 77 = .ok (.invokestatic 389, 3) := by decide +kernel
theorem e_q_foldF_80 : decode b_Mo_fold_1 80 = .ok (.i2l, 1) := by decide +kernel
theorem f_q_foldF_81_3 : mblkB b_Mo_fold_1 [(81, .aload 5, vi 0), (83, .iload_n 2, vi 0), (84, .iload 8, vi 0)] = true := by decide +kernel
theorem e_q_foldF_86 : decode b_Mo_fold_1 86 = .ok (.invokestatic 384, 3) := by decide +kernel
theorem f_q_foldF_89_5 : mblkB b_Mo_fold_1 [(89, .lmul, vi 0), (90, .ladd, vi 0), (91, .lstore 6, vi 0), (93, .iinc 8 1, vi 1), (96, .goto (-31), vi 65)] = true := by decide +kernel
theorem e_q_foldF_55 : decode b_Mo_fold_1 55 = .ok (.ldc2_w 370, 3) := by decide +kernel
theorem e_q_foldF_58 : decode b_Mo_fold_1 58 = .ok (.lreturn, 1) := by decide +kernel
theorem e_q_foldF_34 : decode b_Mo_fold_1 34 = .ok (.ldc2_w 370, 3) := by decide +kernel
theorem e_q_foldF_37 : decode b_Mo_fold_1 37 = .ok (.lreturn, 1) := by decide +kernel
set_option maxHeartbeats 40000000 in
set_option maxRecDepth 100000 in
theorem q_foldF (l : Launch) (D : va_G) (B : Nat) (H0 : Heap) (ad : mAd) (A : mA) (hT : mTy A)  (p : Int) (n : Int) (kd : Int) (x : Int) (hpr : -2147483648 ≤ p ∧ p ≤ 2147483647) (hnr : -2147483648 ≤ n ∧ n ≤ 2147483647) (hkdr : -2147483648 ≤ kd ∧ kd ≤ 2147483647) (hxr : -2147483648 ≤ x ∧ x ≤ 2147483647) (hI : mI A)  : mMet l D B H0 ad y_Mo_fold_1 b_Mo_fold_1 9 (some .long) 910 23500 [vr 0 0, vi p, vi n, vi kd, vi x] A (fun v9 A9 => ∃ z : Int, v9 = some (vl z) ∧ mTy A9 ∧ mEq (rm 0) A A9 ∧ (mI A9)) := by
  refine m_met (by decide) rfl (fun g w0 C Rm Y E => ?_)
  have hE0 : mEq (rm 0) A A := mEq.rfl'
  show JM g D ad w0 A 0 [(0, vr 0 0), (1, vi p), (2, vi n), (3, vi kd), (4, vi x)] []
  have r0 : 0 ≤ A 0 0 0 ∧ A 0 0 0 ≤ 6 := hT 0 0 0
  refine m_blk 2 [(0, vr 0 0), (1, vi p), (2, vi n), (3, vi kd), (4, vi x)] [vi p, vr 0 0] C f_q_foldF_0_2 rfl ?_
  refine m_callV C Rm Y [vi p] [] (q_isProgram l D B H0 ad _ hT p (by show -2147483648 ≤ p ∧ p ≤ 2147483647; omega)) cl_Mo_364 rfl (by decide) rfl rfl e_q_foldF_2 rfl rfl rfl ⟨by decide, by decide⟩ ?_
  rintro v1 A2 ⟨z5, rfl, rfl, raw_hz_n4⟩
  show JM g D ad w0 A 5 [(0, vr 0 0), (1, vi p), (2, vi n), (3, vi kd), (4, vi x)] [vi z5]
  have hz_n4 : z5 = 1 ∧ 0 ≤ p ∧ p < A 0 0 0 ∨ z5 = 0 ∧ ¬ (0 ≤ p ∧ p < A 0 0 0) := raw_hz_n4
  clear raw_hz_n4
  rcases hz_n4 with ⟨e_n4, hz_n4⟩ | ⟨e_n4, hz_n4⟩
  · subst e_n4
    refine m_if_eq (tgt := 34) C e_q_foldF_5 (by decide) (by decide) (fun c6 => (by omega : False).elim) (fun c6 => ?_)
    refine m_blk 9 [(0, vr 0 0), (1, vi p), (2, vi n), (3, vi kd), (4, vi x)] [vi n] C f_q_foldF_8_1 rfl ?_
    refine m_callS C Rm Y [vi n] [] (q_isName l D B H0 ad _ n (by show -2147483648 ≤ n ∧ n ≤ 2147483647; omega)) cl_Mo_254 e_q_foldF_9 rfl rfl rfl ⟨by decide, by decide⟩ ?_
    rintro v7 A8 ⟨z11, rfl, rfl, raw_hz_n10⟩
    show JM g D ad w0 A 12 [(0, vr 0 0), (1, vi p), (2, vi n), (3, vi kd), (4, vi x)] [vi z11]
    have hz_n10 : z11 = 1 ∧ 0 ≤ n ∧ n ≤ 5 ∨ z11 = 0 ∧ ¬ (0 ≤ n ∧ n ≤ 5) := raw_hz_n10
    clear raw_hz_n10
    rcases hz_n10 with ⟨e_n10, hz_n10⟩ | ⟨e_n10, hz_n10⟩
    · subst e_n10
      refine m_if_eq (tgt := 34) C e_q_foldF_12 (by decide) (by decide) (fun c12 => (by omega : False).elim) (fun c12 => ?_)
      refine m_blk 18 [(0, vr 0 0), (1, vi p), (2, vi n), (3, vi kd), (4, vi x)] [vi 5, vi 0, vi kd] C f_q_foldF_15_3 rfl ?_
      refine m_callS C Rm Y [vi kd, vi 0, vi 5] [] (q_in l D B H0 ad _ kd 0 5 (by show -2147483648 ≤ kd ∧ kd ≤ 2147483647; omega) (by show -2147483648 ≤ 0 ∧ 0 ≤ 2147483647; omega) (by show -2147483648 ≤ 5 ∧ 5 ≤ 2147483647; omega)) cl_Mo_108 e_q_foldF_18 rfl rfl rfl ⟨by decide, by decide⟩ ?_
      rintro v13 A14 ⟨z17, rfl, rfl, raw_hz_n16⟩
      show JM g D ad w0 A 21 [(0, vr 0 0), (1, vi p), (2, vi n), (3, vi kd), (4, vi x)] [vi z17]
      have hz_n16 : z17 = 1 ∧ 0 ≤ kd ∧ kd ≤ 5 ∨ z17 = 0 ∧ ¬ (0 ≤ kd ∧ kd ≤ 5) := raw_hz_n16
      clear raw_hz_n16
      rcases hz_n16 with ⟨e_n16, hz_n16⟩ | ⟨e_n16, hz_n16⟩
      · subst e_n16
        refine m_if_eq (tgt := 34) C e_q_foldF_21 (by decide) (by decide) (fun c18 => (by omega : False).elim) (fun c18 => ?_)
        refine m_blk 28 [(0, vr 0 0), (1, vi p), (2, vi n), (3, vi kd), (4, vi x)] [vi 1, vi 0, vi x] C f_q_foldF_24_3 rfl ?_
        refine m_callS C Rm Y [vi x, vi 0, vi 1] [] (q_in l D B H0 ad _ x 0 1 (by show -2147483648 ≤ x ∧ x ≤ 2147483647; omega) (by show -2147483648 ≤ 0 ∧ 0 ≤ 2147483647; omega) (by show -2147483648 ≤ 1 ∧ 1 ≤ 2147483647; omega)) cl_Mo_108 e_q_foldF_28 rfl rfl rfl ⟨by decide, by decide⟩ ?_
        rintro v19 A20 ⟨z23, rfl, rfl, raw_hz_n22⟩
        show JM g D ad w0 A 31 [(0, vr 0 0), (1, vi p), (2, vi n), (3, vi kd), (4, vi x)] [vi z23]
        have hz_n22 : z23 = 1 ∧ 0 ≤ x ∧ x ≤ 1 ∨ z23 = 0 ∧ ¬ (0 ≤ x ∧ x ≤ 1) := raw_hz_n22
        clear raw_hz_n22
        rcases hz_n22 with ⟨e_n22, hz_n22⟩ | ⟨e_n22, hz_n22⟩
        · subst e_n22
          refine m_if_ne (tgt := 38) C e_q_foldF_31 (by decide) (by decide) (fun c24 => ?_) (fun c24 => (by omega : False).elim)
          refine m_blk 41 [(0, vr 0 0), (1, vi p), (2, vi n), (3, vi kd), (4, vi x)] [vi (-1), vi p, vr 0 0] C f_q_foldF_38_3 rfl ?_
          refine m_callV C Rm Y [vi p, vi (-1)] [] (q_odds l D B H0 ad _ hT p (-1) (by show 0 ≤ p ∧ p ≤ 5; omega) ((hI.ok (by omega)).rmk hE0) (by show -2147483648 ≤ (-1) ∧ (-1) ≤ 2147483647; omega) hI.2.2) cl_Mo_367 rfl (by decide) rfl rfl e_q_foldF_41 rfl rfl rfl ⟨by decide, by decide⟩ ?_
          rintro v25 A26 ⟨z29, rfl, hT_n28, hE_n28, raw_hz_n28, raw_hu_n28, raw_hO_n28, raw_hS_n28⟩
          have hF_n28 := hE0.trans (hE_n28.sub (rm_rm (Nat.zero_le _)))
          have hz_n28 : 0 ≤ (z29 : Int) ∧ (z29 : Int) < A26 0 0 33 := raw_hz_n28
          clear raw_hz_n28
          have hu_n28 : A26 0 0 33 ≤ 24 := raw_hu_n28
          clear raw_hu_n28
          have hO_n28 : oG A26 z29 1125899906842624 := raw_hO_n28
          clear raw_hO_n28
          have hS_n28 : mS A26 := raw_hS_n28
          clear raw_hS_n28
          show JM g D ad w0 A26 44 [(0, vr 0 0), (1, vi p), (2, vi n), (3, vi kd), (4, vi x)] [vr 1 z29]
          refine m_blk 49 [(5, vr 1 z29), (0, vr 0 0), (1, vi p), (2, vi n), (3, vi kd), (4, vi x)] [vr 1 z29, vr 0 0] C f_q_foldF_44_3 rfl ?_
          refine m_callV C Rm Y [vr 1 z29] [] (q_against l D B H0 ad _ hT_n28 z29 (by show z29 < 200; omega)) cl_Mo_380 rfl (by decide) rfl rfl e_q_foldF_49 rfl rfl rfl ⟨by decide, by decide⟩ ?_
          rintro v30 A31 ⟨z34, rfl, rfl, raw_hz_n33, raw_hn_n33⟩
          have hz_n33 : -7 ≤ z34 ∧ z34 ≤ 0 := raw_hz_n33
          clear raw_hz_n33
          have hn_n33 : nQ A26 z29 z34 := raw_hn_n33
          clear raw_hn_n33
          show JM g D ad w0 A26 52 [(5, vr 1 z29), (0, vr 0 0), (1, vi p), (2, vi n), (3, vi kd), (4, vi x)] [vi z34]
          refine m_if_eq (tgt := 59) C e_q_foldF_52 (by decide) (by omega) (fun c35 => ?_) (fun c35 => ?_)
          · refine m_blk 65 [(8, vi 0), (6, vl 0), (5, vr 1 z29), (0, vr 0 0), (1, vi p), (2, vi n), (3, vi kd), (4, vi x)] [] C f_q_foldF_59_4 rfl ?_
            have hd_65 : ∀ (NZ : Nat) (v : Int) (s : Int), 0 ≤ v ∧ v ≤ 10 → 0 ≤ s ∧ s ≤ 820781032088272896 * v → (40 - v) < (NZ : Int) → JM g D ad w0 A26 65 [(8, vi v), (6, vl s), (5, vr 1 z29), (0, vr 0 0), (1, vi p), (2, vi n), (3, vi kd), (4, vi x)] [] := by
              intro NZ
              induction NZ with
              | zero => intro v s hv9 hs9 hm65; exact absurd hm65 (by omega)
              | succ NZ ih65 =>
                intro v s hv9 hs9 hm65
                refine m_blk 69 [(8, vi v), (6, vl s), (5, vr 1 z29), (0, vr 0 0), (1, vi p), (2, vi n), (3, vi kd), (4, vi x)] [vi 10, vi v] C f_q_foldF_65_2 rfl ?_
                refine m_icmp_ge (tgt := 99) C e_q_foldF_69 (by decide) (by omega) (by decide) (fun c36 => ?_) (fun c36 => ?_)
                · have n1 := hn_n33 (by omega)
                  refine m_blk 103 [(8, vi v), (6, vl s), (5, vr 1 z29), (0, vr 0 0), (1, vi p), (2, vi n), (3, vi kd), (4, vi x)] [vr 1 z29, vl s] C f_q_foldF_99_2 rfl ?_
                  refine m_callV C Rm Y [] [vl s] (q_all l D B H0 ad _ hT_n28 z29 1125899906842624 (by show z29 < 200; omega) hO_n28 (by show 1125899906842624 ≤ 1125899906842624; omega)) cl_Mo_372 rfl (by omega) rfl rfl e_q_foldF_103 rfl rfl rfl ⟨by decide, by decide⟩ ?_
                  rintro v37 A38 ⟨z41, rfl, rfl, raw_hz_n40⟩
                  have hz_n40 : z41 = ws (A26 4 z29) 0 (Int.toNat (A26 1 z29 2)) ∧ 0 ≤ z41 ∧ z41 ≤ 1125899906842624 ∧ A26 1 z29 2 ≤ z41 := raw_hz_n40
                  clear raw_hz_n40
                  show JM g D ad w0 A26 106 [(8, vi v), (6, vl s), (5, vr 1 z29), (0, vr 0 0), (1, vi p), (2, vi n), (3, vi kd), (4, vi x)] [vl z41, vl s]
                  refine m_blk 108 [(8, vi v), (6, vl s), (5, vr 1 z29), (0, vr 0 0), (1, vi p), (2, vi n), (3, vi kd), (4, vi x)] [vi x, vl z41, vl s] C f_q_foldF_106_1 rfl ?_
                  refine m_callS C Rm Y [vl s, vl z41, vi x] [] (q_lowest l D B H0 ad _ s z41 x (by show 0 ≤ s ∧ s ≤ 9223372036854775807; omega) (by show 1 ≤ z41 ∧ z41 ≤ 9223372036854775807; omega) (by show -2147483648 ≤ x ∧ x ≤ 2147483647; omega)) cl_Mo_376 e_q_foldF_108 rfl rfl rfl ⟨by decide, by decide⟩ ?_
                  rintro v42 A43 ⟨z46, rfl, rfl, raw_hz_n45⟩
                  have hz_n45 : 0 ≤ z46 ∧ z46 ≤ 9223372036854775807 := raw_hz_n45
                  clear raw_hz_n45
                  show JM g D ad w0 A26 111 [(8, vi v), (6, vl s), (5, vr 1 z29), (0, vr 0 0), (1, vi p), (2, vi n), (3, vi kd), (4, vi x)] [vl z46]
                  exact m_lret C Rm E e_q_foldF_111 ⟨z46, rfl, hT_n28, hF_n28, (hI.rm0 hF_n28 hS_n28)⟩
                · refine m_blk 77 [(8, vi v), (6, vl s), (5, vr 1 z29), (0, vr 0 0), (1, vi p), (2, vi n), (3, vi kd), (4, vi x)] [vi v, vi kd, vl s] C f_q_foldF_72_3 rfl ?_
                  refine m_callS C Rm Y [vi kd, vi v] [vl s] (q_foldG l D B H0 ad _ kd v (by show 0 ≤ kd ∧ kd ≤ 5; omega) (by show 0 ≤ v ∧ v ≤ 9; omega)) cl_Mo_389 e_q_foldF_77 rfl rfl rfl ⟨by decide, by decide⟩ ?_
                  rintro v47 A48 ⟨z51, rfl, rfl, raw_hz_n50⟩
                  have hz_n50 : 0 ≤ z51 ∧ z51 ≤ 729 := raw_hz_n50
                  clear raw_hz_n50
                  show JM g D ad w0 A26 80 [(8, vi v), (6, vl s), (5, vr 1 z29), (0, vr 0 0), (1, vi p), (2, vi n), (3, vi kd), (4, vi x)] [vi z51, vl s]
                  refine m_i2l C e_q_foldF_80 (by omega) ?_
                  refine m_blk 86 [(8, vi v), (6, vl s), (5, vr 1 z29), (0, vr 0 0), (1, vi p), (2, vi n), (3, vi kd), (4, vi x)] [vi v, vi n, vr 1 z29, vl z51, vl s] C f_q_foldF_81_3 rfl ?_
                  refine m_callS C Rm Y [vr 1 z29, vi n, vi v] [vl z51, vl s] (q_weightOf l D B H0 ad _ hT_n28 1125899906842624 z29 n v (by show z29 < 200; omega) hO_n28 (by show 0 ≤ 1125899906842624 ∧ 1125899906842624 ≤ 1125899906842624; omega) (by show -1 ≤ n ∧ n ≤ 2147483647; omega) (by show -2147483648 ≤ v ∧ v ≤ 2147483647; omega)) cl_Mo_384 e_q_foldF_86 rfl rfl rfl ⟨by decide, by decide⟩ ?_
                  rintro v52 A53 ⟨z56, rfl, rfl, raw_hz_n55⟩
                  have hz_n55 : 0 ≤ z56 ∧ z56 ≤ 1125899906842624 := raw_hz_n55
                  clear raw_hz_n55
                  show JM g D ad w0 A26 89 [(8, vi v), (6, vl s), (5, vr 1 z29), (0, vr 0 0), (1, vi p), (2, vi n), (3, vi kd), (4, vi x)] [vl z56, vl z51, vl s]
                  have fw9 := fo_w hz_n50 hz_n55
                  refine m_blk 65 [(8, vi (v + 1)), (6, vl (s + (z51 * z56))), (5, vr 1 z29), (0, vr 0 0), (1, vi p), (2, vi n), (3, vi kd), (4, vi x)] [] C f_q_foldF_89_5 rfl ?_
                  refine m_loc [(8, vi (v + 1)), (6, vl (s + (z51 * z56))), (5, vr 1 z29), (0, vr 0 0), (1, vi p), (2, vi n), (3, vi kd), (4, vi x)] ⟨rfl, rfl, rfl, rfl, rfl, rfl, rfl, rfl, trivial⟩ ?_
                  exact ih65 (v + 1) (s + (z51 * z56)) (by show 0 ≤ (v + 1) ∧ (v + 1) ≤ 10; omega) (by show 0 ≤ (s + (z51 * z56)) ∧ (s + (z51 * z56)) ≤ 820781032088272896 * (v + 1); omega) (by show (40 - (v + 1)) < _; omega)
            refine m_loc [(8, vi 0), (6, vl 0), (5, vr 1 z29), (0, vr 0 0), (1, vi p), (2, vi n), (3, vi kd), (4, vi x)] ⟨rfl, rfl, rfl, rfl, rfl, rfl, rfl, rfl, trivial⟩ ?_
            exact hd_65 (Int.toNat ((40 - 0)) + 1) 0 0 (by show 0 ≤ 0 ∧ 0 ≤ 10; omega) (by show 0 ≤ 0 ∧ 0 ≤ 820781032088272896 * 0; omega) (by show (40 - 0) < _; omega)
          · refine m_ldc2 C (-4611686018427387904) e_q_foldF_55 ld_Mo_370 (by decide) ?_
            exact m_lret C Rm E e_q_foldF_58 ⟨(-4611686018427387904), rfl, hT_n28, hF_n28, (hI.rm0 hF_n28 hS_n28)⟩
        · subst e_n22
          refine m_if_ne (tgt := 38) C e_q_foldF_31 (by decide) (by decide) (fun c57 => (by omega : False).elim) (fun c57 => ?_)
          refine m_ldc2 C (-4611686018427387904) e_q_foldF_34 ld_Mo_370 (by decide) ?_
          exact m_lret C Rm E e_q_foldF_37 ⟨(-4611686018427387904), rfl, hT, hE0, (hI.rm0 hE0 hI.2.2)⟩
      · subst e_n16
        refine m_if_eq (tgt := 34) C e_q_foldF_21 (by decide) (by decide) (fun c58 => ?_) (fun c58 => (by omega : False).elim)
        refine m_ldc2 C (-4611686018427387904) e_q_foldF_34 ld_Mo_370 (by decide) ?_
        exact m_lret C Rm E e_q_foldF_37 ⟨(-4611686018427387904), rfl, hT, hE0, (hI.rm0 hE0 hI.2.2)⟩
    · subst e_n10
      clear hz_n10
      refine m_if_eq (tgt := 34) C e_q_foldF_12 (by decide) (by decide) (fun c59 => ?_) (fun c59 => (by omega : False).elim)
      refine m_ldc2 C (-4611686018427387904) e_q_foldF_34 ld_Mo_370 (by decide) ?_
      exact m_lret C Rm E e_q_foldF_37 ⟨(-4611686018427387904), rfl, hT, hE0, (hI.rm0 hE0 hI.2.2)⟩
  · subst e_n4
    clear hz_n4
    refine m_if_eq (tgt := 34) C e_q_foldF_5 (by decide) (by decide) (fun c60 => ?_) (fun c60 => (by omega : False).elim)
    refine m_ldc2 C (-4611686018427387904) e_q_foldF_34 ld_Mo_370 (by decide) ?_
    exact m_lret C Rm E e_q_foldF_37 ⟨(-4611686018427387904), rfl, hT, hE0, (hI.rm0 hE0 hI.2.2)⟩

theorem f_q_likeliest_0_2 : mblkB b_Mo_likeliest [(0, .aload_n 0, vi 0), (1, .iload_n 1, vi 0)] = true := by decide +kernel
theorem e_q_likeliest_2 : decode b_Mo_likeliest 2 = .ok (.invokevirtual 364, 3) := by decide +kernel
theorem e_q_likeliest_5 : decode b_Mo_likeliest 5 = .ok (.ifCond .eq 13, 3) := by decide +kernel
theorem f_q_likeliest_8_3 : mblkB b_Mo_likeliest [(8, .iload_n 2, vi 0), (9, .iconst 0, vi 0), (10, .bipush 6, vi 6)] = true := by decide +kernel
theorem e_q_likeliest_12 : decode b_Mo_likeliest 12 = .ok (.invokestatic 108, 3) := by decide +kernel
theorem e_q_likeliest_15 : decode b_Mo_likeliest 15 = .ok (.ifCond .ne 6, 3) := by decide +kernel
theorem f_q_likeliest_21_3 : mblkB b_Mo_likeliest [(21, .aload_n 0, vi 0), (22, .iload_n 1, vi 0), (23, .iconst (-1), vi (-1))] = true := by decide +kernel
theorem e_q_likeliest_24 : decode b_Mo_likeliest 24 = .ok (.invokevirtual 367, 3) := by decide +kernel
theorem f_q_likeliest_27_3 : mblkB b_Mo_likeliest [(27, .astore_n 3, vi 0), (28, .aload_n 0, vi 0), (29, .aload_n 3, vi 0)] = true := by decide +kernel
theorem e_q_likeliest_30 : decode b_Mo_likeliest 30 = .ok (.invokevirtual 380, 3) := by decide +kernel
theorem f_q_likeliest_33_2 : mblkB b_Mo_likeliest [(33, .istore 4, vi 0), (35, .iload 4, vi 0)] = true := by decide +kernel
theorem e_q_likeliest_37 : decode b_Mo_likeliest 37 = .ok (.ifCond .eq 6, 3) := by decide +kernel
theorem f_q_likeliest_43_6 : mblkB b_Mo_likeliest [(43, .iconst (-1), vi (-1)), (44, .istore 5, vi 0), (46, .lconst 0, vl 0), (47, .lstore 6, vi 0), (49, .iload_n 2, vi 0), (50, .bipush 6, vi 6)] = true := by decide +kernel
theorem e_q_likeliest_52 : decode b_Mo_likeliest 52 = .ok (.if_icmp .ne 10, 3) := by decide +kernel
theorem f_q_likeliest_62_4 : mblkB b_Mo_likeliest [(62, .bipush 10, vi 10), (64, .istore 8, vi 0), (66, .iconst 0, vi 0), (67, .istore 9, vi 0)] = true := by decide +kernel
theorem f_q_likeliest_69_2 : mblkB b_Mo_likeliest [(69, .iload 9, vi 0), (71, .iload 8, vi 0)] = true := by decide +kernel
theorem e_q_likeliest_73 : decode b_Mo_likeliest 73 = .ok (.if_icmp .ge 69, 3) := by decide +kernel
theorem f_q_likeliest_142_1 : mblkB b_Mo_likeliest [(142, .iload 5, vi 0)] = true := by decide +kernel
theorem e_q_likeliest_144 : decode b_Mo_likeliest 144 = .ok (.ireturn, 1) := by decide +kernel
theorem f_q_likeliest_76_2 : mblkB b_Mo_likeliest [(76, .iload_n 2, vi 0), (77, .bipush 6, vi 6)] = true := by decide +kernel
theorem e_q_likeliest_79 : decode b_Mo_likeliest 79 = .ok (.if_icmp .ne 13, 3) := by decide +kernel
theorem f_q_likeliest_92_3 : mblkB b_Mo_likeliest [(92, .aload_n 3, vi 0), (93, .iload_n 2, vi 0), (94, .iload 9, vi 0)] = true := by decide +kernel
theorem e_q_likeliest_96 : decode b_Mo_likeliest 96 = .ok (.invokestatic 384, 3) := by decide +kernel
theorem f_q_likeliest_99_3 : mblkB b_Mo_likeliest [(99, .lstore 10, vi 0), (101, .lload 10, vi 0), (103, .lload 6, vi 0)] = true := by decide +kernel
theorem e_q_likeliest_105 : decode b_Mo_likeliest 105 = .ok (.lcmp, 1) := by decide +kernel
theorem e_q_likeliest_106 : decode b_Mo_likeliest 106 = .ok (.ifCond .gt 6, 3) := by decide +kernel
theorem f_q_likeliest_112_4 : mblkB b_Mo_likeliest [(112, .lload 10, vi 0), (114, .lstore 6, vi 0), (116, .iload_n 2, vi 0), (117, .bipush 6, vi 6)] = true := by decide +kernel
theorem e_q_likeliest_119 : decode b_Mo_likeliest 119 = .ok (.if_icmp .ne 13, 3) := by decide +kernel
theorem f_q_likeliest_132_4 : mblkB b_Mo_likeliest [(132, .iload 9, vi 0), (134, .istore 5, vi 0), (136, .iinc 9 1, vi 1), (139, .goto (-70), vi 69)] = true := by decide +kernel
theorem f_q_likeliest_109_1 : mblkB b_Mo_likeliest [(109, .goto 27, vi 136)] = true := by decide +kernel
theorem f_q_likeliest_136_2 : mblkB b_Mo_likeliest [(136, .iinc 9 1, vi 1), (139, .goto (-70), vi 69)] = true := by decide +kernel
theorem f_q_likeliest_55_1 : mblkB b_Mo_likeliest [(55, .aload_n 3, vi 0)] = true := by decide +kernel
theorem e_q_likeliest_56 : decode b_Mo_likeliest 56 = .ok (.getfield 272, 3) := by decide +kernel
theorem f_q_likeliest_59_1 : mblkB b_Mo_likeliest [(59, .goto 5, vi 64)] = true := by decide +kernel
theorem f_q_likeliest_64_3 : mblkB b_Mo_likeliest [(64, .istore 8, vi 0), (66, .iconst 0, vi 0), (67, .istore 9, vi 0)] = true := by decide +kernel
theorem f_q_likeliest_82_1 : mblkB b_Mo_likeliest [(82, .aload_n 3, vi 0)] = true := by decide +kernel
theorem e_q_likeliest_83 : decode b_Mo_likeliest 83 = .ok (.getfield 285, 3) := by decide +kernel
theorem f_q_likeliest_86_1 : mblkB b_Mo_likeliest [(86, .iload 9, vi 0)] = true := by decide +kernel
theorem e_q_likeliest_88 : decode b_Mo_likeliest 88 = .ok (.laload, 1) := by decide +kernel
theorem f_q_likeliest_89_1 : mblkB b_Mo_likeliest [(89, .goto 10, vi 99)] = true := by decide +kernel
theorem f_q_likeliest_122_1 : mblkB b_Mo_likeliest [(122, .aload_n 3, vi 0)] = true := by decide +kernel
theorem e_q_likeliest_123 : decode b_Mo_likeliest 123 = .ok (.getfield 279, 3) := by decide +kernel
theorem f_q_likeliest_126_1 : mblkB b_Mo_likeliest [(126, .iload 9, vi 0)] = true := by decide +kernel
theorem e_q_likeliest_128 : decode b_Mo_likeliest 128 = .ok (.iaload, 1) := by decide +kernel
theorem f_q_likeliest_129_1 : mblkB b_Mo_likeliest [(129, .goto 5, vi 134)] = true := by decide +kernel
theorem f_q_likeliest_134_3 : mblkB b_Mo_likeliest [(134, .istore 5, vi 0), (136, .iinc 9 1, vi 1), (139, .goto (-70), vi 69)] = true := by decide +kernel
theorem f_q_likeliest_40_1 : mblkB b_Mo_likeliest [(40, .iload 4, vi 0)] = true := by decide +kernel
theorem e_q_likeliest_42 : decode b_Mo_likeliest 42 = .ok (.ireturn, 1) := by decide +kernel
theorem f_q_likeliest_18_1 : mblkB b_Mo_likeliest [(18, .bipush (-2), vi (-2))] = true := by decide +kernel
theorem e_q_likeliest_20 : decode b_Mo_likeliest 20 = .ok (.ireturn, 1) := by decide +kernel
set_option maxHeartbeats 40000000 in
set_option maxRecDepth 100000 in
theorem q_likeliest (l : Launch) (D : va_G) (B : Nat) (H0 : Heap) (ad : mAd) (A : mA) (hT : mTy A)  (p : Int) (n : Int) (hpr : -2147483648 ≤ p ∧ p ≤ 2147483647) (hnr : -2147483648 ≤ n ∧ n ≤ 2147483647) (hI : mI A)  : mMet l D B H0 ad y_Mo_likeliest b_Mo_likeliest 12 (some .int) 910 23500 [vr 0 0, vi p, vi n] A (fun v9 A9 => ∃ z : Int, v9 = some (vi z) ∧ mTy A9 ∧ mEq (rm 0) A A9 ∧ (-2147483648 ≤ z ∧ z ≤ 2147483647) ∧ (mI A9)) := by
  refine m_met (by decide) rfl (fun g w0 C Rm Y E => ?_)
  have hE0 : mEq (rm 0) A A := mEq.rfl'
  show JM g D ad w0 A 0 [(0, vr 0 0), (1, vi p), (2, vi n)] []
  have r0 : 0 ≤ A 0 0 0 ∧ A 0 0 0 ≤ 6 := hT 0 0 0
  refine m_blk 2 [(0, vr 0 0), (1, vi p), (2, vi n)] [vi p, vr 0 0] C f_q_likeliest_0_2 rfl ?_
  refine m_callV C Rm Y [vi p] [] (q_isProgram l D B H0 ad _ hT p (by show -2147483648 ≤ p ∧ p ≤ 2147483647; omega)) cl_Mo_364 rfl (by decide) rfl rfl e_q_likeliest_2 rfl rfl rfl ⟨by decide, by decide⟩ ?_
  rintro v1 A2 ⟨z5, rfl, rfl, raw_hz_n4⟩
  show JM g D ad w0 A 5 [(0, vr 0 0), (1, vi p), (2, vi n)] [vi z5]
  have hz_n4 : z5 = 1 ∧ 0 ≤ p ∧ p < A 0 0 0 ∨ z5 = 0 ∧ ¬ (0 ≤ p ∧ p < A 0 0 0) := raw_hz_n4
  clear raw_hz_n4
  rcases hz_n4 with ⟨e_n4, hz_n4⟩ | ⟨e_n4, hz_n4⟩
  · subst e_n4
    refine m_if_eq (tgt := 18) C e_q_likeliest_5 (by decide) (by decide) (fun c6 => (by omega : False).elim) (fun c6 => ?_)
    refine m_blk 12 [(0, vr 0 0), (1, vi p), (2, vi n)] [vi 6, vi 0, vi n] C f_q_likeliest_8_3 rfl ?_
    refine m_callS C Rm Y [vi n, vi 0, vi 6] [] (q_in l D B H0 ad _ n 0 6 (by show -2147483648 ≤ n ∧ n ≤ 2147483647; omega) (by show -2147483648 ≤ 0 ∧ 0 ≤ 2147483647; omega) (by show -2147483648 ≤ 6 ∧ 6 ≤ 2147483647; omega)) cl_Mo_108 e_q_likeliest_12 rfl rfl rfl ⟨by decide, by decide⟩ ?_
    rintro v7 A8 ⟨z11, rfl, rfl, raw_hz_n10⟩
    show JM g D ad w0 A 15 [(0, vr 0 0), (1, vi p), (2, vi n)] [vi z11]
    have hz_n10 : z11 = 1 ∧ 0 ≤ n ∧ n ≤ 6 ∨ z11 = 0 ∧ ¬ (0 ≤ n ∧ n ≤ 6) := raw_hz_n10
    clear raw_hz_n10
    rcases hz_n10 with ⟨e_n10, hz_n10⟩ | ⟨e_n10, hz_n10⟩
    · subst e_n10
      refine m_if_ne (tgt := 21) C e_q_likeliest_15 (by decide) (by decide) (fun c12 => ?_) (fun c12 => (by omega : False).elim)
      refine m_blk 24 [(0, vr 0 0), (1, vi p), (2, vi n)] [vi (-1), vi p, vr 0 0] C f_q_likeliest_21_3 rfl ?_
      refine m_callV C Rm Y [vi p, vi (-1)] [] (q_odds l D B H0 ad _ hT p (-1) (by show 0 ≤ p ∧ p ≤ 5; omega) ((hI.ok (by omega)).rmk hE0) (by show -2147483648 ≤ (-1) ∧ (-1) ≤ 2147483647; omega) hI.2.2) cl_Mo_367 rfl (by decide) rfl rfl e_q_likeliest_24 rfl rfl rfl ⟨by decide, by decide⟩ ?_
      rintro v13 A14 ⟨z17, rfl, hT_n16, hE_n16, raw_hz_n16, raw_hu_n16, raw_hO_n16, raw_hS_n16⟩
      have hF_n16 := hE0.trans (hE_n16.sub (rm_rm (Nat.zero_le _)))
      have hz_n16 : 0 ≤ (z17 : Int) ∧ (z17 : Int) < A14 0 0 33 := raw_hz_n16
      clear raw_hz_n16
      have hu_n16 : A14 0 0 33 ≤ 24 := raw_hu_n16
      clear raw_hu_n16
      have hO_n16 : oG A14 z17 1125899906842624 := raw_hO_n16
      clear raw_hO_n16
      have hS_n16 : mS A14 := raw_hS_n16
      clear raw_hS_n16
      show JM g D ad w0 A14 27 [(0, vr 0 0), (1, vi p), (2, vi n)] [vr 1 z17]
      refine m_blk 30 [(3, vr 1 z17), (0, vr 0 0), (1, vi p), (2, vi n)] [vr 1 z17, vr 0 0] C f_q_likeliest_27_3 rfl ?_
      refine m_callV C Rm Y [vr 1 z17] [] (q_against l D B H0 ad _ hT_n16 z17 (by show z17 < 200; omega)) cl_Mo_380 rfl (by decide) rfl rfl e_q_likeliest_30 rfl rfl rfl ⟨by decide, by decide⟩ ?_
      rintro v18 A19 ⟨z22, rfl, rfl, raw_hz_n21, raw_hn_n21⟩
      have hz_n21 : -7 ≤ z22 ∧ z22 ≤ 0 := raw_hz_n21
      clear raw_hz_n21
      have hn_n21 : nQ A14 z17 z22 := raw_hn_n21
      clear raw_hn_n21
      show JM g D ad w0 A14 33 [(3, vr 1 z17), (0, vr 0 0), (1, vi p), (2, vi n)] [vi z22]
      refine m_blk 37 [(4, vi z22), (3, vr 1 z17), (0, vr 0 0), (1, vi p), (2, vi n)] [vi z22] C f_q_likeliest_33_2 rfl ?_
      refine m_if_eq (tgt := 43) C e_q_likeliest_37 (by decide) (by omega) (fun c23 => ?_) (fun c23 => ?_)
      · refine m_blk 52 [(6, vl 0), (5, vi (-1)), (4, vi z22), (3, vr 1 z17), (0, vr 0 0), (1, vi p), (2, vi n)] [vi 6, vi n] C f_q_likeliest_43_6 rfl ?_
        refine m_icmp_ne (tgt := 62) C e_q_likeliest_52 (by decide) (by omega) (by decide) (fun c24 => ?_) (fun c24 => ?_)
        · refine m_blk 69 [(9, vi 0), (8, vi 10), (6, vl 0), (5, vi (-1)), (4, vi z22), (3, vr 1 z17), (0, vr 0 0), (1, vi p), (2, vi n)] [] C f_q_likeliest_62_4 rfl ?_
          have hd_69 : ∀ (NZ : Nat) (k : Int) (mo : Int) (be : Int), 0 ≤ k ∧ k ≤ 301 → 0 ≤ mo ∧ mo ≤ 1125899906842624 → -1 ≤ be ∧ be ≤ 9999999 → (400 - k) < (NZ : Int) → JM g D ad w0 A14 69 [(9, vi k), (6, vl mo), (5, vi be), (8, vi 10), (3, vr 1 z17), (0, vr 0 0), (1, vi p), (2, vi n)] [] := by
            intro NZ
            induction NZ with
            | zero => intro k mo be hk9 hm9 hb9 hm69; exact absurd hm69 (by omega)
            | succ NZ ih69 =>
              intro k mo be hk9 hm9 hb9 hm69
              refine m_blk 73 [(9, vi k), (6, vl mo), (5, vi be), (8, vi 10), (3, vr 1 z17), (0, vr 0 0), (1, vi p), (2, vi n)] [vi 10, vi k] C f_q_likeliest_69_2 rfl ?_
              refine m_icmp_ge (tgt := 142) C e_q_likeliest_73 (by decide) (by omega) (by decide) (fun c25 => ?_) (fun c25 => ?_)
              · refine m_blk 144 [(9, vi k), (6, vl mo), (5, vi be), (8, vi 10), (3, vr 1 z17), (0, vr 0 0), (1, vi p), (2, vi n)] [vi be] C f_q_likeliest_142_1 rfl ?_
                exact m_iret C Rm E e_q_likeliest_144 ⟨be, rfl, hT_n16, hF_n16, (by show -2147483648 ≤ be ∧ be ≤ 2147483647; omega), (hI.rm0 hF_n16 hS_n16)⟩
              · refine m_blk 79 [(9, vi k), (6, vl mo), (5, vi be), (8, vi 10), (3, vr 1 z17), (0, vr 0 0), (1, vi p), (2, vi n)] [vi 6, vi n] C f_q_likeliest_76_2 rfl ?_
                refine m_icmp_ne (tgt := 92) C e_q_likeliest_79 (by decide) (by omega) (by decide) (fun c26 => ?_) (fun c26 => (by omega : False).elim)
                refine m_blk 96 [(9, vi k), (6, vl mo), (5, vi be), (8, vi 10), (3, vr 1 z17), (0, vr 0 0), (1, vi p), (2, vi n)] [vi k, vi n, vr 1 z17] C f_q_likeliest_92_3 rfl ?_
                refine m_callS C Rm Y [vr 1 z17, vi n, vi k] [] (q_weightOf l D B H0 ad _ hT_n16 1125899906842624 z17 n k (by show z17 < 200; omega) hO_n16 (by show 0 ≤ 1125899906842624 ∧ 1125899906842624 ≤ 1125899906842624; omega) (by show -1 ≤ n ∧ n ≤ 2147483647; omega) (by show -2147483648 ≤ k ∧ k ≤ 2147483647; omega)) cl_Mo_384 e_q_likeliest_96 rfl rfl rfl ⟨by decide, by decide⟩ ?_
                rintro v27 A28 ⟨z31, rfl, rfl, raw_hz_n30⟩
                have hz_n30 : 0 ≤ z31 ∧ z31 ≤ 1125899906842624 := raw_hz_n30
                clear raw_hz_n30
                show JM g D ad w0 A14 99 [(9, vi k), (6, vl mo), (5, vi be), (8, vi 10), (3, vr 1 z17), (0, vr 0 0), (1, vi p), (2, vi n)] [vl z31]
                refine m_blk 105 [(10, vl z31), (9, vi k), (6, vl mo), (5, vi be), (8, vi 10), (3, vr 1 z17), (0, vr 0 0), (1, vi p), (2, vi n)] [vl mo, vl z31] C f_q_likeliest_99_3 rfl ?_
                refine m_lcmp C e_q_likeliest_105 (by omega) (by omega) (fun z32 hz32 => ?_)
                refine m_if_gt (tgt := 112) C e_q_likeliest_106 (by decide) (by omega) (fun c33 => ?_) (fun c33 => ?_)
                · refine m_blk 119 [(6, vl z31), (10, vl z31), (9, vi k), (5, vi be), (8, vi 10), (3, vr 1 z17), (0, vr 0 0), (1, vi p), (2, vi n)] [vi 6, vi n] C f_q_likeliest_112_4 rfl ?_
                  refine m_icmp_ne (tgt := 132) C e_q_likeliest_119 (by decide) (by omega) (by decide) (fun c34 => ?_) (fun c34 => (by omega : False).elim)
                  refine m_blk 69 [(9, vi (k + 1)), (5, vi k), (6, vl z31), (10, vl z31), (8, vi 10), (3, vr 1 z17), (0, vr 0 0), (1, vi p), (2, vi n)] [] C f_q_likeliest_132_4 rfl ?_
                  refine m_loc [(9, vi (k + 1)), (6, vl z31), (5, vi k), (8, vi 10), (3, vr 1 z17), (0, vr 0 0), (1, vi p), (2, vi n)] ⟨rfl, rfl, rfl, rfl, rfl, rfl, rfl, rfl, trivial⟩ ?_
                  exact ih69 (k + 1) z31 k (by show 0 ≤ (k + 1) ∧ (k + 1) ≤ 301; omega) (by show 0 ≤ z31 ∧ z31 ≤ 1125899906842624; omega) (by show -1 ≤ k ∧ k ≤ 9999999; omega) (by show (400 - (k + 1)) < _; omega)
                · refine m_blk 136 [(10, vl z31), (9, vi k), (6, vl mo), (5, vi be), (8, vi 10), (3, vr 1 z17), (0, vr 0 0), (1, vi p), (2, vi n)] [] C f_q_likeliest_109_1 rfl ?_
                  refine m_blk 69 [(9, vi (k + 1)), (10, vl z31), (6, vl mo), (5, vi be), (8, vi 10), (3, vr 1 z17), (0, vr 0 0), (1, vi p), (2, vi n)] [] C f_q_likeliest_136_2 rfl ?_
                  refine m_loc [(9, vi (k + 1)), (6, vl mo), (5, vi be), (8, vi 10), (3, vr 1 z17), (0, vr 0 0), (1, vi p), (2, vi n)] ⟨rfl, rfl, rfl, rfl, rfl, rfl, rfl, rfl, trivial⟩ ?_
                  exact ih69 (k + 1) mo be (by show 0 ≤ (k + 1) ∧ (k + 1) ≤ 301; omega) (by show 0 ≤ mo ∧ mo ≤ 1125899906842624; omega) (by show -1 ≤ be ∧ be ≤ 9999999; omega) (by show (400 - (k + 1)) < _; omega)
          refine m_loc [(9, vi 0), (6, vl 0), (5, vi (-1)), (8, vi 10), (3, vr 1 z17), (0, vr 0 0), (1, vi p), (2, vi n)] ⟨rfl, rfl, rfl, rfl, rfl, rfl, rfl, rfl, trivial⟩ ?_
          exact hd_69 (Int.toNat ((400 - 0)) + 1) 0 0 (-1) (by show 0 ≤ 0 ∧ 0 ≤ 301; omega) (by show 0 ≤ 0 ∧ 0 ≤ 1125899906842624; omega) (by show -1 ≤ (-1) ∧ (-1) ≤ 9999999; omega) (by show (400 - 0) < _; omega)
        · refine m_blk 56 [(6, vl 0), (5, vi (-1)), (4, vi z22), (3, vr 1 z17), (0, vr 0 0), (1, vi p), (2, vi n)] [vr 1 z17] C f_q_likeliest_55_1 rfl ?_
          obtain ⟨x35, hx35⟩ : ∃ x, A14 1 z17 2 = x := ⟨_, rfl⟩
          have rx35 : 0 ≤ x35 ∧ x35 ≤ 301 := mrg hT_n16 hx35 rfl
          refine m_getiN C e_q_likeliest_56 fg_Mo_272 rfl (by omega) rfl x35 hx35 ?_
          refine m_blk 64 [(6, vl 0), (5, vi (-1)), (4, vi z22), (3, vr 1 z17), (0, vr 0 0), (1, vi p), (2, vi n)] [vi x35] C f_q_likeliest_59_1 rfl ?_
          refine m_blk 69 [(9, vi 0), (8, vi x35), (6, vl 0), (5, vi (-1)), (4, vi z22), (3, vr 1 z17), (0, vr 0 0), (1, vi p), (2, vi n)] [] C f_q_likeliest_64_3 rfl ?_
          have hd_69 : ∀ (NZ : Nat) (k : Int) (mo : Int) (be : Int), 0 ≤ k ∧ k ≤ 301 → 0 ≤ mo ∧ mo ≤ 1125899906842624 → -1 ≤ be ∧ be ≤ 9999999 → (400 - k) < (NZ : Int) → JM g D ad w0 A14 69 [(9, vi k), (6, vl mo), (5, vi be), (8, vi x35), (3, vr 1 z17), (0, vr 0 0), (1, vi p), (2, vi n)] [] := by
            intro NZ
            induction NZ with
            | zero => intro k mo be hk9 hm9 hb9 hm69; exact absurd hm69 (by omega)
            | succ NZ ih69 =>
              intro k mo be hk9 hm9 hb9 hm69
              refine m_blk 73 [(9, vi k), (6, vl mo), (5, vi be), (8, vi x35), (3, vr 1 z17), (0, vr 0 0), (1, vi p), (2, vi n)] [vi x35, vi k] C f_q_likeliest_69_2 rfl ?_
              refine m_icmp_ge (tgt := 142) C e_q_likeliest_73 (by decide) (by omega) (by omega) (fun c36 => ?_) (fun c36 => ?_)
              · refine m_blk 144 [(9, vi k), (6, vl mo), (5, vi be), (8, vi x35), (3, vr 1 z17), (0, vr 0 0), (1, vi p), (2, vi n)] [vi be] C f_q_likeliest_142_1 rfl ?_
                exact m_iret C Rm E e_q_likeliest_144 ⟨be, rfl, hT_n16, hF_n16, (by show -2147483648 ≤ be ∧ be ≤ 2147483647; omega), (hI.rm0 hF_n16 hS_n16)⟩
              · refine m_blk 79 [(9, vi k), (6, vl mo), (5, vi be), (8, vi x35), (3, vr 1 z17), (0, vr 0 0), (1, vi p), (2, vi n)] [vi 6, vi n] C f_q_likeliest_76_2 rfl ?_
                refine m_icmp_ne (tgt := 92) C e_q_likeliest_79 (by decide) (by omega) (by decide) (fun c37 => (by omega : False).elim) (fun c37 => ?_)
                refine m_blk 83 [(9, vi k), (6, vl mo), (5, vi be), (8, vi x35), (3, vr 1 z17), (0, vr 0 0), (1, vi p), (2, vi n)] [vr 1 z17] C f_q_likeliest_82_1 rfl ?_
                refine m_getrN C e_q_likeliest_83 fg_Mo_285 rfl (by omega) rfl ?_
                refine m_blk 88 [(9, vi k), (6, vl mo), (5, vi be), (8, vi x35), (3, vr 1 z17), (0, vr 0 0), (1, vi p), (2, vi n)] [vi k, vr 4 z17] C f_q_likeliest_86_1 rfl ?_
                obtain ⟨x38, hx38⟩ : ∃ x, A14 4 z17 k.toNat = x := ⟨_, rfl⟩
                have rx38 : (-9223372036854775808) ≤ x38 ∧ x38 ≤ 9223372036854775807 := mrg hT_n16 hx38 rfl
                have pw9 := hO_n16.el (v := Int.toNat k) (by omega)
                rw [hx38] at pw9
                refine m_lald C e_q_likeliest_88 rfl (by omega) (by decide) (by omega) (by show k < ((301 : Nat) : Int); omega) x38 hx38 ?_
                refine m_blk 99 [(9, vi k), (6, vl mo), (5, vi be), (8, vi x35), (3, vr 1 z17), (0, vr 0 0), (1, vi p), (2, vi n)] [vl x38] C f_q_likeliest_89_1 rfl ?_
                refine m_blk 105 [(10, vl x38), (9, vi k), (6, vl mo), (5, vi be), (8, vi x35), (3, vr 1 z17), (0, vr 0 0), (1, vi p), (2, vi n)] [vl mo, vl x38] C f_q_likeliest_99_3 rfl ?_
                refine m_lcmp C e_q_likeliest_105 (by omega) (by omega) (fun z39 hz39 => ?_)
                refine m_if_gt (tgt := 112) C e_q_likeliest_106 (by decide) (by omega) (fun c40 => ?_) (fun c40 => ?_)
                · refine m_blk 119 [(6, vl x38), (10, vl x38), (9, vi k), (5, vi be), (8, vi x35), (3, vr 1 z17), (0, vr 0 0), (1, vi p), (2, vi n)] [vi 6, vi n] C f_q_likeliest_112_4 rfl ?_
                  refine m_icmp_ne (tgt := 132) C e_q_likeliest_119 (by decide) (by omega) (by decide) (fun c41 => (by omega : False).elim) (fun c41 => ?_)
                  refine m_blk 123 [(6, vl x38), (10, vl x38), (9, vi k), (5, vi be), (8, vi x35), (3, vr 1 z17), (0, vr 0 0), (1, vi p), (2, vi n)] [vr 1 z17] C f_q_likeliest_122_1 rfl ?_
                  refine m_getrN C e_q_likeliest_123 fg_Mo_279 rfl (by omega) rfl ?_
                  refine m_blk 128 [(6, vl x38), (10, vl x38), (9, vi k), (5, vi be), (8, vi x35), (3, vr 1 z17), (0, vr 0 0), (1, vi p), (2, vi n)] [vi k, vr 3 z17] C f_q_likeliest_126_1 rfl ?_
                  obtain ⟨x42, hx42⟩ : ∃ x, A14 3 z17 k.toNat = x := ⟨_, rfl⟩
                  have rx42 : 0 ≤ x42 ∧ x42 ≤ 9999999 := mrg hT_n16 hx42 rfl
                  refine m_iald C e_q_likeliest_128 rfl (by omega) (by decide) (by omega) (by show k < ((301 : Nat) : Int); omega) x42 hx42 ?_
                  refine m_blk 134 [(6, vl x38), (10, vl x38), (9, vi k), (5, vi be), (8, vi x35), (3, vr 1 z17), (0, vr 0 0), (1, vi p), (2, vi n)] [vi x42] C f_q_likeliest_129_1 rfl ?_
                  refine m_blk 69 [(9, vi (k + 1)), (5, vi x42), (6, vl x38), (10, vl x38), (8, vi x35), (3, vr 1 z17), (0, vr 0 0), (1, vi p), (2, vi n)] [] C f_q_likeliest_134_3 rfl ?_
                  refine m_loc [(9, vi (k + 1)), (6, vl x38), (5, vi x42), (8, vi x35), (3, vr 1 z17), (0, vr 0 0), (1, vi p), (2, vi n)] ⟨rfl, rfl, rfl, rfl, rfl, rfl, rfl, rfl, trivial⟩ ?_
                  exact ih69 (k + 1) x38 x42 (by show 0 ≤ (k + 1) ∧ (k + 1) ≤ 301; omega) (by show 0 ≤ x38 ∧ x38 ≤ 1125899906842624; omega) (by show -1 ≤ x42 ∧ x42 ≤ 9999999; omega) (by show (400 - (k + 1)) < _; omega)
                · refine m_blk 136 [(10, vl x38), (9, vi k), (6, vl mo), (5, vi be), (8, vi x35), (3, vr 1 z17), (0, vr 0 0), (1, vi p), (2, vi n)] [] C f_q_likeliest_109_1 rfl ?_
                  refine m_blk 69 [(9, vi (k + 1)), (10, vl x38), (6, vl mo), (5, vi be), (8, vi x35), (3, vr 1 z17), (0, vr 0 0), (1, vi p), (2, vi n)] [] C f_q_likeliest_136_2 rfl ?_
                  refine m_loc [(9, vi (k + 1)), (6, vl mo), (5, vi be), (8, vi x35), (3, vr 1 z17), (0, vr 0 0), (1, vi p), (2, vi n)] ⟨rfl, rfl, rfl, rfl, rfl, rfl, rfl, rfl, trivial⟩ ?_
                  exact ih69 (k + 1) mo be (by show 0 ≤ (k + 1) ∧ (k + 1) ≤ 301; omega) (by show 0 ≤ mo ∧ mo ≤ 1125899906842624; omega) (by show -1 ≤ be ∧ be ≤ 9999999; omega) (by show (400 - (k + 1)) < _; omega)
          refine m_loc [(9, vi 0), (6, vl 0), (5, vi (-1)), (8, vi x35), (3, vr 1 z17), (0, vr 0 0), (1, vi p), (2, vi n)] ⟨rfl, rfl, rfl, rfl, rfl, rfl, rfl, rfl, trivial⟩ ?_
          exact hd_69 (Int.toNat ((400 - 0)) + 1) 0 0 (-1) (by show 0 ≤ 0 ∧ 0 ≤ 301; omega) (by show 0 ≤ 0 ∧ 0 ≤ 1125899906842624; omega) (by show -1 ≤ (-1) ∧ (-1) ≤ 9999999; omega) (by show (400 - 0) < _; omega)
      · refine m_blk 42 [(4, vi z22), (3, vr 1 z17), (0, vr 0 0), (1, vi p), (2, vi n)] [vi z22] C f_q_likeliest_40_1 rfl ?_
        exact m_iret C Rm E e_q_likeliest_42 ⟨z22, rfl, hT_n16, hF_n16, (by show -2147483648 ≤ z22 ∧ z22 ≤ 2147483647; omega), (hI.rm0 hF_n16 hS_n16)⟩
    · subst e_n10
      refine m_if_ne (tgt := 21) C e_q_likeliest_15 (by decide) (by decide) (fun c43 => (by omega : False).elim) (fun c43 => ?_)
      refine m_blk 20 [(0, vr 0 0), (1, vi p), (2, vi n)] [vi (-2)] C f_q_likeliest_18_1 rfl ?_
      exact m_iret C Rm E e_q_likeliest_20 ⟨(-2), rfl, hT, hE0, (by show -2147483648 ≤ (-2) ∧ (-2) ≤ 2147483647; omega), (hI.rm0 hE0 hI.2.2)⟩
  · subst e_n4
    clear hz_n4
    refine m_if_eq (tgt := 18) C e_q_likeliest_5 (by decide) (by decide) (fun c44 => ?_) (fun c44 => (by omega : False).elim)
    refine m_blk 20 [(0, vr 0 0), (1, vi p), (2, vi n)] [vi (-2)] C f_q_likeliest_18_1 rfl ?_
    exact m_iret C Rm E e_q_likeliest_20 ⟨(-2), rfl, hT, hE0, (by show -2147483648 ≤ (-2) ∧ (-2) ≤ 2147483647; omega), (hI.rm0 hE0 hI.2.2)⟩

theorem f_q_alike_0_2 : mblkB b_Mo_alike [(0, .aload_n 0, vi 0), (1, .iload_n 1, vi 0)] = true := by decide +kernel
theorem e_q_alike_2 : decode b_Mo_alike 2 = .ok (.invokevirtual 364, 3) := by decide +kernel
theorem e_q_alike_5 : decode b_Mo_alike 5 = .ok (.ifCond .eq 11, 3) := by decide +kernel
theorem f_q_alike_8_2 : mblkB b_Mo_alike [(8, .aload_n 0, vi 0), (9, .iload_n 2, vi 0)] = true := by decide +kernel
theorem e_q_alike_10 : decode b_Mo_alike 10 = .ok (.invokevirtual 364, 3) := by decide +kernel
theorem e_q_alike_13 : decode b_Mo_alike 13 = .ok (.ifCond .ne 6, 3) := by decide +kernel
theorem f_q_alike_19_3 : mblkB b_Mo_alike [(19, .aload_n 0, vi 0), (20, .iload_n 1, vi 0), (21, .iconst (-1), vi (-1))] = true := by decide +kernel
theorem e_q_alike_22 : decode b_Mo_alike 22 = .ok (.invokevirtual 367, 3) := by decide +kernel
theorem f_q_alike_25_2 : mblkB b_Mo_alike [(25, .astore_n 3, vi 0), (26, .aload_n 0, vi 0)] = true := by decide +kernel
theorem e_q_alike_27 : decode b_Mo_alike 27 = .ok (.getfield 297, 3) := by decide +kernel
theorem f_q_alike_30_4 : mblkB b_Mo_alike [(30, .istore 4, vi 0), (32, .aload_n 0, vi 0), (33, .iload_n 2, vi 0), (34, .iconst (-1), vi (-1))] = true := by decide +kernel
theorem e_q_alike_35 : decode b_Mo_alike 35 = .ok (.invokevirtual 354, 3) := by decide +kernel
theorem f_q_alike_38_2 : mblkB b_Mo_alike [(38, .astore 5, vi 0), (40, .iload 4, vi 0)] = true := by decide +kernel
theorem e_q_alike_42 : decode b_Mo_alike 42 = .ok (.ifCond .ne 10, 3) := by decide +kernel
theorem f_q_alike_52_1 : mblkB b_Mo_alike [(52, .bipush (-6), vi (-6))] = true := by decide +kernel
theorem e_q_alike_54 : decode b_Mo_alike 54 = .ok (.ireturn, 1) := by decide +kernel
theorem f_q_alike_45_1 : mblkB b_Mo_alike [(45, .aload_n 0, vi 0)] = true := by decide +kernel
theorem e_q_alike_46 : decode b_Mo_alike 46 = .ok (.getfield 297, 3) := by decide +kernel
theorem e_q_alike_49 : decode b_Mo_alike 49 = .ok (.ifCond .eq 6, 3) := by decide +kernel
theorem f_q_alike_55_1 : mblkB b_Mo_alike [(55, .aload_n 3, vi 0)] = true := by decide +kernel
theorem e_q_alike_56 : decode b_Mo_alike 56 = .ok (.getfield 272, 3) := by decide +kernel
theorem e_q_alike_59 : decode b_Mo_alike 59 = .ok (.ifCond .eq 11, 3) := by decide +kernel
theorem f_q_alike_70_1 : mblkB b_Mo_alike [(70, .bipush (-7), vi (-7))] = true := by decide +kernel
theorem e_q_alike_72 : decode b_Mo_alike 72 = .ok (.ireturn, 1) := by decide +kernel
theorem f_q_alike_62_1 : mblkB b_Mo_alike [(62, .aload 5, vi 0)] = true := by decide +kernel
theorem e_q_alike_64 : decode b_Mo_alike 64 = .ok (.getfield 272, 3) := by decide +kernel
theorem e_q_alike_67 : decode b_Mo_alike 67 = .ok (.ifCond .ne 6, 3) := by decide +kernel
theorem f_q_alike_73_2 : mblkB b_Mo_alike [(73, .iconst 0, vi 0), (74, .istore 6, vi 0)] = true := by decide +kernel
theorem f_q_alike_76_2 : mblkB b_Mo_alike [(76, .iload 6, vi 0), (78, .bipush 6, vi 6)] = true := by decide +kernel
theorem e_q_alike_80 : decode b_Mo_alike 80 = .ok (.if_icmp .ge 59, 3) := by decide +kernel
theorem f_q_alike_139_1 : mblkB b_Mo_alike [(139, .iconst 1, vi 1)] = true := by decide +kernel
theorem e_q_alike_140 : decode b_Mo_alike 140 = .ok (.ireturn, 1) := by decide +kernel
theorem f_q_alike_83_2 : mblkB b_Mo_alike [(83, .iconst 0, vi 0), (84, .istore 7, vi 0)] = true := by decide +kernel
theorem f_q_alike_86_2 : mblkB b_Mo_alike [(86, .iload 7, vi 0), (88, .bipush 10, vi 10)] = true := by decide +kernel
theorem e_q_alike_90 : decode b_Mo_alike 90 = .ok (.if_icmp .ge 43, 3) := by decide +kernel
theorem f_q_alike_133_2 : mblkB b_Mo_alike [(133, .iinc 6 1, vi 1), (136, .goto (-60), vi 76)] = true := by decide +kernel
theorem f_q_alike_93_3 : mblkB b_Mo_alike [(93, .aload_n 3, vi 0), (94, .iload 6, vi 0), (96, .iload 7, vi 0)] = true := by decide +kernel
theorem e_q_alike_98 : decode b_Mo_alike 98 = .ok (.invokestatic 384, 3) := by decide +kernel
theorem f_q_alike_101_1 : mblkB b_Mo_alike [(101, .aload_n 3, vi 0)] = true := by decide +kernel
theorem e_q_alike_102 : decode b_Mo_alike 102 = .ok (.invokevirtual 372, 3) := by decide +kernel
theorem f_q_alike_105_3 : mblkB b_Mo_alike [(105, .aload 5, vi 0), (107, .iload 6, vi 0), (109, .iload 7, vi 0)] = true := by decide +kernel
theorem e_q_alike_111 : decode b_Mo_alike 111 = .ok (.invokestatic 384, 3) := by decide +kernel
theorem f_q_alike_114_1 : mblkB b_Mo_alike [(114, .aload 5, vi 0)] = true := by decide +kernel
theorem e_q_alike_116 : decode b_Mo_alike 116 = .ok (.invokevirtual 372, 3) := by decide +kernel
theorem e_q_alike_119 : decode b_Mo_alike 119 = .ok (.invokestatic 396, 3) := by decide +kernel
theorem e_q_alike_122 : decode b_Mo_alike 122 = .ok (.ifCond .ne 5, 3) := by decide +kernel
theorem f_q_alike_127_2 : mblkB b_Mo_alike [(127, .iinc 7 1, vi 1), (130, .goto (-44), vi 86)] = true := by decide +kernel
theorem f_q_alike_125_1 : mblkB b_Mo_alike [(125, .iconst 0, vi 0)] = true := by decide +kernel
theorem e_q_alike_126 : decode b_Mo_alike 126 = .ok (.ireturn, 1) := by decide +kernel
theorem f_q_alike_16_1 : mblkB b_Mo_alike [(16, .bipush (-2), vi (-2))] = true := by decide +kernel
theorem e_q_alike_18 : decode b_Mo_alike 18 = .ok (.ireturn, 1) := by decide +kernel
set_option maxHeartbeats 40000000 in
set_option maxRecDepth 100000 in
theorem q_alike (l : Launch) (D : va_G) (B : Nat) (H0 : Heap) (ad : mAd) (A : mA) (hT : mTy A)  (p : Int) (q : Int) (hpr : -2147483648 ≤ p ∧ p ≤ 2147483647) (hqr : -2147483648 ≤ q ∧ q ≤ 2147483647) (hI : mI A)  : mMet l D B H0 ad y_Mo_alike b_Mo_alike 8 (some .int) 910 23500 [vr 0 0, vi p, vi q] A (fun v9 A9 => ∃ z : Int, v9 = some (vi z) ∧ mTy A9 ∧ mEq (rm 0) A A9 ∧ (-2147483648 ≤ z ∧ z ≤ 2147483647) ∧ (mI A9)) := by
  refine m_met (by decide) rfl (fun g w0 C Rm Y E => ?_)
  have hE0 : mEq (rm 0) A A := mEq.rfl'
  show JM g D ad w0 A 0 [(0, vr 0 0), (1, vi p), (2, vi q)] []
  have r0 : 0 ≤ A 0 0 0 ∧ A 0 0 0 ≤ 6 := hT 0 0 0
  refine m_blk 2 [(0, vr 0 0), (1, vi p), (2, vi q)] [vi p, vr 0 0] C f_q_alike_0_2 rfl ?_
  refine m_callV C Rm Y [vi p] [] (q_isProgram l D B H0 ad _ hT p (by show -2147483648 ≤ p ∧ p ≤ 2147483647; omega)) cl_Mo_364 rfl (by decide) rfl rfl e_q_alike_2 rfl rfl rfl ⟨by decide, by decide⟩ ?_
  rintro v1 A2 ⟨z5, rfl, rfl, raw_hz_n4⟩
  show JM g D ad w0 A 5 [(0, vr 0 0), (1, vi p), (2, vi q)] [vi z5]
  have hz_n4 : z5 = 1 ∧ 0 ≤ p ∧ p < A 0 0 0 ∨ z5 = 0 ∧ ¬ (0 ≤ p ∧ p < A 0 0 0) := raw_hz_n4
  clear raw_hz_n4
  rcases hz_n4 with ⟨e_n4, hz_n4⟩ | ⟨e_n4, hz_n4⟩
  · subst e_n4
    refine m_if_eq (tgt := 16) C e_q_alike_5 (by decide) (by decide) (fun c6 => (by omega : False).elim) (fun c6 => ?_)
    refine m_blk 10 [(0, vr 0 0), (1, vi p), (2, vi q)] [vi q, vr 0 0] C f_q_alike_8_2 rfl ?_
    refine m_callV C Rm Y [vi q] [] (q_isProgram l D B H0 ad _ hT q (by show -2147483648 ≤ q ∧ q ≤ 2147483647; omega)) cl_Mo_364 rfl (by decide) rfl rfl e_q_alike_10 rfl rfl rfl ⟨by decide, by decide⟩ ?_
    rintro v7 A8 ⟨z11, rfl, rfl, raw_hz_n10⟩
    show JM g D ad w0 A 13 [(0, vr 0 0), (1, vi p), (2, vi q)] [vi z11]
    have hz_n10 : z11 = 1 ∧ 0 ≤ q ∧ q < A 0 0 0 ∨ z11 = 0 ∧ ¬ (0 ≤ q ∧ q < A 0 0 0) := raw_hz_n10
    clear raw_hz_n10
    rcases hz_n10 with ⟨e_n10, hz_n10⟩ | ⟨e_n10, hz_n10⟩
    · subst e_n10
      refine m_if_ne (tgt := 19) C e_q_alike_13 (by decide) (by decide) (fun c12 => ?_) (fun c12 => (by omega : False).elim)
      refine m_blk 22 [(0, vr 0 0), (1, vi p), (2, vi q)] [vi (-1), vi p, vr 0 0] C f_q_alike_19_3 rfl ?_
      refine m_callV C Rm Y [vi p, vi (-1)] [] (q_odds l D B H0 ad _ hT p (-1) (by show 0 ≤ p ∧ p ≤ 5; omega) ((hI.ok (by omega)).rmk hE0) (by show -2147483648 ≤ (-1) ∧ (-1) ≤ 2147483647; omega) hI.2.2) cl_Mo_367 rfl (by decide) rfl rfl e_q_alike_22 rfl rfl rfl ⟨by decide, by decide⟩ ?_
      rintro v13 A14 ⟨z17, rfl, hT_n16, hE_n16, raw_hz_n16, raw_hu_n16, raw_hO_n16, raw_hS_n16⟩
      have hF_n16 := hE0.trans (hE_n16.sub (rm_rm (Nat.zero_le _)))
      have hz_n16 : 0 ≤ (z17 : Int) ∧ (z17 : Int) < A14 0 0 33 := raw_hz_n16
      clear raw_hz_n16
      have hu_n16 : A14 0 0 33 ≤ 24 := raw_hu_n16
      clear raw_hu_n16
      have hO_n16 : oG A14 z17 1125899906842624 := raw_hO_n16
      clear raw_hO_n16
      have hS_n16 : mS A14 := raw_hS_n16
      clear raw_hS_n16
      show JM g D ad w0 A14 25 [(0, vr 0 0), (1, vi p), (2, vi q)] [vr 1 z17]
      obtain ⟨u9, hu9⟩ : ∃ x, A14 0 0 33 = x := ⟨_, rfl⟩
      have ru9 : 0 ≤ u9 ∧ u9 ≤ 200 := mrg hT_n16 hu9 rfl
      refine m_blk 27 [(3, vr 1 z17), (0, vr 0 0), (1, vi p), (2, vi q)] [vr 0 0] C f_q_alike_25_2 rfl ?_
      obtain ⟨x18, hx18⟩ : ∃ x, A14 0 0 34 = x := ⟨_, rfl⟩
      have rx18 : 0 ≤ x18 ∧ x18 ≤ 1 := mrg hT_n16 hx18 rfl
      refine m_geti C e_q_alike_27 fg_Mo_297 rfl (by decide) rfl x18 hx18 ?_
      refine m_blk 35 [(4, vi x18), (3, vr 1 z17), (0, vr 0 0), (1, vi p), (2, vi q)] [vi (-1), vi q, vr 0 0] C f_q_alike_30_4 rfl ?_
      refine m_callV C Rm Y [vi q, vi (-1)] [] (q_oddsBeside l D B H0 ad _ hT_n16 u9 q (-1) (by show 0 ≤ q ∧ q ≤ 5; omega) ((hI.ok (by omega)).rmk hF_n16) (by show A14 0 0 33 = u9 ∧ 0 ≤ u9 ∧ u9 + (19 * q + 25) ≤ 200; omega) (by show -2147483648 ≤ (-1) ∧ (-1) ≤ 2147483647; omega) hS_n16) cl_Mo_354 rfl (by decide) rfl rfl e_q_alike_35 rfl rfl rfl ⟨by decide, by decide⟩ ?_
      rintro v19 A20 ⟨z23, rfl, hT_n22, hE_n22, raw_hz_n22, raw_hu_n22, raw_hO_n22, raw_hS_n22⟩
      have hF_n22 := hF_n16.trans (hE_n22.sub (rm_rm (Nat.zero_le _)))
      have hz_n22 : u9 ≤ (z23 : Int) ∧ (z23 : Int) < A20 0 0 33 := raw_hz_n22
      clear raw_hz_n22
      have hu_n22 : A20 0 0 33 ≤ u9 + 24 := raw_hu_n22
      clear raw_hu_n22
      have hO_n22 : oG A20 z23 1125899906842624 := raw_hO_n22
      clear raw_hO_n22
      have hS_n22 : mS A20 := raw_hS_n22
      clear raw_hS_n22
      show JM g D ad w0 A20 38 [(4, vi x18), (3, vr 1 z17), (0, vr 0 0), (1, vi p), (2, vi q)] [vr 1 z23]
      have lv24 : oG A20 z17 1125899906842624 := hO_n16.rmk hE_n22 (by omega)
      have ra9 : A20 0 0 33 ≤ u9 + 24 := hu_n22
      refine m_blk 42 [(5, vr 1 z23), (4, vi x18), (3, vr 1 z17), (0, vr 0 0), (1, vi p), (2, vi q)] [vi x18] C f_q_alike_38_2 rfl ?_
      refine m_if_ne (tgt := 52) C e_q_alike_42 (by decide) (by omega) (fun c25 => ?_) (fun c25 => ?_)
      · refine m_blk 54 [(5, vr 1 z23), (4, vi x18), (3, vr 1 z17), (0, vr 0 0), (1, vi p), (2, vi q)] [vi (-6)] C f_q_alike_52_1 rfl ?_
        exact m_iret C Rm E e_q_alike_54 ⟨(-6), rfl, hT_n22, hF_n22, (by show -2147483648 ≤ (-6) ∧ (-6) ≤ 2147483647; omega), (hI.rm0 hF_n22 hS_n22)⟩
      · refine m_blk 46 [(5, vr 1 z23), (4, vi x18), (3, vr 1 z17), (0, vr 0 0), (1, vi p), (2, vi q)] [vr 0 0] C f_q_alike_45_1 rfl ?_
        obtain ⟨x26, hx26⟩ : ∃ x, A20 0 0 34 = x := ⟨_, rfl⟩
        have rx26 : 0 ≤ x26 ∧ x26 ≤ 1 := mrg hT_n22 hx26 rfl
        refine m_geti C e_q_alike_46 fg_Mo_297 rfl (by decide) rfl x26 hx26 ?_
        refine m_if_eq (tgt := 55) C e_q_alike_49 (by decide) (by omega) (fun c27 => ?_) (fun c27 => ?_)
        · refine m_blk 56 [(5, vr 1 z23), (4, vi x18), (3, vr 1 z17), (0, vr 0 0), (1, vi p), (2, vi q)] [vr 1 z17] C f_q_alike_55_1 rfl ?_
          obtain ⟨x28, hx28⟩ : ∃ x, A20 1 z17 2 = x := ⟨_, rfl⟩
          have rx28 : 0 ≤ x28 ∧ x28 ≤ 301 := mrg hT_n22 hx28 rfl
          refine m_getiN C e_q_alike_56 fg_Mo_272 rfl (by omega) rfl x28 hx28 ?_
          refine m_if_eq (tgt := 70) C e_q_alike_59 (by decide) (by omega) (fun c29 => ?_) (fun c29 => ?_)
          · refine m_blk 72 [(5, vr 1 z23), (4, vi x18), (3, vr 1 z17), (0, vr 0 0), (1, vi p), (2, vi q)] [vi (-7)] C f_q_alike_70_1 rfl ?_
            exact m_iret C Rm E e_q_alike_72 ⟨(-7), rfl, hT_n22, hF_n22, (by show -2147483648 ≤ (-7) ∧ (-7) ≤ 2147483647; omega), (hI.rm0 hF_n22 hS_n22)⟩
          · refine m_blk 64 [(5, vr 1 z23), (4, vi x18), (3, vr 1 z17), (0, vr 0 0), (1, vi p), (2, vi q)] [vr 1 z23] C f_q_alike_62_1 rfl ?_
            obtain ⟨x30, hx30⟩ : ∃ x, A20 1 z23 2 = x := ⟨_, rfl⟩
            have rx30 : 0 ≤ x30 ∧ x30 ≤ 301 := mrg hT_n22 hx30 rfl
            refine m_getiN C e_q_alike_64 fg_Mo_272 rfl (by omega) rfl x30 hx30 ?_
            refine m_if_ne (tgt := 73) C e_q_alike_67 (by decide) (by omega) (fun c31 => ?_) (fun c31 => ?_)
            · refine m_blk 76 [(6, vi 0), (5, vr 1 z23), (4, vi x18), (3, vr 1 z17), (0, vr 0 0), (1, vi p), (2, vi q)] [] C f_q_alike_73_2 rfl ?_
              have hd_76 : ∀ (NZ : Nat) (n : Int), 0 ≤ n ∧ n ≤ 6 → (40 - n) < (NZ : Int) → JM g D ad w0 A20 76 [(6, vi n), (3, vr 1 z17), (5, vr 1 z23), (0, vr 0 0), (1, vi p), (2, vi q), (4, vi x18)] [] := by
                intro NZ
                induction NZ with
                | zero => intro n hn9 hm76; exact absurd hm76 (by omega)
                | succ NZ ih76 =>
                  intro n hn9 hm76
                  refine m_blk 80 [(6, vi n), (3, vr 1 z17), (5, vr 1 z23), (0, vr 0 0), (1, vi p), (2, vi q), (4, vi x18)] [vi 6, vi n] C f_q_alike_76_2 rfl ?_
                  refine m_icmp_ge (tgt := 139) C e_q_alike_80 (by decide) (by omega) (by decide) (fun c32 => ?_) (fun c32 => ?_)
                  · refine m_blk 140 [(6, vi n), (3, vr 1 z17), (5, vr 1 z23), (0, vr 0 0), (1, vi p), (2, vi q), (4, vi x18)] [vi 1] C f_q_alike_139_1 rfl ?_
                    exact m_iret C Rm E e_q_alike_140 ⟨1, rfl, hT_n22, hF_n22, (by show -2147483648 ≤ 1 ∧ 1 ≤ 2147483647; omega), (hI.rm0 hF_n22 hS_n22)⟩
                  · refine m_blk 86 [(7, vi 0), (6, vi n), (3, vr 1 z17), (5, vr 1 z23), (0, vr 0 0), (1, vi p), (2, vi q), (4, vi x18)] [] C f_q_alike_83_2 rfl ?_
                    have hd_86 : ∀ (NZ : Nat) (v : Int), 0 ≤ v ∧ v ≤ 10 → (40 - v) < (NZ : Int) → JM g D ad w0 A20 86 [(7, vi v), (6, vi n), (3, vr 1 z17), (5, vr 1 z23), (0, vr 0 0), (1, vi p), (2, vi q), (4, vi x18)] [] := by
                      intro NZ
                      induction NZ with
                      | zero => intro v hv9 hm86; exact absurd hm86 (by omega)
                      | succ NZ ih86 =>
                        intro v hv9 hm86
                        refine m_blk 90 [(7, vi v), (6, vi n), (3, vr 1 z17), (5, vr 1 z23), (0, vr 0 0), (1, vi p), (2, vi q), (4, vi x18)] [vi 10, vi v] C f_q_alike_86_2 rfl ?_
                        refine m_icmp_ge (tgt := 133) C e_q_alike_90 (by decide) (by omega) (by decide) (fun c33 => ?_) (fun c33 => ?_)
                        · refine m_blk 76 [(6, vi (n + 1)), (7, vi v), (3, vr 1 z17), (5, vr 1 z23), (0, vr 0 0), (1, vi p), (2, vi q), (4, vi x18)] [] C f_q_alike_133_2 rfl ?_
                          refine m_loc [(6, vi (n + 1)), (3, vr 1 z17), (5, vr 1 z23), (0, vr 0 0), (1, vi p), (2, vi q), (4, vi x18)] ⟨rfl, rfl, rfl, rfl, rfl, rfl, rfl, trivial⟩ ?_
                          exact ih76 (n + 1) (by show 0 ≤ (n + 1) ∧ (n + 1) ≤ 6; omega) (by show (40 - (n + 1)) < _; omega)
                        · refine m_blk 98 [(7, vi v), (6, vi n), (3, vr 1 z17), (5, vr 1 z23), (0, vr 0 0), (1, vi p), (2, vi q), (4, vi x18)] [vi v, vi n, vr 1 z17] C f_q_alike_93_3 rfl ?_
                          refine m_callS C Rm Y [vr 1 z17, vi n, vi v] [] (q_weightOf l D B H0 ad _ hT_n22 1125899906842624 z17 n v (by show z17 < 200; omega) lv24 (by show 0 ≤ 1125899906842624 ∧ 1125899906842624 ≤ 1125899906842624; omega) (by show -1 ≤ n ∧ n ≤ 2147483647; omega) (by show -2147483648 ≤ v ∧ v ≤ 2147483647; omega)) cl_Mo_384 e_q_alike_98 rfl rfl rfl ⟨by decide, by decide⟩ ?_
                          rintro v34 A35 ⟨z38, rfl, rfl, raw_hz_n37⟩
                          have hz_n37 : 0 ≤ z38 ∧ z38 ≤ 1125899906842624 := raw_hz_n37
                          clear raw_hz_n37
                          show JM g D ad w0 A20 101 [(7, vi v), (6, vi n), (3, vr 1 z17), (5, vr 1 z23), (0, vr 0 0), (1, vi p), (2, vi q), (4, vi x18)] [vl z38]
                          refine m_blk 102 [(7, vi v), (6, vi n), (3, vr 1 z17), (5, vr 1 z23), (0, vr 0 0), (1, vi p), (2, vi q), (4, vi x18)] [vr 1 z17, vl z38] C f_q_alike_101_1 rfl ?_
                          refine m_callV C Rm Y [] [vl z38] (q_all l D B H0 ad _ hT_n22 z17 1125899906842624 (by show z17 < 200; omega) lv24 (by show 1125899906842624 ≤ 1125899906842624; omega)) cl_Mo_372 rfl (by omega) rfl rfl e_q_alike_102 rfl rfl rfl ⟨by decide, by decide⟩ ?_
                          rintro v39 A40 ⟨z43, rfl, rfl, raw_hz_n42⟩
                          have hz_n42 : z43 = ws (A20 4 z17) 0 (Int.toNat (A20 1 z17 2)) ∧ 0 ≤ z43 ∧ z43 ≤ 1125899906842624 ∧ A20 1 z17 2 ≤ z43 := raw_hz_n42
                          clear raw_hz_n42
                          show JM g D ad w0 A20 105 [(7, vi v), (6, vi n), (3, vr 1 z17), (5, vr 1 z23), (0, vr 0 0), (1, vi p), (2, vi q), (4, vi x18)] [vl z43, vl z38]
                          refine m_blk 111 [(7, vi v), (6, vi n), (3, vr 1 z17), (5, vr 1 z23), (0, vr 0 0), (1, vi p), (2, vi q), (4, vi x18)] [vi v, vi n, vr 1 z23, vl z43, vl z38] C f_q_alike_105_3 rfl ?_
                          refine m_callS C Rm Y [vr 1 z23, vi n, vi v] [vl z43, vl z38] (q_weightOf l D B H0 ad _ hT_n22 1125899906842624 z23 n v (by show z23 < 200; omega) hO_n22 (by show 0 ≤ 1125899906842624 ∧ 1125899906842624 ≤ 1125899906842624; omega) (by show -1 ≤ n ∧ n ≤ 2147483647; omega) (by show -2147483648 ≤ v ∧ v ≤ 2147483647; omega)) cl_Mo_384 e_q_alike_111 rfl rfl rfl ⟨by decide, by decide⟩ ?_
                          rintro v44 A45 ⟨z48, rfl, rfl, raw_hz_n47⟩
                          have hz_n47 : 0 ≤ z48 ∧ z48 ≤ 1125899906842624 := raw_hz_n47
                          clear raw_hz_n47
                          show JM g D ad w0 A20 114 [(7, vi v), (6, vi n), (3, vr 1 z17), (5, vr 1 z23), (0, vr 0 0), (1, vi p), (2, vi q), (4, vi x18)] [vl z48, vl z43, vl z38]
                          refine m_blk 116 [(7, vi v), (6, vi n), (3, vr 1 z17), (5, vr 1 z23), (0, vr 0 0), (1, vi p), (2, vi q), (4, vi x18)] [vr 1 z23, vl z48, vl z43, vl z38] C f_q_alike_114_1 rfl ?_
                          refine m_callV C Rm Y [] [vl z48, vl z43, vl z38] (q_all l D B H0 ad _ hT_n22 z23 1125899906842624 (by show z23 < 200; omega) hO_n22 (by show 1125899906842624 ≤ 1125899906842624; omega)) cl_Mo_372 rfl (by omega) rfl rfl e_q_alike_116 rfl rfl rfl ⟨by decide, by decide⟩ ?_
                          rintro v49 A50 ⟨z53, rfl, rfl, raw_hz_n52⟩
                          have hz_n52 : z53 = ws (A20 4 z23) 0 (Int.toNat (A20 1 z23 2)) ∧ 0 ≤ z53 ∧ z53 ≤ 1125899906842624 ∧ A20 1 z23 2 ≤ z53 := raw_hz_n52
                          clear raw_hz_n52
                          show JM g D ad w0 A20 119 [(7, vi v), (6, vi n), (3, vr 1 z17), (5, vr 1 z23), (0, vr 0 0), (1, vi p), (2, vi q), (4, vi x18)] [vl z53, vl z48, vl z43, vl z38]
                          refine m_callS C Rm Y [vl z38, vl z43, vl z48, vl z53] [] (q_areSame l D B H0 ad _ z38 z43 z48 z53 (by show 0 ≤ z38 ∧ z38 ≤ 9223372036854775807; omega) (by show 1 ≤ z43 ∧ z43 ≤ 9223372036854775807; omega) (by show 0 ≤ z48 ∧ z48 ≤ 9223372036854775807; omega) (by show 1 ≤ z53 ∧ z53 ≤ 9223372036854775807; omega)) cl_Mo_396 e_q_alike_119 rfl rfl rfl ⟨by decide, by decide⟩ ?_
                          rintro v54 A55 ⟨z58, rfl, rfl, raw_hz_n57⟩
                          have hz_n57 : z58 = 0 ∨ z58 = 1 := raw_hz_n57
                          clear raw_hz_n57
                          show JM g D ad w0 A20 122 [(7, vi v), (6, vi n), (3, vr 1 z17), (5, vr 1 z23), (0, vr 0 0), (1, vi p), (2, vi q), (4, vi x18)] [vi z58]
                          refine m_if_ne (tgt := 127) C e_q_alike_122 (by decide) (by omega) (fun c59 => ?_) (fun c59 => ?_)
                          · refine m_blk 86 [(7, vi (v + 1)), (6, vi n), (3, vr 1 z17), (5, vr 1 z23), (0, vr 0 0), (1, vi p), (2, vi q), (4, vi x18)] [] C f_q_alike_127_2 rfl ?_
                            refine m_loc [(7, vi (v + 1)), (6, vi n), (3, vr 1 z17), (5, vr 1 z23), (0, vr 0 0), (1, vi p), (2, vi q), (4, vi x18)] ⟨rfl, rfl, rfl, rfl, rfl, rfl, rfl, rfl, trivial⟩ ?_
                            exact ih86 (v + 1) (by show 0 ≤ (v + 1) ∧ (v + 1) ≤ 10; omega) (by show (40 - (v + 1)) < _; omega)
                          · refine m_blk 126 [(7, vi v), (6, vi n), (3, vr 1 z17), (5, vr 1 z23), (0, vr 0 0), (1, vi p), (2, vi q), (4, vi x18)] [vi 0] C f_q_alike_125_1 rfl ?_
                            exact m_iret C Rm E e_q_alike_126 ⟨0, rfl, hT_n22, hF_n22, (by show -2147483648 ≤ 0 ∧ 0 ≤ 2147483647; omega), (hI.rm0 hF_n22 hS_n22)⟩
                    refine m_loc [(7, vi 0), (6, vi n), (3, vr 1 z17), (5, vr 1 z23), (0, vr 0 0), (1, vi p), (2, vi q), (4, vi x18)] ⟨rfl, rfl, rfl, rfl, rfl, rfl, rfl, rfl, trivial⟩ ?_
                    exact hd_86 (Int.toNat ((40 - 0)) + 1) 0 (by show 0 ≤ 0 ∧ 0 ≤ 10; omega) (by show (40 - 0) < _; omega)
              refine m_loc [(6, vi 0), (3, vr 1 z17), (5, vr 1 z23), (0, vr 0 0), (1, vi p), (2, vi q), (4, vi x18)] ⟨rfl, rfl, rfl, rfl, rfl, rfl, rfl, trivial⟩ ?_
              exact hd_76 (Int.toNat ((40 - 0)) + 1) 0 (by show 0 ≤ 0 ∧ 0 ≤ 6; omega) (by show (40 - 0) < _; omega)
            · refine m_blk 72 [(5, vr 1 z23), (4, vi x18), (3, vr 1 z17), (0, vr 0 0), (1, vi p), (2, vi q)] [vi (-7)] C f_q_alike_70_1 rfl ?_
              exact m_iret C Rm E e_q_alike_72 ⟨(-7), rfl, hT_n22, hF_n22, (by show -2147483648 ≤ (-7) ∧ (-7) ≤ 2147483647; omega), (hI.rm0 hF_n22 hS_n22)⟩
        · refine m_blk 54 [(5, vr 1 z23), (4, vi x18), (3, vr 1 z17), (0, vr 0 0), (1, vi p), (2, vi q)] [vi (-6)] C f_q_alike_52_1 rfl ?_
          exact m_iret C Rm E e_q_alike_54 ⟨(-6), rfl, hT_n22, hF_n22, (by show -2147483648 ≤ (-6) ∧ (-6) ≤ 2147483647; omega), (hI.rm0 hF_n22 hS_n22)⟩
    · subst e_n10
      clear hz_n10
      refine m_if_ne (tgt := 19) C e_q_alike_13 (by decide) (by decide) (fun c60 => (by omega : False).elim) (fun c60 => ?_)
      refine m_blk 18 [(0, vr 0 0), (1, vi p), (2, vi q)] [vi (-2)] C f_q_alike_16_1 rfl ?_
      exact m_iret C Rm E e_q_alike_18 ⟨(-2), rfl, hT, hE0, (by show -2147483648 ≤ (-2) ∧ (-2) ≤ 2147483647; omega), (hI.rm0 hE0 hI.2.2)⟩
  · subst e_n4
    clear hz_n4
    refine m_if_eq (tgt := 16) C e_q_alike_5 (by decide) (by decide) (fun c61 => ?_) (fun c61 => (by omega : False).elim)
    refine m_blk 18 [(0, vr 0 0), (1, vi p), (2, vi q)] [vi (-2)] C f_q_alike_16_1 rfl ?_
    exact m_iret C Rm E e_q_alike_18 ⟨(-2), rfl, hT, hE0, (by show -2147483648 ≤ (-2) ∧ (-2) ≤ 2147483647; omega), (hI.rm0 hE0 hI.2.2)⟩
