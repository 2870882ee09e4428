/-! the reference: faces that ask about odds (own work, by program) -/
theorem f_q_peak_0_2 : mblkB b_Mo_peak [(0, .aload_n 0, vi 0), (1, .iload_n 1, vi 0)] = true := by decide +kernel
theorem e_q_peak_2 : decode b_Mo_peak 2 = .ok (.invokevirtual 364, 3) := by decide +kernel
theorem e_q_peak_5 : decode b_Mo_peak 5 = .ok (.ifCond .eq 13, 3) := by decide +kernel
theorem f_q_peak_8_3 : mblkB b_Mo_peak [(8, .iload_n 2, vi 0), (9, .iconst (-1), vi (-1)), (10, .bipush 63, vi 63)] = true := by decide +kernel
theorem e_q_peak_12 : decode b_Mo_peak 12 = .ok (.invokestatic 108, 3) := by decide +kernel
theorem e_q_peak_15 : decode b_Mo_peak 15 = .ok (.ifCond .ne 6, 3) := by decide +kernel
theorem f_q_peak_21_3 : mblkB b_Mo_peak [(21, .aload_n 0, vi 0), (22, .iload_n 1, vi 0), (23, .iconst (-1), vi (-1))] = true := by decide +kernel
theorem e_q_peak_24 : decode b_Mo_peak 24 = .ok (.invokevirtual 367, 3) := by decide +kernel
theorem f_q_peak_27_2 : mblkB b_Mo_peak [(27, .astore_n 3, vi 0), (28, .aload_n 0, vi 0)] = true := by decide +kernel
theorem e_q_peak_29 : decode b_Mo_peak 29 = .ok (.getfield 297, 3) := by decide +kernel
theorem e_q_peak_32 : decode b_Mo_peak 32 = .ok (.ifCond .eq 6, 3) := by decide +kernel
theorem f_q_peak_38_2 : mblkB b_Mo_peak [(38, .iload_n 2, vi 0), (39, .iconst (-1), vi (-1))] = true := by decide +kernel
theorem e_q_peak_40 : decode b_Mo_peak 40 = .ok (.if_icmp .eq 10, 3) := by decide +kernel
theorem f_q_peak_50_1 : mblkB b_Mo_peak [(50, .aload_n 0, vi 0)] = true := by decide +kernel
theorem e_q_peak_51 : decode b_Mo_peak 51 = .ok (.getfield 314, 3) := by decide +kernel
theorem e_q_peak_54 : decode b_Mo_peak 54 = .ok (.ireturn, 1) := by decide +kernel
theorem f_q_peak_43_3 : mblkB b_Mo_peak [(43, .aload_n 0, vi 0), (44, .iload_n 1, vi 0), (45, .iload_n 2, vi 0)] = true := by decide +kernel
theorem e_q_peak_46 : decode b_Mo_peak 46 = .ok (.invokevirtual 367, 3) := by decide +kernel
theorem f_q_peak_49_2 : mblkB b_Mo_peak [(49, .astore_n 3, vi 0), (50, .aload_n 0, vi 0)] = true := by decide +kernel
theorem f_q_peak_35_1 : mblkB b_Mo_peak [(35, .bipush (-6), vi (-6))] = true := by decide +kernel
theorem e_q_peak_37 : decode b_Mo_peak 37 = .ok (.ireturn, 1) := by decide +kernel
theorem f_q_peak_18_1 : mblkB b_Mo_peak [(18, .bipush (-2), vi (-2))] = true := by decide +kernel
theorem e_q_peak_20 : decode b_Mo_peak 20 = .ok (.ireturn, 1) := by decide +kernel
set_option maxHeartbeats 40000000 in
set_option maxRecDepth 100000 in
theorem q_peak (l : Launch) (D : va_G) (B : Nat) (H0 : Heap) (ad : mAd) (A : mA) (hT : mTy A)  (p : Int) (n : Int) (hpr : -2147483648 ≤ p ∧ p ≤ 2147483647) (hnr : -2147483648 ≤ n ∧ n ≤ 2147483647) (hI : mI A)  : mMet l D B H0 ad y_Mo_peak b_Mo_peak 4 (some .int) 910 23500 [vr 0 0, vi p, vi n] A (fun v9 A9 => ∃ z : Int, v9 = some (vi z) ∧ mTy A9 ∧ mEq (rm 0) A A9 ∧ (-2147483648 ≤ z ∧ z ≤ 2147483647) ∧ (mI A9)) := by
  refine m_met (by decide) rfl (fun g w0 C Rm Y E => ?_)
  have hE0 : mEq (rm 0) A A := mEq.rfl'
  show JM g D ad w0 A 0 [(0, vr 0 0), (1, vi p), (2, vi n)] []
  have r0 : 0 ≤ A 0 0 0 ∧ A 0 0 0 ≤ 6 := hT 0 0 0
  refine m_blk 2 [(0, vr 0 0), (1, vi p), (2, vi n)] [vi p, vr 0 0] C f_q_peak_0_2 rfl ?_
  refine m_callV C Rm Y [vi p] [] (q_isProgram l D B H0 ad _ hT p (by show -2147483648 ≤ p ∧ p ≤ 2147483647; omega)) cl_Mo_364 rfl (by decide) rfl rfl e_q_peak_2 rfl rfl rfl ⟨by decide, by decide⟩ ?_
  rintro v1 A2 ⟨z5, rfl, rfl, raw_hz_n4⟩
  show JM g D ad w0 A 5 [(0, vr 0 0), (1, vi p), (2, vi n)] [vi z5]
  have hz_n4 : z5 = 1 ∧ 0 ≤ p ∧ p < A 0 0 0 ∨ z5 = 0 ∧ ¬ (0 ≤ p ∧ p < A 0 0 0) := raw_hz_n4
  clear raw_hz_n4
  rcases hz_n4 with ⟨e_n4, hz_n4⟩ | ⟨e_n4, hz_n4⟩
  · subst e_n4
    refine m_if_eq (tgt := 18) C e_q_peak_5 (by decide) (by decide) (fun c6 => (by omega : False).elim) (fun c6 => ?_)
    refine m_blk 12 [(0, vr 0 0), (1, vi p), (2, vi n)] [vi 63, vi (-1), vi n] C f_q_peak_8_3 rfl ?_
    refine m_callS C Rm Y [vi n, vi (-1), vi 63] [] (q_in l D B H0 ad _ n (-1) 63 (by show -2147483648 ≤ n ∧ n ≤ 2147483647; omega) (by show -2147483648 ≤ (-1) ∧ (-1) ≤ 2147483647; omega) (by show -2147483648 ≤ 63 ∧ 63 ≤ 2147483647; omega)) cl_Mo_108 e_q_peak_12 rfl rfl rfl ⟨by decide, by decide⟩ ?_
    rintro v7 A8 ⟨z11, rfl, rfl, raw_hz_n10⟩
    show JM g D ad w0 A 15 [(0, vr 0 0), (1, vi p), (2, vi n)] [vi z11]
    have hz_n10 : z11 = 1 ∧ (-1) ≤ n ∧ n ≤ 63 ∨ z11 = 0 ∧ ¬ ((-1) ≤ n ∧ n ≤ 63) := raw_hz_n10
    clear raw_hz_n10
    rcases hz_n10 with ⟨e_n10, hz_n10⟩ | ⟨e_n10, hz_n10⟩
    · subst e_n10
      refine m_if_ne (tgt := 21) C e_q_peak_15 (by decide) (by decide) (fun c12 => ?_) (fun c12 => (by omega : False).elim)
      refine m_blk 24 [(0, vr 0 0), (1, vi p), (2, vi n)] [vi (-1), vi p, vr 0 0] C f_q_peak_21_3 rfl ?_
      refine m_callV C Rm Y [vi p, vi (-1)] [] (q_odds l D B H0 ad _ hT p (-1) (by show 0 ≤ p ∧ p ≤ 5; omega) ((hI.ok (by omega)).rmk hE0) (by show -2147483648 ≤ (-1) ∧ (-1) ≤ 2147483647; omega) hI.2.2) cl_Mo_367 rfl (by decide) rfl rfl e_q_peak_24 rfl rfl rfl ⟨by decide, by decide⟩ ?_
      rintro v13 A14 ⟨z17, rfl, hT_n16, hE_n16, raw_hz_n16, raw_hu_n16, raw_hO_n16, raw_hS_n16⟩
      have hF_n16 := hE0.trans (hE_n16.sub (rm_rm (Nat.zero_le _)))
      have hz_n16 : 0 ≤ (z17 : Int) ∧ (z17 : Int) < A14 0 0 33 := raw_hz_n16
      clear raw_hz_n16
      have hu_n16 : A14 0 0 33 ≤ 24 := raw_hu_n16
      clear raw_hu_n16
      have hO_n16 : oG A14 z17 1125899906842624 := raw_hO_n16
      clear raw_hO_n16
      have hS_n16 : mS A14 := raw_hS_n16
      clear raw_hS_n16
      show JM g D ad w0 A14 27 [(0, vr 0 0), (1, vi p), (2, vi n)] [vr 1 z17]
      refine m_blk 29 [(3, vr 1 z17), (0, vr 0 0), (1, vi p), (2, vi n)] [vr 0 0] C f_q_peak_27_2 rfl ?_
      obtain ⟨x18, hx18⟩ : ∃ x, A14 0 0 34 = x := ⟨_, rfl⟩
      have rx18 : 0 ≤ x18 ∧ x18 ≤ 1 := mrg hT_n16 hx18 rfl
      refine m_geti C e_q_peak_29 fg_Mo_297 rfl (by decide) rfl x18 hx18 ?_
      refine m_if_eq (tgt := 38) C e_q_peak_32 (by decide) (by omega) (fun c19 => ?_) (fun c19 => ?_)
      · refine m_blk 40 [(3, vr 1 z17), (0, vr 0 0), (1, vi p), (2, vi n)] [vi (-1), vi n] C f_q_peak_38_2 rfl ?_
        refine m_icmp_eq (tgt := 50) C e_q_peak_40 (by decide) (by omega) (by decide) (fun c20 => ?_) (fun c20 => ?_)
        · refine m_blk 51 [(3, vr 1 z17), (0, vr 0 0), (1, vi p), (2, vi n)] [vr 0 0] C f_q_peak_50_1 rfl ?_
          obtain ⟨x21, hx21⟩ : ∃ x, A14 0 0 35 = x := ⟨_, rfl⟩
          have rx21 : (-2147483648) ≤ x21 ∧ x21 ≤ 2147483647 := mrg hT_n16 hx21 rfl
          refine m_geti C e_q_peak_51 fg_Mo_314 rfl (by decide) rfl x21 hx21 ?_
          exact m_iret C Rm E e_q_peak_54 ⟨x21, rfl, hT_n16, hF_n16, (by show -2147483648 ≤ x21 ∧ x21 ≤ 2147483647; omega), (hI.rm0 hF_n16 hS_n16)⟩
        · refine m_blk 46 [(3, vr 1 z17), (0, vr 0 0), (1, vi p), (2, vi n)] [vi n, vi p, vr 0 0] C f_q_peak_43_3 rfl ?_
          refine m_callV C Rm Y [vi p, vi n] [] (q_odds l D B H0 ad _ hT_n16 p n (by show 0 ≤ p ∧ p ≤ 5; omega) ((hI.ok (by omega)).rmk hF_n16) (by show -2147483648 ≤ n ∧ n ≤ 2147483647; omega) hS_n16) cl_Mo_367 rfl (by decide) rfl rfl e_q_peak_46 rfl rfl rfl ⟨by decide, by decide⟩ ?_
          rintro v22 A23 ⟨z26, rfl, hT_n25, hE_n25, raw_hz_n25, raw_hu_n25, raw_hO_n25, raw_hS_n25⟩
          have hF_n25 := hF_n16.trans (hE_n25.sub (rm_rm (Nat.zero_le _)))
          have hz_n25 : 0 ≤ (z26 : Int) ∧ (z26 : Int) < A23 0 0 33 := raw_hz_n25
          clear raw_hz_n25
          have hu_n25 : A23 0 0 33 ≤ 24 := raw_hu_n25
          clear raw_hu_n25
          have hO_n25 : oG A23 z26 1125899906842624 := raw_hO_n25
          clear raw_hO_n25
          have hS_n25 : mS A23 := raw_hS_n25
          clear raw_hS_n25
          show JM g D ad w0 A23 49 [(3, vr 1 z17), (0, vr 0 0), (1, vi p), (2, vi n)] [vr 1 z26]
          refine m_blk 51 [(3, vr 1 z26), (0, vr 0 0), (1, vi p), (2, vi n)] [vr 0 0] C f_q_peak_49_2 rfl ?_
          obtain ⟨x27, hx27⟩ : ∃ x, A23 0 0 35 = x := ⟨_, rfl⟩
          have rx27 : (-2147483648) ≤ x27 ∧ x27 ≤ 2147483647 := mrg hT_n25 hx27 rfl
          refine m_geti C e_q_peak_51 fg_Mo_314 rfl (by decide) rfl x27 hx27 ?_
          exact m_iret C Rm E e_q_peak_54 ⟨x27, rfl, hT_n25, hF_n25, (by show -2147483648 ≤ x27 ∧ x27 ≤ 2147483647; omega), (hI.rm0 hF_n25 hS_n25)⟩
      · refine m_blk 37 [(3, vr 1 z17), (0, vr 0 0), (1, vi p), (2, vi n)] [vi (-6)] C f_q_peak_35_1 rfl ?_
        exact m_iret C Rm E e_q_peak_37 ⟨(-6), rfl, hT_n16, hF_n16, (by show -2147483648 ≤ (-6) ∧ (-6) ≤ 2147483647; omega), (hI.rm0 hF_n16 hS_n16)⟩
    · subst e_n10
      refine m_if_ne (tgt := 21) C e_q_peak_15 (by decide) (by decide) (fun c28 => (by omega : False).elim) (fun c28 => ?_)
      refine m_blk 20 [(0, vr 0 0), (1, vi p), (2, vi n)] [vi (-2)] C f_q_peak_18_1 rfl ?_
      exact m_iret C Rm E e_q_peak_20 ⟨(-2), rfl, hT, hE0, (by show -2147483648 ≤ (-2) ∧ (-2) ≤ 2147483647; omega), (hI.rm0 hE0 hI.2.2)⟩
  · subst e_n4
    clear hz_n4
    refine m_if_eq (tgt := 18) C e_q_peak_5 (by decide) (by decide) (fun c29 => ?_) (fun c29 => (by omega : False).elim)
    refine m_blk 20 [(0, vr 0 0), (1, vi p), (2, vi n)] [vi (-2)] C f_q_peak_18_1 rfl ?_
    exact m_iret C Rm E e_q_peak_20 ⟨(-2), rfl, hT, hE0, (by show -2147483648 ≤ (-2) ∧ (-2) ≤ 2147483647; omega), (hI.rm0 hE0 hI.2.2)⟩

theorem f_q_apart_0_2 : mblkB b_Mo_apart [(0, .aload_n 0, vi 0), (1, .iload_n 1, vi 0)] = true := by decide +kernel
theorem e_q_apart_2 : decode b_Mo_apart 2 = .ok (.invokevirtual 364, 3) := by decide +kernel
theorem e_q_apart_5 : decode b_Mo_apart 5 = .ok (.ifCond .eq 17, 3) := by decide +kernel
theorem f_q_apart_8_1 : mblkB b_Mo_apart [(8, .iload_n 2, vi 0)] = true := by decide +kernel
theorem e_q_apart_9 : decode b_Mo_apart 9 = .ok (.invokestatic 254, 3) := by decide +kernel
theorem e_q_apart_12 : decode b_Mo_apart 12 = .ok (.ifCond .eq 10, 3) := by decide +kernel
theorem f_q_apart_15_1 : mblkB b_Mo_apart [(15, .iload_n 3, vi 0)] = true := by decide +kernel
theorem e_q_apart_16 : decode b_Mo_apart 16 = .ok (.invokestatic 254, 3) := by decide +kernel
theorem e_q_apart_19 : decode b_Mo_apart 19 = .ok (.ifCond .ne 6, 3) := by decide +kernel
theorem f_q_apart_25_3 : mblkB b_Mo_apart [(25, .aload_n 0, vi 0), (26, .iload_n 1, vi 0), (27, .iconst (-1), vi (-1))] = true := by decide +kernel
theorem e_q_apart_28 : decode b_Mo_apart 28 = .ok (.invokevirtual 367, 3) := by decide +kernel
theorem f_q_apart_31_3 : mblkB b_Mo_apart [(31, .astore 4, vi 0), (33, .aload_n 0, vi 0), (34, .aload 4, vi 0)] = true := by decide +kernel
theorem e_q_apart_36 : decode b_Mo_apart 36 = .ok (.invokevirtual 380, 3) := by decide +kernel
theorem f_q_apart_39_2 : mblkB b_Mo_apart [(39, .istore 5, vi 0), (41, .iload 5, vi 0)] = true := by decide +kernel
theorem e_q_apart_43 : decode b_Mo_apart 43 = .ok (.ifCond .eq 6, 3) := by decide +kernel
theorem f_q_apart_49_1 : mblkB b_Mo_apart [(49, .aload 4, vi 0)] = true := by decide +kernel
theorem e_q_apart_51 : decode b_Mo_apart 51 = .ok (.invokevirtual 372, 3) := by decide +kernel
theorem f_q_apart_54_3 : mblkB b_Mo_apart [(54, .lstore 6, vi 0), (56, .iconst 0, vi 0), (57, .istore 8, vi 0)] = true := by decide +kernel
theorem f_q_apart_59_2 : mblkB b_Mo_apart [(59, .iload 8, vi 0), (61, .bipush 10, vi 10)] = true := by decide +kernel
theorem e_q_apart_63 : decode b_Mo_apart 63 = .ok (.if_icmp .ge 73, 3) := by decide +kernel
theorem f_q_apart_136_1 : mblkB b_Mo_apart [(136, .iconst 1, vi 1)] = true := by decide +kernel
theorem e_q_apart_137 : decode b_Mo_apart 137 = .ok (.ireturn, 1) := by decide +kernel
theorem f_q_apart_66_3 : mblkB b_Mo_apart [(66, .aload 4, vi 0), (68, .iload_n 2, vi 0), (69, .iload 8, vi 0)] = true := by decide +kernel
theorem e_q_apart_71 : decode b_Mo_apart 71 = .ok (.invokestatic 384, 3) := by decide +kernel
theorem f_q_apart_74_3 : mblkB b_Mo_apart [(74, .lstore 9, vi 0), (76, .iconst 0, vi 0), (77, .istore 11, vi 0)] = true := by decide +kernel
theorem f_q_apart_79_2 : mblkB b_Mo_apart [(79, .iload 11, vi 0), (81, .bipush 10, vi 10)] = true := by decide +kernel
theorem e_q_apart_83 : decode b_Mo_apart 83 = .ok (.if_icmp .ge 47, 3) := by decide +kernel
theorem f_q_apart_130_2 : mblkB b_Mo_apart [(130, .iinc 8 1, vi 1), (133, .goto (-74), vi 59)] = true := by decide +kernel
theorem f_q_apart_86_2 : mblkB b_Mo_apart [(86, .lload 9, vi 0), (88, .lconst 0, vl 0)] = true := by decide +kernel
theorem e_q_apart_89 : decode b_Mo_apart 89 = .ok (.lcmp, 1) := by decide +kernel
theorem e_q_apart_90 : decode b_Mo_apart 90 = .ok (.ifCond .le 40, 3) := by decide +kernel
theorem f_q_apart_93_5 : mblkB b_Mo_apart [(93, .aload 4, vi 0), (95, .iload_n 2, vi 0), (96, .iload 8, vi 0), (98, .iload_n 3, vi 0), (99, .iload 11, vi 0)] = true := by decide +kernel
theorem e_q_apart_101 : decode b_Mo_apart 101 = .ok (.invokestatic 392, 3) := by decide +kernel
theorem f_q_apart_104_4 : mblkB b_Mo_apart [(104, .lload 9, vi 0), (106, .aload 4, vi 0), (108, .iload_n 3, vi 0), (109, .iload 11, vi 0)] = true := by decide +kernel
theorem e_q_apart_111 : decode b_Mo_apart 111 = .ok (.invokestatic 384, 3) := by decide +kernel
theorem f_q_apart_114_1 : mblkB b_Mo_apart [(114, .lload 6, vi 0)] = true := by decide +kernel
theorem e_q_apart_116 : decode b_Mo_apart 116 = .ok (.invokestatic 396, 3) := by decide +kernel
theorem e_q_apart_119 : decode b_Mo_apart 119 = .ok (.ifCond .ne 5, 3) := by decide +kernel
theorem f_q_apart_124_2 : mblkB b_Mo_apart [(124, .iinc 11 1, vi 1), (127, .goto (-48), vi 79)] = true := by decide +kernel
theorem f_q_apart_122_1 : mblkB b_Mo_apart [(122, .iconst 0, vi 0)] = true := by decide +kernel
theorem e_q_apart_123 : decode b_Mo_apart 123 = .ok (.ireturn, 1) := by decide +kernel
theorem f_q_apart_46_1 : mblkB b_Mo_apart [(46, .iload 5, vi 0)] = true := by decide +kernel
theorem e_q_apart_48 : decode b_Mo_apart 48 = .ok (.ireturn, 1) := by decide +kernel
theorem f_q_apart_22_1 : mblkB b_Mo_apart [(22, .bipush (-2), vi (-2))] = true := by decide +kernel
theorem e_q_apart_24 : decode b_Mo_apart 24 = .ok (.ireturn, 1) := by decide +kernel
set_option maxHeartbeats 40000000 in
set_option maxRecDepth 100000 in
theorem q_apart (l : Launch) (D : va_G) (B : Nat) (H0 : Heap) (ad : mAd) (A : mA) (hT : mTy A)  (p : Int) (n : Int) (m : Int) (hpr : -2147483648 ≤ p ∧ p ≤ 2147483647) (hnr : -2147483648 ≤ n ∧ n ≤ 2147483647) (hmr : -2147483648 ≤ m ∧ m ≤ 2147483647) (hI : mI A)  : mMet l D B H0 ad y_Mo_apart b_Mo_apart 12 (some .int) 910 23500 [vr 0 0, vi p, vi n, vi m] A (fun v9 A9 => ∃ z : Int, v9 = some (vi z) ∧ mTy A9 ∧ mEq (rm 0) A A9 ∧ (-2147483648 ≤ z ∧ z ≤ 2147483647) ∧ (mI A9)) := by
  refine m_met (by decide) rfl (fun g w0 C Rm Y E => ?_)
  have hE0 : mEq (rm 0) A A := mEq.rfl'
  show JM g D ad w0 A 0 [(0, vr 0 0), (1, vi p), (2, vi n), (3, vi m)] []
  have r0 : 0 ≤ A 0 0 0 ∧ A 0 0 0 ≤ 6 := hT 0 0 0
  refine m_blk 2 [(0, vr 0 0), (1, vi p), (2, vi n), (3, vi m)] [vi p, vr 0 0] C f_q_apart_0_2 rfl ?_
  refine m_callV C Rm Y [vi p] [] (q_isProgram l D B H0 ad _ hT p (by show -2147483648 ≤ p ∧ p ≤ 2147483647; omega)) cl_Mo_364 rfl (by decide) rfl rfl e_q_apart_2 rfl rfl rfl ⟨by decide, by decide⟩ ?_
  rintro v1 A2 ⟨z5, rfl, rfl, raw_hz_n4⟩
  show JM g D ad w0 A 5 [(0, vr 0 0), (1, vi p), (2, vi n), (3, vi m)] [vi z5]
  have hz_n4 : z5 = 1 ∧ 0 ≤ p ∧ p < A 0 0 0 ∨ z5 = 0 ∧ ¬ (0 ≤ p ∧ p < A 0 0 0) := raw_hz_n4
  clear raw_hz_n4
  rcases hz_n4 with ⟨e_n4, hz_n4⟩ | ⟨e_n4, hz_n4⟩
  · subst e_n4
    refine m_if_eq (tgt := 22) C e_q_apart_5 (by decide) (by decide) (fun c6 => (by omega : False).elim) (fun c6 => ?_)
    refine m_blk 9 [(0, vr 0 0), (1, vi p), (2, vi n), (3, vi m)] [vi n] C f_q_apart_8_1 rfl ?_
    refine m_callS C Rm Y [vi n] [] (q_isName l D B H0 ad _ n (by show -2147483648 ≤ n ∧ n ≤ 2147483647; omega)) cl_Mo_254 e_q_apart_9 rfl rfl rfl ⟨by decide, by decide⟩ ?_
    rintro v7 A8 ⟨z11, rfl, rfl, raw_hz_n10⟩
    show JM g D ad w0 A 12 [(0, vr 0 0), (1, vi p), (2, vi n), (3, vi m)] [vi z11]
    have hz_n10 : z11 = 1 ∧ 0 ≤ n ∧ n ≤ 5 ∨ z11 = 0 ∧ ¬ (0 ≤ n ∧ n ≤ 5) := raw_hz_n10
    clear raw_hz_n10
    rcases hz_n10 with ⟨e_n10, hz_n10⟩ | ⟨e_n10, hz_n10⟩
    · subst e_n10
      refine m_if_eq (tgt := 22) C e_q_apart_12 (by decide) (by decide) (fun c12 => (by omega : False).elim) (fun c12 => ?_)
      refine m_blk 16 [(0, vr 0 0), (1, vi p), (2, vi n), (3, vi m)] [vi m] C f_q_apart_15_1 rfl ?_
      refine m_callS C Rm Y [vi m] [] (q_isName l D B H0 ad _ m (by show -2147483648 ≤ m ∧ m ≤ 2147483647; omega)) cl_Mo_254 e_q_apart_16 rfl rfl rfl ⟨by decide, by decide⟩ ?_
      rintro v13 A14 ⟨z17, rfl, rfl, raw_hz_n16⟩
      show JM g D ad w0 A 19 [(0, vr 0 0), (1, vi p), (2, vi n), (3, vi m)] [vi z17]
      have hz_n16 : z17 = 1 ∧ 0 ≤ m ∧ m ≤ 5 ∨ z17 = 0 ∧ ¬ (0 ≤ m ∧ m ≤ 5) := raw_hz_n16
      clear raw_hz_n16
      rcases hz_n16 with ⟨e_n16, hz_n16⟩ | ⟨e_n16, hz_n16⟩
      · subst e_n16
        refine m_if_ne (tgt := 25) C e_q_apart_19 (by decide) (by decide) (fun c18 => ?_) (fun c18 => (by omega : False).elim)
        refine m_blk 28 [(0, vr 0 0), (1, vi p), (2, vi n), (3, vi m)] [vi (-1), vi p, vr 0 0] C f_q_apart_25_3 rfl ?_
        refine m_callV C Rm Y [vi p, vi (-1)] [] (q_odds l D B H0 ad _ hT p (-1) (by show 0 ≤ p ∧ p ≤ 5; omega) ((hI.ok (by omega)).rmk hE0) (by show -2147483648 ≤ (-1) ∧ (-1) ≤ 2147483647; omega) hI.2.2) cl_Mo_367 rfl (by decide) rfl rfl e_q_apart_28 rfl rfl rfl ⟨by decide, by decide⟩ ?_
        rintro v19 A20 ⟨z23, rfl, hT_n22, hE_n22, raw_hz_n22, raw_hu_n22, raw_hO_n22, raw_hS_n22⟩
        have hF_n22 := hE0.trans (hE_n22.sub (rm_rm (Nat.zero_le _)))
        have hz_n22 : 0 ≤ (z23 : Int) ∧ (z23 : Int) < A20 0 0 33 := raw_hz_n22
        clear raw_hz_n22
        have hu_n22 : A20 0 0 33 ≤ 24 := raw_hu_n22
        clear raw_hu_n22
        have hO_n22 : oG A20 z23 1125899906842624 := raw_hO_n22
        clear raw_hO_n22
        have hS_n22 : mS A20 := raw_hS_n22
        clear raw_hS_n22
        show JM g D ad w0 A20 31 [(0, vr 0 0), (1, vi p), (2, vi n), (3, vi m)] [vr 1 z23]
        refine m_blk 36 [(4, vr 1 z23), (0, vr 0 0), (1, vi p), (2, vi n), (3, vi m)] [vr 1 z23, vr 0 0] C f_q_apart_31_3 rfl ?_
        refine m_callV C Rm Y [vr 1 z23] [] (q_against l D B H0 ad _ hT_n22 z23 (by show z23 < 200; omega)) cl_Mo_380 rfl (by decide) rfl rfl e_q_apart_36 rfl rfl rfl ⟨by decide, by decide⟩ ?_
        rintro v24 A25 ⟨z28, rfl, rfl, raw_hz_n27, raw_hn_n27⟩
        have hz_n27 : -7 ≤ z28 ∧ z28 ≤ 0 := raw_hz_n27
        clear raw_hz_n27
        have hn_n27 : nQ A20 z23 z28 := raw_hn_n27
        clear raw_hn_n27
        show JM g D ad w0 A20 39 [(4, vr 1 z23), (0, vr 0 0), (1, vi p), (2, vi n), (3, vi m)] [vi z28]
        refine m_blk 43 [(5, vi z28), (4, vr 1 z23), (0, vr 0 0), (1, vi p), (2, vi n), (3, vi m)] [vi z28] C f_q_apart_39_2 rfl ?_
        refine m_if_eq (tgt := 49) C e_q_apart_43 (by decide) (by omega) (fun c29 => ?_) (fun c29 => ?_)
        · refine m_blk 51 [(5, vi z28), (4, vr 1 z23), (0, vr 0 0), (1, vi p), (2, vi n), (3, vi m)] [vr 1 z23] C f_q_apart_49_1 rfl ?_
          refine m_callV C Rm Y [] [] (q_all l D B H0 ad _ hT_n22 z23 1125899906842624 (by show z23 < 200; omega) hO_n22 (by show 1125899906842624 ≤ 1125899906842624; omega)) cl_Mo_372 rfl (by omega) rfl rfl e_q_apart_51 rfl rfl rfl ⟨by decide, by decide⟩ ?_
          rintro v30 A31 ⟨z34, rfl, rfl, raw_hz_n33⟩
          have hz_n33 : z34 = ws (A20 4 z23) 0 (Int.toNat (A20 1 z23 2)) ∧ 0 ≤ z34 ∧ z34 ≤ 1125899906842624 ∧ A20 1 z23 2 ≤ z34 := raw_hz_n33
          clear raw_hz_n33
          show JM g D ad w0 A20 54 [(5, vi z28), (4, vr 1 z23), (0, vr 0 0), (1, vi p), (2, vi n), (3, vi m)] [vl z34]
          have n1 := hn_n27 (by omega)
          refine m_blk 59 [(8, vi 0), (6, vl z34), (5, vi z28), (4, vr 1 z23), (0, vr 0 0), (1, vi p), (2, vi n), (3, vi m)] [] C f_q_apart_54_3 rfl ?_
          have hd_59 : ∀ (NZ : Nat) (v : Int), 0 ≤ v ∧ v ≤ 10 → (40 - v) < (NZ : Int) → JM g D ad w0 A20 59 [(8, vi v), (6, vl z34), (4, vr 1 z23), (0, vr 0 0), (1, vi p), (2, vi n), (3, vi m)] [] := by
            intro NZ
            induction NZ with
            | zero => intro v hv2 hm59; exact absurd hm59 (by omega)
            | succ NZ ih59 =>
              intro v hv2 hm59
              refine m_blk 63 [(8, vi v), (6, vl z34), (4, vr 1 z23), (0, vr 0 0), (1, vi p), (2, vi n), (3, vi m)] [vi 10, vi v] C f_q_apart_59_2 rfl ?_
              refine m_icmp_ge (tgt := 136) C e_q_apart_63 (by decide) (by omega) (by decide) (fun c35 => ?_) (fun c35 => ?_)
              · refine m_blk 137 [(8, vi v), (6, vl z34), (4, vr 1 z23), (0, vr 0 0), (1, vi p), (2, vi n), (3, vi m)] [vi 1] C f_q_apart_136_1 rfl ?_
                exact m_iret C Rm E e_q_apart_137 ⟨1, rfl, hT_n22, hF_n22, (by show -2147483648 ≤ 1 ∧ 1 ≤ 2147483647; omega), (hI.rm0 hF_n22 hS_n22)⟩
              · refine m_blk 71 [(8, vi v), (6, vl z34), (4, vr 1 z23), (0, vr 0 0), (1, vi p), (2, vi n), (3, vi m)] [vi v, vi n, vr 1 z23] C f_q_apart_66_3 rfl ?_
                refine m_callS C Rm Y [vr 1 z23, vi n, vi v] [] (q_weightOf l D B H0 ad _ hT_n22 1125899906842624 z23 n v (by show z23 < 200; omega) hO_n22 (by show 0 ≤ 1125899906842624 ∧ 1125899906842624 ≤ 1125899906842624; omega) (by show -1 ≤ n ∧ n ≤ 2147483647; omega) (by show -2147483648 ≤ v ∧ v ≤ 2147483647; omega)) cl_Mo_384 e_q_apart_71 rfl rfl rfl ⟨by decide, by decide⟩ ?_
                rintro v36 A37 ⟨z40, rfl, rfl, raw_hz_n39⟩
                have hz_n39 : 0 ≤ z40 ∧ z40 ≤ 1125899906842624 := raw_hz_n39
                clear raw_hz_n39
                show JM g D ad w0 A20 74 [(8, vi v), (6, vl z34), (4, vr 1 z23), (0, vr 0 0), (1, vi p), (2, vi n), (3, vi m)] [vl z40]
                refine m_blk 79 [(11, vi 0), (9, vl z40), (8, vi v), (6, vl z34), (4, vr 1 z23), (0, vr 0 0), (1, vi p), (2, vi n), (3, vi m)] [] C f_q_apart_74_3 rfl ?_
                have hd_79 : ∀ (NZ : Nat) (x : Int), 0 ≤ x ∧ x ≤ 10 → (40 - x) < (NZ : Int) → JM g D ad w0 A20 79 [(11, vi x), (9, vl z40), (8, vi v), (6, vl z34), (4, vr 1 z23), (0, vr 0 0), (1, vi p), (2, vi n), (3, vi m)] [] := by
                  intro NZ
                  induction NZ with
                  | zero => intro x hx2 hm79; exact absurd hm79 (by omega)
                  | succ NZ ih79 =>
                    intro x hx2 hm79
                    refine m_blk 83 [(11, vi x), (9, vl z40), (8, vi v), (6, vl z34), (4, vr 1 z23), (0, vr 0 0), (1, vi p), (2, vi n), (3, vi m)] [vi 10, vi x] C f_q_apart_79_2 rfl ?_
                    refine m_icmp_ge (tgt := 130) C e_q_apart_83 (by decide) (by omega) (by decide) (fun c41 => ?_) (fun c41 => ?_)
                    · refine m_blk 59 [(8, vi (v + 1)), (11, vi x), (9, vl z40), (6, vl z34), (4, vr 1 z23), (0, vr 0 0), (1, vi p), (2, vi n), (3, vi m)] [] C f_q_apart_130_2 rfl ?_
                      refine m_loc [(8, vi (v + 1)), (6, vl z34), (4, vr 1 z23), (0, vr 0 0), (1, vi p), (2, vi n), (3, vi m)] ⟨rfl, rfl, rfl, rfl, rfl, rfl, rfl, trivial⟩ ?_
                      exact ih59 (v + 1) (by show 0 ≤ (v + 1) ∧ (v + 1) ≤ 10; omega) (by show (40 - (v + 1)) < _; omega)
                    · refine m_blk 89 [(11, vi x), (9, vl z40), (8, vi v), (6, vl z34), (4, vr 1 z23), (0, vr 0 0), (1, vi p), (2, vi n), (3, vi m)] [vl 0, vl z40] C f_q_apart_86_2 rfl ?_
                      refine m_lcmp C e_q_apart_89 (by omega) (by decide) (fun z42 hz42 => ?_)
                      refine m_if_le (tgt := 130) C e_q_apart_90 (by decide) (by omega) (fun c43 => ?_) (fun c43 => ?_)
                      · refine m_blk 59 [(8, vi (v + 1)), (11, vi x), (9, vl z40), (6, vl z34), (4, vr 1 z23), (0, vr 0 0), (1, vi p), (2, vi n), (3, vi m)] [] C f_q_apart_130_2 rfl ?_
                        refine m_loc [(8, vi (v + 1)), (6, vl z34), (4, vr 1 z23), (0, vr 0 0), (1, vi p), (2, vi n), (3, vi m)] ⟨rfl, rfl, rfl, rfl, rfl, rfl, rfl, trivial⟩ ?_
                        exact ih59 (v + 1) (by show 0 ≤ (v + 1) ∧ (v + 1) ≤ 10; omega) (by show (40 - (v + 1)) < _; omega)
                      · refine m_blk 101 [(11, vi x), (9, vl z40), (8, vi v), (6, vl z34), (4, vr 1 z23), (0, vr 0 0), (1, vi p), (2, vi n), (3, vi m)] [vi x, vi m, vi v, vi n, vr 1 z23] C f_q_apart_93_5 rfl ?_
                        refine m_callS C Rm Y [vr 1 z23, vi n, vi v, vi m, vi x] [] (q_both l D B H0 ad _ hT_n22 1125899906842624 z23 n v m x (by show z23 < 200; omega) hO_n22 (by show 0 ≤ 1125899906842624 ∧ 1125899906842624 ≤ 1125899906842624; omega) (by show -1 ≤ n ∧ n ≤ 2147483647; omega) (by show -2147483648 ≤ v ∧ v ≤ 2147483647; omega) (by show -1 ≤ m ∧ m ≤ 2147483647; omega) (by show -2147483648 ≤ x ∧ x ≤ 2147483647; omega)) cl_Mo_392 e_q_apart_101 rfl rfl rfl ⟨by decide, by decide⟩ ?_
                        rintro v44 A45 ⟨z48, rfl, rfl, raw_hz_n47⟩
                        have hz_n47 : 0 ≤ z48 ∧ z48 ≤ 1125899906842624 := raw_hz_n47
                        clear raw_hz_n47
                        show JM g D ad w0 A20 104 [(11, vi x), (9, vl z40), (8, vi v), (6, vl z34), (4, vr 1 z23), (0, vr 0 0), (1, vi p), (2, vi n), (3, vi m)] [vl z48]
                        refine m_blk 111 [(11, vi x), (9, vl z40), (8, vi v), (6, vl z34), (4, vr 1 z23), (0, vr 0 0), (1, vi p), (2, vi n), (3, vi m)] [vi x, vi m, vr 1 z23, vl z40, vl z48] C f_q_apart_104_4 rfl ?_
                        refine m_callS C Rm Y [vr 1 z23, vi m, vi x] [vl z40, vl z48] (q_weightOf l D B H0 ad _ hT_n22 1125899906842624 z23 m x (by show z23 < 200; omega) hO_n22 (by show 0 ≤ 1125899906842624 ∧ 1125899906842624 ≤ 1125899906842624; omega) (by show -1 ≤ m ∧ m ≤ 2147483647; omega) (by show -2147483648 ≤ x ∧ x ≤ 2147483647; omega)) cl_Mo_384 e_q_apart_111 rfl rfl rfl ⟨by decide, by decide⟩ ?_
                        rintro v49 A50 ⟨z53, rfl, rfl, raw_hz_n52⟩
                        have hz_n52 : 0 ≤ z53 ∧ z53 ≤ 1125899906842624 := raw_hz_n52
                        clear raw_hz_n52
                        show JM g D ad w0 A20 114 [(11, vi x), (9, vl z40), (8, vi v), (6, vl z34), (4, vr 1 z23), (0, vr 0 0), (1, vi p), (2, vi n), (3, vi m)] [vl z53, vl z40, vl z48]
                        refine m_blk 116 [(11, vi x), (9, vl z40), (8, vi v), (6, vl z34), (4, vr 1 z23), (0, vr 0 0), (1, vi p), (2, vi n), (3, vi m)] [vl z34, vl z53, vl z40, vl z48] C f_q_apart_114_1 rfl ?_
                        refine m_callS C Rm Y [vl z48, vl z40, vl z53, vl z34] [] (q_areSame l D B H0 ad _ z48 z40 z53 z34 (by show 0 ≤ z48 ∧ z48 ≤ 9223372036854775807; omega) (by show 1 ≤ z40 ∧ z40 ≤ 9223372036854775807; omega) (by show 0 ≤ z53 ∧ z53 ≤ 9223372036854775807; omega) (by show 1 ≤ z34 ∧ z34 ≤ 9223372036854775807; omega)) cl_Mo_396 e_q_apart_116 rfl rfl rfl ⟨by decide, by decide⟩ ?_
                        rintro v54 A55 ⟨z58, rfl, rfl, raw_hz_n57⟩
                        have hz_n57 : z58 = 0 ∨ z58 = 1 := raw_hz_n57
                        clear raw_hz_n57
                        show JM g D ad w0 A20 119 [(11, vi x), (9, vl z40), (8, vi v), (6, vl z34), (4, vr 1 z23), (0, vr 0 0), (1, vi p), (2, vi n), (3, vi m)] [vi z58]
                        refine m_if_ne (tgt := 124) C e_q_apart_119 (by decide) (by omega) (fun c59 => ?_) (fun c59 => ?_)
                        · refine m_blk 79 [(11, vi (x + 1)), (9, vl z40), (8, vi v), (6, vl z34), (4, vr 1 z23), (0, vr 0 0), (1, vi p), (2, vi n), (3, vi m)] [] C f_q_apart_124_2 rfl ?_
                          refine m_loc [(11, vi (x + 1)), (9, vl z40), (8, vi v), (6, vl z34), (4, vr 1 z23), (0, vr 0 0), (1, vi p), (2, vi n), (3, vi m)] ⟨rfl, rfl, rfl, rfl, rfl, rfl, rfl, rfl, rfl, trivial⟩ ?_
                          exact ih79 (x + 1) (by show 0 ≤ (x + 1) ∧ (x + 1) ≤ 10; omega) (by show (40 - (x + 1)) < _; omega)
                        · refine m_blk 123 [(11, vi x), (9, vl z40), (8, vi v), (6, vl z34), (4, vr 1 z23), (0, vr 0 0), (1, vi p), (2, vi n), (3, vi m)] [vi 0] C f_q_apart_122_1 rfl ?_
                          exact m_iret C Rm E e_q_apart_123 ⟨0, rfl, hT_n22, hF_n22, (by show -2147483648 ≤ 0 ∧ 0 ≤ 2147483647; omega), (hI.rm0 hF_n22 hS_n22)⟩
                refine m_loc [(11, vi 0), (9, vl z40), (8, vi v), (6, vl z34), (4, vr 1 z23), (0, vr 0 0), (1, vi p), (2, vi n), (3, vi m)] ⟨rfl, rfl, rfl, rfl, rfl, rfl, rfl, rfl, rfl, trivial⟩ ?_
                exact hd_79 (Int.toNat ((40 - 0)) + 1) 0 (by show 0 ≤ 0 ∧ 0 ≤ 10; omega) (by show (40 - 0) < _; omega)
          refine m_loc [(8, vi 0), (6, vl z34), (4, vr 1 z23), (0, vr 0 0), (1, vi p), (2, vi n), (3, vi m)] ⟨rfl, rfl, rfl, rfl, rfl, rfl, rfl, trivial⟩ ?_
          exact hd_59 (Int.toNat ((40 - 0)) + 1) 0 (by show 0 ≤ 0 ∧ 0 ≤ 10; omega) (by show (40 - 0) < _; omega)
        · refine m_blk 48 [(5, vi z28), (4, vr 1 z23), (0, vr 0 0), (1, vi p), (2, vi n), (3, vi m)] [vi z28] C f_q_apart_46_1 rfl ?_
          exact m_iret C Rm E e_q_apart_48 ⟨z28, rfl, hT_n22, hF_n22, (by show -2147483648 ≤ z28 ∧ z28 ≤ 2147483647; omega), (hI.rm0 hF_n22 hS_n22)⟩
      · subst e_n16
        clear hz_n16
        refine m_if_ne (tgt := 25) C e_q_apart_19 (by decide) (by decide) (fun c60 => (by omega : False).elim) (fun c60 => ?_)
        refine m_blk 24 [(0, vr 0 0), (1, vi p), (2, vi n), (3, vi m)] [vi (-2)] C f_q_apart_22_1 rfl ?_
        exact m_iret C Rm E e_q_apart_24 ⟨(-2), rfl, hT, hE0, (by show -2147483648 ≤ (-2) ∧ (-2) ≤ 2147483647; omega), (hI.rm0 hE0 hI.2.2)⟩
    · subst e_n10
      clear hz_n10
      refine m_if_eq (tgt := 22) C e_q_apart_12 (by decide) (by decide) (fun c61 => ?_) (fun c61 => (by omega : False).elim)
      refine m_blk 24 [(0, vr 0 0), (1, vi p), (2, vi n), (3, vi m)] [vi (-2)] C f_q_apart_22_1 rfl ?_
      exact m_iret C Rm E e_q_apart_24 ⟨(-2), rfl, hT, hE0, (by show -2147483648 ≤ (-2) ∧ (-2) ≤ 2147483647; omega), (hI.rm0 hE0 hI.2.2)⟩
  · subst e_n4
    clear hz_n4
    refine m_if_eq (tgt := 22) C e_q_apart_5 (by decide) (by decide) (fun c62 => ?_) (fun c62 => (by omega : False).elim)
    refine m_blk 24 [(0, vr 0 0), (1, vi p), (2, vi n), (3, vi m)] [vi (-2)] C f_q_apart_22_1 rfl ?_
    exact m_iret C Rm E e_q_apart_24 ⟨(-2), rfl, hT, hE0, (by show -2147483648 ≤ (-2) ∧ (-2) ≤ 2147483647; omega), (hI.rm0 hE0 hI.2.2)⟩
