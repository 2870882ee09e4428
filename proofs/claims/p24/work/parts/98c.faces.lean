/-! the reference: faces that ask about odds (own work, by program) -/
theorem f_q_peak_0_2 : mblkB b_Mo_peak [(0, .aload_n 0, vi 0), (1, .iload_n 1, vi 0)] = true := by decide +kernel
theorem e_q_peak_2 : decode b_Mo_peak 2 = .ok (.invokevirtual 364, 3) := by decide +kernel
theorem e_q_peak_5 : decode b_Mo_peak 5 = .ok (.ifCond .eq 13, 3) := by decide +kernel
theorem f_q_peak_8_3 : mblkB b_Mo_peak [(8, .iload_n 2, vi 0), (9, .iconst (-1), vi (-1)), (10, .bipush 63, vi 63)] = true := by decide +kernel
theorem e_q_peak_12 : decode b_Mo_peak 12 = .ok (.invokestatic 108, 3) := by decide +kernel
theorem e_q_peak_15 : decode b_Mo_peak 15 = .ok (.ifCond .ne 6, 3) := by decide +kernel
theorem f_q_peak_21_3 : mblkB b_Mo_peak [(21, .aload_n 0, vi 0), (22, .iload_n 1, vi 0), (23, .iconst (-1), vi (-1))] = true := by decide +kernel
theorem e_q_peak_24 : decode b_Mo_peak 24 = .ok (.invokevirtual 367, 3) := by decide +kernel
theorem f_q_peak_27_2 : mblkB b_Mo_peak [(27, .astore_n 3, vi 0), (28, .aload_n 0, vi 0)] = true := by decide +kernel
theorem e_q_peak_29 : decode b_Mo_peak 29 = .ok (.getfield 297, 3) := by decide +kernel
theorem e_q_peak_32 : decode b_Mo_peak 32 = .ok (.ifCond .eq 6, 3) := by decide +kernel
theorem f_q_peak_38_2 : mblkB b_Mo_peak [(38, .iload_n 2, vi 0), (39, .iconst (-1), vi (-1))] = true := by decide +kernel
theorem e_q_peak_40 : decode b_Mo_peak 40 = .ok (.if_icmp .eq 10, 3) := by decide +kernel
theorem f_q_peak_50_1 : mblkB b_Mo_peak [(50, .aload_n 0, vi 0)] = true := by decide +kernel
theorem e_q_peak_51 : decode b_Mo_peak 51 = .ok (.getfield 314, 3) := by decide +kernel
theorem e_q_peak_54 : decode b_Mo_peak 54 = .ok (.ireturn, 1) := by decide +kernel
theorem f_q_peak_43_3 : mblkB b_Mo_peak [(43, .aload_n 0, vi 0), (44, .iload_n 1, vi 0), (45, .iload_n 2, vi 0)] = true := by decide +kernel
theorem e_q_peak_46 : decode b_Mo_peak 46 = .ok (.invokevirtual 367, 3) := by decide +kernel
theorem f_q_peak_49_2 : mblkB b_Mo_peak [(49, .astore_n 3, vi 0), (50, .aload_n 0, vi 0)] = true := by decide +kernel
theorem f_q_peak_35_1 : mblkB b_Mo_peak [(35, .bipush (-6), vi (-6))] = true := by decide +kernel
theorem e_q_peak_37 : decode b_Mo_peak 37 = .ok (.ireturn, 1) := by decide +kernel
theorem f_q_peak_18_1 : mblkB b_Mo_peak [(18, .bipush (-2), vi (-2))] = true := by decide +kernel
theorem e_q_peak_20 : decode b_Mo_peak 20 = .ok (.ireturn, 1) := by decide +kernel
set_option maxHeartbeats 40000000 in
set_option maxRecDepth 100000 in
theorem q_peak (l : Launch) (D : va_G) (B : Nat) (H0 : Heap) (ad : mAd) (A : mA) (hT : mTy A)  (p : Int) (n : Int) (hpr : -2147483648 ≤ p ∧ p ≤ 2147483647) (hnr : -2147483648 ≤ n ∧ n ≤ 2147483647) (hI : mI A)  : mMet l D B H0 ad y_Mo_peak b_Mo_peak 4 (some .int) 910 23500 [vr 0 0, vi p, vi n] A (fun v9 A9 => ∃ z : Int, v9 = some (vi z) ∧ mTy A9 ∧ mEq (rm 0) A A9 ∧ (-2147483648 ≤ z ∧ z ≤ 2147483647) ∧ (mI A9)) := by
  refine m_met (by decide) rfl (fun g w0 C Rm Y E => ?_)
  have hE0 : mEq (rm 0) A A := mEq.rfl'
  show JM g D ad w0 A 0 [(0, vr 0 0), (1, vi p), (2, vi n)] []
  have r0 : 0 ≤ A 0 0 0 ∧ A 0 0 0 ≤ 6 := hT 0 0 0
  refine m_blk 2 [(0, vr 0 0), (1, vi p), (2, vi n)] [vi p, vr 0 0] C f_q_peak_0_2 rfl ?_
  refine m_callV C Rm Y [vi p] [] (q_isProgram l D B H0 ad _ hT p (by show -2147483648 ≤ p ∧ p ≤ 2147483647; omega)) cl_Mo_364 rfl (by decide) rfl rfl e_q_peak_2 rfl rfl rfl ⟨by decide, by decide⟩ ?_
  rintro v1 A2 ⟨z5, rfl, rfl, raw_hz_n4⟩
  show JM g D ad w0 A 5 [(0, vr 0 0), (1, vi p), (2, vi n)] [vi z5]
  have hz_n4 : z5 = 1 ∧ 0 ≤ p ∧ p < A 0 0 0 ∨ z5 = 0 ∧ ¬ (0 ≤ p ∧ p < A 0 0 0) := raw_hz_n4
  clear raw_hz_n4
  rcases hz_n4 with ⟨e_n4, hz_n4⟩ | ⟨e_n4, hz_n4⟩
  · subst e_n4
    refine m_if_eq (tgt := 18) C e_q_peak_5 (by decide) (by decide) (fun c6 => (by omega : False).elim) (fun c6 => ?_)
    refine m_blk 12 [(0, vr 0 0), (1, vi p), (2, vi n)] [vi 63, vi (-1), vi n] C f_q_peak_8_3 rfl ?_
    refine m_callS C Rm Y [vi n, vi (-1), vi 63] [] (q_in l D B H0 ad _ n (-1) 63 (by show -2147483648 ≤ n ∧ n ≤ 2147483647; omega) (by show -2147483648 ≤ (-1) ∧ (-1) ≤ 2147483647; omega) (by show -2147483648 ≤ 63 ∧ 63 ≤ 2147483647; omega)) cl_Mo_108 e_q_peak_12 rfl rfl rfl ⟨by decide, by decide⟩ ?_
    rintro v7 A8 ⟨z11, rfl, rfl, raw_hz_n10⟩
    show JM g D ad w0 A 15 [(0, vr 0 0), (1, vi p), (2, vi n)] [vi z11]
    have hz_n10 : z11 = 1 ∧ (-1) ≤ n ∧ n ≤ 63 ∨ z11 = 0 ∧ ¬ ((-1) ≤ n ∧ n ≤ 63) := raw_hz_n10
    clear raw_hz_n10
    rcases hz_n10 with ⟨e_n10, hz_n10⟩ | ⟨e_n10, hz_n10⟩
    · subst e_n10
      refine m_if_ne (tgt := 21) C e_q_peak_15 (by decide) (by decide) (fun c12 => ?_) (fun c12 => (by omega : False).elim)
      refine m_blk 24 [(0, vr 0 0), (1, vi p), (2, vi n)] [vi (-1), vi p, vr 0 0] C f_q_peak_21_3 rfl ?_
      refine m_callV C Rm Y [vi p, vi (-1)] [] (q_odds l D B H0 ad _ hT p (-1) (by show 0 ≤ p ∧ p ≤ 5; omega) ((hI.ok (by omega)).rmk hE0) (by show -2147483648 ≤ (-1) ∧ (-1) ≤ 2147483647; omega) hI.2.2) cl_Mo_367 rfl (by decide) rfl rfl e_q_peak_24 rfl rfl rfl ⟨by decide, by decide⟩ ?_
      rintro v13 A14 ⟨z17, rfl, hT_n16, hE_n16, raw_hz_n16, raw_hu_n16, raw_hO_n16, raw_hS_n16⟩
      have hF_n16 := hE0.trans (hE_n16.sub (rm_rm (Nat.zero_le _)))
      have hz_n16 : 0 ≤ (z17 : Int) ∧ (z17 : Int) < A14 0 0 33 := raw_hz_n16
      clear raw_hz_n16
      have hu_n16 : A14 0 0 33 ≤ 24 := raw_hu_n16
      clear raw_hu_n16
      have hO_n16 : oG A14 z17 1125899906842624 := raw_hO_n16
      clear raw_hO_n16
      have hS_n16 : mS A14 := raw_hS_n16
      clear raw_hS_n16
      show JM g D ad w0 A14 27 [(0, vr 0 0), (1, vi p), (2, vi n)] [vr 1 z17]
      refine m_blk 29 [(3, vr 1 z17), (0, vr 0 0), (1, vi p), (2, vi n)] [vr 0 0] C f_q_peak_27_2 rfl ?_
      obtain ⟨x18, hx18⟩ : ∃ x, A14 0 0 34 = x := ⟨_, rfl⟩
      have rx18 : 0 ≤ x18 ∧ x18 ≤ 1 := mrg hT_n16 hx18 rfl
      refine m_geti C e_q_peak_29 fg_Mo_297 rfl (by decide) rfl x18 hx18 ?_
      refine m_if_eq (tgt := 38) C e_q_peak_32 (by decide) (by omega) (fun c19 => ?_) (fun c19 => ?_)
      · refine m_blk 40 [(3, vr 1 z17), (0, vr 0 0), (1, vi p), (2, vi n)] [vi (-1), vi n] C f_q_peak_38_2 rfl ?_
        refine m_icmp_eq (tgt := 50) C e_q_peak_40 (by decide) (by omega) (by decide) (fun c20 => ?_) (fun c20 => ?_)
        · refine m_blk 51 [(3, vr 1 z17), (0, vr 0 0), (1, vi p), (2, vi n)] [vr 0 0] C f_q_peak_50_1 rfl ?_
          obtain ⟨x21, hx21⟩ : ∃ x, A14 0 0 35 = x := ⟨_, rfl⟩
          have rx21 : (-2147483648) ≤ x21 ∧ x21 ≤ 2147483647 := mrg hT_n16 hx21 rfl
          refine m_geti C e_q_peak_51 fg_Mo_314 rfl (by decide) rfl x21 hx21 ?_
          exact m_iret C Rm E e_q_peak_54 ⟨x21, rfl, hT_n16, hF_n16, (by show -2147483648 ≤ x21 ∧ x21 ≤ 2147483647; omega), (hI.rm0 hF_n16 hS_n16)⟩
        · refine m_blk 46 [(3, vr 1 z17), (0, vr 0 0), (1, vi p), (2, vi n)] [vi n, vi p, vr 0 0] C f_q_peak_43_3 rfl ?_
          refine m_callV C Rm Y [vi p, vi n] [] (q_odds l D B H0 ad _ hT_n16 p n (by show 0 ≤ p ∧ p ≤ 5; omega) ((hI.ok (by omega)).rmk hF_n16) (by show -2147483648 ≤ n ∧ n ≤ 2147483647; omega) hS_n16) cl_Mo_367 rfl (by decide) rfl rfl e_q_peak_46 rfl rfl rfl ⟨by decide, by decide⟩ ?_
          rintro v22 A23 ⟨z26, rfl, hT_n25, hE_n25, raw_hz_n25, raw_hu_n25, raw_hO_n25, raw_hS_n25⟩
          have hF_n25 := hF_n16.trans (hE_n25.sub (rm_rm (Nat.zero_le _)))
          have hz_n25 : 0 ≤ (z26 : Int) ∧ (z26 : Int) < A23 0 0 33 := raw_hz_n25
          clear raw_hz_n25
          have hu_n25 : A23 0 0 33 ≤ 24 := raw_hu_n25
          clear raw_hu_n25
          have hO_n25 : oG A23 z26 1125899906842624 := raw_hO_n25
          clear raw_hO_n25
          have hS_n25 : mS A23 := raw_hS_n25
          clear raw_hS_n25
          show JM g D ad w0 A23 49 [(3, vr 1 z17), (0, vr 0 0), (1, vi p), (2, vi n)] [vr 1 z26]
          refine m_blk 51 [(3, vr 1 z26), (0, vr 0 0), (1, vi p), (2, vi n)] [vr 0 0] C f_q_peak_49_2 rfl ?_
          obtain ⟨x27, hx27⟩ : ∃ x, A23 0 0 35 = x := ⟨_, rfl⟩
          have rx27 : (-2147483648) ≤ x27 ∧ x27 ≤ 2147483647 := mrg hT_n25 hx27 rfl
          refine m_geti C e_q_peak_51 fg_Mo_314 rfl (by decide) rfl x27 hx27 ?_
          exact m_iret C Rm E e_q_peak_54 ⟨x27, rfl, hT_n25, hF_n25, (by show -2147483648 ≤ x27 ∧ x27 ≤ 2147483647; omega), (hI.rm0 hF_n25 hS_n25)⟩
      · refine m_blk 37 [(3, vr 1 z17), (0, vr 0 0), (1, vi p), (2, vi n)] [vi (-6)] C f_q_peak_35_1 rfl ?_
        exact m_iret C Rm E e_q_peak_37 ⟨(-6), rfl, hT_n16, hF_n16, (by show -2147483648 ≤ (-6) ∧ (-6) ≤ 2147483647; omega), (hI.rm0 hF_n16 hS_n16)⟩
    · subst e_n10
      refine m_if_ne (tgt := 21) C e_q_peak_15 (by decide) (by decide) (fun c28 => (by omega : False).elim) (fun c28 => ?_)
      refine m_blk 20 [(0, vr 0 0), (1, vi p), (2, vi n)] [vi (-2)] C f_q_peak_18_1 rfl ?_
      exact m_iret C Rm E e_q_peak_20 ⟨(-2), rfl, hT, hE0, (by show -2147483648 ≤ (-2) ∧ (-2) ≤ 2147483647; omega), (hI.rm0 hE0 hI.2.2)⟩
  · subst e_n4
    clear hz_n4
    refine m_if_eq (tgt := 18) C e_q_peak_5 (by decide) (by decide) (fun c29 => ?_) (fun c29 => (by omega : False).elim)
    refine m_blk 20 [(0, vr 0 0), (1, vi p), (2, vi n)] [vi (-2)] C f_q_peak_18_1 rfl ?_
    exact m_iret C Rm E e_q_peak_20 ⟨(-2), rfl, hT, hE0, (by show -2147483648 ≤ (-2) ∧ (-2) ≤ 2147483647; omega), (hI.rm0 hE0 hI.2.2)⟩
