/-! the reference: questions' frame; isSo (own work, by program) -/
theorem mI.rm0 {A A9 : mA} (h : mI A) (q : mEq (rm 0) A A9) (k : mS A9) : mI A9 := by
  have e : A9 0 0 0 = A 0 0 0 := q 0 0 0 rfl
  have e2 : A9 0 0 37 = A 0 0 37 := q 0 0 37 rfl
  have o : aOk A (A 0 0 0) := h.1
  have o9 := o.rmk q
  refine ⟨fun p hp => o9 p (by omega), ?_, k⟩
  rw [e, e2]
  exact h.2.1
theorem mI.ok {A : mA} (h : mI A) {p : Int} (hp : p < A 0 0 0) : aOk A (p + 1) := by
  have o : aOk A (A 0 0 0) := h.1
  exact o.le (by omega)
theorem f_q_isSo_0_3 : mblkB b_Mo_isSo [(0, .aload_n 0, vi 0), (1, .iload_n 2, vi 0), (2, .iconst (-1), vi (-1))] = true := by decide +kernel
theorem e_q_isSo_3 : decode b_Mo_isSo 3 = .ok (.invokevirtual 367, 3) := by decide +kernel
theorem f_q_isSo_6_3 : mblkB b_Mo_isSo [(6, .astore 4, vi 0), (8, .aload_n 0, vi 0), (9, .aload 4, vi 0)] = true := by decide +kernel
theorem e_q_isSo_11 : decode b_Mo_isSo 11 = .ok (.invokevirtual 380, 3) := by decide +kernel
theorem e_q_isSo_14 : decode b_Mo_isSo 14 = .ok (.ifCond .ne 19, 3) := by decide +kernel
theorem f_q_isSo_33_1 : mblkB b_Mo_isSo [(33, .iconst 0, vi 0)] = true := by decide +kernel
theorem e_q_isSo_34 : decode b_Mo_isSo 34 = .ok (.ireturn, 1) := by decide +kernel
theorem f_q_isSo_17_4 : mblkB b_Mo_isSo [(17, .aload_n 0, vi 0), (18, .iload_n 1, vi 0), (19, .aload 4, vi 0), (21, .iload_n 3, vi 0)] = true := by decide +kernel
theorem e_q_isSo_22 : decode b_Mo_isSo 22 = .ok (.invokevirtual 418, 3) := by decide +kernel
theorem f_q_isSo_25_1 : mblkB b_Mo_isSo [(25, .iconst (-1), vi (-1))] = true := by decide +kernel
theorem e_q_isSo_26 : decode b_Mo_isSo 26 = .ok (.if_icmp .ne 7, 3) := by decide +kernel
theorem f_q_isSo_29_2 : mblkB b_Mo_isSo [(29, .iconst 1, vi 1), (30, .goto 4, vi 34)] = true := by decide +kernel
set_option maxHeartbeats 40000000 in
set_option maxRecDepth 100000 in
theorem q_isSo (l : Launch) (D : va_G) (B : Nat) (H0 : Heap) (ad : mAd) (A : mA) (hT : mTy A)  (s : Int) (p : Int) (n : Int) (hs : 0 ≤ s ∧ s ≤ 3) (hp : 0 ≤ p ∧ p < A 0 0 0) (hn : -1 ≤ n ∧ n ≤ 2147483647) (hI : mI A)  : mMet l D B H0 ad y_Mo_isSo b_Mo_isSo 5 (some .boolean) 907 23400 [vr 0 0, vi s, vi p, vi n] A (fun v9 A9 => ∃ z : Int, v9 = some (vi z) ∧ mTy A9 ∧ mEq (rm 0) A A9 ∧ (z = 0 ∨ z = 1) ∧ (mI A9)) := by
  refine m_met (by decide) rfl (fun g w0 C Rm Y E => ?_)
  have hE0 : mEq (rm 0) A A := mEq.rfl'
  show JM g D ad w0 A 0 [(0, vr 0 0), (1, vi s), (2, vi p), (3, vi n)] []
  have r0 : 0 ≤ A 0 0 0 ∧ A 0 0 0 ≤ 6 := hT 0 0 0
  refine m_blk 3 [(0, vr 0 0), (1, vi s), (2, vi p), (3, vi n)] [vi (-1), vi p, vr 0 0] C f_q_isSo_0_3 rfl ?_
  refine m_callV C Rm Y [vi p, vi (-1)] [] (q_odds l D B H0 ad _ hT p (-1) (by show 0 ≤ p ∧ p ≤ 5; omega) (hI.ok (by omega)) (by show -2147483648 ≤ (-1) ∧ (-1) ≤ 2147483647; omega) hI.2.2) cl_Mo_367 rfl (by decide) rfl rfl e_q_isSo_3 rfl rfl rfl ⟨by decide, by decide⟩ ?_
  rintro v1 A2 ⟨z5, rfl, hT_n4, hE_n4, raw_hz_n4, raw_hu_n4, raw_hO_n4, raw_hS_n4⟩
  have hF_n4 := hE0.trans (hE_n4.sub (rm_rm (Nat.zero_le _)))
  have hz_n4 : 0 ≤ (z5 : Int) ∧ (z5 : Int) < A2 0 0 33 := raw_hz_n4
  clear raw_hz_n4
  have hu_n4 : A2 0 0 33 ≤ 24 := raw_hu_n4
  clear raw_hu_n4
  have hO_n4 : oG A2 z5 1125899906842624 := raw_hO_n4
  clear raw_hO_n4
  have hS_n4 : mS A2 := raw_hS_n4
  clear raw_hS_n4
  show JM g D ad w0 A2 6 [(0, vr 0 0), (1, vi s), (2, vi p), (3, vi n)] [vr 1 z5]
  refine m_blk 11 [(4, vr 1 z5), (0, vr 0 0), (1, vi s), (2, vi p), (3, vi n)] [vr 1 z5, vr 0 0] C f_q_isSo_6_3 rfl ?_
  refine m_callV C Rm Y [vr 1 z5] [] (q_against l D B H0 ad _ hT_n4 z5 (by show z5 < 200; omega)) cl_Mo_380 rfl (by decide) rfl rfl e_q_isSo_11 rfl rfl rfl ⟨by decide, by decide⟩ ?_
  rintro v6 A7 ⟨z10, rfl, rfl, raw_hz_n9, raw_hn_n9⟩
  have hz_n9 : -7 ≤ z10 ∧ z10 ≤ 0 := raw_hz_n9
  clear raw_hz_n9
  have hn_n9 : nQ A2 z5 z10 := raw_hn_n9
  clear raw_hn_n9
  show JM g D ad w0 A2 14 [(4, vr 1 z5), (0, vr 0 0), (1, vi s), (2, vi p), (3, vi n)] [vi z10]
  refine m_if_ne (tgt := 33) C e_q_isSo_14 (by decide) (by omega) (fun c11 => ?_) (fun c11 => ?_)
  · refine m_blk 34 [(4, vr 1 z5), (0, vr 0 0), (1, vi s), (2, vi p), (3, vi n)] [vi 0] C f_q_isSo_33_1 rfl ?_
    exact m_zret C Rm E (Or.inl rfl) e_q_isSo_34 ⟨0, rfl, hT_n4, hF_n4, (by show 0 = 0 ∨ 0 = 1; omega), (hI.rm0 hF_n4 hS_n4)⟩
  · refine m_blk 22 [(4, vr 1 z5), (0, vr 0 0), (1, vi s), (2, vi p), (3, vi n)] [vi n, vr 1 z5, vi s, vr 0 0] C f_q_isSo_17_4 rfl ?_
    refine m_callV C Rm Y [vi s, vr 1 z5, vi n] [] (q_otherwise l D B H0 ad _ hT_n4 1125899906842624 s z5 n (by show 0 ≤ s ∧ s ≤ 3; omega) (by show z5 < 200; omega) hO_n4 (by show 0 ≤ 1125899906842624 ∧ 1125899906842624 ≤ 1125899906842624; omega) (by show -1 ≤ n ∧ n ≤ 2147483647; omega) (hn_n9 (by omega))) cl_Mo_418 rfl (by decide) rfl rfl e_q_isSo_22 rfl rfl rfl ⟨by decide, by decide⟩ ?_
    rintro v12 A13 ⟨z16, rfl, rfl, raw_hz_n15⟩
    have hz_n15 : -1 ≤ z16 ∧ z16 ≤ 40 := raw_hz_n15
    clear raw_hz_n15
    show JM g D ad w0 A2 25 [(4, vr 1 z5), (0, vr 0 0), (1, vi s), (2, vi p), (3, vi n)] [vi z16]
    refine m_blk 26 [(4, vr 1 z5), (0, vr 0 0), (1, vi s), (2, vi p), (3, vi n)] [vi (-1), vi z16] C f_q_isSo_25_1 rfl ?_
    refine m_icmp_ne (tgt := 33) C e_q_isSo_26 (by decide) (by omega) (by decide) (fun c17 => ?_) (fun c17 => ?_)
    · refine m_blk 34 [(4, vr 1 z5), (0, vr 0 0), (1, vi s), (2, vi p), (3, vi n)] [vi 0] C f_q_isSo_33_1 rfl ?_
      exact m_zret C Rm E (Or.inl rfl) e_q_isSo_34 ⟨0, rfl, hT_n4, hF_n4, (by show 0 = 0 ∨ 0 = 1; omega), (hI.rm0 hF_n4 hS_n4)⟩
    · refine m_blk 34 [(4, vr 1 z5), (0, vr 0 0), (1, vi s), (2, vi p), (3, vi n)] [vi 1] C f_q_isSo_29_2 rfl ?_
      exact m_zret C Rm E (Or.inr rfl) e_q_isSo_34 ⟨1, rfl, hT_n4, hF_n4, (by show 1 = 0 ∨ 1 = 1; omega), (hI.rm0 hF_n4 hS_n4)⟩
