/-! the reference: lots (own work, by program) -/
theorem f_q_lotsOf_0_6 : mblkB b_Mo_lotsOf [(0, .iconst 0, vi 0), (1, .istore_n 3, vi 0), (2, .iconst 0, vi 0), (3, .istore 4, vi 0), (5, .iconst 1, vi 1), (6, .istore 5, vi 0)] = true := by decide +kernel
theorem f_q_lotsOf_8_1 : mblkB b_Mo_lotsOf [(8, .iload 5, vi 0)] = true := by decide +kernel
theorem e_q_lotsOf_10 : decode b_Mo_lotsOf 10 = .ok (.ifCond .eq 121, 3) := by decide +kernel
theorem f_q_lotsOf_131_1 : mblkB b_Mo_lotsOf [(131, .aload_n 0, vi 0)] = true := by decide +kernel
theorem e_q_lotsOf_132 : decode b_Mo_lotsOf 132 = .ok (.getfield 27, 3) := by decide +kernel
theorem f_q_lotsOf_135_1 : mblkB b_Mo_lotsOf [(135, .iload_n 1, vi 0)] = true := by decide +kernel
theorem e_q_lotsOf_136 : decode b_Mo_lotsOf 136 = .ok (.aaload, 1) := by decide +kernel
theorem f_q_lotsOf_137_2 : mblkB b_Mo_lotsOf [(137, .iload_n 2, vi 0), (138, .iload 4, vi 0)] = true := by decide +kernel
theorem e_q_lotsOf_140 : decode b_Mo_lotsOf 140 = .ok (.iastore, 1) := by decide +kernel
theorem f_q_lotsOf_141_2 : mblkB b_Mo_lotsOf [(141, .iload_n 3, vi 0), (142, .iconst 2, vi 2)] = true := by decide +kernel
theorem e_q_lotsOf_143 : decode b_Mo_lotsOf 143 = .ok (.if_icmp .eq 25, 3) := by decide +kernel
theorem e_q_lotsOf_168 : decode b_Mo_lotsOf 168 = .ok (.return_, 1) := by decide +kernel
theorem f_q_lotsOf_146_2 : mblkB b_Mo_lotsOf [(146, .iload_n 3, vi 0), (147, .iconst 4, vi 4)] = true := by decide +kernel
theorem e_q_lotsOf_148 : decode b_Mo_lotsOf 148 = .ok (.if_icmp .eq 20, 3) := by decide +kernel
theorem f_q_lotsOf_151_2 : mblkB b_Mo_lotsOf [(151, .iload_n 3, vi 0), (152, .bipush 8, vi 8)] = true := by decide +kernel
theorem e_q_lotsOf_154 : decode b_Mo_lotsOf 154 = .ok (.if_icmp .eq 14, 3) := by decide +kernel
theorem f_q_lotsOf_157_2 : mblkB b_Mo_lotsOf [(157, .iload_n 3, vi 0), (158, .bipush 16, vi 16)] = true := by decide +kernel
theorem e_q_lotsOf_160 : decode b_Mo_lotsOf 160 = .ok (.if_icmp .eq 8, 3) := by decide +kernel
theorem f_q_lotsOf_163_2 : mblkB b_Mo_lotsOf [(163, .aload_n 0, vi 0), (164, .iconst 1, vi 1)] = true := by decide +kernel
theorem e_q_lotsOf_165 : decode b_Mo_lotsOf 165 = .ok (.putfield 155, 3) := by decide +kernel
theorem f_q_lotsOf_13_1 : mblkB b_Mo_lotsOf [(13, .aload_n 0, vi 0)] = true := by decide +kernel
theorem e_q_lotsOf_14 : decode b_Mo_lotsOf 14 = .ok (.getfield 155, 3) := by decide +kernel
theorem e_q_lotsOf_17 : decode b_Mo_lotsOf 17 = .ok (.ifCond .ne 114, 3) := by decide +kernel
theorem f_q_lotsOf_20_2 : mblkB b_Mo_lotsOf [(20, .iload 4, vi 0), (22, .bipush 8, vi 8)] = true := by decide +kernel
theorem e_q_lotsOf_24 : decode b_Mo_lotsOf 24 = .ok (.if_icmp .ne 9, 3) := by decide +kernel
theorem f_q_lotsOf_33_1 : mblkB b_Mo_lotsOf [(33, .iload 4, vi 0)] = true := by decide +kernel
theorem e_q_lotsOf_35 : decode b_Mo_lotsOf 35 = .ok (.ifCond .le 7, 3) := by decide +kernel
theorem f_q_lotsOf_42_4 : mblkB b_Mo_lotsOf [(42, .aload_n 0, vi 0), (43, .iconst 3, vi 3), (44, .iconst 0, vi 0), (45, .bipush 9, vi 9)] = true := by decide +kernel
theorem e_q_lotsOf_47 : decode b_Mo_lotsOf 47 = .ok (.invokevirtual 198, 3) := by decide +kernel
theorem f_q_lotsOf_50_3 : mblkB b_Mo_lotsOf [(50, .istore 6, vi 0), (52, .aload_n 0, vi 0), (53, .bipush 58, vi 58)] = true := by decide +kernel
theorem e_q_lotsOf_55 : decode b_Mo_lotsOf 55 = .ok (.invokevirtual 188, 3) := by decide +kernel
theorem f_q_lotsOf_58_4 : mblkB b_Mo_lotsOf [(58, .aload_n 0, vi 0), (59, .iconst 3, vi 3), (60, .iconst 1, vi 1), (61, .bipush 16, vi 16)] = true := by decide +kernel
theorem e_q_lotsOf_63 : decode b_Mo_lotsOf 63 = .ok (.invokevirtual 198, 3) := by decide +kernel
theorem f_q_lotsOf_66_2 : mblkB b_Mo_lotsOf [(66, .istore 7, vi 0), (68, .aload_n 0, vi 0)] = true := by decide +kernel
theorem e_q_lotsOf_69 : decode b_Mo_lotsOf 69 = .ok (.getfield 155, 3) := by decide +kernel
theorem e_q_lotsOf_72 : decode b_Mo_lotsOf 72 = .ok (.ifCond .eq 4, 3) := by decide +kernel
theorem f_q_lotsOf_76_1 : mblkB b_Mo_lotsOf [(76, .aload_n 0, vi 0)] = true := by decide +kernel
theorem e_q_lotsOf_77 : decode b_Mo_lotsOf 77 = .ok (.getfield 42, 3) := by decide +kernel
theorem f_q_lotsOf_80_1 : mblkB b_Mo_lotsOf [(80, .iload_n 1, vi 0)] = true := by decide +kernel
theorem e_q_lotsOf_81 : decode b_Mo_lotsOf 81 = .ok (.aaload, 1) := by decide +kernel
theorem f_q_lotsOf_82_1 : mblkB b_Mo_lotsOf [(82, .aload_n 0, vi 0)] = true := by decide +kernel
theorem e_q_lotsOf_83 : decode b_Mo_lotsOf 83 = .ok (.getfield 195, 3) := by decide +kernel
theorem f_q_lotsOf_86_1 : mblkB b_Mo_lotsOf [(86, .iload 6, vi 0)] = true := by decide +kernel
theorem e_q_lotsOf_88 : decode b_Mo_lotsOf 88 = .ok (.iastore, 1) := by decide +kernel
theorem f_q_lotsOf_89_1 : mblkB b_Mo_lotsOf [(89, .aload_n 0, vi 0)] = true := by decide +kernel
theorem e_q_lotsOf_90 : decode b_Mo_lotsOf 90 = .ok (.getfield 45, 3) := by decide +kernel
theorem f_q_lotsOf_93_1 : mblkB b_Mo_lotsOf [(93, .iload_n 1, vi 0)] = true := by decide +kernel
theorem e_q_lotsOf_94 : decode b_Mo_lotsOf 94 = .ok (.aaload, 1) := by decide +kernel
theorem f_q_lotsOf_95_1 : mblkB b_Mo_lotsOf [(95, .aload_n 0, vi 0)] = true := by decide +kernel
theorem e_q_lotsOf_96 : decode b_Mo_lotsOf 96 = .ok (.getfield 195, 3) := by decide +kernel
theorem f_q_lotsOf_99_1 : mblkB b_Mo_lotsOf [(99, .iload 7, vi 0)] = true := by decide +kernel
theorem e_q_lotsOf_101 : decode b_Mo_lotsOf 101 = .ok (.iastore, 1) := by decide +kernel
theorem f_q_lotsOf_102_2 : mblkB b_Mo_lotsOf [(102, .aload_n 0, vi 0), (103, .dup, vi 0)] = true := by decide +kernel
theorem e_q_lotsOf_104 : decode b_Mo_lotsOf 104 = .ok (.getfield 195, 3) := by decide +kernel
theorem f_q_lotsOf_107_2 : mblkB b_Mo_lotsOf [(107, .iconst 1, vi 1), (108, .iadd, vi 0)] = true := by decide +kernel
theorem e_q_lotsOf_109 : decode b_Mo_lotsOf 109 = .ok (.putfield 195, 3) := by decide +kernel
theorem f_q_lotsOf_112_7 : mblkB b_Mo_lotsOf [(112, .iload_n 3, vi 0), (113, .iload 7, vi 0), (115, .iadd, vi 0), (116, .istore_n 3, vi 0), (117, .iinc 4 1, vi 1), (120, .aload_n 0, vi 0), (121, .bipush 44, vi 44)] = true := by decide +kernel
theorem e_q_lotsOf_123 : decode b_Mo_lotsOf 123 = .ok (.invokevirtual 173, 3) := by decide +kernel
theorem f_q_lotsOf_126_2 : mblkB b_Mo_lotsOf [(126, .istore 5, vi 0), (128, .goto (-120), vi 8)] = true := by decide +kernel
theorem e_q_lotsOf_75 : decode b_Mo_lotsOf 75 = .ok (.return_, 1) := by decide +kernel
theorem f_q_lotsOf_38_1 : mblkB b_Mo_lotsOf [(38, .aload_n 0, vi 0)] = true := by decide +kernel
theorem e_q_lotsOf_39 : decode b_Mo_lotsOf 39 = .ok (.invokevirtual 176, 3) := by decide +kernel
theorem f_q_lotsOf_27_2 : mblkB b_Mo_lotsOf [(27, .aload_n 0, vi 0), (28, .iconst 1, vi 1)] = true := by decide +kernel
theorem e_q_lotsOf_29 : decode b_Mo_lotsOf 29 = .ok (.putfield 155, 3) := by decide +kernel
theorem e_q_lotsOf_32 : decode b_Mo_lotsOf 32 = .ok (.return_, 1) := by decide +kernel
set_option maxHeartbeats 40000000 in
set_option maxRecDepth 100000 in
theorem q_lotsOf (l : Launch) (D : va_G) (B : Nat) (H0 : Heap) (ad : mAd) (A : mA) (hS : mStr D ad) (hT : mTy A)  (p : Int) (i : Int) (hp : A 0 0 0 = p ∧ 0 ≤ p ∧ p ≤ 5) (hi : 0 ≤ i ∧ i ≤ 15) (hb : A 0 0 24 ≤ A 0 0 23 ∧ A 0 0 23 ≤ A 0 0 22) (hn : pT A) (hl : pL A)  : mMet l D B H0 ad y_Mo_lotsOf b_Mo_lotsOf 8 none 8 330 [vr 0 0, vi p, vi i] A (fun v9 A9 => v9 = none ∧ mTy A9 ∧ mEq (lo p.toNat) A A9 ∧ (A9 0 0 24 ≤ A9 0 0 23 ∧ A9 0 0 23 ≤ A9 0 0 22) ∧ (pT A9) ∧ (A 0 0 24 ≤ A9 0 0 24 ∧ A 0 0 29 ≤ A9 0 0 29) ∧ (pLo p.toNat i.toNat A A9) ∧ (lQ p.toNat (A 0 0 29) A A9) ∧ (lNm p.toNat i.toNat A A9)) := by
  refine m_met (by decide) rfl (fun g w0 C Rm Y E => ?_)
  have hE0 : mEq (lo p.toNat) A A := mEq.rfl'
  show JM g D ad w0 A 0 [(0, vr 0 0), (1, vi p), (2, vi i)] []
  have rt : A 0 0 22 ≤ 120 := (hT 0 0 22).2
  have rd9 : 0 ≤ A 0 0 29 ∧ 0 ≤ A 0 0 30 := ⟨(hT 0 0 29).1, (hT 0 0 30).1⟩
  rcases (show A 0 0 31 = 0 ∨ A 0 0 31 = 1 from by have w8 : 0 ≤ A 0 0 31 ∧ A 0 0 31 ≤ 1 := hT 0 0 31; omega) with g0 | g0
  · have hl0 := hl g0
    refine m_blk 8 [(5, vi 1), (4, vi 0), (3, vi 0), (0, vr 0 0), (1, vi p), (2, vi i)] [] C f_q_lotsOf_0_6 rfl ?_
    have hd_8 : ∀ (N : Nat) (A2 : mA) (b : Int) (m : Int) (s : Int), mTy A2 → mEq (lo p.toNat) A A2 → A2 0 0 24 ≤ A2 0 0 23 ∧ A2 0 0 23 ≤ A2 0 0 22 → pT A2 → A 0 0 24 ≤ A2 0 0 24 ∧ A2 0 0 29 = A 0 0 29 + m ∧ A2 0 0 22 = A 0 0 22 ∧ A2 0 0 30 = A 0 0 30 → 0 ≤ m ∧ m ≤ 8 ∧ 0 ≤ s ∧ s ≤ 16 * m → b = 0 ∨ b = 1 → b = 1 ∨ 1 ≤ m → s = ws (A2 42 p.toNat) (A 0 0 29).toNat m.toNat → lQ p.toNat (A 0 0 29) A A2 → A2 36 p.toNat = A 36 p.toNat → pLw A A2 → (20 - m) < (N : Int) → JM g D ad w0 A2 8 [(5, vi b), (4, vi m), (3, vi s), (2, vi i), (1, vi p), (0, vr 0 0)] [] := by
      intro N
      induction N with
      | zero => intro A2 b m s hT2 hE2 ib iT im iv ic id9 is9 iL i36 iw hm; exact absurd hm (by omega)
      | succ N ih =>
        intro A2 b m s hT2 hE2 ib iT im iv ic id9 is9 iL i36 iw hm
        rcases (show A2 0 0 31 = 0 ∨ A2 0 0 31 = 1 from by have w8 : 0 ≤ A2 0 0 31 ∧ A2 0 0 31 ≤ 1 := hT2 0 0 31; omega) with g2 | g2
        · have u2 : A 0 0 24 - 3 * A 0 0 29 ≤ A2 0 0 24 - 3 * A2 0 0 29 := (iw g2).2
          have g0 : A 0 0 31 = 0 := (iw g2).1
          have hl0 := hl g0
          refine m_blk 10 [(5, vi b), (4, vi m), (3, vi s), (2, vi i), (1, vi p), (0, vr 0 0)] [vi b] C f_q_lotsOf_8_1 rfl ?_
          refine m_if_eq (tgt := 131) C e_q_lotsOf_10 (by decide) (by omega) (fun c1 => ?_) (fun c1 => ?_)
          · refine m_blk 132 [(5, vi b), (4, vi m), (3, vi s), (2, vi i), (1, vi p), (0, vr 0 0)] [vr 0 0] C f_q_lotsOf_131_1 rfl ?_
            refine m_getr C e_q_lotsOf_132 fg_Mo_27 rfl (by decide) rfl ?_
            refine m_blk 136 [(5, vi b), (4, vi m), (3, vi s), (2, vi i), (1, vi p), (0, vr 0 0)] [vi p, vr 16 0] C f_q_lotsOf_135_1 rfl ?_
            refine m_aald C p.toNat e_q_lotsOf_136 rfl rfl rfl (by decide) (by decide) (by omega) (by show p < ((6 : Nat) : Int); omega) (mz _ _) ?_
            refine m_blk 140 [(5, vi b), (4, vi m), (3, vi s), (2, vi i), (1, vi p), (0, vr 0 0)] [vi m, vi i, vr 36 p.toNat] C f_q_lotsOf_137_2 rfl ?_
            refine m_iast C e_q_lotsOf_140 rfl (by omega) (by decide) (by omega) (by show i < ((16 : Nat) : Int); omega) ?_
            have t2 : mTy (mu A2 36 p.toNat i.toNat m) := hT2.mu (by show (-1) ≤ m ∧ m ≤ 9; omega)
            have q3 := hE2.mu (f := 36) (k := p.toNat) (j := i.toNat) (z := m) (by simp [lo])
            refine m_blk 143 [(5, vi b), (4, vi m), (3, vi s), (2, vi i), (1, vi p), (0, vr 0 0)] [vi 2, vi s] C f_q_lotsOf_141_2 rfl ?_
            refine m_icmp_eq (tgt := 168) C e_q_lotsOf_143 (by decide) (by omega) (by decide) (fun c4 => ?_) (fun c4 => ?_)
            · exact m_vret C Rm E e_q_lotsOf_168 ⟨rfl, t2, q3, (by show A2 0 0 24 ≤ A2 0 0 23 ∧ A2 0 0 23 ≤ A2 0 0 22; omega), iT, (by show A 0 0 24 ≤ A2 0 0 24 ∧ A 0 0 29 ≤ A2 0 0 29; omega), (pLo.mk g0 u2 (by omega) (by omega) is9 (by omega)), (lQ.eq iL rfl rfl), (lNm.put i36)⟩
            · refine m_blk 148 [(5, vi b), (4, vi m), (3, vi s), (2, vi i), (1, vi p), (0, vr 0 0)] [vi 4, vi s] C f_q_lotsOf_146_2 rfl ?_
              refine m_icmp_eq (tgt := 168) C e_q_lotsOf_148 (by decide) (by omega) (by decide) (fun c5 => ?_) (fun c5 => ?_)
              · exact m_vret C Rm E e_q_lotsOf_168 ⟨rfl, t2, q3, (by show A2 0 0 24 ≤ A2 0 0 23 ∧ A2 0 0 23 ≤ A2 0 0 22; omega), iT, (by show A 0 0 24 ≤ A2 0 0 24 ∧ A 0 0 29 ≤ A2 0 0 29; omega), (pLo.mk g0 u2 (by omega) (by omega) is9 (by omega)), (lQ.eq iL rfl rfl), (lNm.put i36)⟩
              · refine m_blk 154 [(5, vi b), (4, vi m), (3, vi s), (2, vi i), (1, vi p), (0, vr 0 0)] [vi 8, vi s] C f_q_lotsOf_151_2 rfl ?_
                refine m_icmp_eq (tgt := 168) C e_q_lotsOf_154 (by decide) (by omega) (by decide) (fun c6 => ?_) (fun c6 => ?_)
                · exact m_vret C Rm E e_q_lotsOf_168 ⟨rfl, t2, q3, (by show A2 0 0 24 ≤ A2 0 0 23 ∧ A2 0 0 23 ≤ A2 0 0 22; omega), iT, (by show A 0 0 24 ≤ A2 0 0 24 ∧ A 0 0 29 ≤ A2 0 0 29; omega), (pLo.mk g0 u2 (by omega) (by omega) is9 (by omega)), (lQ.eq iL rfl rfl), (lNm.put i36)⟩
                · refine m_blk 160 [(5, vi b), (4, vi m), (3, vi s), (2, vi i), (1, vi p), (0, vr 0 0)] [vi 16, vi s] C f_q_lotsOf_157_2 rfl ?_
                  refine m_icmp_eq (tgt := 168) C e_q_lotsOf_160 (by decide) (by omega) (by decide) (fun c7 => ?_) (fun c7 => ?_)
                  · exact m_vret C Rm E e_q_lotsOf_168 ⟨rfl, t2, q3, (by show A2 0 0 24 ≤ A2 0 0 23 ∧ A2 0 0 23 ≤ A2 0 0 22; omega), iT, (by show A 0 0 24 ≤ A2 0 0 24 ∧ A 0 0 29 ≤ A2 0 0 29; omega), (pLo.mk g0 u2 (by omega) (by omega) is9 (by omega)), (lQ.eq iL rfl rfl), (lNm.put i36)⟩
                  · refine m_blk 165 [(5, vi b), (4, vi m), (3, vi s), (2, vi i), (1, vi p), (0, vr 0 0)] [vi 1, vr 0 0] C f_q_lotsOf_163_2 rfl ?_
                    refine m_putz C e_q_lotsOf_165 fp_Mo_155 rfl (by decide) rfl (Or.inr rfl) ?_
                    have t8 : mTy (mu (mu A2 36 p.toNat i.toNat m) 0 0 31 1) := t2.mu (by show 0 ≤ 1 ∧ 1 ≤ 1; omega)
                    have q9 := q3.mu (f := 0) (k := 0) (j := 31) (z := 1) (by simp [lo])
                    exact m_vret C Rm E e_q_lotsOf_168 ⟨rfl, t8, q9, (by show A2 0 0 24 ≤ A2 0 0 23 ∧ A2 0 0 23 ≤ A2 0 0 22; omega), (fun h9 => absurd (show (1 : Int) = 0 from h9) (by decide)), (by show A 0 0 24 ≤ A2 0 0 24 ∧ A 0 0 29 ≤ A2 0 0 29; omega), (fun h9 => absurd (show (1 : Int) = 0 from h9) (by decide)), (lQ.eq iL rfl rfl), (lNm.put i36)⟩
          · refine m_blk 14 [(5, vi b), (4, vi m), (3, vi s), (2, vi i), (1, vi p), (0, vr 0 0)] [vr 0 0] C f_q_lotsOf_13_1 rfl ?_
            refine m_geti C e_q_lotsOf_14 fg_Mo_155 rfl (by decide) rfl 0 g2 ?_
            refine m_if_ne (tgt := 131) C e_q_lotsOf_17 (by decide) (by decide) (fun c10 => (by omega : False).elim) (fun c10 => ?_)
            refine m_blk 24 [(5, vi b), (4, vi m), (3, vi s), (2, vi i), (1, vi p), (0, vr 0 0)] [vi 8, vi m] C f_q_lotsOf_20_2 rfl ?_
            refine m_icmp_ne (tgt := 33) C e_q_lotsOf_24 (by decide) (by omega) (by decide) (fun c11 => ?_) (fun c11 => ?_)
            · refine m_blk 35 [(5, vi b), (4, vi m), (3, vi s), (2, vi i), (1, vi p), (0, vr 0 0)] [vi m] C f_q_lotsOf_33_1 rfl ?_
              refine m_if_le (tgt := 42) C e_q_lotsOf_35 (by decide) (by omega) (fun c12 => ?_) (fun c12 => ?_)
              · refine m_blk 47 [(5, vi b), (4, vi m), (3, vi s), (2, vi i), (1, vi p), (0, vr 0 0)] [vi 9, vi 0, vi 3, vr 0 0] C f_q_lotsOf_42_4 rfl ?_
                refine m_callV C Rm Y [vi 3, vi 0, vi 9] [] (q_takes l D B H0 ad _ hS hT2 3 0 9 (by show 1 ≤ 3 ∧ 3 ≤ 4; omega) (by show 0 ≤ 0 ∧ 0 ≤ 2147483647 ∧ -1 ≤ 9 ∧ 9 ≤ 2147483647; omega) (by show A2 0 0 24 ≤ A2 0 0 23 ∧ A2 0 0 23 ≤ A2 0 0 22; omega) iT) cl_Mo_198 rfl (by decide) rfl rfl e_q_lotsOf_47 rfl rfl rfl ⟨by decide, by decide⟩ ?_
                rintro v13 A14 ⟨z17, rfl, hT_n16, hE_n16, raw_hz_n16, raw_hb_n16, raw_hn_n16, raw_hw_n16, raw_hm_n16⟩
                have hF_n16 := hE2.trans (hE_n16.sub (nm_lo _))
                show JM g D ad w0 A14 50 [(5, vi b), (4, vi m), (3, vi s), (2, vi i), (1, vi p), (0, vr 0 0)] [vi z17]
                have hb_n16 : A14 0 0 24 ≤ A14 0 0 23 ∧ A14 0 0 23 ≤ A14 0 0 22 := raw_hb_n16
                clear raw_hb_n16
                have hm_n16 : A2 0 0 24 ≤ A14 0 0 24 := raw_hm_n16
                clear raw_hm_n16
                have hz_n16 : z17 = 0 ∨ 0 ≤ z17 ∧ z17 ≤ 9 := raw_hz_n16
                clear raw_hz_n16
                have pt_n16 : pT A14 := raw_hn_n16
                clear raw_hn_n16
                have k0_n16 : A14 0 0 0 = A2 0 0 0 := hE_n16 0 0 0 rfl
                have k22_n16 : A14 0 0 22 = A2 0 0 22 := hE_n16 0 0 22 rfl
                have k27_n16 : A14 0 0 27 = A2 0 0 27 := hE_n16 0 0 27 rfl
                have k28_n16 : A14 0 0 28 = A2 0 0 28 := hE_n16 0 0 28 rfl
                have k29_n16 : A14 0 0 29 = A2 0 0 29 := hE_n16 0 0 29 rfl
                have k30_n16 : A14 0 0 30 = A2 0 0 30 := hE_n16 0 0 30 rfl
                rcases (show A14 0 0 31 = 0 ∨ A14 0 0 31 = 1 from by have w9 := hT_n16 0 0 31; have w8 : 0 ≤ A14 0 0 31 ∧ A14 0 0 31 ≤ 1 := w9; omega) with g_n16 | g_n16
                · have u_n16 : A2 0 0 31 = 0 ∧ A2 0 0 24 < A14 0 0 24 ∧ 0 ≤ z17 ∧ z17 ≤ 9 := raw_hw_n16 g_n16
                  clear raw_hw_n16
                  refine m_blk 55 [(6, vi z17), (5, vi b), (4, vi m), (3, vi s), (2, vi i), (1, vi p), (0, vr 0 0)] [vi 58, vr 0 0] C f_q_lotsOf_50_3 rfl ?_
                  refine m_callV C Rm Y [vi 58] [] (q_need l D B H0 ad _ hS hT_n16 58 (by show -2147483648 ≤ 58 ∧ 58 ≤ 2147483647; omega) (by show A14 0 0 24 ≤ A14 0 0 23 ∧ A14 0 0 23 ≤ A14 0 0 22; omega) pt_n16) cl_Mo_188 rfl (by decide) rfl rfl e_q_lotsOf_55 rfl rfl rfl ⟨by decide, by decide⟩ ?_
                  rintro v18 A19 ⟨rfl, hT_n21, hE_n21, raw_hb_n21, raw_hn_n21, raw_hw_n21, raw_hm_n21⟩
                  have hF_n21 := hF_n16.trans (hE_n21.sub (nm_lo _))
                  show JM g D ad w0 A19 58 [(6, vi z17), (5, vi b), (4, vi m), (3, vi s), (2, vi i), (1, vi p), (0, vr 0 0)] []
                  have hb_n21 : A19 0 0 24 ≤ A19 0 0 23 ∧ A19 0 0 23 ≤ A19 0 0 22 := raw_hb_n21
                  clear raw_hb_n21
                  have hm_n21 : A14 0 0 24 ≤ A19 0 0 24 := raw_hm_n21
                  clear raw_hm_n21
                  have pt_n21 : pT A19 := raw_hn_n21
                  clear raw_hn_n21
                  have k0_n21 : A19 0 0 0 = A14 0 0 0 := hE_n21 0 0 0 rfl
                  have k22_n21 : A19 0 0 22 = A14 0 0 22 := hE_n21 0 0 22 rfl
                  have k27_n21 : A19 0 0 27 = A14 0 0 27 := hE_n21 0 0 27 rfl
                  have k28_n21 : A19 0 0 28 = A14 0 0 28 := hE_n21 0 0 28 rfl
                  have k29_n21 : A19 0 0 29 = A14 0 0 29 := hE_n21 0 0 29 rfl
                  have k30_n21 : A19 0 0 30 = A14 0 0 30 := hE_n21 0 0 30 rfl
                  rcases (show A19 0 0 31 = 0 ∨ A19 0 0 31 = 1 from by have w9 := hT_n21 0 0 31; have w8 : 0 ≤ A19 0 0 31 ∧ A19 0 0 31 ≤ 1 := w9; omega) with g_n21 | g_n21
                  · have u_n21 : A14 0 0 31 = 0 ∧ A14 0 0 24 < A19 0 0 24 := raw_hw_n21 g_n21
                    clear raw_hw_n21
                    refine m_blk 63 [(6, vi z17), (5, vi b), (4, vi m), (3, vi s), (2, vi i), (1, vi p), (0, vr 0 0)] [vi 16, vi 1, vi 3, vr 0 0] C f_q_lotsOf_58_4 rfl ?_
                    refine m_callV C Rm Y [vi 3, vi 1, vi 16] [] (q_takes l D B H0 ad _ hS hT_n21 3 1 16 (by show 1 ≤ 3 ∧ 3 ≤ 4; omega) (by show 0 ≤ 1 ∧ 1 ≤ 2147483647 ∧ -1 ≤ 16 ∧ 16 ≤ 2147483647; omega) (by show A19 0 0 24 ≤ A19 0 0 23 ∧ A19 0 0 23 ≤ A19 0 0 22; omega) pt_n21) cl_Mo_198 rfl (by decide) rfl rfl e_q_lotsOf_63 rfl rfl rfl ⟨by decide, by decide⟩ ?_
                    rintro v22 A23 ⟨z26, rfl, hT_n25, hE_n25, raw_hz_n25, raw_hb_n25, raw_hn_n25, raw_hw_n25, raw_hm_n25⟩
                    have hF_n25 := hF_n21.trans (hE_n25.sub (nm_lo _))
                    show JM g D ad w0 A23 66 [(6, vi z17), (5, vi b), (4, vi m), (3, vi s), (2, vi i), (1, vi p), (0, vr 0 0)] [vi z26]
                    have hb_n25 : A23 0 0 24 ≤ A23 0 0 23 ∧ A23 0 0 23 ≤ A23 0 0 22 := raw_hb_n25
                    clear raw_hb_n25
                    have hm_n25 : A19 0 0 24 ≤ A23 0 0 24 := raw_hm_n25
                    clear raw_hm_n25
                    have hz_n25 : z26 = 0 ∨ 1 ≤ z26 ∧ z26 ≤ 16 := raw_hz_n25
                    clear raw_hz_n25
                    have pt_n25 : pT A23 := raw_hn_n25
                    clear raw_hn_n25
                    have k0_n25 : A23 0 0 0 = A19 0 0 0 := hE_n25 0 0 0 rfl
                    have k22_n25 : A23 0 0 22 = A19 0 0 22 := hE_n25 0 0 22 rfl
                    have k27_n25 : A23 0 0 27 = A19 0 0 27 := hE_n25 0 0 27 rfl
                    have k28_n25 : A23 0 0 28 = A19 0 0 28 := hE_n25 0 0 28 rfl
                    have k29_n25 : A23 0 0 29 = A19 0 0 29 := hE_n25 0 0 29 rfl
                    have k30_n25 : A23 0 0 30 = A19 0 0 30 := hE_n25 0 0 30 rfl
                    rcases (show A23 0 0 31 = 0 ∨ A23 0 0 31 = 1 from by have w9 := hT_n25 0 0 31; have w8 : 0 ≤ A23 0 0 31 ∧ A23 0 0 31 ≤ 1 := w9; omega) with g_n25 | g_n25
                    · have u_n25 : A19 0 0 31 = 0 ∧ A19 0 0 24 < A23 0 0 24 ∧ 1 ≤ z26 ∧ z26 ≤ 16 := raw_hw_n25 g_n25
                      clear raw_hw_n25
                      refine m_blk 69 [(7, vi z26), (6, vi z17), (5, vi b), (4, vi m), (3, vi s), (2, vi i), (1, vi p), (0, vr 0 0)] [vr 0 0] C f_q_lotsOf_66_2 rfl ?_
                      refine m_geti C e_q_lotsOf_69 fg_Mo_155 rfl (by decide) rfl 0 g_n25 ?_
                      refine m_if_eq (tgt := 76) C e_q_lotsOf_72 (by decide) (by decide) (fun c27 => ?_) (fun c27 => (by omega : False).elim)
                      refine m_blk 77 [(7, vi z26), (6, vi z17), (5, vi b), (4, vi m), (3, vi s), (2, vi i), (1, vi p), (0, vr 0 0)] [vr 0 0] C f_q_lotsOf_76_1 rfl ?_
                      refine m_getr C e_q_lotsOf_77 fg_Mo_42 rfl (by decide) rfl ?_
                      refine m_blk 81 [(7, vi z26), (6, vi z17), (5, vi b), (4, vi m), (3, vi s), (2, vi i), (1, vi p), (0, vr 0 0)] [vi p, vr 21 0] C f_q_lotsOf_80_1 rfl ?_
                      refine m_aald C p.toNat e_q_lotsOf_81 rfl rfl rfl (by decide) (by decide) (by omega) (by show p < ((6 : Nat) : Int); omega) (mz _ _) ?_
                      refine m_blk 83 [(7, vi z26), (6, vi z17), (5, vi b), (4, vi m), (3, vi s), (2, vi i), (1, vi p), (0, vr 0 0)] [vr 0 0, vr 41 p.toNat] C f_q_lotsOf_82_1 rfl ?_
                      obtain ⟨x28, hx28⟩ : ∃ x, A23 0 0 29 = x := ⟨_, rfl⟩
                      have rx28 : 0 ≤ x28 ∧ x28 ≤ 40 := mrg hT_n25 hx28 rfl
                      refine m_geti C e_q_lotsOf_83 fg_Mo_195 rfl (by decide) rfl x28 hx28 ?_
                      refine m_blk 88 [(7, vi z26), (6, vi z17), (5, vi b), (4, vi m), (3, vi s), (2, vi i), (1, vi p), (0, vr 0 0)] [vi z17, vi x28, vr 41 p.toNat] C f_q_lotsOf_86_1 rfl ?_
                      refine m_iast C e_q_lotsOf_88 rfl (by omega) (by decide) (by omega) (by show x28 < ((120 : Nat) : Int); omega) ?_
                      have t29 : mTy (mu A23 41 p.toNat x28.toNat z17) := hT_n25.mu (by show 0 ≤ z17 ∧ z17 ≤ 9; omega)
                      have q30 := hF_n25.mu (f := 41) (k := p.toNat) (j := x28.toNat) (z := z17) (by simp [lo])
                      refine m_blk 90 [(7, vi z26), (6, vi z17), (5, vi b), (4, vi m), (3, vi s), (2, vi i), (1, vi p), (0, vr 0 0)] [vr 0 0] C f_q_lotsOf_89_1 rfl ?_
                      refine m_getr C e_q_lotsOf_90 fg_Mo_45 rfl (by decide) rfl ?_
                      refine m_blk 94 [(7, vi z26), (6, vi z17), (5, vi b), (4, vi m), (3, vi s), (2, vi i), (1, vi p), (0, vr 0 0)] [vi p, vr 22 0] C f_q_lotsOf_93_1 rfl ?_
                      refine m_aald C p.toNat e_q_lotsOf_94 rfl rfl rfl (by decide) (by decide) (by omega) (by show p < ((6 : Nat) : Int); omega) (mz _ _) ?_
                      refine m_blk 96 [(7, vi z26), (6, vi z17), (5, vi b), (4, vi m), (3, vi s), (2, vi i), (1, vi p), (0, vr 0 0)] [vr 0 0, vr 42 p.toNat] C f_q_lotsOf_95_1 rfl ?_
                      refine m_geti C e_q_lotsOf_96 fg_Mo_195 rfl (by decide) rfl x28 hx28 ?_
                      refine m_blk 101 [(7, vi z26), (6, vi z17), (5, vi b), (4, vi m), (3, vi s), (2, vi i), (1, vi p), (0, vr 0 0)] [vi z26, vi x28, vr 42 p.toNat] C f_q_lotsOf_99_1 rfl ?_
                      refine m_iast C e_q_lotsOf_101 rfl (by omega) (by decide) (by omega) (by show x28 < ((120 : Nat) : Int); omega) ?_
                      have t31 : mTy (mu (mu A23 41 p.toNat x28.toNat z17) 42 p.toNat x28.toNat z26) := t29.mu (by show 0 ≤ z26 ∧ z26 ≤ 16; omega)
                      have q32 := q30.mu (f := 42) (k := p.toNat) (j := x28.toNat) (z := z26) (by simp [lo])
                      refine m_blk 104 [(7, vi z26), (6, vi z17), (5, vi b), (4, vi m), (3, vi s), (2, vi i), (1, vi p), (0, vr 0 0)] [vr 0 0, vr 0 0] C f_q_lotsOf_102_2 rfl ?_
                      refine m_geti C e_q_lotsOf_104 fg_Mo_195 rfl (by decide) rfl x28 hx28 ?_
                      refine m_blk 109 [(7, vi z26), (6, vi z17), (5, vi b), (4, vi m), (3, vi s), (2, vi i), (1, vi p), (0, vr 0 0)] [vi (x28 + 1), vr 0 0] C f_q_lotsOf_107_2 rfl ?_
                      refine m_puti C e_q_lotsOf_109 fp_Mo_195 rfl (by decide) rfl ?_
                      have t33 : mTy (mu (mu (mu A23 41 p.toNat x28.toNat z17) 42 p.toNat x28.toNat z26) 0 0 29 (x28 + 1)) := t31.mu (by show 0 ≤ (x28 + 1) ∧ (x28 + 1) ≤ 40; omega)
                      have q34 := q32.mu (f := 0) (k := 0) (j := 29) (z := (x28 + 1)) (by simp [lo])
                      refine m_blk 123 [(4, vi (m + 1)), (3, vi (s + z26)), (7, vi z26), (6, vi z17), (5, vi b), (2, vi i), (1, vi p), (0, vr 0 0)] [vi 44, vr 0 0] C f_q_lotsOf_112_7 rfl ?_
                      refine m_callV C Rm Y [vi 44] [] (q_isSign l D B H0 ad _ t33 44 (by show -2147483648 ≤ 44 ∧ 44 ≤ 2147483647; omega)) cl_Mo_173 rfl (by decide) rfl rfl e_q_lotsOf_123 rfl rfl rfl ⟨by decide, by decide⟩ ?_
                      rintro v35 A36 ⟨z39, rfl, rfl, raw_hz_n38⟩
                      show JM g D ad w0 (mu (mu (mu A23 41 p.toNat x28.toNat z17) 42 p.toNat x28.toNat z26) 0 0 29 (x28 + 1)) 126 [(4, vi (m + 1)), (3, vi (s + z26)), (7, vi z26), (6, vi z17), (5, vi b), (2, vi i), (1, vi p), (0, vr 0 0)] [vi z39]
                      have hz_n38 : z39 = 1 ∧ A23 0 0 31 = 0 ∧ A23 0 0 25 = 4 ∧ A23 0 0 26 = 44 ∨ z39 = 0 ∧ ¬ (A23 0 0 31 = 0 ∧ A23 0 0 25 = 4 ∧ A23 0 0 26 = 44) := raw_hz_n38
                      clear raw_hz_n38
                      rcases hz_n38 with ⟨e_n38, hz_n38⟩ | ⟨e_n38, hz_n38⟩
                      · subst e_n38
                        have bt_n38 : A23 0 0 24 < A23 0 0 23 := pT_lt (A := (mu (mu (mu A23 41 p.toNat x28.toNat z17) 42 p.toNat x28.toNat z26) 0 0 29 (x28 + 1))) pt_n25 hz_n38.1 (by show ¬ A23 0 0 25 = 0; omega)
                        refine m_blk 8 [(5, vi 1), (4, vi (m + 1)), (3, vi (s + z26)), (7, vi z26), (6, vi z17), (2, vi i), (1, vi p), (0, vr 0 0)] [] C f_q_lotsOf_126_2 rfl ?_
                        refine m_loc [(5, vi 1), (4, vi (m + 1)), (3, vi (s + z26)), (2, vi i), (1, vi p), (0, vr 0 0)] ⟨rfl, rfl, rfl, rfl, rfl, rfl, trivial⟩ ?_
                        exact ih (mu (mu (mu A23 41 p.toNat x28.toNat z17) 42 p.toNat x28.toNat z26) 0 0 29 (x28 + 1)) 1 (m + 1) (s + z26) t33 q34 (by show A23 0 0 24 ≤ A23 0 0 23 ∧ A23 0 0 23 ≤ A23 0 0 22; omega) pt_n25 (by show A 0 0 24 ≤ A23 0 0 24 ∧ (x28 + 1) = A 0 0 29 + (m + 1) ∧ A23 0 0 22 = A 0 0 22 ∧ A23 0 0 30 = A 0 0 30; omega) (by show 0 ≤ (m + 1) ∧ (m + 1) ≤ 8 ∧ 0 ≤ (s + z26) ∧ (s + z26) ≤ 16 * (m + 1); omega) (by show 1 = 0 ∨ 1 = 1; omega) (by show 1 = 1 ∨ 1 ≤ (m + 1); omega) (ws_push ((funext fun j9 => hE_n25 42 p.toNat j9 rfl).trans ((funext fun j9 => hE_n21 42 p.toNat j9 rfl).trans ((funext fun j9 => hE_n16 42 p.toNat j9 rfl).trans rfl))) is9 (by omega) (by omega)) (lQ.push iL ((funext fun j9 => hE_n25 41 p.toNat j9 rfl).trans ((funext fun j9 => hE_n21 41 p.toNat j9 rfl).trans ((funext fun j9 => hE_n16 41 p.toNat j9 rfl).trans rfl))) ((funext fun j9 => hE_n25 42 p.toNat j9 rfl).trans ((funext fun j9 => hE_n21 42 p.toNat j9 rfl).trans ((funext fun j9 => hE_n16 42 p.toNat j9 rfl).trans rfl))) (by omega)) (((funext fun j9 => hE_n25 36 p.toNat j9 rfl).trans ((funext fun j9 => hE_n21 36 p.toNat j9 rfl).trans ((funext fun j9 => hE_n16 36 p.toNat j9 rfl).trans rfl))).trans i36) (fun _ => ⟨g0, by show A 0 0 24 - 3 * A 0 0 29 ≤ A23 0 0 24 - 3 * (x28 + 1); omega⟩) (by have hm9 := hm; show (20 - (m + 1)) < _; omega)
                      · subst e_n38
                        clear hz_n38
                        refine m_blk 8 [(5, vi 0), (4, vi (m + 1)), (3, vi (s + z26)), (7, vi z26), (6, vi z17), (2, vi i), (1, vi p), (0, vr 0 0)] [] C f_q_lotsOf_126_2 rfl ?_
                        refine m_loc [(5, vi 0), (4, vi (m + 1)), (3, vi (s + z26)), (2, vi i), (1, vi p), (0, vr 0 0)] ⟨rfl, rfl, rfl, rfl, rfl, rfl, trivial⟩ ?_
                        exact ih (mu (mu (mu A23 41 p.toNat x28.toNat z17) 42 p.toNat x28.toNat z26) 0 0 29 (x28 + 1)) 0 (m + 1) (s + z26) t33 q34 (by show A23 0 0 24 ≤ A23 0 0 23 ∧ A23 0 0 23 ≤ A23 0 0 22; omega) pt_n25 (by show A 0 0 24 ≤ A23 0 0 24 ∧ (x28 + 1) = A 0 0 29 + (m + 1) ∧ A23 0 0 22 = A 0 0 22 ∧ A23 0 0 30 = A 0 0 30; omega) (by show 0 ≤ (m + 1) ∧ (m + 1) ≤ 8 ∧ 0 ≤ (s + z26) ∧ (s + z26) ≤ 16 * (m + 1); omega) (by show 0 = 0 ∨ 0 = 1; omega) (by show 0 = 1 ∨ 1 ≤ (m + 1); omega) (ws_push ((funext fun j9 => hE_n25 42 p.toNat j9 rfl).trans ((funext fun j9 => hE_n21 42 p.toNat j9 rfl).trans ((funext fun j9 => hE_n16 42 p.toNat j9 rfl).trans rfl))) is9 (by omega) (by omega)) (lQ.push iL ((funext fun j9 => hE_n25 41 p.toNat j9 rfl).trans ((funext fun j9 => hE_n21 41 p.toNat j9 rfl).trans ((funext fun j9 => hE_n16 41 p.toNat j9 rfl).trans rfl))) ((funext fun j9 => hE_n25 42 p.toNat j9 rfl).trans ((funext fun j9 => hE_n21 42 p.toNat j9 rfl).trans ((funext fun j9 => hE_n16 42 p.toNat j9 rfl).trans rfl))) (by omega)) (((funext fun j9 => hE_n25 36 p.toNat j9 rfl).trans ((funext fun j9 => hE_n21 36 p.toNat j9 rfl).trans ((funext fun j9 => hE_n16 36 p.toNat j9 rfl).trans rfl))).trans i36) (fun _ => ⟨g0, by show A 0 0 24 - 3 * A 0 0 29 ≤ A23 0 0 24 - 3 * (x28 + 1); omega⟩) (by have hm9 := hm; show (20 - (m + 1)) < _; omega)
                    · clear raw_hw_n25
                      refine m_blk 69 [(7, vi z26), (6, vi z17), (5, vi b), (4, vi m), (3, vi s), (2, vi i), (1, vi p), (0, vr 0 0)] [vr 0 0] C f_q_lotsOf_66_2 rfl ?_
                      refine m_geti C e_q_lotsOf_69 fg_Mo_155 rfl (by decide) rfl 1 g_n25 ?_
                      refine m_if_eq (tgt := 76) C e_q_lotsOf_72 (by decide) (by decide) (fun c40 => (by omega : False).elim) (fun c40 => ?_)
                      exact m_vret C Rm E e_q_lotsOf_75 ⟨rfl, hT_n25, hF_n25, (by show A23 0 0 24 ≤ A23 0 0 23 ∧ A23 0 0 23 ≤ A23 0 0 22; omega), pt_n25, (by show A 0 0 24 ≤ A23 0 0 24 ∧ A 0 0 29 ≤ A23 0 0 29; omega), (fun h9 => absurd ((g_n25 : A23 0 0 31 = 1).symm.trans h9) (by decide)), (lQ.eq iL ((funext fun j9 => hE_n25 41 p.toNat j9 rfl).trans ((funext fun j9 => hE_n21 41 p.toNat j9 rfl).trans ((funext fun j9 => hE_n16 41 p.toNat j9 rfl).trans rfl))) ((funext fun j9 => hE_n25 42 p.toNat j9 rfl).trans ((funext fun j9 => hE_n21 42 p.toNat j9 rfl).trans ((funext fun j9 => hE_n16 42 p.toNat j9 rfl).trans rfl)))), (lNm.eq (((funext fun j9 => hE_n25 36 p.toNat j9 rfl).trans ((funext fun j9 => hE_n21 36 p.toNat j9 rfl).trans ((funext fun j9 => hE_n16 36 p.toNat j9 rfl).trans rfl))).trans i36))⟩
                  · clear raw_hw_n21
                    refine m_blk 63 [(6, vi z17), (5, vi b), (4, vi m), (3, vi s), (2, vi i), (1, vi p), (0, vr 0 0)] [vi 16, vi 1, vi 3, vr 0 0] C f_q_lotsOf_58_4 rfl ?_
                    refine m_callV C Rm Y [vi 3, vi 1, vi 16] [] (q_takes l D B H0 ad _ hS hT_n21 3 1 16 (by show 1 ≤ 3 ∧ 3 ≤ 4; omega) (by show 0 ≤ 1 ∧ 1 ≤ 2147483647 ∧ -1 ≤ 16 ∧ 16 ≤ 2147483647; omega) (by show A19 0 0 24 ≤ A19 0 0 23 ∧ A19 0 0 23 ≤ A19 0 0 22; omega) pt_n21) cl_Mo_198 rfl (by decide) rfl rfl e_q_lotsOf_63 rfl rfl rfl ⟨by decide, by decide⟩ ?_
                    rintro v41 A42 ⟨z45, rfl, hT_n44, hE_n44, raw_hz_n44, raw_hb_n44, raw_hn_n44, raw_hw_n44, raw_hm_n44⟩
                    have hF_n44 := hF_n21.trans (hE_n44.sub (nm_lo _))
                    show JM g D ad w0 A42 66 [(6, vi z17), (5, vi b), (4, vi m), (3, vi s), (2, vi i), (1, vi p), (0, vr 0 0)] [vi z45]
                    have hb_n44 : A42 0 0 24 ≤ A42 0 0 23 ∧ A42 0 0 23 ≤ A42 0 0 22 := raw_hb_n44
                    clear raw_hb_n44
                    have hm_n44 : A19 0 0 24 ≤ A42 0 0 24 := raw_hm_n44
                    clear raw_hm_n44
                    have hz_n44 : z45 = 0 ∨ 1 ≤ z45 ∧ z45 ≤ 16 := raw_hz_n44
                    clear raw_hz_n44
                    have pt_n44 : pT A42 := raw_hn_n44
                    clear raw_hn_n44
                    have k0_n44 : A42 0 0 0 = A19 0 0 0 := hE_n44 0 0 0 rfl
                    have k22_n44 : A42 0 0 22 = A19 0 0 22 := hE_n44 0 0 22 rfl
                    have k27_n44 : A42 0 0 27 = A19 0 0 27 := hE_n44 0 0 27 rfl
                    have k28_n44 : A42 0 0 28 = A19 0 0 28 := hE_n44 0 0 28 rfl
                    have k29_n44 : A42 0 0 29 = A19 0 0 29 := hE_n44 0 0 29 rfl
                    have k30_n44 : A42 0 0 30 = A19 0 0 30 := hE_n44 0 0 30 rfl
                    have g_n44 : A42 0 0 31 = 1 := wr_1 (hT_n44 0 0 31) (fun h9 => absurd ((g_n21 : A19 0 0 31 = 1).symm.trans (raw_hw_n44 h9).1) (by decide))
                    clear raw_hw_n44
                    refine m_blk 69 [(7, vi z45), (6, vi z17), (5, vi b), (4, vi m), (3, vi s), (2, vi i), (1, vi p), (0, vr 0 0)] [vr 0 0] C f_q_lotsOf_66_2 rfl ?_
                    refine m_geti C e_q_lotsOf_69 fg_Mo_155 rfl (by decide) rfl 1 g_n44 ?_
                    refine m_if_eq (tgt := 76) C e_q_lotsOf_72 (by decide) (by decide) (fun c46 => (by omega : False).elim) (fun c46 => ?_)
                    exact m_vret C Rm E e_q_lotsOf_75 ⟨rfl, hT_n44, hF_n44, (by show A42 0 0 24 ≤ A42 0 0 23 ∧ A42 0 0 23 ≤ A42 0 0 22; omega), pt_n44, (by show A 0 0 24 ≤ A42 0 0 24 ∧ A 0 0 29 ≤ A42 0 0 29; omega), (fun h9 => absurd ((g_n44 : A42 0 0 31 = 1).symm.trans h9) (by decide)), (lQ.eq iL ((funext fun j9 => hE_n44 41 p.toNat j9 rfl).trans ((funext fun j9 => hE_n21 41 p.toNat j9 rfl).trans ((funext fun j9 => hE_n16 41 p.toNat j9 rfl).trans rfl))) ((funext fun j9 => hE_n44 42 p.toNat j9 rfl).trans ((funext fun j9 => hE_n21 42 p.toNat j9 rfl).trans ((funext fun j9 => hE_n16 42 p.toNat j9 rfl).trans rfl)))), (lNm.eq (((funext fun j9 => hE_n44 36 p.toNat j9 rfl).trans ((funext fun j9 => hE_n21 36 p.toNat j9 rfl).trans ((funext fun j9 => hE_n16 36 p.toNat j9 rfl).trans rfl))).trans i36))⟩
                · clear raw_hw_n16
                  refine m_blk 55 [(6, vi z17), (5, vi b), (4, vi m), (3, vi s), (2, vi i), (1, vi p), (0, vr 0 0)] [vi 58, vr 0 0] C f_q_lotsOf_50_3 rfl ?_
                  refine m_callV C Rm Y [vi 58] [] (q_need l D B H0 ad _ hS hT_n16 58 (by show -2147483648 ≤ 58 ∧ 58 ≤ 2147483647; omega) (by show A14 0 0 24 ≤ A14 0 0 23 ∧ A14 0 0 23 ≤ A14 0 0 22; omega) pt_n16) cl_Mo_188 rfl (by decide) rfl rfl e_q_lotsOf_55 rfl rfl rfl ⟨by decide, by decide⟩ ?_
                  rintro v47 A48 ⟨rfl, hT_n50, hE_n50, raw_hb_n50, raw_hn_n50, raw_hw_n50, raw_hm_n50⟩
                  have hF_n50 := hF_n16.trans (hE_n50.sub (nm_lo _))
                  show JM g D ad w0 A48 58 [(6, vi z17), (5, vi b), (4, vi m), (3, vi s), (2, vi i), (1, vi p), (0, vr 0 0)] []
                  have hb_n50 : A48 0 0 24 ≤ A48 0 0 23 ∧ A48 0 0 23 ≤ A48 0 0 22 := raw_hb_n50
                  clear raw_hb_n50
                  have hm_n50 : A14 0 0 24 ≤ A48 0 0 24 := raw_hm_n50
                  clear raw_hm_n50
                  have pt_n50 : pT A48 := raw_hn_n50
                  clear raw_hn_n50
                  have k0_n50 : A48 0 0 0 = A14 0 0 0 := hE_n50 0 0 0 rfl
                  have k22_n50 : A48 0 0 22 = A14 0 0 22 := hE_n50 0 0 22 rfl
                  have k27_n50 : A48 0 0 27 = A14 0 0 27 := hE_n50 0 0 27 rfl
                  have k28_n50 : A48 0 0 28 = A14 0 0 28 := hE_n50 0 0 28 rfl
                  have k29_n50 : A48 0 0 29 = A14 0 0 29 := hE_n50 0 0 29 rfl
                  have k30_n50 : A48 0 0 30 = A14 0 0 30 := hE_n50 0 0 30 rfl
                  have g_n50 : A48 0 0 31 = 1 := wr_1 (hT_n50 0 0 31) (fun h9 => absurd ((g_n16 : A14 0 0 31 = 1).symm.trans (raw_hw_n50 h9).1) (by decide))
                  clear raw_hw_n50
                  refine m_blk 63 [(6, vi z17), (5, vi b), (4, vi m), (3, vi s), (2, vi i), (1, vi p), (0, vr 0 0)] [vi 16, vi 1, vi 3, vr 0 0] C f_q_lotsOf_58_4 rfl ?_
                  refine m_callV C Rm Y [vi 3, vi 1, vi 16] [] (q_takes l D B H0 ad _ hS hT_n50 3 1 16 (by show 1 ≤ 3 ∧ 3 ≤ 4; omega) (by show 0 ≤ 1 ∧ 1 ≤ 2147483647 ∧ -1 ≤ 16 ∧ 16 ≤ 2147483647; omega) (by show A48 0 0 24 ≤ A48 0 0 23 ∧ A48 0 0 23 ≤ A48 0 0 22; omega) pt_n50) cl_Mo_198 rfl (by decide) rfl rfl e_q_lotsOf_63 rfl rfl rfl ⟨by decide, by decide⟩ ?_
                  rintro v51 A52 ⟨z55, rfl, hT_n54, hE_n54, raw_hz_n54, raw_hb_n54, raw_hn_n54, raw_hw_n54, raw_hm_n54⟩
                  have hF_n54 := hF_n50.trans (hE_n54.sub (nm_lo _))
                  show JM g D ad w0 A52 66 [(6, vi z17), (5, vi b), (4, vi m), (3, vi s), (2, vi i), (1, vi p), (0, vr 0 0)] [vi z55]
                  have hb_n54 : A52 0 0 24 ≤ A52 0 0 23 ∧ A52 0 0 23 ≤ A52 0 0 22 := raw_hb_n54
                  clear raw_hb_n54
                  have hm_n54 : A48 0 0 24 ≤ A52 0 0 24 := raw_hm_n54
                  clear raw_hm_n54
                  have hz_n54 : z55 = 0 ∨ 1 ≤ z55 ∧ z55 ≤ 16 := raw_hz_n54
                  clear raw_hz_n54
                  have pt_n54 : pT A52 := raw_hn_n54
                  clear raw_hn_n54
                  have k0_n54 : A52 0 0 0 = A48 0 0 0 := hE_n54 0 0 0 rfl
                  have k22_n54 : A52 0 0 22 = A48 0 0 22 := hE_n54 0 0 22 rfl
                  have k27_n54 : A52 0 0 27 = A48 0 0 27 := hE_n54 0 0 27 rfl
                  have k28_n54 : A52 0 0 28 = A48 0 0 28 := hE_n54 0 0 28 rfl
                  have k29_n54 : A52 0 0 29 = A48 0 0 29 := hE_n54 0 0 29 rfl
                  have k30_n54 : A52 0 0 30 = A48 0 0 30 := hE_n54 0 0 30 rfl
                  have g_n54 : A52 0 0 31 = 1 := wr_1 (hT_n54 0 0 31) (fun h9 => absurd ((g_n50 : A48 0 0 31 = 1).symm.trans (raw_hw_n54 h9).1) (by decide))
                  clear raw_hw_n54
                  refine m_blk 69 [(7, vi z55), (6, vi z17), (5, vi b), (4, vi m), (3, vi s), (2, vi i), (1, vi p), (0, vr 0 0)] [vr 0 0] C f_q_lotsOf_66_2 rfl ?_
                  refine m_geti C e_q_lotsOf_69 fg_Mo_155 rfl (by decide) rfl 1 g_n54 ?_
                  refine m_if_eq (tgt := 76) C e_q_lotsOf_72 (by decide) (by decide) (fun c56 => (by omega : False).elim) (fun c56 => ?_)
                  exact m_vret C Rm E e_q_lotsOf_75 ⟨rfl, hT_n54, hF_n54, (by show A52 0 0 24 ≤ A52 0 0 23 ∧ A52 0 0 23 ≤ A52 0 0 22; omega), pt_n54, (by show A 0 0 24 ≤ A52 0 0 24 ∧ A 0 0 29 ≤ A52 0 0 29; omega), (fun h9 => absurd ((g_n54 : A52 0 0 31 = 1).symm.trans h9) (by decide)), (lQ.eq iL ((funext fun j9 => hE_n54 41 p.toNat j9 rfl).trans ((funext fun j9 => hE_n50 41 p.toNat j9 rfl).trans ((funext fun j9 => hE_n16 41 p.toNat j9 rfl).trans rfl))) ((funext fun j9 => hE_n54 42 p.toNat j9 rfl).trans ((funext fun j9 => hE_n50 42 p.toNat j9 rfl).trans ((funext fun j9 => hE_n16 42 p.toNat j9 rfl).trans rfl)))), (lNm.eq (((funext fun j9 => hE_n54 36 p.toNat j9 rfl).trans ((funext fun j9 => hE_n50 36 p.toNat j9 rfl).trans ((funext fun j9 => hE_n16 36 p.toNat j9 rfl).trans rfl))).trans i36))⟩
              · refine m_blk 39 [(5, vi b), (4, vi m), (3, vi s), (2, vi i), (1, vi p), (0, vr 0 0)] [vr 0 0] C f_q_lotsOf_38_1 rfl ?_
                refine m_callV C Rm Y [] [] (q_next l D B H0 ad _ hS hT2 (by show A2 0 0 23 ≤ A2 0 0 22; omega)) cl_Mo_176 rfl (by decide) rfl rfl e_q_lotsOf_39 rfl rfl rfl ⟨by decide, by decide⟩ ?_
                rintro v57 A58 ⟨rfl, hT_n60, hE_n60, raw_hw_n60, raw_hb_n60⟩
                have hF_n60 := hE2.trans (hE_n60.sub (nm_lo _))
                show JM g D ad w0 A58 42 [(5, vi b), (4, vi m), (3, vi s), (2, vi i), (1, vi p), (0, vr 0 0)] []
                obtain ⟨b1_n60, b2_n60, b3_n60, pt_n60⟩ : A2 0 0 23 ≤ A58 0 0 24 ∧ A58 0 0 24 ≤ A58 0 0 23 ∧ A58 0 0 23 ≤ A58 0 0 22 ∧ pT A58 := raw_hb_n60 g2
                clear raw_hb_n60 raw_hw_n60
                have k0_n60 : A58 0 0 0 = A2 0 0 0 := hE_n60 0 0 0 rfl
                have k22_n60 : A58 0 0 22 = A2 0 0 22 := hE_n60 0 0 22 rfl
                have k27_n60 : A58 0 0 27 = A2 0 0 27 := hE_n60 0 0 27 rfl
                have k28_n60 : A58 0 0 28 = A2 0 0 28 := hE_n60 0 0 28 rfl
                have k29_n60 : A58 0 0 29 = A2 0 0 29 := hE_n60 0 0 29 rfl
                have k30_n60 : A58 0 0 30 = A2 0 0 30 := hE_n60 0 0 30 rfl
                rcases (show A58 0 0 31 = 0 ∨ A58 0 0 31 = 1 from by have w9 := hT_n60 0 0 31; have w8 : 0 ≤ A58 0 0 31 ∧ A58 0 0 31 ≤ 1 := w9; omega) with g_n60 | g_n60
                · refine m_blk 47 [(5, vi b), (4, vi m), (3, vi s), (2, vi i), (1, vi p), (0, vr 0 0)] [vi 9, vi 0, vi 3, vr 0 0] C f_q_lotsOf_42_4 rfl ?_
                  refine m_callV C Rm Y [vi 3, vi 0, vi 9] [] (q_takes l D B H0 ad _ hS hT_n60 3 0 9 (by show 1 ≤ 3 ∧ 3 ≤ 4; omega) (by show 0 ≤ 0 ∧ 0 ≤ 2147483647 ∧ -1 ≤ 9 ∧ 9 ≤ 2147483647; omega) (by show A58 0 0 24 ≤ A58 0 0 23 ∧ A58 0 0 23 ≤ A58 0 0 22; omega) pt_n60) cl_Mo_198 rfl (by decide) rfl rfl e_q_lotsOf_47 rfl rfl rfl ⟨by decide, by decide⟩ ?_
                  rintro v61 A62 ⟨z65, rfl, hT_n64, hE_n64, raw_hz_n64, raw_hb_n64, raw_hn_n64, raw_hw_n64, raw_hm_n64⟩
                  have hF_n64 := hF_n60.trans (hE_n64.sub (nm_lo _))
                  show JM g D ad w0 A62 50 [(5, vi b), (4, vi m), (3, vi s), (2, vi i), (1, vi p), (0, vr 0 0)] [vi z65]
                  have hb_n64 : A62 0 0 24 ≤ A62 0 0 23 ∧ A62 0 0 23 ≤ A62 0 0 22 := raw_hb_n64
                  clear raw_hb_n64
                  have hm_n64 : A58 0 0 24 ≤ A62 0 0 24 := raw_hm_n64
                  clear raw_hm_n64
                  have hz_n64 : z65 = 0 ∨ 0 ≤ z65 ∧ z65 ≤ 9 := raw_hz_n64
                  clear raw_hz_n64
                  have pt_n64 : pT A62 := raw_hn_n64
                  clear raw_hn_n64
                  have k0_n64 : A62 0 0 0 = A58 0 0 0 := hE_n64 0 0 0 rfl
                  have k22_n64 : A62 0 0 22 = A58 0 0 22 := hE_n64 0 0 22 rfl
                  have k27_n64 : A62 0 0 27 = A58 0 0 27 := hE_n64 0 0 27 rfl
                  have k28_n64 : A62 0 0 28 = A58 0 0 28 := hE_n64 0 0 28 rfl
                  have k29_n64 : A62 0 0 29 = A58 0 0 29 := hE_n64 0 0 29 rfl
                  have k30_n64 : A62 0 0 30 = A58 0 0 30 := hE_n64 0 0 30 rfl
                  rcases (show A62 0 0 31 = 0 ∨ A62 0 0 31 = 1 from by have w9 := hT_n64 0 0 31; have w8 : 0 ≤ A62 0 0 31 ∧ A62 0 0 31 ≤ 1 := w9; omega) with g_n64 | g_n64
                  · have u_n64 : A58 0 0 31 = 0 ∧ A58 0 0 24 < A62 0 0 24 ∧ 0 ≤ z65 ∧ z65 ≤ 9 := raw_hw_n64 g_n64
                    clear raw_hw_n64
                    refine m_blk 55 [(6, vi z65), (5, vi b), (4, vi m), (3, vi s), (2, vi i), (1, vi p), (0, vr 0 0)] [vi 58, vr 0 0] C f_q_lotsOf_50_3 rfl ?_
                    refine m_callV C Rm Y [vi 58] [] (q_need l D B H0 ad _ hS hT_n64 58 (by show -2147483648 ≤ 58 ∧ 58 ≤ 2147483647; omega) (by show A62 0 0 24 ≤ A62 0 0 23 ∧ A62 0 0 23 ≤ A62 0 0 22; omega) pt_n64) cl_Mo_188 rfl (by decide) rfl rfl e_q_lotsOf_55 rfl rfl rfl ⟨by decide, by decide⟩ ?_
                    rintro v66 A67 ⟨rfl, hT_n69, hE_n69, raw_hb_n69, raw_hn_n69, raw_hw_n69, raw_hm_n69⟩
                    have hF_n69 := hF_n64.trans (hE_n69.sub (nm_lo _))
                    show JM g D ad w0 A67 58 [(6, vi z65), (5, vi b), (4, vi m), (3, vi s), (2, vi i), (1, vi p), (0, vr 0 0)] []
                    have hb_n69 : A67 0 0 24 ≤ A67 0 0 23 ∧ A67 0 0 23 ≤ A67 0 0 22 := raw_hb_n69
                    clear raw_hb_n69
                    have hm_n69 : A62 0 0 24 ≤ A67 0 0 24 := raw_hm_n69
                    clear raw_hm_n69
                    have pt_n69 : pT A67 := raw_hn_n69
                    clear raw_hn_n69
                    have k0_n69 : A67 0 0 0 = A62 0 0 0 := hE_n69 0 0 0 rfl
                    have k22_n69 : A67 0 0 22 = A62 0 0 22 := hE_n69 0 0 22 rfl
                    have k27_n69 : A67 0 0 27 = A62 0 0 27 := hE_n69 0 0 27 rfl
                    have k28_n69 : A67 0 0 28 = A62 0 0 28 := hE_n69 0 0 28 rfl
                    have k29_n69 : A67 0 0 29 = A62 0 0 29 := hE_n69 0 0 29 rfl
                    have k30_n69 : A67 0 0 30 = A62 0 0 30 := hE_n69 0 0 30 rfl
                    rcases (show A67 0 0 31 = 0 ∨ A67 0 0 31 = 1 from by have w9 := hT_n69 0 0 31; have w8 : 0 ≤ A67 0 0 31 ∧ A67 0 0 31 ≤ 1 := w9; omega) with g_n69 | g_n69
                    · have u_n69 : A62 0 0 31 = 0 ∧ A62 0 0 24 < A67 0 0 24 := raw_hw_n69 g_n69
                      clear raw_hw_n69
                      refine m_blk 63 [(6, vi z65), (5, vi b), (4, vi m), (3, vi s), (2, vi i), (1, vi p), (0, vr 0 0)] [vi 16, vi 1, vi 3, vr 0 0] C f_q_lotsOf_58_4 rfl ?_
                      refine m_callV C Rm Y [vi 3, vi 1, vi 16] [] (q_takes l D B H0 ad _ hS hT_n69 3 1 16 (by show 1 ≤ 3 ∧ 3 ≤ 4; omega) (by show 0 ≤ 1 ∧ 1 ≤ 2147483647 ∧ -1 ≤ 16 ∧ 16 ≤ 2147483647; omega) (by show A67 0 0 24 ≤ A67 0 0 23 ∧ A67 0 0 23 ≤ A67 0 0 22; omega) pt_n69) cl_Mo_198 rfl (by decide) rfl rfl e_q_lotsOf_63 rfl rfl rfl ⟨by decide, by decide⟩ ?_
                      rintro v70 A71 ⟨z74, rfl, hT_n73, hE_n73, raw_hz_n73, raw_hb_n73, raw_hn_n73, raw_hw_n73, raw_hm_n73⟩
                      have hF_n73 := hF_n69.trans (hE_n73.sub (nm_lo _))
                      show JM g D ad w0 A71 66 [(6, vi z65), (5, vi b), (4, vi m), (3, vi s), (2, vi i), (1, vi p), (0, vr 0 0)] [vi z74]
                      have hb_n73 : A71 0 0 24 ≤ A71 0 0 23 ∧ A71 0 0 23 ≤ A71 0 0 22 := raw_hb_n73
                      clear raw_hb_n73
                      have hm_n73 : A67 0 0 24 ≤ A71 0 0 24 := raw_hm_n73
                      clear raw_hm_n73
                      have hz_n73 : z74 = 0 ∨ 1 ≤ z74 ∧ z74 ≤ 16 := raw_hz_n73
                      clear raw_hz_n73
                      have pt_n73 : pT A71 := raw_hn_n73
                      clear raw_hn_n73
                      have k0_n73 : A71 0 0 0 = A67 0 0 0 := hE_n73 0 0 0 rfl
                      have k22_n73 : A71 0 0 22 = A67 0 0 22 := hE_n73 0 0 22 rfl
                      have k27_n73 : A71 0 0 27 = A67 0 0 27 := hE_n73 0 0 27 rfl
                      have k28_n73 : A71 0 0 28 = A67 0 0 28 := hE_n73 0 0 28 rfl
                      have k29_n73 : A71 0 0 29 = A67 0 0 29 := hE_n73 0 0 29 rfl
                      have k30_n73 : A71 0 0 30 = A67 0 0 30 := hE_n73 0 0 30 rfl
                      rcases (show A71 0 0 31 = 0 ∨ A71 0 0 31 = 1 from by have w9 := hT_n73 0 0 31; have w8 : 0 ≤ A71 0 0 31 ∧ A71 0 0 31 ≤ 1 := w9; omega) with g_n73 | g_n73
                      · have u_n73 : A67 0 0 31 = 0 ∧ A67 0 0 24 < A71 0 0 24 ∧ 1 ≤ z74 ∧ z74 ≤ 16 := raw_hw_n73 g_n73
                        clear raw_hw_n73
                        refine m_blk 69 [(7, vi z74), (6, vi z65), (5, vi b), (4, vi m), (3, vi s), (2, vi i), (1, vi p), (0, vr 0 0)] [vr 0 0] C f_q_lotsOf_66_2 rfl ?_
                        refine m_geti C e_q_lotsOf_69 fg_Mo_155 rfl (by decide) rfl 0 g_n73 ?_
                        refine m_if_eq (tgt := 76) C e_q_lotsOf_72 (by decide) (by decide) (fun c75 => ?_) (fun c75 => (by omega : False).elim)
                        refine m_blk 77 [(7, vi z74), (6, vi z65), (5, vi b), (4, vi m), (3, vi s), (2, vi i), (1, vi p), (0, vr 0 0)] [vr 0 0] C f_q_lotsOf_76_1 rfl ?_
                        refine m_getr C e_q_lotsOf_77 fg_Mo_42 rfl (by decide) rfl ?_
                        refine m_blk 81 [(7, vi z74), (6, vi z65), (5, vi b), (4, vi m), (3, vi s), (2, vi i), (1, vi p), (0, vr 0 0)] [vi p, vr 21 0] C f_q_lotsOf_80_1 rfl ?_
                        refine m_aald C p.toNat e_q_lotsOf_81 rfl rfl rfl (by decide) (by decide) (by omega) (by show p < ((6 : Nat) : Int); omega) (mz _ _) ?_
                        refine m_blk 83 [(7, vi z74), (6, vi z65), (5, vi b), (4, vi m), (3, vi s), (2, vi i), (1, vi p), (0, vr 0 0)] [vr 0 0, vr 41 p.toNat] C f_q_lotsOf_82_1 rfl ?_
                        obtain ⟨x76, hx76⟩ : ∃ x, A71 0 0 29 = x := ⟨_, rfl⟩
                        have rx76 : 0 ≤ x76 ∧ x76 ≤ 40 := mrg hT_n73 hx76 rfl
                        refine m_geti C e_q_lotsOf_83 fg_Mo_195 rfl (by decide) rfl x76 hx76 ?_
                        refine m_blk 88 [(7, vi z74), (6, vi z65), (5, vi b), (4, vi m), (3, vi s), (2, vi i), (1, vi p), (0, vr 0 0)] [vi z65, vi x76, vr 41 p.toNat] C f_q_lotsOf_86_1 rfl ?_
                        refine m_iast C e_q_lotsOf_88 rfl (by omega) (by decide) (by omega) (by show x76 < ((120 : Nat) : Int); omega) ?_
                        have t77 : mTy (mu A71 41 p.toNat x76.toNat z65) := hT_n73.mu (by show 0 ≤ z65 ∧ z65 ≤ 9; omega)
                        have q78 := hF_n73.mu (f := 41) (k := p.toNat) (j := x76.toNat) (z := z65) (by simp [lo])
                        refine m_blk 90 [(7, vi z74), (6, vi z65), (5, vi b), (4, vi m), (3, vi s), (2, vi i), (1, vi p), (0, vr 0 0)] [vr 0 0] C f_q_lotsOf_89_1 rfl ?_
                        refine m_getr C e_q_lotsOf_90 fg_Mo_45 rfl (by decide) rfl ?_
                        refine m_blk 94 [(7, vi z74), (6, vi z65), (5, vi b), (4, vi m), (3, vi s), (2, vi i), (1, vi p), (0, vr 0 0)] [vi p, vr 22 0] C f_q_lotsOf_93_1 rfl ?_
                        refine m_aald C p.toNat e_q_lotsOf_94 rfl rfl rfl (by decide) (by decide) (by omega) (by show p < ((6 : Nat) : Int); omega) (mz _ _) ?_
                        refine m_blk 96 [(7, vi z74), (6, vi z65), (5, vi b), (4, vi m), (3, vi s), (2, vi i), (1, vi p), (0, vr 0 0)] [vr 0 0, vr 42 p.toNat] C f_q_lotsOf_95_1 rfl ?_
                        refine m_geti C e_q_lotsOf_96 fg_Mo_195 rfl (by decide) rfl x76 hx76 ?_
                        refine m_blk 101 [(7, vi z74), (6, vi z65), (5, vi b), (4, vi m), (3, vi s), (2, vi i), (1, vi p), (0, vr 0 0)] [vi z74, vi x76, vr 42 p.toNat] C f_q_lotsOf_99_1 rfl ?_
                        refine m_iast C e_q_lotsOf_101 rfl (by omega) (by decide) (by omega) (by show x76 < ((120 : Nat) : Int); omega) ?_
                        have t79 : mTy (mu (mu A71 41 p.toNat x76.toNat z65) 42 p.toNat x76.toNat z74) := t77.mu (by show 0 ≤ z74 ∧ z74 ≤ 16; omega)
                        have q80 := q78.mu (f := 42) (k := p.toNat) (j := x76.toNat) (z := z74) (by simp [lo])
                        refine m_blk 104 [(7, vi z74), (6, vi z65), (5, vi b), (4, vi m), (3, vi s), (2, vi i), (1, vi p), (0, vr 0 0)] [vr 0 0, vr 0 0] C f_q_lotsOf_102_2 rfl ?_
                        refine m_geti C e_q_lotsOf_104 fg_Mo_195 rfl (by decide) rfl x76 hx76 ?_
                        refine m_blk 109 [(7, vi z74), (6, vi z65), (5, vi b), (4, vi m), (3, vi s), (2, vi i), (1, vi p), (0, vr 0 0)] [vi (x76 + 1), vr 0 0] C f_q_lotsOf_107_2 rfl ?_
                        refine m_puti C e_q_lotsOf_109 fp_Mo_195 rfl (by decide) rfl ?_
                        have t81 : mTy (mu (mu (mu A71 41 p.toNat x76.toNat z65) 42 p.toNat x76.toNat z74) 0 0 29 (x76 + 1)) := t79.mu (by show 0 ≤ (x76 + 1) ∧ (x76 + 1) ≤ 40; omega)
                        have q82 := q80.mu (f := 0) (k := 0) (j := 29) (z := (x76 + 1)) (by simp [lo])
                        refine m_blk 123 [(4, vi (m + 1)), (3, vi (s + z74)), (7, vi z74), (6, vi z65), (5, vi b), (2, vi i), (1, vi p), (0, vr 0 0)] [vi 44, vr 0 0] C f_q_lotsOf_112_7 rfl ?_
                        refine m_callV C Rm Y [vi 44] [] (q_isSign l D B H0 ad _ t81 44 (by show -2147483648 ≤ 44 ∧ 44 ≤ 2147483647; omega)) cl_Mo_173 rfl (by decide) rfl rfl e_q_lotsOf_123 rfl rfl rfl ⟨by decide, by decide⟩ ?_
                        rintro v83 A84 ⟨z87, rfl, rfl, raw_hz_n86⟩
                        show JM g D ad w0 (mu (mu (mu A71 41 p.toNat x76.toNat z65) 42 p.toNat x76.toNat z74) 0 0 29 (x76 + 1)) 126 [(4, vi (m + 1)), (3, vi (s + z74)), (7, vi z74), (6, vi z65), (5, vi b), (2, vi i), (1, vi p), (0, vr 0 0)] [vi z87]
                        have hz_n86 : z87 = 1 ∧ A71 0 0 31 = 0 ∧ A71 0 0 25 = 4 ∧ A71 0 0 26 = 44 ∨ z87 = 0 ∧ ¬ (A71 0 0 31 = 0 ∧ A71 0 0 25 = 4 ∧ A71 0 0 26 = 44) := raw_hz_n86
                        clear raw_hz_n86
                        rcases hz_n86 with ⟨e_n86, hz_n86⟩ | ⟨e_n86, hz_n86⟩
                        · subst e_n86
                          have bt_n86 : A71 0 0 24 < A71 0 0 23 := pT_lt (A := (mu (mu (mu A71 41 p.toNat x76.toNat z65) 42 p.toNat x76.toNat z74) 0 0 29 (x76 + 1))) pt_n73 hz_n86.1 (by show ¬ A71 0 0 25 = 0; omega)
                          refine m_blk 8 [(5, vi 1), (4, vi (m + 1)), (3, vi (s + z74)), (7, vi z74), (6, vi z65), (2, vi i), (1, vi p), (0, vr 0 0)] [] C f_q_lotsOf_126_2 rfl ?_
                          refine m_loc [(5, vi 1), (4, vi (m + 1)), (3, vi (s + z74)), (2, vi i), (1, vi p), (0, vr 0 0)] ⟨rfl, rfl, rfl, rfl, rfl, rfl, trivial⟩ ?_
                          exact ih (mu (mu (mu A71 41 p.toNat x76.toNat z65) 42 p.toNat x76.toNat z74) 0 0 29 (x76 + 1)) 1 (m + 1) (s + z74) t81 q82 (by show A71 0 0 24 ≤ A71 0 0 23 ∧ A71 0 0 23 ≤ A71 0 0 22; omega) pt_n73 (by show A 0 0 24 ≤ A71 0 0 24 ∧ (x76 + 1) = A 0 0 29 + (m + 1) ∧ A71 0 0 22 = A 0 0 22 ∧ A71 0 0 30 = A 0 0 30; omega) (by show 0 ≤ (m + 1) ∧ (m + 1) ≤ 8 ∧ 0 ≤ (s + z74) ∧ (s + z74) ≤ 16 * (m + 1); omega) (by show 1 = 0 ∨ 1 = 1; omega) (by show 1 = 1 ∨ 1 ≤ (m + 1); omega) (ws_push ((funext fun j9 => hE_n73 42 p.toNat j9 rfl).trans ((funext fun j9 => hE_n69 42 p.toNat j9 rfl).trans ((funext fun j9 => hE_n64 42 p.toNat j9 rfl).trans ((funext fun j9 => hE_n60 42 p.toNat j9 rfl).trans rfl)))) is9 (by omega) (by omega)) (lQ.push iL ((funext fun j9 => hE_n73 41 p.toNat j9 rfl).trans ((funext fun j9 => hE_n69 41 p.toNat j9 rfl).trans ((funext fun j9 => hE_n64 41 p.toNat j9 rfl).trans ((funext fun j9 => hE_n60 41 p.toNat j9 rfl).trans rfl)))) ((funext fun j9 => hE_n73 42 p.toNat j9 rfl).trans ((funext fun j9 => hE_n69 42 p.toNat j9 rfl).trans ((funext fun j9 => hE_n64 42 p.toNat j9 rfl).trans ((funext fun j9 => hE_n60 42 p.toNat j9 rfl).trans rfl)))) (by omega)) (((funext fun j9 => hE_n73 36 p.toNat j9 rfl).trans ((funext fun j9 => hE_n69 36 p.toNat j9 rfl).trans ((funext fun j9 => hE_n64 36 p.toNat j9 rfl).trans ((funext fun j9 => hE_n60 36 p.toNat j9 rfl).trans rfl)))).trans i36) (fun _ => ⟨g0, by show A 0 0 24 - 3 * A 0 0 29 ≤ A71 0 0 24 - 3 * (x76 + 1); omega⟩) (by have hm9 := hm; show (20 - (m + 1)) < _; omega)
                        · subst e_n86
                          clear hz_n86
                          refine m_blk 8 [(5, vi 0), (4, vi (m + 1)), (3, vi (s + z74)), (7, vi z74), (6, vi z65), (2, vi i), (1, vi p), (0, vr 0 0)] [] C f_q_lotsOf_126_2 rfl ?_
                          refine m_loc [(5, vi 0), (4, vi (m + 1)), (3, vi (s + z74)), (2, vi i), (1, vi p), (0, vr 0 0)] ⟨rfl, rfl, rfl, rfl, rfl, rfl, trivial⟩ ?_
                          exact ih (mu (mu (mu A71 41 p.toNat x76.toNat z65) 42 p.toNat x76.toNat z74) 0 0 29 (x76 + 1)) 0 (m + 1) (s + z74) t81 q82 (by show A71 0 0 24 ≤ A71 0 0 23 ∧ A71 0 0 23 ≤ A71 0 0 22; omega) pt_n73 (by show A 0 0 24 ≤ A71 0 0 24 ∧ (x76 + 1) = A 0 0 29 + (m + 1) ∧ A71 0 0 22 = A 0 0 22 ∧ A71 0 0 30 = A 0 0 30; omega) (by show 0 ≤ (m + 1) ∧ (m + 1) ≤ 8 ∧ 0 ≤ (s + z74) ∧ (s + z74) ≤ 16 * (m + 1); omega) (by show 0 = 0 ∨ 0 = 1; omega) (by show 0 = 1 ∨ 1 ≤ (m + 1); omega) (ws_push ((funext fun j9 => hE_n73 42 p.toNat j9 rfl).trans ((funext fun j9 => hE_n69 42 p.toNat j9 rfl).trans ((funext fun j9 => hE_n64 42 p.toNat j9 rfl).trans ((funext fun j9 => hE_n60 42 p.toNat j9 rfl).trans rfl)))) is9 (by omega) (by omega)) (lQ.push iL ((funext fun j9 => hE_n73 41 p.toNat j9 rfl).trans ((funext fun j9 => hE_n69 41 p.toNat j9 rfl).trans ((funext fun j9 => hE_n64 41 p.toNat j9 rfl).trans ((funext fun j9 => hE_n60 41 p.toNat j9 rfl).trans rfl)))) ((funext fun j9 => hE_n73 42 p.toNat j9 rfl).trans ((funext fun j9 => hE_n69 42 p.toNat j9 rfl).trans ((funext fun j9 => hE_n64 42 p.toNat j9 rfl).trans ((funext fun j9 => hE_n60 42 p.toNat j9 rfl).trans rfl)))) (by omega)) (((funext fun j9 => hE_n73 36 p.toNat j9 rfl).trans ((funext fun j9 => hE_n69 36 p.toNat j9 rfl).trans ((funext fun j9 => hE_n64 36 p.toNat j9 rfl).trans ((funext fun j9 => hE_n60 36 p.toNat j9 rfl).trans rfl)))).trans i36) (fun _ => ⟨g0, by show A 0 0 24 - 3 * A 0 0 29 ≤ A71 0 0 24 - 3 * (x76 + 1); omega⟩) (by have hm9 := hm; show (20 - (m + 1)) < _; omega)
                      · clear raw_hw_n73
                        refine m_blk 69 [(7, vi z74), (6, vi z65), (5, vi b), (4, vi m), (3, vi s), (2, vi i), (1, vi p), (0, vr 0 0)] [vr 0 0] C f_q_lotsOf_66_2 rfl ?_
                        refine m_geti C e_q_lotsOf_69 fg_Mo_155 rfl (by decide) rfl 1 g_n73 ?_
                        refine m_if_eq (tgt := 76) C e_q_lotsOf_72 (by decide) (by decide) (fun c88 => (by omega : False).elim) (fun c88 => ?_)
                        exact m_vret C Rm E e_q_lotsOf_75 ⟨rfl, hT_n73, hF_n73, (by show A71 0 0 24 ≤ A71 0 0 23 ∧ A71 0 0 23 ≤ A71 0 0 22; omega), pt_n73, (by show A 0 0 24 ≤ A71 0 0 24 ∧ A 0 0 29 ≤ A71 0 0 29; omega), (fun h9 => absurd ((g_n73 : A71 0 0 31 = 1).symm.trans h9) (by decide)), (lQ.eq iL ((funext fun j9 => hE_n73 41 p.toNat j9 rfl).trans ((funext fun j9 => hE_n69 41 p.toNat j9 rfl).trans ((funext fun j9 => hE_n64 41 p.toNat j9 rfl).trans ((funext fun j9 => hE_n60 41 p.toNat j9 rfl).trans rfl)))) ((funext fun j9 => hE_n73 42 p.toNat j9 rfl).trans ((funext fun j9 => hE_n69 42 p.toNat j9 rfl).trans ((funext fun j9 => hE_n64 42 p.toNat j9 rfl).trans ((funext fun j9 => hE_n60 42 p.toNat j9 rfl).trans rfl))))), (lNm.eq (((funext fun j9 => hE_n73 36 p.toNat j9 rfl).trans ((funext fun j9 => hE_n69 36 p.toNat j9 rfl).trans ((funext fun j9 => hE_n64 36 p.toNat j9 rfl).trans ((funext fun j9 => hE_n60 36 p.toNat j9 rfl).trans rfl)))).trans i36))⟩
                    · clear raw_hw_n69
                      refine m_blk 63 [(6, vi z65), (5, vi b), (4, vi m), (3, vi s), (2, vi i), (1, vi p), (0, vr 0 0)] [vi 16, vi 1, vi 3, vr 0 0] C f_q_lotsOf_58_4 rfl ?_
                      refine m_callV C Rm Y [vi 3, vi 1, vi 16] [] (q_takes l D B H0 ad _ hS hT_n69 3 1 16 (by show 1 ≤ 3 ∧ 3 ≤ 4; omega) (by show 0 ≤ 1 ∧ 1 ≤ 2147483647 ∧ -1 ≤ 16 ∧ 16 ≤ 2147483647; omega) (by show A67 0 0 24 ≤ A67 0 0 23 ∧ A67 0 0 23 ≤ A67 0 0 22; omega) pt_n69) cl_Mo_198 rfl (by decide) rfl rfl e_q_lotsOf_63 rfl rfl rfl ⟨by decide, by decide⟩ ?_
                      rintro v89 A90 ⟨z93, rfl, hT_n92, hE_n92, raw_hz_n92, raw_hb_n92, raw_hn_n92, raw_hw_n92, raw_hm_n92⟩
                      have hF_n92 := hF_n69.trans (hE_n92.sub (nm_lo _))
                      show JM g D ad w0 A90 66 [(6, vi z65), (5, vi b), (4, vi m), (3, vi s), (2, vi i), (1, vi p), (0, vr 0 0)] [vi z93]
                      have hb_n92 : A90 0 0 24 ≤ A90 0 0 23 ∧ A90 0 0 23 ≤ A90 0 0 22 := raw_hb_n92
                      clear raw_hb_n92
                      have hm_n92 : A67 0 0 24 ≤ A90 0 0 24 := raw_hm_n92
                      clear raw_hm_n92
                      have hz_n92 : z93 = 0 ∨ 1 ≤ z93 ∧ z93 ≤ 16 := raw_hz_n92
                      clear raw_hz_n92
                      have pt_n92 : pT A90 := raw_hn_n92
                      clear raw_hn_n92
                      have k0_n92 : A90 0 0 0 = A67 0 0 0 := hE_n92 0 0 0 rfl
                      have k22_n92 : A90 0 0 22 = A67 0 0 22 := hE_n92 0 0 22 rfl
                      have k27_n92 : A90 0 0 27 = A67 0 0 27 := hE_n92 0 0 27 rfl
                      have k28_n92 : A90 0 0 28 = A67 0 0 28 := hE_n92 0 0 28 rfl
                      have k29_n92 : A90 0 0 29 = A67 0 0 29 := hE_n92 0 0 29 rfl
                      have k30_n92 : A90 0 0 30 = A67 0 0 30 := hE_n92 0 0 30 rfl
                      have g_n92 : A90 0 0 31 = 1 := wr_1 (hT_n92 0 0 31) (fun h9 => absurd ((g_n69 : A67 0 0 31 = 1).symm.trans (raw_hw_n92 h9).1) (by decide))
                      clear raw_hw_n92
                      refine m_blk 69 [(7, vi z93), (6, vi z65), (5, vi b), (4, vi m), (3, vi s), (2, vi i), (1, vi p), (0, vr 0 0)] [vr 0 0] C f_q_lotsOf_66_2 rfl ?_
                      refine m_geti C e_q_lotsOf_69 fg_Mo_155 rfl (by decide) rfl 1 g_n92 ?_
                      refine m_if_eq (tgt := 76) C e_q_lotsOf_72 (by decide) (by decide) (fun c94 => (by omega : False).elim) (fun c94 => ?_)
                      exact m_vret C Rm E e_q_lotsOf_75 ⟨rfl, hT_n92, hF_n92, (by show A90 0 0 24 ≤ A90 0 0 23 ∧ A90 0 0 23 ≤ A90 0 0 22; omega), pt_n92, (by show A 0 0 24 ≤ A90 0 0 24 ∧ A 0 0 29 ≤ A90 0 0 29; omega), (fun h9 => absurd ((g_n92 : A90 0 0 31 = 1).symm.trans h9) (by decide)), (lQ.eq iL ((funext fun j9 => hE_n92 41 p.toNat j9 rfl).trans ((funext fun j9 => hE_n69 41 p.toNat j9 rfl).trans ((funext fun j9 => hE_n64 41 p.toNat j9 rfl).trans ((funext fun j9 => hE_n60 41 p.toNat j9 rfl).trans rfl)))) ((funext fun j9 => hE_n92 42 p.toNat j9 rfl).trans ((funext fun j9 => hE_n69 42 p.toNat j9 rfl).trans ((funext fun j9 => hE_n64 42 p.toNat j9 rfl).trans ((funext fun j9 => hE_n60 42 p.toNat j9 rfl).trans rfl))))), (lNm.eq (((funext fun j9 => hE_n92 36 p.toNat j9 rfl).trans ((funext fun j9 => hE_n69 36 p.toNat j9 rfl).trans ((funext fun j9 => hE_n64 36 p.toNat j9 rfl).trans ((funext fun j9 => hE_n60 36 p.toNat j9 rfl).trans rfl)))).trans i36))⟩
                  · clear raw_hw_n64
                    refine m_blk 55 [(6, vi z65), (5, vi b), (4, vi m), (3, vi s), (2, vi i), (1, vi p), (0, vr 0 0)] [vi 58, vr 0 0] C f_q_lotsOf_50_3 rfl ?_
                    refine m_callV C Rm Y [vi 58] [] (q_need l D B H0 ad _ hS hT_n64 58 (by show -2147483648 ≤ 58 ∧ 58 ≤ 2147483647; omega) (by show A62 0 0 24 ≤ A62 0 0 23 ∧ A62 0 0 23 ≤ A62 0 0 22; omega) pt_n64) cl_Mo_188 rfl (by decide) rfl rfl e_q_lotsOf_55 rfl rfl rfl ⟨by decide, by decide⟩ ?_
                    rintro v95 A96 ⟨rfl, hT_n98, hE_n98, raw_hb_n98, raw_hn_n98, raw_hw_n98, raw_hm_n98⟩
                    have hF_n98 := hF_n64.trans (hE_n98.sub (nm_lo _))
                    show JM g D ad w0 A96 58 [(6, vi z65), (5, vi b), (4, vi m), (3, vi s), (2, vi i), (1, vi p), (0, vr 0 0)] []
                    have hb_n98 : A96 0 0 24 ≤ A96 0 0 23 ∧ A96 0 0 23 ≤ A96 0 0 22 := raw_hb_n98
                    clear raw_hb_n98
                    have hm_n98 : A62 0 0 24 ≤ A96 0 0 24 := raw_hm_n98
                    clear raw_hm_n98
                    have pt_n98 : pT A96 := raw_hn_n98
                    clear raw_hn_n98
                    have k0_n98 : A96 0 0 0 = A62 0 0 0 := hE_n98 0 0 0 rfl
                    have k22_n98 : A96 0 0 22 = A62 0 0 22 := hE_n98 0 0 22 rfl
                    have k27_n98 : A96 0 0 27 = A62 0 0 27 := hE_n98 0 0 27 rfl
                    have k28_n98 : A96 0 0 28 = A62 0 0 28 := hE_n98 0 0 28 rfl
                    have k29_n98 : A96 0 0 29 = A62 0 0 29 := hE_n98 0 0 29 rfl
                    have k30_n98 : A96 0 0 30 = A62 0 0 30 := hE_n98 0 0 30 rfl
                    have g_n98 : A96 0 0 31 = 1 := wr_1 (hT_n98 0 0 31) (fun h9 => absurd ((g_n64 : A62 0 0 31 = 1).symm.trans (raw_hw_n98 h9).1) (by decide))
                    clear raw_hw_n98
                    refine m_blk 63 [(6, vi z65), (5, vi b), (4, vi m), (3, vi s), (2, vi i), (1, vi p), (0, vr 0 0)] [vi 16, vi 1, vi 3, vr 0 0] C f_q_lotsOf_58_4 rfl ?_
                    refine m_callV C Rm Y [vi 3, vi 1, vi 16] [] (q_takes l D B H0 ad _ hS hT_n98 3 1 16 (by show 1 ≤ 3 ∧ 3 ≤ 4; omega) (by show 0 ≤ 1 ∧ 1 ≤ 2147483647 ∧ -1 ≤ 16 ∧ 16 ≤ 2147483647; omega) (by show A96 0 0 24 ≤ A96 0 0 23 ∧ A96 0 0 23 ≤ A96 0 0 22; omega) pt_n98) cl_Mo_198 rfl (by decide) rfl rfl e_q_lotsOf_63 rfl rfl rfl ⟨by decide, by decide⟩ ?_
                    rintro v99 A100 ⟨z103, rfl, hT_n102, hE_n102, raw_hz_n102, raw_hb_n102, raw_hn_n102, raw_hw_n102, raw_hm_n102⟩
                    have hF_n102 := hF_n98.trans (hE_n102.sub (nm_lo _))
                    show JM g D ad w0 A100 66 [(6, vi z65), (5, vi b), (4, vi m), (3, vi s), (2, vi i), (1, vi p), (0, vr 0 0)] [vi z103]
                    have hb_n102 : A100 0 0 24 ≤ A100 0 0 23 ∧ A100 0 0 23 ≤ A100 0 0 22 := raw_hb_n102
                    clear raw_hb_n102
                    have hm_n102 : A96 0 0 24 ≤ A100 0 0 24 := raw_hm_n102
                    clear raw_hm_n102
                    have hz_n102 : z103 = 0 ∨ 1 ≤ z103 ∧ z103 ≤ 16 := raw_hz_n102
                    clear raw_hz_n102
                    have pt_n102 : pT A100 := raw_hn_n102
                    clear raw_hn_n102
                    have k0_n102 : A100 0 0 0 = A96 0 0 0 := hE_n102 0 0 0 rfl
                    have k22_n102 : A100 0 0 22 = A96 0 0 22 := hE_n102 0 0 22 rfl
                    have k27_n102 : A100 0 0 27 = A96 0 0 27 := hE_n102 0 0 27 rfl
                    have k28_n102 : A100 0 0 28 = A96 0 0 28 := hE_n102 0 0 28 rfl
                    have k29_n102 : A100 0 0 29 = A96 0 0 29 := hE_n102 0 0 29 rfl
                    have k30_n102 : A100 0 0 30 = A96 0 0 30 := hE_n102 0 0 30 rfl
                    have g_n102 : A100 0 0 31 = 1 := wr_1 (hT_n102 0 0 31) (fun h9 => absurd ((g_n98 : A96 0 0 31 = 1).symm.trans (raw_hw_n102 h9).1) (by decide))
                    clear raw_hw_n102
                    refine m_blk 69 [(7, vi z103), (6, vi z65), (5, vi b), (4, vi m), (3, vi s), (2, vi i), (1, vi p), (0, vr 0 0)] [vr 0 0] C f_q_lotsOf_66_2 rfl ?_
                    refine m_geti C e_q_lotsOf_69 fg_Mo_155 rfl (by decide) rfl 1 g_n102 ?_
                    refine m_if_eq (tgt := 76) C e_q_lotsOf_72 (by decide) (by decide) (fun c104 => (by omega : False).elim) (fun c104 => ?_)
                    exact m_vret C Rm E e_q_lotsOf_75 ⟨rfl, hT_n102, hF_n102, (by show A100 0 0 24 ≤ A100 0 0 23 ∧ A100 0 0 23 ≤ A100 0 0 22; omega), pt_n102, (by show A 0 0 24 ≤ A100 0 0 24 ∧ A 0 0 29 ≤ A100 0 0 29; omega), (fun h9 => absurd ((g_n102 : A100 0 0 31 = 1).symm.trans h9) (by decide)), (lQ.eq iL ((funext fun j9 => hE_n102 41 p.toNat j9 rfl).trans ((funext fun j9 => hE_n98 41 p.toNat j9 rfl).trans ((funext fun j9 => hE_n64 41 p.toNat j9 rfl).trans ((funext fun j9 => hE_n60 41 p.toNat j9 rfl).trans rfl)))) ((funext fun j9 => hE_n102 42 p.toNat j9 rfl).trans ((funext fun j9 => hE_n98 42 p.toNat j9 rfl).trans ((funext fun j9 => hE_n64 42 p.toNat j9 rfl).trans ((funext fun j9 => hE_n60 42 p.toNat j9 rfl).trans rfl))))), (lNm.eq (((funext fun j9 => hE_n102 36 p.toNat j9 rfl).trans ((funext fun j9 => hE_n98 36 p.toNat j9 rfl).trans ((funext fun j9 => hE_n64 36 p.toNat j9 rfl).trans ((funext fun j9 => hE_n60 36 p.toNat j9 rfl).trans rfl)))).trans i36))⟩
                · refine m_blk 47 [(5, vi b), (4, vi m), (3, vi s), (2, vi i), (1, vi p), (0, vr 0 0)] [vi 9, vi 0, vi 3, vr 0 0] C f_q_lotsOf_42_4 rfl ?_
                  refine m_callV C Rm Y [vi 3, vi 0, vi 9] [] (q_takes l D B H0 ad _ hS hT_n60 3 0 9 (by show 1 ≤ 3 ∧ 3 ≤ 4; omega) (by show 0 ≤ 0 ∧ 0 ≤ 2147483647 ∧ -1 ≤ 9 ∧ 9 ≤ 2147483647; omega) (by show A58 0 0 24 ≤ A58 0 0 23 ∧ A58 0 0 23 ≤ A58 0 0 22; omega) pt_n60) cl_Mo_198 rfl (by decide) rfl rfl e_q_lotsOf_47 rfl rfl rfl ⟨by decide, by decide⟩ ?_
                  rintro v105 A106 ⟨z109, rfl, hT_n108, hE_n108, raw_hz_n108, raw_hb_n108, raw_hn_n108, raw_hw_n108, raw_hm_n108⟩
                  have hF_n108 := hF_n60.trans (hE_n108.sub (nm_lo _))
                  show JM g D ad w0 A106 50 [(5, vi b), (4, vi m), (3, vi s), (2, vi i), (1, vi p), (0, vr 0 0)] [vi z109]
                  have hb_n108 : A106 0 0 24 ≤ A106 0 0 23 ∧ A106 0 0 23 ≤ A106 0 0 22 := raw_hb_n108
                  clear raw_hb_n108
                  have hm_n108 : A58 0 0 24 ≤ A106 0 0 24 := raw_hm_n108
                  clear raw_hm_n108
                  have hz_n108 : z109 = 0 ∨ 0 ≤ z109 ∧ z109 ≤ 9 := raw_hz_n108
                  clear raw_hz_n108
                  have pt_n108 : pT A106 := raw_hn_n108
                  clear raw_hn_n108
                  have k0_n108 : A106 0 0 0 = A58 0 0 0 := hE_n108 0 0 0 rfl
                  have k22_n108 : A106 0 0 22 = A58 0 0 22 := hE_n108 0 0 22 rfl
                  have k27_n108 : A106 0 0 27 = A58 0 0 27 := hE_n108 0 0 27 rfl
                  have k28_n108 : A106 0 0 28 = A58 0 0 28 := hE_n108 0 0 28 rfl
                  have k29_n108 : A106 0 0 29 = A58 0 0 29 := hE_n108 0 0 29 rfl
                  have k30_n108 : A106 0 0 30 = A58 0 0 30 := hE_n108 0 0 30 rfl
                  have g_n108 : A106 0 0 31 = 1 := wr_1 (hT_n108 0 0 31) (fun h9 => absurd ((g_n60 : A58 0 0 31 = 1).symm.trans (raw_hw_n108 h9).1) (by decide))
                  clear raw_hw_n108
                  refine m_blk 55 [(6, vi z109), (5, vi b), (4, vi m), (3, vi s), (2, vi i), (1, vi p), (0, vr 0 0)] [vi 58, vr 0 0] C f_q_lotsOf_50_3 rfl ?_
                  refine m_callV C Rm Y [vi 58] [] (q_need l D B H0 ad _ hS hT_n108 58 (by show -2147483648 ≤ 58 ∧ 58 ≤ 2147483647; omega) (by show A106 0 0 24 ≤ A106 0 0 23 ∧ A106 0 0 23 ≤ A106 0 0 22; omega) pt_n108) cl_Mo_188 rfl (by decide) rfl rfl e_q_lotsOf_55 rfl rfl rfl ⟨by decide, by decide⟩ ?_
                  rintro v110 A111 ⟨rfl, hT_n113, hE_n113, raw_hb_n113, raw_hn_n113, raw_hw_n113, raw_hm_n113⟩
                  have hF_n113 := hF_n108.trans (hE_n113.sub (nm_lo _))
                  show JM g D ad w0 A111 58 [(6, vi z109), (5, vi b), (4, vi m), (3, vi s), (2, vi i), (1, vi p), (0, vr 0 0)] []
                  have hb_n113 : A111 0 0 24 ≤ A111 0 0 23 ∧ A111 0 0 23 ≤ A111 0 0 22 := raw_hb_n113
                  clear raw_hb_n113
                  have hm_n113 : A106 0 0 24 ≤ A111 0 0 24 := raw_hm_n113
                  clear raw_hm_n113
                  have pt_n113 : pT A111 := raw_hn_n113
                  clear raw_hn_n113
                  have k0_n113 : A111 0 0 0 = A106 0 0 0 := hE_n113 0 0 0 rfl
                  have k22_n113 : A111 0 0 22 = A106 0 0 22 := hE_n113 0 0 22 rfl
                  have k27_n113 : A111 0 0 27 = A106 0 0 27 := hE_n113 0 0 27 rfl
                  have k28_n113 : A111 0 0 28 = A106 0 0 28 := hE_n113 0 0 28 rfl
                  have k29_n113 : A111 0 0 29 = A106 0 0 29 := hE_n113 0 0 29 rfl
                  have k30_n113 : A111 0 0 30 = A106 0 0 30 := hE_n113 0 0 30 rfl
                  have g_n113 : A111 0 0 31 = 1 := wr_1 (hT_n113 0 0 31) (fun h9 => absurd ((g_n108 : A106 0 0 31 = 1).symm.trans (raw_hw_n113 h9).1) (by decide))
                  clear raw_hw_n113
                  refine m_blk 63 [(6, vi z109), (5, vi b), (4, vi m), (3, vi s), (2, vi i), (1, vi p), (0, vr 0 0)] [vi 16, vi 1, vi 3, vr 0 0] C f_q_lotsOf_58_4 rfl ?_
                  refine m_callV C Rm Y [vi 3, vi 1, vi 16] [] (q_takes l D B H0 ad _ hS hT_n113 3 1 16 (by show 1 ≤ 3 ∧ 3 ≤ 4; omega) (by show 0 ≤ 1 ∧ 1 ≤ 2147483647 ∧ -1 ≤ 16 ∧ 16 ≤ 2147483647; omega) (by show A111 0 0 24 ≤ A111 0 0 23 ∧ A111 0 0 23 ≤ A111 0 0 22; omega) pt_n113) cl_Mo_198 rfl (by decide) rfl rfl e_q_lotsOf_63 rfl rfl rfl ⟨by decide, by decide⟩ ?_
                  rintro v114 A115 ⟨z118, rfl, hT_n117, hE_n117, raw_hz_n117, raw_hb_n117, raw_hn_n117, raw_hw_n117, raw_hm_n117⟩
                  have hF_n117 := hF_n113.trans (hE_n117.sub (nm_lo _))
                  show JM g D ad w0 A115 66 [(6, vi z109), (5, vi b), (4, vi m), (3, vi s), (2, vi i), (1, vi p), (0, vr 0 0)] [vi z118]
                  have hb_n117 : A115 0 0 24 ≤ A115 0 0 23 ∧ A115 0 0 23 ≤ A115 0 0 22 := raw_hb_n117
                  clear raw_hb_n117
                  have hm_n117 : A111 0 0 24 ≤ A115 0 0 24 := raw_hm_n117
                  clear raw_hm_n117
                  have hz_n117 : z118 = 0 ∨ 1 ≤ z118 ∧ z118 ≤ 16 := raw_hz_n117
                  clear raw_hz_n117
                  have pt_n117 : pT A115 := raw_hn_n117
                  clear raw_hn_n117
                  have k0_n117 : A115 0 0 0 = A111 0 0 0 := hE_n117 0 0 0 rfl
                  have k22_n117 : A115 0 0 22 = A111 0 0 22 := hE_n117 0 0 22 rfl
                  have k27_n117 : A115 0 0 27 = A111 0 0 27 := hE_n117 0 0 27 rfl
                  have k28_n117 : A115 0 0 28 = A111 0 0 28 := hE_n117 0 0 28 rfl
                  have k29_n117 : A115 0 0 29 = A111 0 0 29 := hE_n117 0 0 29 rfl
                  have k30_n117 : A115 0 0 30 = A111 0 0 30 := hE_n117 0 0 30 rfl
                  have g_n117 : A115 0 0 31 = 1 := wr_1 (hT_n117 0 0 31) (fun h9 => absurd ((g_n113 : A111 0 0 31 = 1).symm.trans (raw_hw_n117 h9).1) (by decide))
                  clear raw_hw_n117
                  refine m_blk 69 [(7, vi z118), (6, vi z109), (5, vi b), (4, vi m), (3, vi s), (2, vi i), (1, vi p), (0, vr 0 0)] [vr 0 0] C f_q_lotsOf_66_2 rfl ?_
                  refine m_geti C e_q_lotsOf_69 fg_Mo_155 rfl (by decide) rfl 1 g_n117 ?_
                  refine m_if_eq (tgt := 76) C e_q_lotsOf_72 (by decide) (by decide) (fun c119 => (by omega : False).elim) (fun c119 => ?_)
                  exact m_vret C Rm E e_q_lotsOf_75 ⟨rfl, hT_n117, hF_n117, (by show A115 0 0 24 ≤ A115 0 0 23 ∧ A115 0 0 23 ≤ A115 0 0 22; omega), pt_n117, (by show A 0 0 24 ≤ A115 0 0 24 ∧ A 0 0 29 ≤ A115 0 0 29; omega), (fun h9 => absurd ((g_n117 : A115 0 0 31 = 1).symm.trans h9) (by decide)), (lQ.eq iL ((funext fun j9 => hE_n117 41 p.toNat j9 rfl).trans ((funext fun j9 => hE_n113 41 p.toNat j9 rfl).trans ((funext fun j9 => hE_n108 41 p.toNat j9 rfl).trans ((funext fun j9 => hE_n60 41 p.toNat j9 rfl).trans rfl)))) ((funext fun j9 => hE_n117 42 p.toNat j9 rfl).trans ((funext fun j9 => hE_n113 42 p.toNat j9 rfl).trans ((funext fun j9 => hE_n108 42 p.toNat j9 rfl).trans ((funext fun j9 => hE_n60 42 p.toNat j9 rfl).trans rfl))))), (lNm.eq (((funext fun j9 => hE_n117 36 p.toNat j9 rfl).trans ((funext fun j9 => hE_n113 36 p.toNat j9 rfl).trans ((funext fun j9 => hE_n108 36 p.toNat j9 rfl).trans ((funext fun j9 => hE_n60 36 p.toNat j9 rfl).trans rfl)))).trans i36))⟩
            · refine m_blk 29 [(5, vi b), (4, vi m), (3, vi s), (2, vi i), (1, vi p), (0, vr 0 0)] [vi 1, vr 0 0] C f_q_lotsOf_27_2 rfl ?_
              refine m_putz C e_q_lotsOf_29 fp_Mo_155 rfl (by decide) rfl (Or.inr rfl) ?_
              have t120 : mTy (mu A2 0 0 31 1) := hT2.mu (by show 0 ≤ 1 ∧ 1 ≤ 1; omega)
              have q121 := hE2.mu (f := 0) (k := 0) (j := 31) (z := 1) (by simp [lo])
              exact m_vret C Rm E e_q_lotsOf_32 ⟨rfl, t120, q121, (by show A2 0 0 24 ≤ A2 0 0 23 ∧ A2 0 0 23 ≤ A2 0 0 22; omega), (fun h9 => absurd (show (1 : Int) = 0 from h9) (by decide)), (by show A 0 0 24 ≤ A2 0 0 24 ∧ A 0 0 29 ≤ A2 0 0 29; omega), (fun h9 => absurd (show (1 : Int) = 0 from h9) (by decide)), (lQ.eq iL rfl rfl), (lNm.eq i36)⟩
        · refine m_blk 10 [(5, vi b), (4, vi m), (3, vi s), (2, vi i), (1, vi p), (0, vr 0 0)] [vi b] C f_q_lotsOf_8_1 rfl ?_
          refine m_if_eq (tgt := 131) C e_q_lotsOf_10 (by decide) (by omega) (fun c122 => ?_) (fun c122 => ?_)
          · refine m_blk 132 [(5, vi b), (4, vi m), (3, vi s), (2, vi i), (1, vi p), (0, vr 0 0)] [vr 0 0] C f_q_lotsOf_131_1 rfl ?_
            refine m_getr C e_q_lotsOf_132 fg_Mo_27 rfl (by decide) rfl ?_
            refine m_blk 136 [(5, vi b), (4, vi m), (3, vi s), (2, vi i), (1, vi p), (0, vr 0 0)] [vi p, vr 16 0] C f_q_lotsOf_135_1 rfl ?_
            refine m_aald C p.toNat e_q_lotsOf_136 rfl rfl rfl (by decide) (by decide) (by omega) (by show p < ((6 : Nat) : Int); omega) (mz _ _) ?_
            refine m_blk 140 [(5, vi b), (4, vi m), (3, vi s), (2, vi i), (1, vi p), (0, vr 0 0)] [vi m, vi i, vr 36 p.toNat] C f_q_lotsOf_137_2 rfl ?_
            refine m_iast C e_q_lotsOf_140 rfl (by omega) (by decide) (by omega) (by show i < ((16 : Nat) : Int); omega) ?_
            have t123 : mTy (mu A2 36 p.toNat i.toNat m) := hT2.mu (by show (-1) ≤ m ∧ m ≤ 9; omega)
            have q124 := hE2.mu (f := 36) (k := p.toNat) (j := i.toNat) (z := m) (by simp [lo])
            refine m_blk 143 [(5, vi b), (4, vi m), (3, vi s), (2, vi i), (1, vi p), (0, vr 0 0)] [vi 2, vi s] C f_q_lotsOf_141_2 rfl ?_
            refine m_icmp_eq (tgt := 168) C e_q_lotsOf_143 (by decide) (by omega) (by decide) (fun c125 => ?_) (fun c125 => ?_)
            · exact m_vret C Rm E e_q_lotsOf_168 ⟨rfl, t123, q124, (by show A2 0 0 24 ≤ A2 0 0 23 ∧ A2 0 0 23 ≤ A2 0 0 22; omega), iT, (by show A 0 0 24 ≤ A2 0 0 24 ∧ A 0 0 29 ≤ A2 0 0 29; omega), (fun h9 => absurd ((g2 : A2 0 0 31 = 1).symm.trans h9) (by decide)), (lQ.eq iL rfl rfl), (lNm.put i36)⟩
            · refine m_blk 148 [(5, vi b), (4, vi m), (3, vi s), (2, vi i), (1, vi p), (0, vr 0 0)] [vi 4, vi s] C f_q_lotsOf_146_2 rfl ?_
              refine m_icmp_eq (tgt := 168) C e_q_lotsOf_148 (by decide) (by omega) (by decide) (fun c126 => ?_) (fun c126 => ?_)
              · exact m_vret C Rm E e_q_lotsOf_168 ⟨rfl, t123, q124, (by show A2 0 0 24 ≤ A2 0 0 23 ∧ A2 0 0 23 ≤ A2 0 0 22; omega), iT, (by show A 0 0 24 ≤ A2 0 0 24 ∧ A 0 0 29 ≤ A2 0 0 29; omega), (fun h9 => absurd ((g2 : A2 0 0 31 = 1).symm.trans h9) (by decide)), (lQ.eq iL rfl rfl), (lNm.put i36)⟩
              · refine m_blk 154 [(5, vi b), (4, vi m), (3, vi s), (2, vi i), (1, vi p), (0, vr 0 0)] [vi 8, vi s] C f_q_lotsOf_151_2 rfl ?_
                refine m_icmp_eq (tgt := 168) C e_q_lotsOf_154 (by decide) (by omega) (by decide) (fun c127 => ?_) (fun c127 => ?_)
                · exact m_vret C Rm E e_q_lotsOf_168 ⟨rfl, t123, q124, (by show A2 0 0 24 ≤ A2 0 0 23 ∧ A2 0 0 23 ≤ A2 0 0 22; omega), iT, (by show A 0 0 24 ≤ A2 0 0 24 ∧ A 0 0 29 ≤ A2 0 0 29; omega), (fun h9 => absurd ((g2 : A2 0 0 31 = 1).symm.trans h9) (by decide)), (lQ.eq iL rfl rfl), (lNm.put i36)⟩
                · refine m_blk 160 [(5, vi b), (4, vi m), (3, vi s), (2, vi i), (1, vi p), (0, vr 0 0)] [vi 16, vi s] C f_q_lotsOf_157_2 rfl ?_
                  refine m_icmp_eq (tgt := 168) C e_q_lotsOf_160 (by decide) (by omega) (by decide) (fun c128 => ?_) (fun c128 => ?_)
                  · exact m_vret C Rm E e_q_lotsOf_168 ⟨rfl, t123, q124, (by show A2 0 0 24 ≤ A2 0 0 23 ∧ A2 0 0 23 ≤ A2 0 0 22; omega), iT, (by show A 0 0 24 ≤ A2 0 0 24 ∧ A 0 0 29 ≤ A2 0 0 29; omega), (fun h9 => absurd ((g2 : A2 0 0 31 = 1).symm.trans h9) (by decide)), (lQ.eq iL rfl rfl), (lNm.put i36)⟩
                  · refine m_blk 165 [(5, vi b), (4, vi m), (3, vi s), (2, vi i), (1, vi p), (0, vr 0 0)] [vi 1, vr 0 0] C f_q_lotsOf_163_2 rfl ?_
                    refine m_putz C e_q_lotsOf_165 fp_Mo_155 rfl (by decide) rfl (Or.inr rfl) ?_
                    have t129 : mTy (mu (mu A2 36 p.toNat i.toNat m) 0 0 31 1) := t123.mu (by show 0 ≤ 1 ∧ 1 ≤ 1; omega)
                    have q130 := q124.mu (f := 0) (k := 0) (j := 31) (z := 1) (by simp [lo])
                    exact m_vret C Rm E e_q_lotsOf_168 ⟨rfl, t129, q130, (by show A2 0 0 24 ≤ A2 0 0 23 ∧ A2 0 0 23 ≤ A2 0 0 22; omega), (fun h9 => absurd (show (1 : Int) = 0 from h9) (by decide)), (by show A 0 0 24 ≤ A2 0 0 24 ∧ A 0 0 29 ≤ A2 0 0 29; omega), (fun h9 => absurd (show (1 : Int) = 0 from h9) (by decide)), (lQ.eq iL rfl rfl), (lNm.put i36)⟩
          · refine m_blk 14 [(5, vi b), (4, vi m), (3, vi s), (2, vi i), (1, vi p), (0, vr 0 0)] [vr 0 0] C f_q_lotsOf_13_1 rfl ?_
            refine m_geti C e_q_lotsOf_14 fg_Mo_155 rfl (by decide) rfl 1 g2 ?_
            refine m_if_ne (tgt := 131) C e_q_lotsOf_17 (by decide) (by decide) (fun c131 => ?_) (fun c131 => (by omega : False).elim)
            refine m_blk 132 [(5, vi b), (4, vi m), (3, vi s), (2, vi i), (1, vi p), (0, vr 0 0)] [vr 0 0] C f_q_lotsOf_131_1 rfl ?_
            refine m_getr C e_q_lotsOf_132 fg_Mo_27 rfl (by decide) rfl ?_
            refine m_blk 136 [(5, vi b), (4, vi m), (3, vi s), (2, vi i), (1, vi p), (0, vr 0 0)] [vi p, vr 16 0] C f_q_lotsOf_135_1 rfl ?_
            refine m_aald C p.toNat e_q_lotsOf_136 rfl rfl rfl (by decide) (by decide) (by omega) (by show p < ((6 : Nat) : Int); omega) (mz _ _) ?_
            refine m_blk 140 [(5, vi b), (4, vi m), (3, vi s), (2, vi i), (1, vi p), (0, vr 0 0)] [vi m, vi i, vr 36 p.toNat] C f_q_lotsOf_137_2 rfl ?_
            refine m_iast C e_q_lotsOf_140 rfl (by omega) (by decide) (by omega) (by show i < ((16 : Nat) : Int); omega) ?_
            have t132 : mTy (mu A2 36 p.toNat i.toNat m) := hT2.mu (by show (-1) ≤ m ∧ m ≤ 9; omega)
            have q133 := hE2.mu (f := 36) (k := p.toNat) (j := i.toNat) (z := m) (by simp [lo])
            refine m_blk 143 [(5, vi b), (4, vi m), (3, vi s), (2, vi i), (1, vi p), (0, vr 0 0)] [vi 2, vi s] C f_q_lotsOf_141_2 rfl ?_
            refine m_icmp_eq (tgt := 168) C e_q_lotsOf_143 (by decide) (by omega) (by decide) (fun c134 => ?_) (fun c134 => ?_)
            · exact m_vret C Rm E e_q_lotsOf_168 ⟨rfl, t132, q133, (by show A2 0 0 24 ≤ A2 0 0 23 ∧ A2 0 0 23 ≤ A2 0 0 22; omega), iT, (by show A 0 0 24 ≤ A2 0 0 24 ∧ A 0 0 29 ≤ A2 0 0 29; omega), (fun h9 => absurd ((g2 : A2 0 0 31 = 1).symm.trans h9) (by decide)), (lQ.eq iL rfl rfl), (lNm.put i36)⟩
            · refine m_blk 148 [(5, vi b), (4, vi m), (3, vi s), (2, vi i), (1, vi p), (0, vr 0 0)] [vi 4, vi s] C f_q_lotsOf_146_2 rfl ?_
              refine m_icmp_eq (tgt := 168) C e_q_lotsOf_148 (by decide) (by omega) (by decide) (fun c135 => ?_) (fun c135 => ?_)
              · exact m_vret C Rm E e_q_lotsOf_168 ⟨rfl, t132, q133, (by show A2 0 0 24 ≤ A2 0 0 23 ∧ A2 0 0 23 ≤ A2 0 0 22; omega), iT, (by show A 0 0 24 ≤ A2 0 0 24 ∧ A 0 0 29 ≤ A2 0 0 29; omega), (fun h9 => absurd ((g2 : A2 0 0 31 = 1).symm.trans h9) (by decide)), (lQ.eq iL rfl rfl), (lNm.put i36)⟩
              · refine m_blk 154 [(5, vi b), (4, vi m), (3, vi s), (2, vi i), (1, vi p), (0, vr 0 0)] [vi 8, vi s] C f_q_lotsOf_151_2 rfl ?_
                refine m_icmp_eq (tgt := 168) C e_q_lotsOf_154 (by decide) (by omega) (by decide) (fun c136 => ?_) (fun c136 => ?_)
                · exact m_vret C Rm E e_q_lotsOf_168 ⟨rfl, t132, q133, (by show A2 0 0 24 ≤ A2 0 0 23 ∧ A2 0 0 23 ≤ A2 0 0 22; omega), iT, (by show A 0 0 24 ≤ A2 0 0 24 ∧ A 0 0 29 ≤ A2 0 0 29; omega), (fun h9 => absurd ((g2 : A2 0 0 31 = 1).symm.trans h9) (by decide)), (lQ.eq iL rfl rfl), (lNm.put i36)⟩
                · refine m_blk 160 [(5, vi b), (4, vi m), (3, vi s), (2, vi i), (1, vi p), (0, vr 0 0)] [vi 16, vi s] C f_q_lotsOf_157_2 rfl ?_
                  refine m_icmp_eq (tgt := 168) C e_q_lotsOf_160 (by decide) (by omega) (by decide) (fun c137 => ?_) (fun c137 => ?_)
                  · exact m_vret C Rm E e_q_lotsOf_168 ⟨rfl, t132, q133, (by show A2 0 0 24 ≤ A2 0 0 23 ∧ A2 0 0 23 ≤ A2 0 0 22; omega), iT, (by show A 0 0 24 ≤ A2 0 0 24 ∧ A 0 0 29 ≤ A2 0 0 29; omega), (fun h9 => absurd ((g2 : A2 0 0 31 = 1).symm.trans h9) (by decide)), (lQ.eq iL rfl rfl), (lNm.put i36)⟩
                  · refine m_blk 165 [(5, vi b), (4, vi m), (3, vi s), (2, vi i), (1, vi p), (0, vr 0 0)] [vi 1, vr 0 0] C f_q_lotsOf_163_2 rfl ?_
                    refine m_putz C e_q_lotsOf_165 fp_Mo_155 rfl (by decide) rfl (Or.inr rfl) ?_
                    have t138 : mTy (mu (mu A2 36 p.toNat i.toNat m) 0 0 31 1) := t132.mu (by show 0 ≤ 1 ∧ 1 ≤ 1; omega)
                    have q139 := q133.mu (f := 0) (k := 0) (j := 31) (z := 1) (by simp [lo])
                    exact m_vret C Rm E e_q_lotsOf_168 ⟨rfl, t138, q139, (by show A2 0 0 24 ≤ A2 0 0 23 ∧ A2 0 0 23 ≤ A2 0 0 22; omega), (fun h9 => absurd (show (1 : Int) = 0 from h9) (by decide)), (by show A 0 0 24 ≤ A2 0 0 24 ∧ A 0 0 29 ≤ A2 0 0 29; omega), (fun h9 => absurd (show (1 : Int) = 0 from h9) (by decide)), (lQ.eq iL rfl rfl), (lNm.put i36)⟩
    refine m_loc [(5, vi 1), (4, vi 0), (3, vi 0), (2, vi i), (1, vi p), (0, vr 0 0)] ⟨rfl, rfl, rfl, rfl, rfl, rfl, trivial⟩ ?_
    exact hd_8 (Int.toNat ((20 - 0)) + 1) A 1 0 0 hT hE0 (by show A 0 0 24 ≤ A 0 0 23 ∧ A 0 0 23 ≤ A 0 0 22; omega) hn (by show A 0 0 24 ≤ A 0 0 24 ∧ A 0 0 29 = A 0 0 29 + 0 ∧ A 0 0 22 = A 0 0 22 ∧ A 0 0 30 = A 0 0 30; omega) (by show 0 ≤ 0 ∧ 0 ≤ 8 ∧ 0 ≤ 0 ∧ 0 ≤ 16 * 0; omega) (by show 1 = 0 ∨ 1 = 1; omega) (by show 1 = 1 ∨ 1 ≤ 0; omega) rfl (fun _ _ => ⟨rfl, rfl⟩) rfl (fun _ => ⟨g0, by show A 0 0 24 - 3 * A 0 0 29 ≤ A 0 0 24 - 3 * A 0 0 29; omega⟩) (by show (20 - 0) < _; omega)
  · refine m_blk 8 [(5, vi 1), (4, vi 0), (3, vi 0), (0, vr 0 0), (1, vi p), (2, vi i)] [] C f_q_lotsOf_0_6 rfl ?_
    have hd_8 : ∀ (N : Nat) (A2 : mA) (b : Int) (m : Int) (s : Int), mTy A2 → mEq (lo p.toNat) A A2 → A2 0 0 24 ≤ A2 0 0 23 ∧ A2 0 0 23 ≤ A2 0 0 22 → pT A2 → A 0 0 24 ≤ A2 0 0 24 ∧ A2 0 0 29 = A 0 0 29 + m ∧ A2 0 0 22 = A 0 0 22 ∧ A2 0 0 30 = A 0 0 30 → 0 ≤ m ∧ m ≤ 8 ∧ 0 ≤ s ∧ s ≤ 16 * m → b = 0 ∨ b = 1 → b = 1 ∨ 1 ≤ m → s = ws (A2 42 p.toNat) (A 0 0 29).toNat m.toNat → lQ p.toNat (A 0 0 29) A A2 → A2 36 p.toNat = A 36 p.toNat → pLw A A2 → (20 - m) < (N : Int) → JM g D ad w0 A2 8 [(5, vi b), (4, vi m), (3, vi s), (2, vi i), (1, vi p), (0, vr 0 0)] [] := by
      intro N
      induction N with
      | zero => intro A2 b m s hT2 hE2 ib iT im iv ic id9 is9 iL i36 iw hm; exact absurd hm (by omega)
      | succ N ih =>
        intro A2 b m s hT2 hE2 ib iT im iv ic id9 is9 iL i36 iw hm
        rcases (show A2 0 0 31 = 0 ∨ A2 0 0 31 = 1 from by have w8 : 0 ≤ A2 0 0 31 ∧ A2 0 0 31 ≤ 1 := hT2 0 0 31; omega) with g2 | g2
        · have u2 : A 0 0 24 - 3 * A 0 0 29 ≤ A2 0 0 24 - 3 * A2 0 0 29 := (iw g2).2
          have g0 : A 0 0 31 = 0 := (iw g2).1
          have hl0 := hl g0
          refine m_blk 10 [(5, vi b), (4, vi m), (3, vi s), (2, vi i), (1, vi p), (0, vr 0 0)] [vi b] C f_q_lotsOf_8_1 rfl ?_
          refine m_if_eq (tgt := 131) C e_q_lotsOf_10 (by decide) (by omega) (fun c140 => ?_) (fun c140 => ?_)
          · refine m_blk 132 [(5, vi b), (4, vi m), (3, vi s), (2, vi i), (1, vi p), (0, vr 0 0)] [vr 0 0] C f_q_lotsOf_131_1 rfl ?_
            refine m_getr C e_q_lotsOf_132 fg_Mo_27 rfl (by decide) rfl ?_
            refine m_blk 136 [(5, vi b), (4, vi m), (3, vi s), (2, vi i), (1, vi p), (0, vr 0 0)] [vi p, vr 16 0] C f_q_lotsOf_135_1 rfl ?_
            refine m_aald C p.toNat e_q_lotsOf_136 rfl rfl rfl (by decide) (by decide) (by omega) (by show p < ((6 : Nat) : Int); omega) (mz _ _) ?_
            refine m_blk 140 [(5, vi b), (4, vi m), (3, vi s), (2, vi i), (1, vi p), (0, vr 0 0)] [vi m, vi i, vr 36 p.toNat] C f_q_lotsOf_137_2 rfl ?_
            refine m_iast C e_q_lotsOf_140 rfl (by omega) (by decide) (by omega) (by show i < ((16 : Nat) : Int); omega) ?_
            have t141 : mTy (mu A2 36 p.toNat i.toNat m) := hT2.mu (by show (-1) ≤ m ∧ m ≤ 9; omega)
            have q142 := hE2.mu (f := 36) (k := p.toNat) (j := i.toNat) (z := m) (by simp [lo])
            refine m_blk 143 [(5, vi b), (4, vi m), (3, vi s), (2, vi i), (1, vi p), (0, vr 0 0)] [vi 2, vi s] C f_q_lotsOf_141_2 rfl ?_
            refine m_icmp_eq (tgt := 168) C e_q_lotsOf_143 (by decide) (by omega) (by decide) (fun c143 => ?_) (fun c143 => ?_)
            · exact m_vret C Rm E e_q_lotsOf_168 ⟨rfl, t141, q142, (by show A2 0 0 24 ≤ A2 0 0 23 ∧ A2 0 0 23 ≤ A2 0 0 22; omega), iT, (by show A 0 0 24 ≤ A2 0 0 24 ∧ A 0 0 29 ≤ A2 0 0 29; omega), (pLo.mk g0 u2 (by omega) (by omega) is9 (by omega)), (lQ.eq iL rfl rfl), (lNm.put i36)⟩
            · refine m_blk 148 [(5, vi b), (4, vi m), (3, vi s), (2, vi i), (1, vi p), (0, vr 0 0)] [vi 4, vi s] C f_q_lotsOf_146_2 rfl ?_
              refine m_icmp_eq (tgt := 168) C e_q_lotsOf_148 (by decide) (by omega) (by decide) (fun c144 => ?_) (fun c144 => ?_)
              · exact m_vret C Rm E e_q_lotsOf_168 ⟨rfl, t141, q142, (by show A2 0 0 24 ≤ A2 0 0 23 ∧ A2 0 0 23 ≤ A2 0 0 22; omega), iT, (by show A 0 0 24 ≤ A2 0 0 24 ∧ A 0 0 29 ≤ A2 0 0 29; omega), (pLo.mk g0 u2 (by omega) (by omega) is9 (by omega)), (lQ.eq iL rfl rfl), (lNm.put i36)⟩
              · refine m_blk 154 [(5, vi b), (4, vi m), (3, vi s), (2, vi i), (1, vi p), (0, vr 0 0)] [vi 8, vi s] C f_q_lotsOf_151_2 rfl ?_
                refine m_icmp_eq (tgt := 168) C e_q_lotsOf_154 (by decide) (by omega) (by decide) (fun c145 => ?_) (fun c145 => ?_)
                · exact m_vret C Rm E e_q_lotsOf_168 ⟨rfl, t141, q142, (by show A2 0 0 24 ≤ A2 0 0 23 ∧ A2 0 0 23 ≤ A2 0 0 22; omega), iT, (by show A 0 0 24 ≤ A2 0 0 24 ∧ A 0 0 29 ≤ A2 0 0 29; omega), (pLo.mk g0 u2 (by omega) (by omega) is9 (by omega)), (lQ.eq iL rfl rfl), (lNm.put i36)⟩
                · refine m_blk 160 [(5, vi b), (4, vi m), (3, vi s), (2, vi i), (1, vi p), (0, vr 0 0)] [vi 16, vi s] C f_q_lotsOf_157_2 rfl ?_
                  refine m_icmp_eq (tgt := 168) C e_q_lotsOf_160 (by decide) (by omega) (by decide) (fun c146 => ?_) (fun c146 => ?_)
                  · exact m_vret C Rm E e_q_lotsOf_168 ⟨rfl, t141, q142, (by show A2 0 0 24 ≤ A2 0 0 23 ∧ A2 0 0 23 ≤ A2 0 0 22; omega), iT, (by show A 0 0 24 ≤ A2 0 0 24 ∧ A 0 0 29 ≤ A2 0 0 29; omega), (pLo.mk g0 u2 (by omega) (by omega) is9 (by omega)), (lQ.eq iL rfl rfl), (lNm.put i36)⟩
                  · refine m_blk 165 [(5, vi b), (4, vi m), (3, vi s), (2, vi i), (1, vi p), (0, vr 0 0)] [vi 1, vr 0 0] C f_q_lotsOf_163_2 rfl ?_
                    refine m_putz C e_q_lotsOf_165 fp_Mo_155 rfl (by decide) rfl (Or.inr rfl) ?_
                    have t147 : mTy (mu (mu A2 36 p.toNat i.toNat m) 0 0 31 1) := t141.mu (by show 0 ≤ 1 ∧ 1 ≤ 1; omega)
                    have q148 := q142.mu (f := 0) (k := 0) (j := 31) (z := 1) (by simp [lo])
                    exact m_vret C Rm E e_q_lotsOf_168 ⟨rfl, t147, q148, (by show A2 0 0 24 ≤ A2 0 0 23 ∧ A2 0 0 23 ≤ A2 0 0 22; omega), (fun h9 => absurd (show (1 : Int) = 0 from h9) (by decide)), (by show A 0 0 24 ≤ A2 0 0 24 ∧ A 0 0 29 ≤ A2 0 0 29; omega), (fun h9 => absurd (show (1 : Int) = 0 from h9) (by decide)), (lQ.eq iL rfl rfl), (lNm.put i36)⟩
          · refine m_blk 14 [(5, vi b), (4, vi m), (3, vi s), (2, vi i), (1, vi p), (0, vr 0 0)] [vr 0 0] C f_q_lotsOf_13_1 rfl ?_
            refine m_geti C e_q_lotsOf_14 fg_Mo_155 rfl (by decide) rfl 0 g2 ?_
            refine m_if_ne (tgt := 131) C e_q_lotsOf_17 (by decide) (by decide) (fun c149 => (by omega : False).elim) (fun c149 => ?_)
            refine m_blk 24 [(5, vi b), (4, vi m), (3, vi s), (2, vi i), (1, vi p), (0, vr 0 0)] [vi 8, vi m] C f_q_lotsOf_20_2 rfl ?_
            refine m_icmp_ne (tgt := 33) C e_q_lotsOf_24 (by decide) (by omega) (by decide) (fun c150 => ?_) (fun c150 => ?_)
            · refine m_blk 35 [(5, vi b), (4, vi m), (3, vi s), (2, vi i), (1, vi p), (0, vr 0 0)] [vi m] C f_q_lotsOf_33_1 rfl ?_
              refine m_if_le (tgt := 42) C e_q_lotsOf_35 (by decide) (by omega) (fun c151 => ?_) (fun c151 => ?_)
              · refine m_blk 47 [(5, vi b), (4, vi m), (3, vi s), (2, vi i), (1, vi p), (0, vr 0 0)] [vi 9, vi 0, vi 3, vr 0 0] C f_q_lotsOf_42_4 rfl ?_
                refine m_callV C Rm Y [vi 3, vi 0, vi 9] [] (q_takes l D B H0 ad _ hS hT2 3 0 9 (by show 1 ≤ 3 ∧ 3 ≤ 4; omega) (by show 0 ≤ 0 ∧ 0 ≤ 2147483647 ∧ -1 ≤ 9 ∧ 9 ≤ 2147483647; omega) (by show A2 0 0 24 ≤ A2 0 0 23 ∧ A2 0 0 23 ≤ A2 0 0 22; omega) iT) cl_Mo_198 rfl (by decide) rfl rfl e_q_lotsOf_47 rfl rfl rfl ⟨by decide, by decide⟩ ?_
                rintro v152 A153 ⟨z156, rfl, hT_n155, hE_n155, raw_hz_n155, raw_hb_n155, raw_hn_n155, raw_hw_n155, raw_hm_n155⟩
                have hF_n155 := hE2.trans (hE_n155.sub (nm_lo _))
                show JM g D ad w0 A153 50 [(5, vi b), (4, vi m), (3, vi s), (2, vi i), (1, vi p), (0, vr 0 0)] [vi z156]
                have hb_n155 : A153 0 0 24 ≤ A153 0 0 23 ∧ A153 0 0 23 ≤ A153 0 0 22 := raw_hb_n155
                clear raw_hb_n155
                have hm_n155 : A2 0 0 24 ≤ A153 0 0 24 := raw_hm_n155
                clear raw_hm_n155
                have hz_n155 : z156 = 0 ∨ 0 ≤ z156 ∧ z156 ≤ 9 := raw_hz_n155
                clear raw_hz_n155
                have pt_n155 : pT A153 := raw_hn_n155
                clear raw_hn_n155
                have k0_n155 : A153 0 0 0 = A2 0 0 0 := hE_n155 0 0 0 rfl
                have k22_n155 : A153 0 0 22 = A2 0 0 22 := hE_n155 0 0 22 rfl
                have k27_n155 : A153 0 0 27 = A2 0 0 27 := hE_n155 0 0 27 rfl
                have k28_n155 : A153 0 0 28 = A2 0 0 28 := hE_n155 0 0 28 rfl
                have k29_n155 : A153 0 0 29 = A2 0 0 29 := hE_n155 0 0 29 rfl
                have k30_n155 : A153 0 0 30 = A2 0 0 30 := hE_n155 0 0 30 rfl
                rcases (show A153 0 0 31 = 0 ∨ A153 0 0 31 = 1 from by have w9 := hT_n155 0 0 31; have w8 : 0 ≤ A153 0 0 31 ∧ A153 0 0 31 ≤ 1 := w9; omega) with g_n155 | g_n155
                · have u_n155 : A2 0 0 31 = 0 ∧ A2 0 0 24 < A153 0 0 24 ∧ 0 ≤ z156 ∧ z156 ≤ 9 := raw_hw_n155 g_n155
                  clear raw_hw_n155
                  refine m_blk 55 [(6, vi z156), (5, vi b), (4, vi m), (3, vi s), (2, vi i), (1, vi p), (0, vr 0 0)] [vi 58, vr 0 0] C f_q_lotsOf_50_3 rfl ?_
                  refine m_callV C Rm Y [vi 58] [] (q_need l D B H0 ad _ hS hT_n155 58 (by show -2147483648 ≤ 58 ∧ 58 ≤ 2147483647; omega) (by show A153 0 0 24 ≤ A153 0 0 23 ∧ A153 0 0 23 ≤ A153 0 0 22; omega) pt_n155) cl_Mo_188 rfl (by decide) rfl rfl e_q_lotsOf_55 rfl rfl rfl ⟨by decide, by decide⟩ ?_
                  rintro v157 A158 ⟨rfl, hT_n160, hE_n160, raw_hb_n160, raw_hn_n160, raw_hw_n160, raw_hm_n160⟩
                  have hF_n160 := hF_n155.trans (hE_n160.sub (nm_lo _))
                  show JM g D ad w0 A158 58 [(6, vi z156), (5, vi b), (4, vi m), (3, vi s), (2, vi i), (1, vi p), (0, vr 0 0)] []
                  have hb_n160 : A158 0 0 24 ≤ A158 0 0 23 ∧ A158 0 0 23 ≤ A158 0 0 22 := raw_hb_n160
                  clear raw_hb_n160
                  have hm_n160 : A153 0 0 24 ≤ A158 0 0 24 := raw_hm_n160
                  clear raw_hm_n160
                  have pt_n160 : pT A158 := raw_hn_n160
                  clear raw_hn_n160
                  have k0_n160 : A158 0 0 0 = A153 0 0 0 := hE_n160 0 0 0 rfl
                  have k22_n160 : A158 0 0 22 = A153 0 0 22 := hE_n160 0 0 22 rfl
                  have k27_n160 : A158 0 0 27 = A153 0 0 27 := hE_n160 0 0 27 rfl
                  have k28_n160 : A158 0 0 28 = A153 0 0 28 := hE_n160 0 0 28 rfl
                  have k29_n160 : A158 0 0 29 = A153 0 0 29 := hE_n160 0 0 29 rfl
                  have k30_n160 : A158 0 0 30 = A153 0 0 30 := hE_n160 0 0 30 rfl
                  rcases (show A158 0 0 31 = 0 ∨ A158 0 0 31 = 1 from by have w9 := hT_n160 0 0 31; have w8 : 0 ≤ A158 0 0 31 ∧ A158 0 0 31 ≤ 1 := w9; omega) with g_n160 | g_n160
                  · have u_n160 : A153 0 0 31 = 0 ∧ A153 0 0 24 < A158 0 0 24 := raw_hw_n160 g_n160
                    clear raw_hw_n160
                    refine m_blk 63 [(6, vi z156), (5, vi b), (4, vi m), (3, vi s), (2, vi i), (1, vi p), (0, vr 0 0)] [vi 16, vi 1, vi 3, vr 0 0] C f_q_lotsOf_58_4 rfl ?_
                    refine m_callV C Rm Y [vi 3, vi 1, vi 16] [] (q_takes l D B H0 ad _ hS hT_n160 3 1 16 (by show 1 ≤ 3 ∧ 3 ≤ 4; omega) (by show 0 ≤ 1 ∧ 1 ≤ 2147483647 ∧ -1 ≤ 16 ∧ 16 ≤ 2147483647; omega) (by show A158 0 0 24 ≤ A158 0 0 23 ∧ A158 0 0 23 ≤ A158 0 0 22; omega) pt_n160) cl_Mo_198 rfl (by decide) rfl rfl e_q_lotsOf_63 rfl rfl rfl ⟨by decide, by decide⟩ ?_
                    rintro v161 A162 ⟨z165, rfl, hT_n164, hE_n164, raw_hz_n164, raw_hb_n164, raw_hn_n164, raw_hw_n164, raw_hm_n164⟩
                    have hF_n164 := hF_n160.trans (hE_n164.sub (nm_lo _))
                    show JM g D ad w0 A162 66 [(6, vi z156), (5, vi b), (4, vi m), (3, vi s), (2, vi i), (1, vi p), (0, vr 0 0)] [vi z165]
                    have hb_n164 : A162 0 0 24 ≤ A162 0 0 23 ∧ A162 0 0 23 ≤ A162 0 0 22 := raw_hb_n164
                    clear raw_hb_n164
                    have hm_n164 : A158 0 0 24 ≤ A162 0 0 24 := raw_hm_n164
                    clear raw_hm_n164
                    have hz_n164 : z165 = 0 ∨ 1 ≤ z165 ∧ z165 ≤ 16 := raw_hz_n164
                    clear raw_hz_n164
                    have pt_n164 : pT A162 := raw_hn_n164
                    clear raw_hn_n164
                    have k0_n164 : A162 0 0 0 = A158 0 0 0 := hE_n164 0 0 0 rfl
                    have k22_n164 : A162 0 0 22 = A158 0 0 22 := hE_n164 0 0 22 rfl
                    have k27_n164 : A162 0 0 27 = A158 0 0 27 := hE_n164 0 0 27 rfl
                    have k28_n164 : A162 0 0 28 = A158 0 0 28 := hE_n164 0 0 28 rfl
                    have k29_n164 : A162 0 0 29 = A158 0 0 29 := hE_n164 0 0 29 rfl
                    have k30_n164 : A162 0 0 30 = A158 0 0 30 := hE_n164 0 0 30 rfl
                    rcases (show A162 0 0 31 = 0 ∨ A162 0 0 31 = 1 from by have w9 := hT_n164 0 0 31; have w8 : 0 ≤ A162 0 0 31 ∧ A162 0 0 31 ≤ 1 := w9; omega) with g_n164 | g_n164
                    · have u_n164 : A158 0 0 31 = 0 ∧ A158 0 0 24 < A162 0 0 24 ∧ 1 ≤ z165 ∧ z165 ≤ 16 := raw_hw_n164 g_n164
                      clear raw_hw_n164
                      refine m_blk 69 [(7, vi z165), (6, vi z156), (5, vi b), (4, vi m), (3, vi s), (2, vi i), (1, vi p), (0, vr 0 0)] [vr 0 0] C f_q_lotsOf_66_2 rfl ?_
                      refine m_geti C e_q_lotsOf_69 fg_Mo_155 rfl (by decide) rfl 0 g_n164 ?_
                      refine m_if_eq (tgt := 76) C e_q_lotsOf_72 (by decide) (by decide) (fun c166 => ?_) (fun c166 => (by omega : False).elim)
                      refine m_blk 77 [(7, vi z165), (6, vi z156), (5, vi b), (4, vi m), (3, vi s), (2, vi i), (1, vi p), (0, vr 0 0)] [vr 0 0] C f_q_lotsOf_76_1 rfl ?_
                      refine m_getr C e_q_lotsOf_77 fg_Mo_42 rfl (by decide) rfl ?_
                      refine m_blk 81 [(7, vi z165), (6, vi z156), (5, vi b), (4, vi m), (3, vi s), (2, vi i), (1, vi p), (0, vr 0 0)] [vi p, vr 21 0] C f_q_lotsOf_80_1 rfl ?_
                      refine m_aald C p.toNat e_q_lotsOf_81 rfl rfl rfl (by decide) (by decide) (by omega) (by show p < ((6 : Nat) : Int); omega) (mz _ _) ?_
                      refine m_blk 83 [(7, vi z165), (6, vi z156), (5, vi b), (4, vi m), (3, vi s), (2, vi i), (1, vi p), (0, vr 0 0)] [vr 0 0, vr 41 p.toNat] C f_q_lotsOf_82_1 rfl ?_
                      obtain ⟨x167, hx167⟩ : ∃ x, A162 0 0 29 = x := ⟨_, rfl⟩
                      have rx167 : 0 ≤ x167 ∧ x167 ≤ 40 := mrg hT_n164 hx167 rfl
                      refine m_geti C e_q_lotsOf_83 fg_Mo_195 rfl (by decide) rfl x167 hx167 ?_
                      refine m_blk 88 [(7, vi z165), (6, vi z156), (5, vi b), (4, vi m), (3, vi s), (2, vi i), (1, vi p), (0, vr 0 0)] [vi z156, vi x167, vr 41 p.toNat] C f_q_lotsOf_86_1 rfl ?_
                      refine m_iast C e_q_lotsOf_88 rfl (by omega) (by decide) (by omega) (by show x167 < ((120 : Nat) : Int); omega) ?_
                      have t168 : mTy (mu A162 41 p.toNat x167.toNat z156) := hT_n164.mu (by show 0 ≤ z156 ∧ z156 ≤ 9; omega)
                      have q169 := hF_n164.mu (f := 41) (k := p.toNat) (j := x167.toNat) (z := z156) (by simp [lo])
                      refine m_blk 90 [(7, vi z165), (6, vi z156), (5, vi b), (4, vi m), (3, vi s), (2, vi i), (1, vi p), (0, vr 0 0)] [vr 0 0] C f_q_lotsOf_89_1 rfl ?_
                      refine m_getr C e_q_lotsOf_90 fg_Mo_45 rfl (by decide) rfl ?_
                      refine m_blk 94 [(7, vi z165), (6, vi z156), (5, vi b), (4, vi m), (3, vi s), (2, vi i), (1, vi p), (0, vr 0 0)] [vi p, vr 22 0] C f_q_lotsOf_93_1 rfl ?_
                      refine m_aald C p.toNat e_q_lotsOf_94 rfl rfl rfl (by decide) (by decide) (by omega) (by show p < ((6 : Nat) : Int); omega) (mz _ _) ?_
                      refine m_blk 96 [(7, vi z165), (6, vi z156), (5, vi b), (4, vi m), (3, vi s), (2, vi i), (1, vi p), (0, vr 0 0)] [vr 0 0, vr 42 p.toNat] C f_q_lotsOf_95_1 rfl ?_
                      refine m_geti C e_q_lotsOf_96 fg_Mo_195 rfl (by decide) rfl x167 hx167 ?_
                      refine m_blk 101 [(7, vi z165), (6, vi z156), (5, vi b), (4, vi m), (3, vi s), (2, vi i), (1, vi p), (0, vr 0 0)] [vi z165, vi x167, vr 42 p.toNat] C f_q_lotsOf_99_1 rfl ?_
                      refine m_iast C e_q_lotsOf_101 rfl (by omega) (by decide) (by omega) (by show x167 < ((120 : Nat) : Int); omega) ?_
                      have t170 : mTy (mu (mu A162 41 p.toNat x167.toNat z156) 42 p.toNat x167.toNat z165) := t168.mu (by show 0 ≤ z165 ∧ z165 ≤ 16; omega)
                      have q171 := q169.mu (f := 42) (k := p.toNat) (j := x167.toNat) (z := z165) (by simp [lo])
                      refine m_blk 104 [(7, vi z165), (6, vi z156), (5, vi b), (4, vi m), (3, vi s), (2, vi i), (1, vi p), (0, vr 0 0)] [vr 0 0, vr 0 0] C f_q_lotsOf_102_2 rfl ?_
                      refine m_geti C e_q_lotsOf_104 fg_Mo_195 rfl (by decide) rfl x167 hx167 ?_
                      refine m_blk 109 [(7, vi z165), (6, vi z156), (5, vi b), (4, vi m), (3, vi s), (2, vi i), (1, vi p), (0, vr 0 0)] [vi (x167 + 1), vr 0 0] C f_q_lotsOf_107_2 rfl ?_
                      refine m_puti C e_q_lotsOf_109 fp_Mo_195 rfl (by decide) rfl ?_
                      have t172 : mTy (mu (mu (mu A162 41 p.toNat x167.toNat z156) 42 p.toNat x167.toNat z165) 0 0 29 (x167 + 1)) := t170.mu (by show 0 ≤ (x167 + 1) ∧ (x167 + 1) ≤ 40; omega)
                      have q173 := q171.mu (f := 0) (k := 0) (j := 29) (z := (x167 + 1)) (by simp [lo])
                      refine m_blk 123 [(4, vi (m + 1)), (3, vi (s + z165)), (7, vi z165), (6, vi z156), (5, vi b), (2, vi i), (1, vi p), (0, vr 0 0)] [vi 44, vr 0 0] C f_q_lotsOf_112_7 rfl ?_
                      refine m_callV C Rm Y [vi 44] [] (q_isSign l D B H0 ad _ t172 44 (by show -2147483648 ≤ 44 ∧ 44 ≤ 2147483647; omega)) cl_Mo_173 rfl (by decide) rfl rfl e_q_lotsOf_123 rfl rfl rfl ⟨by decide, by decide⟩ ?_
                      rintro v174 A175 ⟨z178, rfl, rfl, raw_hz_n177⟩
                      show JM g D ad w0 (mu (mu (mu A162 41 p.toNat x167.toNat z156) 42 p.toNat x167.toNat z165) 0 0 29 (x167 + 1)) 126 [(4, vi (m + 1)), (3, vi (s + z165)), (7, vi z165), (6, vi z156), (5, vi b), (2, vi i), (1, vi p), (0, vr 0 0)] [vi z178]
                      have hz_n177 : z178 = 1 ∧ A162 0 0 31 = 0 ∧ A162 0 0 25 = 4 ∧ A162 0 0 26 = 44 ∨ z178 = 0 ∧ ¬ (A162 0 0 31 = 0 ∧ A162 0 0 25 = 4 ∧ A162 0 0 26 = 44) := raw_hz_n177
                      clear raw_hz_n177
                      rcases hz_n177 with ⟨e_n177, hz_n177⟩ | ⟨e_n177, hz_n177⟩
                      · subst e_n177
                        have bt_n177 : A162 0 0 24 < A162 0 0 23 := pT_lt (A := (mu (mu (mu A162 41 p.toNat x167.toNat z156) 42 p.toNat x167.toNat z165) 0 0 29 (x167 + 1))) pt_n164 hz_n177.1 (by show ¬ A162 0 0 25 = 0; omega)
                        refine m_blk 8 [(5, vi 1), (4, vi (m + 1)), (3, vi (s + z165)), (7, vi z165), (6, vi z156), (2, vi i), (1, vi p), (0, vr 0 0)] [] C f_q_lotsOf_126_2 rfl ?_
                        refine m_loc [(5, vi 1), (4, vi (m + 1)), (3, vi (s + z165)), (2, vi i), (1, vi p), (0, vr 0 0)] ⟨rfl, rfl, rfl, rfl, rfl, rfl, trivial⟩ ?_
                        exact ih (mu (mu (mu A162 41 p.toNat x167.toNat z156) 42 p.toNat x167.toNat z165) 0 0 29 (x167 + 1)) 1 (m + 1) (s + z165) t172 q173 (by show A162 0 0 24 ≤ A162 0 0 23 ∧ A162 0 0 23 ≤ A162 0 0 22; omega) pt_n164 (by show A 0 0 24 ≤ A162 0 0 24 ∧ (x167 + 1) = A 0 0 29 + (m + 1) ∧ A162 0 0 22 = A 0 0 22 ∧ A162 0 0 30 = A 0 0 30; omega) (by show 0 ≤ (m + 1) ∧ (m + 1) ≤ 8 ∧ 0 ≤ (s + z165) ∧ (s + z165) ≤ 16 * (m + 1); omega) (by show 1 = 0 ∨ 1 = 1; omega) (by show 1 = 1 ∨ 1 ≤ (m + 1); omega) (ws_push ((funext fun j9 => hE_n164 42 p.toNat j9 rfl).trans ((funext fun j9 => hE_n160 42 p.toNat j9 rfl).trans ((funext fun j9 => hE_n155 42 p.toNat j9 rfl).trans rfl))) is9 (by omega) (by omega)) (lQ.push iL ((funext fun j9 => hE_n164 41 p.toNat j9 rfl).trans ((funext fun j9 => hE_n160 41 p.toNat j9 rfl).trans ((funext fun j9 => hE_n155 41 p.toNat j9 rfl).trans rfl))) ((funext fun j9 => hE_n164 42 p.toNat j9 rfl).trans ((funext fun j9 => hE_n160 42 p.toNat j9 rfl).trans ((funext fun j9 => hE_n155 42 p.toNat j9 rfl).trans rfl))) (by omega)) (((funext fun j9 => hE_n164 36 p.toNat j9 rfl).trans ((funext fun j9 => hE_n160 36 p.toNat j9 rfl).trans ((funext fun j9 => hE_n155 36 p.toNat j9 rfl).trans rfl))).trans i36) (fun _ => ⟨g0, by show A 0 0 24 - 3 * A 0 0 29 ≤ A162 0 0 24 - 3 * (x167 + 1); omega⟩) (by have hm9 := hm; show (20 - (m + 1)) < _; omega)
                      · subst e_n177
                        clear hz_n177
                        refine m_blk 8 [(5, vi 0), (4, vi (m + 1)), (3, vi (s + z165)), (7, vi z165), (6, vi z156), (2, vi i), (1, vi p), (0, vr 0 0)] [] C f_q_lotsOf_126_2 rfl ?_
                        refine m_loc [(5, vi 0), (4, vi (m + 1)), (3, vi (s + z165)), (2, vi i), (1, vi p), (0, vr 0 0)] ⟨rfl, rfl, rfl, rfl, rfl, rfl, trivial⟩ ?_
                        exact ih (mu (mu (mu A162 41 p.toNat x167.toNat z156) 42 p.toNat x167.toNat z165) 0 0 29 (x167 + 1)) 0 (m + 1) (s + z165) t172 q173 (by show A162 0 0 24 ≤ A162 0 0 23 ∧ A162 0 0 23 ≤ A162 0 0 22; omega) pt_n164 (by show A 0 0 24 ≤ A162 0 0 24 ∧ (x167 + 1) = A 0 0 29 + (m + 1) ∧ A162 0 0 22 = A 0 0 22 ∧ A162 0 0 30 = A 0 0 30; omega) (by show 0 ≤ (m + 1) ∧ (m + 1) ≤ 8 ∧ 0 ≤ (s + z165) ∧ (s + z165) ≤ 16 * (m + 1); omega) (by show 0 = 0 ∨ 0 = 1; omega) (by show 0 = 1 ∨ 1 ≤ (m + 1); omega) (ws_push ((funext fun j9 => hE_n164 42 p.toNat j9 rfl).trans ((funext fun j9 => hE_n160 42 p.toNat j9 rfl).trans ((funext fun j9 => hE_n155 42 p.toNat j9 rfl).trans rfl))) is9 (by omega) (by omega)) (lQ.push iL ((funext fun j9 => hE_n164 41 p.toNat j9 rfl).trans ((funext fun j9 => hE_n160 41 p.toNat j9 rfl).trans ((funext fun j9 => hE_n155 41 p.toNat j9 rfl).trans rfl))) ((funext fun j9 => hE_n164 42 p.toNat j9 rfl).trans ((funext fun j9 => hE_n160 42 p.toNat j9 rfl).trans ((funext fun j9 => hE_n155 42 p.toNat j9 rfl).trans rfl))) (by omega)) (((funext fun j9 => hE_n164 36 p.toNat j9 rfl).trans ((funext fun j9 => hE_n160 36 p.toNat j9 rfl).trans ((funext fun j9 => hE_n155 36 p.toNat j9 rfl).trans rfl))).trans i36) (fun _ => ⟨g0, by show A 0 0 24 - 3 * A 0 0 29 ≤ A162 0 0 24 - 3 * (x167 + 1); omega⟩) (by have hm9 := hm; show (20 - (m + 1)) < _; omega)
                    · clear raw_hw_n164
                      refine m_blk 69 [(7, vi z165), (6, vi z156), (5, vi b), (4, vi m), (3, vi s), (2, vi i), (1, vi p), (0, vr 0 0)] [vr 0 0] C f_q_lotsOf_66_2 rfl ?_
                      refine m_geti C e_q_lotsOf_69 fg_Mo_155 rfl (by decide) rfl 1 g_n164 ?_
                      refine m_if_eq (tgt := 76) C e_q_lotsOf_72 (by decide) (by decide) (fun c179 => (by omega : False).elim) (fun c179 => ?_)
                      exact m_vret C Rm E e_q_lotsOf_75 ⟨rfl, hT_n164, hF_n164, (by show A162 0 0 24 ≤ A162 0 0 23 ∧ A162 0 0 23 ≤ A162 0 0 22; omega), pt_n164, (by show A 0 0 24 ≤ A162 0 0 24 ∧ A 0 0 29 ≤ A162 0 0 29; omega), (fun h9 => absurd ((g_n164 : A162 0 0 31 = 1).symm.trans h9) (by decide)), (lQ.eq iL ((funext fun j9 => hE_n164 41 p.toNat j9 rfl).trans ((funext fun j9 => hE_n160 41 p.toNat j9 rfl).trans ((funext fun j9 => hE_n155 41 p.toNat j9 rfl).trans rfl))) ((funext fun j9 => hE_n164 42 p.toNat j9 rfl).trans ((funext fun j9 => hE_n160 42 p.toNat j9 rfl).trans ((funext fun j9 => hE_n155 42 p.toNat j9 rfl).trans rfl)))), (lNm.eq (((funext fun j9 => hE_n164 36 p.toNat j9 rfl).trans ((funext fun j9 => hE_n160 36 p.toNat j9 rfl).trans ((funext fun j9 => hE_n155 36 p.toNat j9 rfl).trans rfl))).trans i36))⟩
                  · clear raw_hw_n160
                    refine m_blk 63 [(6, vi z156), (5, vi b), (4, vi m), (3, vi s), (2, vi i), (1, vi p), (0, vr 0 0)] [vi 16, vi 1, vi 3, vr 0 0] C f_q_lotsOf_58_4 rfl ?_
                    refine m_callV C Rm Y [vi 3, vi 1, vi 16] [] (q_takes l D B H0 ad _ hS hT_n160 3 1 16 (by show 1 ≤ 3 ∧ 3 ≤ 4; omega) (by show 0 ≤ 1 ∧ 1 ≤ 2147483647 ∧ -1 ≤ 16 ∧ 16 ≤ 2147483647; omega) (by show A158 0 0 24 ≤ A158 0 0 23 ∧ A158 0 0 23 ≤ A158 0 0 22; omega) pt_n160) cl_Mo_198 rfl (by decide) rfl rfl e_q_lotsOf_63 rfl rfl rfl ⟨by decide, by decide⟩ ?_
                    rintro v180 A181 ⟨z184, rfl, hT_n183, hE_n183, raw_hz_n183, raw_hb_n183, raw_hn_n183, raw_hw_n183, raw_hm_n183⟩
                    have hF_n183 := hF_n160.trans (hE_n183.sub (nm_lo _))
                    show JM g D ad w0 A181 66 [(6, vi z156), (5, vi b), (4, vi m), (3, vi s), (2, vi i), (1, vi p), (0, vr 0 0)] [vi z184]
                    have hb_n183 : A181 0 0 24 ≤ A181 0 0 23 ∧ A181 0 0 23 ≤ A181 0 0 22 := raw_hb_n183
                    clear raw_hb_n183
                    have hm_n183 : A158 0 0 24 ≤ A181 0 0 24 := raw_hm_n183
                    clear raw_hm_n183
                    have hz_n183 : z184 = 0 ∨ 1 ≤ z184 ∧ z184 ≤ 16 := raw_hz_n183
                    clear raw_hz_n183
                    have pt_n183 : pT A181 := raw_hn_n183
                    clear raw_hn_n183
                    have k0_n183 : A181 0 0 0 = A158 0 0 0 := hE_n183 0 0 0 rfl
                    have k22_n183 : A181 0 0 22 = A158 0 0 22 := hE_n183 0 0 22 rfl
                    have k27_n183 : A181 0 0 27 = A158 0 0 27 := hE_n183 0 0 27 rfl
                    have k28_n183 : A181 0 0 28 = A158 0 0 28 := hE_n183 0 0 28 rfl
                    have k29_n183 : A181 0 0 29 = A158 0 0 29 := hE_n183 0 0 29 rfl
                    have k30_n183 : A181 0 0 30 = A158 0 0 30 := hE_n183 0 0 30 rfl
                    have g_n183 : A181 0 0 31 = 1 := wr_1 (hT_n183 0 0 31) (fun h9 => absurd ((g_n160 : A158 0 0 31 = 1).symm.trans (raw_hw_n183 h9).1) (by decide))
                    clear raw_hw_n183
                    refine m_blk 69 [(7, vi z184), (6, vi z156), (5, vi b), (4, vi m), (3, vi s), (2, vi i), (1, vi p), (0, vr 0 0)] [vr 0 0] C f_q_lotsOf_66_2 rfl ?_
                    refine m_geti C e_q_lotsOf_69 fg_Mo_155 rfl (by decide) rfl 1 g_n183 ?_
                    refine m_if_eq (tgt := 76) C e_q_lotsOf_72 (by decide) (by decide) (fun c185 => (by omega : False).elim) (fun c185 => ?_)
                    exact m_vret C Rm E e_q_lotsOf_75 ⟨rfl, hT_n183, hF_n183, (by show A181 0 0 24 ≤ A181 0 0 23 ∧ A181 0 0 23 ≤ A181 0 0 22; omega), pt_n183, (by show A 0 0 24 ≤ A181 0 0 24 ∧ A 0 0 29 ≤ A181 0 0 29; omega), (fun h9 => absurd ((g_n183 : A181 0 0 31 = 1).symm.trans h9) (by decide)), (lQ.eq iL ((funext fun j9 => hE_n183 41 p.toNat j9 rfl).trans ((funext fun j9 => hE_n160 41 p.toNat j9 rfl).trans ((funext fun j9 => hE_n155 41 p.toNat j9 rfl).trans rfl))) ((funext fun j9 => hE_n183 42 p.toNat j9 rfl).trans ((funext fun j9 => hE_n160 42 p.toNat j9 rfl).trans ((funext fun j9 => hE_n155 42 p.toNat j9 rfl).trans rfl)))), (lNm.eq (((funext fun j9 => hE_n183 36 p.toNat j9 rfl).trans ((funext fun j9 => hE_n160 36 p.toNat j9 rfl).trans ((funext fun j9 => hE_n155 36 p.toNat j9 rfl).trans rfl))).trans i36))⟩
                · clear raw_hw_n155
                  refine m_blk 55 [(6, vi z156), (5, vi b), (4, vi m), (3, vi s), (2, vi i), (1, vi p), (0, vr 0 0)] [vi 58, vr 0 0] C f_q_lotsOf_50_3 rfl ?_
                  refine m_callV C Rm Y [vi 58] [] (q_need l D B H0 ad _ hS hT_n155 58 (by show -2147483648 ≤ 58 ∧ 58 ≤ 2147483647; omega) (by show A153 0 0 24 ≤ A153 0 0 23 ∧ A153 0 0 23 ≤ A153 0 0 22; omega) pt_n155) cl_Mo_188 rfl (by decide) rfl rfl e_q_lotsOf_55 rfl rfl rfl ⟨by decide, by decide⟩ ?_
                  rintro v186 A187 ⟨rfl, hT_n189, hE_n189, raw_hb_n189, raw_hn_n189, raw_hw_n189, raw_hm_n189⟩
                  have hF_n189 := hF_n155.trans (hE_n189.sub (nm_lo _))
                  show JM g D ad w0 A187 58 [(6, vi z156), (5, vi b), (4, vi m), (3, vi s), (2, vi i), (1, vi p), (0, vr 0 0)] []
                  have hb_n189 : A187 0 0 24 ≤ A187 0 0 23 ∧ A187 0 0 23 ≤ A187 0 0 22 := raw_hb_n189
                  clear raw_hb_n189
                  have hm_n189 : A153 0 0 24 ≤ A187 0 0 24 := raw_hm_n189
                  clear raw_hm_n189
                  have pt_n189 : pT A187 := raw_hn_n189
                  clear raw_hn_n189
                  have k0_n189 : A187 0 0 0 = A153 0 0 0 := hE_n189 0 0 0 rfl
                  have k22_n189 : A187 0 0 22 = A153 0 0 22 := hE_n189 0 0 22 rfl
                  have k27_n189 : A187 0 0 27 = A153 0 0 27 := hE_n189 0 0 27 rfl
                  have k28_n189 : A187 0 0 28 = A153 0 0 28 := hE_n189 0 0 28 rfl
                  have k29_n189 : A187 0 0 29 = A153 0 0 29 := hE_n189 0 0 29 rfl
                  have k30_n189 : A187 0 0 30 = A153 0 0 30 := hE_n189 0 0 30 rfl
                  have g_n189 : A187 0 0 31 = 1 := wr_1 (hT_n189 0 0 31) (fun h9 => absurd ((g_n155 : A153 0 0 31 = 1).symm.trans (raw_hw_n189 h9).1) (by decide))
                  clear raw_hw_n189
                  refine m_blk 63 [(6, vi z156), (5, vi b), (4, vi m), (3, vi s), (2, vi i), (1, vi p), (0, vr 0 0)] [vi 16, vi 1, vi 3, vr 0 0] C f_q_lotsOf_58_4 rfl ?_
                  refine m_callV C Rm Y [vi 3, vi 1, vi 16] [] (q_takes l D B H0 ad _ hS hT_n189 3 1 16 (by show 1 ≤ 3 ∧ 3 ≤ 4; omega) (by show 0 ≤ 1 ∧ 1 ≤ 2147483647 ∧ -1 ≤ 16 ∧ 16 ≤ 2147483647; omega) (by show A187 0 0 24 ≤ A187 0 0 23 ∧ A187 0 0 23 ≤ A187 0 0 22; omega) pt_n189) cl_Mo_198 rfl (by decide) rfl rfl e_q_lotsOf_63 rfl rfl rfl ⟨by decide, by decide⟩ ?_
                  rintro v190 A191 ⟨z194, rfl, hT_n193, hE_n193, raw_hz_n193, raw_hb_n193, raw_hn_n193, raw_hw_n193, raw_hm_n193⟩
                  have hF_n193 := hF_n189.trans (hE_n193.sub (nm_lo _))
                  show JM g D ad w0 A191 66 [(6, vi z156), (5, vi b), (4, vi m), (3, vi s), (2, vi i), (1, vi p), (0, vr 0 0)] [vi z194]
                  have hb_n193 : A191 0 0 24 ≤ A191 0 0 23 ∧ A191 0 0 23 ≤ A191 0 0 22 := raw_hb_n193
                  clear raw_hb_n193
                  have hm_n193 : A187 0 0 24 ≤ A191 0 0 24 := raw_hm_n193
                  clear raw_hm_n193
                  have hz_n193 : z194 = 0 ∨ 1 ≤ z194 ∧ z194 ≤ 16 := raw_hz_n193
                  clear raw_hz_n193
                  have pt_n193 : pT A191 := raw_hn_n193
                  clear raw_hn_n193
                  have k0_n193 : A191 0 0 0 = A187 0 0 0 := hE_n193 0 0 0 rfl
                  have k22_n193 : A191 0 0 22 = A187 0 0 22 := hE_n193 0 0 22 rfl
                  have k27_n193 : A191 0 0 27 = A187 0 0 27 := hE_n193 0 0 27 rfl
                  have k28_n193 : A191 0 0 28 = A187 0 0 28 := hE_n193 0 0 28 rfl
                  have k29_n193 : A191 0 0 29 = A187 0 0 29 := hE_n193 0 0 29 rfl
                  have k30_n193 : A191 0 0 30 = A187 0 0 30 := hE_n193 0 0 30 rfl
                  have g_n193 : A191 0 0 31 = 1 := wr_1 (hT_n193 0 0 31) (fun h9 => absurd ((g_n189 : A187 0 0 31 = 1).symm.trans (raw_hw_n193 h9).1) (by decide))
                  clear raw_hw_n193
                  refine m_blk 69 [(7, vi z194), (6, vi z156), (5, vi b), (4, vi m), (3, vi s), (2, vi i), (1, vi p), (0, vr 0 0)] [vr 0 0] C f_q_lotsOf_66_2 rfl ?_
                  refine m_geti C e_q_lotsOf_69 fg_Mo_155 rfl (by decide) rfl 1 g_n193 ?_
                  refine m_if_eq (tgt := 76) C e_q_lotsOf_72 (by decide) (by decide) (fun c195 => (by omega : False).elim) (fun c195 => ?_)
                  exact m_vret C Rm E e_q_lotsOf_75 ⟨rfl, hT_n193, hF_n193, (by show A191 0 0 24 ≤ A191 0 0 23 ∧ A191 0 0 23 ≤ A191 0 0 22; omega), pt_n193, (by show A 0 0 24 ≤ A191 0 0 24 ∧ A 0 0 29 ≤ A191 0 0 29; omega), (fun h9 => absurd ((g_n193 : A191 0 0 31 = 1).symm.trans h9) (by decide)), (lQ.eq iL ((funext fun j9 => hE_n193 41 p.toNat j9 rfl).trans ((funext fun j9 => hE_n189 41 p.toNat j9 rfl).trans ((funext fun j9 => hE_n155 41 p.toNat j9 rfl).trans rfl))) ((funext fun j9 => hE_n193 42 p.toNat j9 rfl).trans ((funext fun j9 => hE_n189 42 p.toNat j9 rfl).trans ((funext fun j9 => hE_n155 42 p.toNat j9 rfl).trans rfl)))), (lNm.eq (((funext fun j9 => hE_n193 36 p.toNat j9 rfl).trans ((funext fun j9 => hE_n189 36 p.toNat j9 rfl).trans ((funext fun j9 => hE_n155 36 p.toNat j9 rfl).trans rfl))).trans i36))⟩
              · refine m_blk 39 [(5, vi b), (4, vi m), (3, vi s), (2, vi i), (1, vi p), (0, vr 0 0)] [vr 0 0] C f_q_lotsOf_38_1 rfl ?_
                refine m_callV C Rm Y [] [] (q_next l D B H0 ad _ hS hT2 (by show A2 0 0 23 ≤ A2 0 0 22; omega)) cl_Mo_176 rfl (by decide) rfl rfl e_q_lotsOf_39 rfl rfl rfl ⟨by decide, by decide⟩ ?_
                rintro v196 A197 ⟨rfl, hT_n199, hE_n199, raw_hw_n199, raw_hb_n199⟩
                have hF_n199 := hE2.trans (hE_n199.sub (nm_lo _))
                show JM g D ad w0 A197 42 [(5, vi b), (4, vi m), (3, vi s), (2, vi i), (1, vi p), (0, vr 0 0)] []
                obtain ⟨b1_n199, b2_n199, b3_n199, pt_n199⟩ : A2 0 0 23 ≤ A197 0 0 24 ∧ A197 0 0 24 ≤ A197 0 0 23 ∧ A197 0 0 23 ≤ A197 0 0 22 ∧ pT A197 := raw_hb_n199 g2
                clear raw_hb_n199 raw_hw_n199
                have k0_n199 : A197 0 0 0 = A2 0 0 0 := hE_n199 0 0 0 rfl
                have k22_n199 : A197 0 0 22 = A2 0 0 22 := hE_n199 0 0 22 rfl
                have k27_n199 : A197 0 0 27 = A2 0 0 27 := hE_n199 0 0 27 rfl
                have k28_n199 : A197 0 0 28 = A2 0 0 28 := hE_n199 0 0 28 rfl
                have k29_n199 : A197 0 0 29 = A2 0 0 29 := hE_n199 0 0 29 rfl
                have k30_n199 : A197 0 0 30 = A2 0 0 30 := hE_n199 0 0 30 rfl
                rcases (show A197 0 0 31 = 0 ∨ A197 0 0 31 = 1 from by have w9 := hT_n199 0 0 31; have w8 : 0 ≤ A197 0 0 31 ∧ A197 0 0 31 ≤ 1 := w9; omega) with g_n199 | g_n199
                · refine m_blk 47 [(5, vi b), (4, vi m), (3, vi s), (2, vi i), (1, vi p), (0, vr 0 0)] [vi 9, vi 0, vi 3, vr 0 0] C f_q_lotsOf_42_4 rfl ?_
                  refine m_callV C Rm Y [vi 3, vi 0, vi 9] [] (q_takes l D B H0 ad _ hS hT_n199 3 0 9 (by show 1 ≤ 3 ∧ 3 ≤ 4; omega) (by show 0 ≤ 0 ∧ 0 ≤ 2147483647 ∧ -1 ≤ 9 ∧ 9 ≤ 2147483647; omega) (by show A197 0 0 24 ≤ A197 0 0 23 ∧ A197 0 0 23 ≤ A197 0 0 22; omega) pt_n199) cl_Mo_198 rfl (by decide) rfl rfl e_q_lotsOf_47 rfl rfl rfl ⟨by decide, by decide⟩ ?_
                  rintro v200 A201 ⟨z204, rfl, hT_n203, hE_n203, raw_hz_n203, raw_hb_n203, raw_hn_n203, raw_hw_n203, raw_hm_n203⟩
                  have hF_n203 := hF_n199.trans (hE_n203.sub (nm_lo _))
                  show JM g D ad w0 A201 50 [(5, vi b), (4, vi m), (3, vi s), (2, vi i), (1, vi p), (0, vr 0 0)] [vi z204]
                  have hb_n203 : A201 0 0 24 ≤ A201 0 0 23 ∧ A201 0 0 23 ≤ A201 0 0 22 := raw_hb_n203
                  clear raw_hb_n203
                  have hm_n203 : A197 0 0 24 ≤ A201 0 0 24 := raw_hm_n203
                  clear raw_hm_n203
                  have hz_n203 : z204 = 0 ∨ 0 ≤ z204 ∧ z204 ≤ 9 := raw_hz_n203
                  clear raw_hz_n203
                  have pt_n203 : pT A201 := raw_hn_n203
                  clear raw_hn_n203
                  have k0_n203 : A201 0 0 0 = A197 0 0 0 := hE_n203 0 0 0 rfl
                  have k22_n203 : A201 0 0 22 = A197 0 0 22 := hE_n203 0 0 22 rfl
                  have k27_n203 : A201 0 0 27 = A197 0 0 27 := hE_n203 0 0 27 rfl
                  have k28_n203 : A201 0 0 28 = A197 0 0 28 := hE_n203 0 0 28 rfl
                  have k29_n203 : A201 0 0 29 = A197 0 0 29 := hE_n203 0 0 29 rfl
                  have k30_n203 : A201 0 0 30 = A197 0 0 30 := hE_n203 0 0 30 rfl
                  rcases (show A201 0 0 31 = 0 ∨ A201 0 0 31 = 1 from by have w9 := hT_n203 0 0 31; have w8 : 0 ≤ A201 0 0 31 ∧ A201 0 0 31 ≤ 1 := w9; omega) with g_n203 | g_n203
                  · have u_n203 : A197 0 0 31 = 0 ∧ A197 0 0 24 < A201 0 0 24 ∧ 0 ≤ z204 ∧ z204 ≤ 9 := raw_hw_n203 g_n203
                    clear raw_hw_n203
                    refine m_blk 55 [(6, vi z204), (5, vi b), (4, vi m), (3, vi s), (2, vi i), (1, vi p), (0, vr 0 0)] [vi 58, vr 0 0] C f_q_lotsOf_50_3 rfl ?_
                    refine m_callV C Rm Y [vi 58] [] (q_need l D B H0 ad _ hS hT_n203 58 (by show -2147483648 ≤ 58 ∧ 58 ≤ 2147483647; omega) (by show A201 0 0 24 ≤ A201 0 0 23 ∧ A201 0 0 23 ≤ A201 0 0 22; omega) pt_n203) cl_Mo_188 rfl (by decide) rfl rfl e_q_lotsOf_55 rfl rfl rfl ⟨by decide, by decide⟩ ?_
                    rintro v205 A206 ⟨rfl, hT_n208, hE_n208, raw_hb_n208, raw_hn_n208, raw_hw_n208, raw_hm_n208⟩
                    have hF_n208 := hF_n203.trans (hE_n208.sub (nm_lo _))
                    show JM g D ad w0 A206 58 [(6, vi z204), (5, vi b), (4, vi m), (3, vi s), (2, vi i), (1, vi p), (0, vr 0 0)] []
                    have hb_n208 : A206 0 0 24 ≤ A206 0 0 23 ∧ A206 0 0 23 ≤ A206 0 0 22 := raw_hb_n208
                    clear raw_hb_n208
                    have hm_n208 : A201 0 0 24 ≤ A206 0 0 24 := raw_hm_n208
                    clear raw_hm_n208
                    have pt_n208 : pT A206 := raw_hn_n208
                    clear raw_hn_n208
                    have k0_n208 : A206 0 0 0 = A201 0 0 0 := hE_n208 0 0 0 rfl
                    have k22_n208 : A206 0 0 22 = A201 0 0 22 := hE_n208 0 0 22 rfl
                    have k27_n208 : A206 0 0 27 = A201 0 0 27 := hE_n208 0 0 27 rfl
                    have k28_n208 : A206 0 0 28 = A201 0 0 28 := hE_n208 0 0 28 rfl
                    have k29_n208 : A206 0 0 29 = A201 0 0 29 := hE_n208 0 0 29 rfl
                    have k30_n208 : A206 0 0 30 = A201 0 0 30 := hE_n208 0 0 30 rfl
                    rcases (show A206 0 0 31 = 0 ∨ A206 0 0 31 = 1 from by have w9 := hT_n208 0 0 31; have w8 : 0 ≤ A206 0 0 31 ∧ A206 0 0 31 ≤ 1 := w9; omega) with g_n208 | g_n208
                    · have u_n208 : A201 0 0 31 = 0 ∧ A201 0 0 24 < A206 0 0 24 := raw_hw_n208 g_n208
                      clear raw_hw_n208
                      refine m_blk 63 [(6, vi z204), (5, vi b), (4, vi m), (3, vi s), (2, vi i), (1, vi p), (0, vr 0 0)] [vi 16, vi 1, vi 3, vr 0 0] C f_q_lotsOf_58_4 rfl ?_
                      refine m_callV C Rm Y [vi 3, vi 1, vi 16] [] (q_takes l D B H0 ad _ hS hT_n208 3 1 16 (by show 1 ≤ 3 ∧ 3 ≤ 4; omega) (by show 0 ≤ 1 ∧ 1 ≤ 2147483647 ∧ -1 ≤ 16 ∧ 16 ≤ 2147483647; omega) (by show A206 0 0 24 ≤ A206 0 0 23 ∧ A206 0 0 23 ≤ A206 0 0 22; omega) pt_n208) cl_Mo_198 rfl (by decide) rfl rfl e_q_lotsOf_63 rfl rfl rfl ⟨by decide, by decide⟩ ?_
                      rintro v209 A210 ⟨z213, rfl, hT_n212, hE_n212, raw_hz_n212, raw_hb_n212, raw_hn_n212, raw_hw_n212, raw_hm_n212⟩
                      have hF_n212 := hF_n208.trans (hE_n212.sub (nm_lo _))
                      show JM g D ad w0 A210 66 [(6, vi z204), (5, vi b), (4, vi m), (3, vi s), (2, vi i), (1, vi p), (0, vr 0 0)] [vi z213]
                      have hb_n212 : A210 0 0 24 ≤ A210 0 0 23 ∧ A210 0 0 23 ≤ A210 0 0 22 := raw_hb_n212
                      clear raw_hb_n212
                      have hm_n212 : A206 0 0 24 ≤ A210 0 0 24 := raw_hm_n212
                      clear raw_hm_n212
                      have hz_n212 : z213 = 0 ∨ 1 ≤ z213 ∧ z213 ≤ 16 := raw_hz_n212
                      clear raw_hz_n212
                      have pt_n212 : pT A210 := raw_hn_n212
                      clear raw_hn_n212
                      have k0_n212 : A210 0 0 0 = A206 0 0 0 := hE_n212 0 0 0 rfl
                      have k22_n212 : A210 0 0 22 = A206 0 0 22 := hE_n212 0 0 22 rfl
                      have k27_n212 : A210 0 0 27 = A206 0 0 27 := hE_n212 0 0 27 rfl
                      have k28_n212 : A210 0 0 28 = A206 0 0 28 := hE_n212 0 0 28 rfl
                      have k29_n212 : A210 0 0 29 = A206 0 0 29 := hE_n212 0 0 29 rfl
                      have k30_n212 : A210 0 0 30 = A206 0 0 30 := hE_n212 0 0 30 rfl
                      rcases (show A210 0 0 31 = 0 ∨ A210 0 0 31 = 1 from by have w9 := hT_n212 0 0 31; have w8 : 0 ≤ A210 0 0 31 ∧ A210 0 0 31 ≤ 1 := w9; omega) with g_n212 | g_n212
                      · have u_n212 : A206 0 0 31 = 0 ∧ A206 0 0 24 < A210 0 0 24 ∧ 1 ≤ z213 ∧ z213 ≤ 16 := raw_hw_n212 g_n212
                        clear raw_hw_n212
                        refine m_blk 69 [(7, vi z213), (6, vi z204), (5, vi b), (4, vi m), (3, vi s), (2, vi i), (1, vi p), (0, vr 0 0)] [vr 0 0] C f_q_lotsOf_66_2 rfl ?_
                        refine m_geti C e_q_lotsOf_69 fg_Mo_155 rfl (by decide) rfl 0 g_n212 ?_
                        refine m_if_eq (tgt := 76) C e_q_lotsOf_72 (by decide) (by decide) (fun c214 => ?_) (fun c214 => (by omega : False).elim)
                        refine m_blk 77 [(7, vi z213), (6, vi z204), (5, vi b), (4, vi m), (3, vi s), (2, vi i), (1, vi p), (0, vr 0 0)] [vr 0 0] C f_q_lotsOf_76_1 rfl ?_
                        refine m_getr C e_q_lotsOf_77 fg_Mo_42 rfl (by decide) rfl ?_
                        refine m_blk 81 [(7, vi z213), (6, vi z204), (5, vi b), (4, vi m), (3, vi s), (2, vi i), (1, vi p), (0, vr 0 0)] [vi p, vr 21 0] C f_q_lotsOf_80_1 rfl ?_
                        refine m_aald C p.toNat e_q_lotsOf_81 rfl rfl rfl (by decide) (by decide) (by omega) (by show p < ((6 : Nat) : Int); omega) (mz _ _) ?_
                        refine m_blk 83 [(7, vi z213), (6, vi z204), (5, vi b), (4, vi m), (3, vi s), (2, vi i), (1, vi p), (0, vr 0 0)] [vr 0 0, vr 41 p.toNat] C f_q_lotsOf_82_1 rfl ?_
                        obtain ⟨x215, hx215⟩ : ∃ x, A210 0 0 29 = x := ⟨_, rfl⟩
                        have rx215 : 0 ≤ x215 ∧ x215 ≤ 40 := mrg hT_n212 hx215 rfl
                        refine m_geti C e_q_lotsOf_83 fg_Mo_195 rfl (by decide) rfl x215 hx215 ?_
                        refine m_blk 88 [(7, vi z213), (6, vi z204), (5, vi b), (4, vi m), (3, vi s), (2, vi i), (1, vi p), (0, vr 0 0)] [vi z204, vi x215, vr 41 p.toNat] C f_q_lotsOf_86_1 rfl ?_
                        refine m_iast C e_q_lotsOf_88 rfl (by omega) (by decide) (by omega) (by show x215 < ((120 : Nat) : Int); omega) ?_
                        have t216 : mTy (mu A210 41 p.toNat x215.toNat z204) := hT_n212.mu (by show 0 ≤ z204 ∧ z204 ≤ 9; omega)
                        have q217 := hF_n212.mu (f := 41) (k := p.toNat) (j := x215.toNat) (z := z204) (by simp [lo])
                        refine m_blk 90 [(7, vi z213), (6, vi z204), (5, vi b), (4, vi m), (3, vi s), (2, vi i), (1, vi p), (0, vr 0 0)] [vr 0 0] C f_q_lotsOf_89_1 rfl ?_
                        refine m_getr C e_q_lotsOf_90 fg_Mo_45 rfl (by decide) rfl ?_
                        refine m_blk 94 [(7, vi z213), (6, vi z204), (5, vi b), (4, vi m), (3, vi s), (2, vi i), (1, vi p), (0, vr 0 0)] [vi p, vr 22 0] C f_q_lotsOf_93_1 rfl ?_
                        refine m_aald C p.toNat e_q_lotsOf_94 rfl rfl rfl (by decide) (by decide) (by omega) (by show p < ((6 : Nat) : Int); omega) (mz _ _) ?_
                        refine m_blk 96 [(7, vi z213), (6, vi z204), (5, vi b), (4, vi m), (3, vi s), (2, vi i), (1, vi p), (0, vr 0 0)] [vr 0 0, vr 42 p.toNat] C f_q_lotsOf_95_1 rfl ?_
                        refine m_geti C e_q_lotsOf_96 fg_Mo_195 rfl (by decide) rfl x215 hx215 ?_
                        refine m_blk 101 [(7, vi z213), (6, vi z204), (5, vi b), (4, vi m), (3, vi s), (2, vi i), (1, vi p), (0, vr 0 0)] [vi z213, vi x215, vr 42 p.toNat] C f_q_lotsOf_99_1 rfl ?_
                        refine m_iast C e_q_lotsOf_101 rfl (by omega) (by decide) (by omega) (by show x215 < ((120 : Nat) : Int); omega) ?_
                        have t218 : mTy (mu (mu A210 41 p.toNat x215.toNat z204) 42 p.toNat x215.toNat z213) := t216.mu (by show 0 ≤ z213 ∧ z213 ≤ 16; omega)
                        have q219 := q217.mu (f := 42) (k := p.toNat) (j := x215.toNat) (z := z213) (by simp [lo])
                        refine m_blk 104 [(7, vi z213), (6, vi z204), (5, vi b), (4, vi m), (3, vi s), (2, vi i), (1, vi p), (0, vr 0 0)] [vr 0 0, vr 0 0] C f_q_lotsOf_102_2 rfl ?_
                        refine m_geti C e_q_lotsOf_104 fg_Mo_195 rfl (by decide) rfl x215 hx215 ?_
                        refine m_blk 109 [(7, vi z213), (6, vi z204), (5, vi b), (4, vi m), (3, vi s), (2, vi i), (1, vi p), (0, vr 0 0)] [vi (x215 + 1), vr 0 0] C f_q_lotsOf_107_2 rfl ?_
                        refine m_puti C e_q_lotsOf_109 fp_Mo_195 rfl (by decide) rfl ?_
                        have t220 : mTy (mu (mu (mu A210 41 p.toNat x215.toNat z204) 42 p.toNat x215.toNat z213) 0 0 29 (x215 + 1)) := t218.mu (by show 0 ≤ (x215 + 1) ∧ (x215 + 1) ≤ 40; omega)
                        have q221 := q219.mu (f := 0) (k := 0) (j := 29) (z := (x215 + 1)) (by simp [lo])
                        refine m_blk 123 [(4, vi (m + 1)), (3, vi (s + z213)), (7, vi z213), (6, vi z204), (5, vi b), (2, vi i), (1, vi p), (0, vr 0 0)] [vi 44, vr 0 0] C f_q_lotsOf_112_7 rfl ?_
                        refine m_callV C Rm Y [vi 44] [] (q_isSign l D B H0 ad _ t220 44 (by show -2147483648 ≤ 44 ∧ 44 ≤ 2147483647; omega)) cl_Mo_173 rfl (by decide) rfl rfl e_q_lotsOf_123 rfl rfl rfl ⟨by decide, by decide⟩ ?_
                        rintro v222 A223 ⟨z226, rfl, rfl, raw_hz_n225⟩
                        show JM g D ad w0 (mu (mu (mu A210 41 p.toNat x215.toNat z204) 42 p.toNat x215.toNat z213) 0 0 29 (x215 + 1)) 126 [(4, vi (m + 1)), (3, vi (s + z213)), (7, vi z213), (6, vi z204), (5, vi b), (2, vi i), (1, vi p), (0, vr 0 0)] [vi z226]
                        have hz_n225 : z226 = 1 ∧ A210 0 0 31 = 0 ∧ A210 0 0 25 = 4 ∧ A210 0 0 26 = 44 ∨ z226 = 0 ∧ ¬ (A210 0 0 31 = 0 ∧ A210 0 0 25 = 4 ∧ A210 0 0 26 = 44) := raw_hz_n225
                        clear raw_hz_n225
                        rcases hz_n225 with ⟨e_n225, hz_n225⟩ | ⟨e_n225, hz_n225⟩
                        · subst e_n225
                          have bt_n225 : A210 0 0 24 < A210 0 0 23 := pT_lt (A := (mu (mu (mu A210 41 p.toNat x215.toNat z204) 42 p.toNat x215.toNat z213) 0 0 29 (x215 + 1))) pt_n212 hz_n225.1 (by show ¬ A210 0 0 25 = 0; omega)
                          refine m_blk 8 [(5, vi 1), (4, vi (m + 1)), (3, vi (s + z213)), (7, vi z213), (6, vi z204), (2, vi i), (1, vi p), (0, vr 0 0)] [] C f_q_lotsOf_126_2 rfl ?_
                          refine m_loc [(5, vi 1), (4, vi (m + 1)), (3, vi (s + z213)), (2, vi i), (1, vi p), (0, vr 0 0)] ⟨rfl, rfl, rfl, rfl, rfl, rfl, trivial⟩ ?_
                          exact ih (mu (mu (mu A210 41 p.toNat x215.toNat z204) 42 p.toNat x215.toNat z213) 0 0 29 (x215 + 1)) 1 (m + 1) (s + z213) t220 q221 (by show A210 0 0 24 ≤ A210 0 0 23 ∧ A210 0 0 23 ≤ A210 0 0 22; omega) pt_n212 (by show A 0 0 24 ≤ A210 0 0 24 ∧ (x215 + 1) = A 0 0 29 + (m + 1) ∧ A210 0 0 22 = A 0 0 22 ∧ A210 0 0 30 = A 0 0 30; omega) (by show 0 ≤ (m + 1) ∧ (m + 1) ≤ 8 ∧ 0 ≤ (s + z213) ∧ (s + z213) ≤ 16 * (m + 1); omega) (by show 1 = 0 ∨ 1 = 1; omega) (by show 1 = 1 ∨ 1 ≤ (m + 1); omega) (ws_push ((funext fun j9 => hE_n212 42 p.toNat j9 rfl).trans ((funext fun j9 => hE_n208 42 p.toNat j9 rfl).trans ((funext fun j9 => hE_n203 42 p.toNat j9 rfl).trans ((funext fun j9 => hE_n199 42 p.toNat j9 rfl).trans rfl)))) is9 (by omega) (by omega)) (lQ.push iL ((funext fun j9 => hE_n212 41 p.toNat j9 rfl).trans ((funext fun j9 => hE_n208 41 p.toNat j9 rfl).trans ((funext fun j9 => hE_n203 41 p.toNat j9 rfl).trans ((funext fun j9 => hE_n199 41 p.toNat j9 rfl).trans rfl)))) ((funext fun j9 => hE_n212 42 p.toNat j9 rfl).trans ((funext fun j9 => hE_n208 42 p.toNat j9 rfl).trans ((funext fun j9 => hE_n203 42 p.toNat j9 rfl).trans ((funext fun j9 => hE_n199 42 p.toNat j9 rfl).trans rfl)))) (by omega)) (((funext fun j9 => hE_n212 36 p.toNat j9 rfl).trans ((funext fun j9 => hE_n208 36 p.toNat j9 rfl).trans ((funext fun j9 => hE_n203 36 p.toNat j9 rfl).trans ((funext fun j9 => hE_n199 36 p.toNat j9 rfl).trans rfl)))).trans i36) (fun _ => ⟨g0, by show A 0 0 24 - 3 * A 0 0 29 ≤ A210 0 0 24 - 3 * (x215 + 1); omega⟩) (by have hm9 := hm; show (20 - (m + 1)) < _; omega)
                        · subst e_n225
                          clear hz_n225
                          refine m_blk 8 [(5, vi 0), (4, vi (m + 1)), (3, vi (s + z213)), (7, vi z213), (6, vi z204), (2, vi i), (1, vi p), (0, vr 0 0)] [] C f_q_lotsOf_126_2 rfl ?_
                          refine m_loc [(5, vi 0), (4, vi (m + 1)), (3, vi (s + z213)), (2, vi i), (1, vi p), (0, vr 0 0)] ⟨rfl, rfl, rfl, rfl, rfl, rfl, trivial⟩ ?_
                          exact ih (mu (mu (mu A210 41 p.toNat x215.toNat z204) 42 p.toNat x215.toNat z213) 0 0 29 (x215 + 1)) 0 (m + 1) (s + z213) t220 q221 (by show A210 0 0 24 ≤ A210 0 0 23 ∧ A210 0 0 23 ≤ A210 0 0 22; omega) pt_n212 (by show A 0 0 24 ≤ A210 0 0 24 ∧ (x215 + 1) = A 0 0 29 + (m + 1) ∧ A210 0 0 22 = A 0 0 22 ∧ A210 0 0 30 = A 0 0 30; omega) (by show 0 ≤ (m + 1) ∧ (m + 1) ≤ 8 ∧ 0 ≤ (s + z213) ∧ (s + z213) ≤ 16 * (m + 1); omega) (by show 0 = 0 ∨ 0 = 1; omega) (by show 0 = 1 ∨ 1 ≤ (m + 1); omega) (ws_push ((funext fun j9 => hE_n212 42 p.toNat j9 rfl).trans ((funext fun j9 => hE_n208 42 p.toNat j9 rfl).trans ((funext fun j9 => hE_n203 42 p.toNat j9 rfl).trans ((funext fun j9 => hE_n199 42 p.toNat j9 rfl).trans rfl)))) is9 (by omega) (by omega)) (lQ.push iL ((funext fun j9 => hE_n212 41 p.toNat j9 rfl).trans ((funext fun j9 => hE_n208 41 p.toNat j9 rfl).trans ((funext fun j9 => hE_n203 41 p.toNat j9 rfl).trans ((funext fun j9 => hE_n199 41 p.toNat j9 rfl).trans rfl)))) ((funext fun j9 => hE_n212 42 p.toNat j9 rfl).trans ((funext fun j9 => hE_n208 42 p.toNat j9 rfl).trans ((funext fun j9 => hE_n203 42 p.toNat j9 rfl).trans ((funext fun j9 => hE_n199 42 p.toNat j9 rfl).trans rfl)))) (by omega)) (((funext fun j9 => hE_n212 36 p.toNat j9 rfl).trans ((funext fun j9 => hE_n208 36 p.toNat j9 rfl).trans ((funext fun j9 => hE_n203 36 p.toNat j9 rfl).trans ((funext fun j9 => hE_n199 36 p.toNat j9 rfl).trans rfl)))).trans i36) (fun _ => ⟨g0, by show A 0 0 24 - 3 * A 0 0 29 ≤ A210 0 0 24 - 3 * (x215 + 1); omega⟩) (by have hm9 := hm; show (20 - (m + 1)) < _; omega)
                      · clear raw_hw_n212
                        refine m_blk 69 [(7, vi z213), (6, vi z204), (5, vi b), (4, vi m), (3, vi s), (2, vi i), (1, vi p), (0, vr 0 0)] [vr 0 0] C f_q_lotsOf_66_2 rfl ?_
                        refine m_geti C e_q_lotsOf_69 fg_Mo_155 rfl (by decide) rfl 1 g_n212 ?_
                        refine m_if_eq (tgt := 76) C e_q_lotsOf_72 (by decide) (by decide) (fun c227 => (by omega : False).elim) (fun c227 => ?_)
                        exact m_vret C Rm E e_q_lotsOf_75 ⟨rfl, hT_n212, hF_n212, (by show A210 0 0 24 ≤ A210 0 0 23 ∧ A210 0 0 23 ≤ A210 0 0 22; omega), pt_n212, (by show A 0 0 24 ≤ A210 0 0 24 ∧ A 0 0 29 ≤ A210 0 0 29; omega), (fun h9 => absurd ((g_n212 : A210 0 0 31 = 1).symm.trans h9) (by decide)), (lQ.eq iL ((funext fun j9 => hE_n212 41 p.toNat j9 rfl).trans ((funext fun j9 => hE_n208 41 p.toNat j9 rfl).trans ((funext fun j9 => hE_n203 41 p.toNat j9 rfl).trans ((funext fun j9 => hE_n199 41 p.toNat j9 rfl).trans rfl)))) ((funext fun j9 => hE_n212 42 p.toNat j9 rfl).trans ((funext fun j9 => hE_n208 42 p.toNat j9 rfl).trans ((funext fun j9 => hE_n203 42 p.toNat j9 rfl).trans ((funext fun j9 => hE_n199 42 p.toNat j9 rfl).trans rfl))))), (lNm.eq (((funext fun j9 => hE_n212 36 p.toNat j9 rfl).trans ((funext fun j9 => hE_n208 36 p.toNat j9 rfl).trans ((funext fun j9 => hE_n203 36 p.toNat j9 rfl).trans ((funext fun j9 => hE_n199 36 p.toNat j9 rfl).trans rfl)))).trans i36))⟩
                    · clear raw_hw_n208
                      refine m_blk 63 [(6, vi z204), (5, vi b), (4, vi m), (3, vi s), (2, vi i), (1, vi p), (0, vr 0 0)] [vi 16, vi 1, vi 3, vr 0 0] C f_q_lotsOf_58_4 rfl ?_
                      refine m_callV C Rm Y [vi 3, vi 1, vi 16] [] (q_takes l D B H0 ad _ hS hT_n208 3 1 16 (by show 1 ≤ 3 ∧ 3 ≤ 4; omega) (by show 0 ≤ 1 ∧ 1 ≤ 2147483647 ∧ -1 ≤ 16 ∧ 16 ≤ 2147483647; omega) (by show A206 0 0 24 ≤ A206 0 0 23 ∧ A206 0 0 23 ≤ A206 0 0 22; omega) pt_n208) cl_Mo_198 rfl (by decide) rfl rfl e_q_lotsOf_63 rfl rfl rfl ⟨by decide, by decide⟩ ?_
                      rintro v228 A229 ⟨z232, rfl, hT_n231, hE_n231, raw_hz_n231, raw_hb_n231, raw_hn_n231, raw_hw_n231, raw_hm_n231⟩
                      have hF_n231 := hF_n208.trans (hE_n231.sub (nm_lo _))
                      show JM g D ad w0 A229 66 [(6, vi z204), (5, vi b), (4, vi m), (3, vi s), (2, vi i), (1, vi p), (0, vr 0 0)] [vi z232]
                      have hb_n231 : A229 0 0 24 ≤ A229 0 0 23 ∧ A229 0 0 23 ≤ A229 0 0 22 := raw_hb_n231
                      clear raw_hb_n231
                      have hm_n231 : A206 0 0 24 ≤ A229 0 0 24 := raw_hm_n231
                      clear raw_hm_n231
                      have hz_n231 : z232 = 0 ∨ 1 ≤ z232 ∧ z232 ≤ 16 := raw_hz_n231
                      clear raw_hz_n231
                      have pt_n231 : pT A229 := raw_hn_n231
                      clear raw_hn_n231
                      have k0_n231 : A229 0 0 0 = A206 0 0 0 := hE_n231 0 0 0 rfl
                      have k22_n231 : A229 0 0 22 = A206 0 0 22 := hE_n231 0 0 22 rfl
                      have k27_n231 : A229 0 0 27 = A206 0 0 27 := hE_n231 0 0 27 rfl
                      have k28_n231 : A229 0 0 28 = A206 0 0 28 := hE_n231 0 0 28 rfl
                      have k29_n231 : A229 0 0 29 = A206 0 0 29 := hE_n231 0 0 29 rfl
                      have k30_n231 : A229 0 0 30 = A206 0 0 30 := hE_n231 0 0 30 rfl
                      have g_n231 : A229 0 0 31 = 1 := wr_1 (hT_n231 0 0 31) (fun h9 => absurd ((g_n208 : A206 0 0 31 = 1).symm.trans (raw_hw_n231 h9).1) (by decide))
                      clear raw_hw_n231
                      refine m_blk 69 [(7, vi z232), (6, vi z204), (5, vi b), (4, vi m), (3, vi s), (2, vi i), (1, vi p), (0, vr 0 0)] [vr 0 0] C f_q_lotsOf_66_2 rfl ?_
                      refine m_geti C e_q_lotsOf_69 fg_Mo_155 rfl (by decide) rfl 1 g_n231 ?_
                      refine m_if_eq (tgt := 76) C e_q_lotsOf_72 (by decide) (by decide) (fun c233 => (by omega : False).elim) (fun c233 => ?_)
                      exact m_vret C Rm E e_q_lotsOf_75 ⟨rfl, hT_n231, hF_n231, (by show A229 0 0 24 ≤ A229 0 0 23 ∧ A229 0 0 23 ≤ A229 0 0 22; omega), pt_n231, (by show A 0 0 24 ≤ A229 0 0 24 ∧ A 0 0 29 ≤ A229 0 0 29; omega), (fun h9 => absurd ((g_n231 : A229 0 0 31 = 1).symm.trans h9) (by decide)), (lQ.eq iL ((funext fun j9 => hE_n231 41 p.toNat j9 rfl).trans ((funext fun j9 => hE_n208 41 p.toNat j9 rfl).trans ((funext fun j9 => hE_n203 41 p.toNat j9 rfl).trans ((funext fun j9 => hE_n199 41 p.toNat j9 rfl).trans rfl)))) ((funext fun j9 => hE_n231 42 p.toNat j9 rfl).trans ((funext fun j9 => hE_n208 42 p.toNat j9 rfl).trans ((funext fun j9 => hE_n203 42 p.toNat j9 rfl).trans ((funext fun j9 => hE_n199 42 p.toNat j9 rfl).trans rfl))))), (lNm.eq (((funext fun j9 => hE_n231 36 p.toNat j9 rfl).trans ((funext fun j9 => hE_n208 36 p.toNat j9 rfl).trans ((funext fun j9 => hE_n203 36 p.toNat j9 rfl).trans ((funext fun j9 => hE_n199 36 p.toNat j9 rfl).trans rfl)))).trans i36))⟩
                  · clear raw_hw_n203
                    refine m_blk 55 [(6, vi z204), (5, vi b), (4, vi m), (3, vi s), (2, vi i), (1, vi p), (0, vr 0 0)] [vi 58, vr 0 0] C f_q_lotsOf_50_3 rfl ?_
                    refine m_callV C Rm Y [vi 58] [] (q_need l D B H0 ad _ hS hT_n203 58 (by show -2147483648 ≤ 58 ∧ 58 ≤ 2147483647; omega) (by show A201 0 0 24 ≤ A201 0 0 23 ∧ A201 0 0 23 ≤ A201 0 0 22; omega) pt_n203) cl_Mo_188 rfl (by decide) rfl rfl e_q_lotsOf_55 rfl rfl rfl ⟨by decide, by decide⟩ ?_
                    rintro v234 A235 ⟨rfl, hT_n237, hE_n237, raw_hb_n237, raw_hn_n237, raw_hw_n237, raw_hm_n237⟩
                    have hF_n237 := hF_n203.trans (hE_n237.sub (nm_lo _))
                    show JM g D ad w0 A235 58 [(6, vi z204), (5, vi b), (4, vi m), (3, vi s), (2, vi i), (1, vi p), (0, vr 0 0)] []
                    have hb_n237 : A235 0 0 24 ≤ A235 0 0 23 ∧ A235 0 0 23 ≤ A235 0 0 22 := raw_hb_n237
                    clear raw_hb_n237
                    have hm_n237 : A201 0 0 24 ≤ A235 0 0 24 := raw_hm_n237
                    clear raw_hm_n237
                    have pt_n237 : pT A235 := raw_hn_n237
                    clear raw_hn_n237
                    have k0_n237 : A235 0 0 0 = A201 0 0 0 := hE_n237 0 0 0 rfl
                    have k22_n237 : A235 0 0 22 = A201 0 0 22 := hE_n237 0 0 22 rfl
                    have k27_n237 : A235 0 0 27 = A201 0 0 27 := hE_n237 0 0 27 rfl
                    have k28_n237 : A235 0 0 28 = A201 0 0 28 := hE_n237 0 0 28 rfl
                    have k29_n237 : A235 0 0 29 = A201 0 0 29 := hE_n237 0 0 29 rfl
                    have k30_n237 : A235 0 0 30 = A201 0 0 30 := hE_n237 0 0 30 rfl
                    have g_n237 : A235 0 0 31 = 1 := wr_1 (hT_n237 0 0 31) (fun h9 => absurd ((g_n203 : A201 0 0 31 = 1).symm.trans (raw_hw_n237 h9).1) (by decide))
                    clear raw_hw_n237
                    refine m_blk 63 [(6, vi z204), (5, vi b), (4, vi m), (3, vi s), (2, vi i), (1, vi p), (0, vr 0 0)] [vi 16, vi 1, vi 3, vr 0 0] C f_q_lotsOf_58_4 rfl ?_
                    refine m_callV C Rm Y [vi 3, vi 1, vi 16] [] (q_takes l D B H0 ad _ hS hT_n237 3 1 16 (by show 1 ≤ 3 ∧ 3 ≤ 4; omega) (by show 0 ≤ 1 ∧ 1 ≤ 2147483647 ∧ -1 ≤ 16 ∧ 16 ≤ 2147483647; omega) (by show A235 0 0 24 ≤ A235 0 0 23 ∧ A235 0 0 23 ≤ A235 0 0 22; omega) pt_n237) cl_Mo_198 rfl (by decide) rfl rfl e_q_lotsOf_63 rfl rfl rfl ⟨by decide, by decide⟩ ?_
                    rintro v238 A239 ⟨z242, rfl, hT_n241, hE_n241, raw_hz_n241, raw_hb_n241, raw_hn_n241, raw_hw_n241, raw_hm_n241⟩
                    have hF_n241 := hF_n237.trans (hE_n241.sub (nm_lo _))
                    show JM g D ad w0 A239 66 [(6, vi z204), (5, vi b), (4, vi m), (3, vi s), (2, vi i), (1, vi p), (0, vr 0 0)] [vi z242]
                    have hb_n241 : A239 0 0 24 ≤ A239 0 0 23 ∧ A239 0 0 23 ≤ A239 0 0 22 := raw_hb_n241
                    clear raw_hb_n241
                    have hm_n241 : A235 0 0 24 ≤ A239 0 0 24 := raw_hm_n241
                    clear raw_hm_n241
                    have hz_n241 : z242 = 0 ∨ 1 ≤ z242 ∧ z242 ≤ 16 := raw_hz_n241
                    clear raw_hz_n241
                    have pt_n241 : pT A239 := raw_hn_n241
                    clear raw_hn_n241
                    have k0_n241 : A239 0 0 0 = A235 0 0 0 := hE_n241 0 0 0 rfl
                    have k22_n241 : A239 0 0 22 = A235 0 0 22 := hE_n241 0 0 22 rfl
                    have k27_n241 : A239 0 0 27 = A235 0 0 27 := hE_n241 0 0 27 rfl
                    have k28_n241 : A239 0 0 28 = A235 0 0 28 := hE_n241 0 0 28 rfl
                    have k29_n241 : A239 0 0 29 = A235 0 0 29 := hE_n241 0 0 29 rfl
                    have k30_n241 : A239 0 0 30 = A235 0 0 30 := hE_n241 0 0 30 rfl
                    have g_n241 : A239 0 0 31 = 1 := wr_1 (hT_n241 0 0 31) (fun h9 => absurd ((g_n237 : A235 0 0 31 = 1).symm.trans (raw_hw_n241 h9).1) (by decide))
                    clear raw_hw_n241
                    refine m_blk 69 [(7, vi z242), (6, vi z204), (5, vi b), (4, vi m), (3, vi s), (2, vi i), (1, vi p), (0, vr 0 0)] [vr 0 0] C f_q_lotsOf_66_2 rfl ?_
                    refine m_geti C e_q_lotsOf_69 fg_Mo_155 rfl (by decide) rfl 1 g_n241 ?_
                    refine m_if_eq (tgt := 76) C e_q_lotsOf_72 (by decide) (by decide) (fun c243 => (by omega : False).elim) (fun c243 => ?_)
                    exact m_vret C Rm E e_q_lotsOf_75 ⟨rfl, hT_n241, hF_n241, (by show A239 0 0 24 ≤ A239 0 0 23 ∧ A239 0 0 23 ≤ A239 0 0 22; omega), pt_n241, (by show A 0 0 24 ≤ A239 0 0 24 ∧ A 0 0 29 ≤ A239 0 0 29; omega), (fun h9 => absurd ((g_n241 : A239 0 0 31 = 1).symm.trans h9) (by decide)), (lQ.eq iL ((funext fun j9 => hE_n241 41 p.toNat j9 rfl).trans ((funext fun j9 => hE_n237 41 p.toNat j9 rfl).trans ((funext fun j9 => hE_n203 41 p.toNat j9 rfl).trans ((funext fun j9 => hE_n199 41 p.toNat j9 rfl).trans rfl)))) ((funext fun j9 => hE_n241 42 p.toNat j9 rfl).trans ((funext fun j9 => hE_n237 42 p.toNat j9 rfl).trans ((funext fun j9 => hE_n203 42 p.toNat j9 rfl).trans ((funext fun j9 => hE_n199 42 p.toNat j9 rfl).trans rfl))))), (lNm.eq (((funext fun j9 => hE_n241 36 p.toNat j9 rfl).trans ((funext fun j9 => hE_n237 36 p.toNat j9 rfl).trans ((funext fun j9 => hE_n203 36 p.toNat j9 rfl).trans ((funext fun j9 => hE_n199 36 p.toNat j9 rfl).trans rfl)))).trans i36))⟩
                · refine m_blk 47 [(5, vi b), (4, vi m), (3, vi s), (2, vi i), (1, vi p), (0, vr 0 0)] [vi 9, vi 0, vi 3, vr 0 0] C f_q_lotsOf_42_4 rfl ?_
                  refine m_callV C Rm Y [vi 3, vi 0, vi 9] [] (q_takes l D B H0 ad _ hS hT_n199 3 0 9 (by show 1 ≤ 3 ∧ 3 ≤ 4; omega) (by show 0 ≤ 0 ∧ 0 ≤ 2147483647 ∧ -1 ≤ 9 ∧ 9 ≤ 2147483647; omega) (by show A197 0 0 24 ≤ A197 0 0 23 ∧ A197 0 0 23 ≤ A197 0 0 22; omega) pt_n199) cl_Mo_198 rfl (by decide) rfl rfl e_q_lotsOf_47 rfl rfl rfl ⟨by decide, by decide⟩ ?_
                  rintro v244 A245 ⟨z248, rfl, hT_n247, hE_n247, raw_hz_n247, raw_hb_n247, raw_hn_n247, raw_hw_n247, raw_hm_n247⟩
                  have hF_n247 := hF_n199.trans (hE_n247.sub (nm_lo _))
                  show JM g D ad w0 A245 50 [(5, vi b), (4, vi m), (3, vi s), (2, vi i), (1, vi p), (0, vr 0 0)] [vi z248]
                  have hb_n247 : A245 0 0 24 ≤ A245 0 0 23 ∧ A245 0 0 23 ≤ A245 0 0 22 := raw_hb_n247
                  clear raw_hb_n247
                  have hm_n247 : A197 0 0 24 ≤ A245 0 0 24 := raw_hm_n247
                  clear raw_hm_n247
                  have hz_n247 : z248 = 0 ∨ 0 ≤ z248 ∧ z248 ≤ 9 := raw_hz_n247
                  clear raw_hz_n247
                  have pt_n247 : pT A245 := raw_hn_n247
                  clear raw_hn_n247
                  have k0_n247 : A245 0 0 0 = A197 0 0 0 := hE_n247 0 0 0 rfl
                  have k22_n247 : A245 0 0 22 = A197 0 0 22 := hE_n247 0 0 22 rfl
                  have k27_n247 : A245 0 0 27 = A197 0 0 27 := hE_n247 0 0 27 rfl
                  have k28_n247 : A245 0 0 28 = A197 0 0 28 := hE_n247 0 0 28 rfl
                  have k29_n247 : A245 0 0 29 = A197 0 0 29 := hE_n247 0 0 29 rfl
                  have k30_n247 : A245 0 0 30 = A197 0 0 30 := hE_n247 0 0 30 rfl
                  have g_n247 : A245 0 0 31 = 1 := wr_1 (hT_n247 0 0 31) (fun h9 => absurd ((g_n199 : A197 0 0 31 = 1).symm.trans (raw_hw_n247 h9).1) (by decide))
                  clear raw_hw_n247
                  refine m_blk 55 [(6, vi z248), (5, vi b), (4, vi m), (3, vi s), (2, vi i), (1, vi p), (0, vr 0 0)] [vi 58, vr 0 0] C f_q_lotsOf_50_3 rfl ?_
                  refine m_callV C Rm Y [vi 58] [] (q_need l D B H0 ad _ hS hT_n247 58 (by show -2147483648 ≤ 58 ∧ 58 ≤ 2147483647; omega) (by show A245 0 0 24 ≤ A245 0 0 23 ∧ A245 0 0 23 ≤ A245 0 0 22; omega) pt_n247) cl_Mo_188 rfl (by decide) rfl rfl e_q_lotsOf_55 rfl rfl rfl ⟨by decide, by decide⟩ ?_
                  rintro v249 A250 ⟨rfl, hT_n252, hE_n252, raw_hb_n252, raw_hn_n252, raw_hw_n252, raw_hm_n252⟩
                  have hF_n252 := hF_n247.trans (hE_n252.sub (nm_lo _))
                  show JM g D ad w0 A250 58 [(6, vi z248), (5, vi b), (4, vi m), (3, vi s), (2, vi i), (1, vi p), (0, vr 0 0)] []
                  have hb_n252 : A250 0 0 24 ≤ A250 0 0 23 ∧ A250 0 0 23 ≤ A250 0 0 22 := raw_hb_n252
                  clear raw_hb_n252
                  have hm_n252 : A245 0 0 24 ≤ A250 0 0 24 := raw_hm_n252
                  clear raw_hm_n252
                  have pt_n252 : pT A250 := raw_hn_n252
                  clear raw_hn_n252
                  have k0_n252 : A250 0 0 0 = A245 0 0 0 := hE_n252 0 0 0 rfl
                  have k22_n252 : A250 0 0 22 = A245 0 0 22 := hE_n252 0 0 22 rfl
                  have k27_n252 : A250 0 0 27 = A245 0 0 27 := hE_n252 0 0 27 rfl
                  have k28_n252 : A250 0 0 28 = A245 0 0 28 := hE_n252 0 0 28 rfl
                  have k29_n252 : A250 0 0 29 = A245 0 0 29 := hE_n252 0 0 29 rfl
                  have k30_n252 : A250 0 0 30 = A245 0 0 30 := hE_n252 0 0 30 rfl
                  have g_n252 : A250 0 0 31 = 1 := wr_1 (hT_n252 0 0 31) (fun h9 => absurd ((g_n247 : A245 0 0 31 = 1).symm.trans (raw_hw_n252 h9).1) (by decide))
                  clear raw_hw_n252
                  refine m_blk 63 [(6, vi z248), (5, vi b), (4, vi m), (3, vi s), (2, vi i), (1, vi p), (0, vr 0 0)] [vi 16, vi 1, vi 3, vr 0 0] C f_q_lotsOf_58_4 rfl ?_
                  refine m_callV C Rm Y [vi 3, vi 1, vi 16] [] (q_takes l D B H0 ad _ hS hT_n252 3 1 16 (by show 1 ≤ 3 ∧ 3 ≤ 4; omega) (by show 0 ≤ 1 ∧ 1 ≤ 2147483647 ∧ -1 ≤ 16 ∧ 16 ≤ 2147483647; omega) (by show A250 0 0 24 ≤ A250 0 0 23 ∧ A250 0 0 23 ≤ A250 0 0 22; omega) pt_n252) cl_Mo_198 rfl (by decide) rfl rfl e_q_lotsOf_63 rfl rfl rfl ⟨by decide, by decide⟩ ?_
                  rintro v253 A254 ⟨z257, rfl, hT_n256, hE_n256, raw_hz_n256, raw_hb_n256, raw_hn_n256, raw_hw_n256, raw_hm_n256⟩
                  have hF_n256 := hF_n252.trans (hE_n256.sub (nm_lo _))
                  show JM g D ad w0 A254 66 [(6, vi z248), (5, vi b), (4, vi m), (3, vi s), (2, vi i), (1, vi p), (0, vr 0 0)] [vi z257]
                  have hb_n256 : A254 0 0 24 ≤ A254 0 0 23 ∧ A254 0 0 23 ≤ A254 0 0 22 := raw_hb_n256
                  clear raw_hb_n256
                  have hm_n256 : A250 0 0 24 ≤ A254 0 0 24 := raw_hm_n256
                  clear raw_hm_n256
                  have hz_n256 : z257 = 0 ∨ 1 ≤ z257 ∧ z257 ≤ 16 := raw_hz_n256
                  clear raw_hz_n256
                  have pt_n256 : pT A254 := raw_hn_n256
                  clear raw_hn_n256
                  have k0_n256 : A254 0 0 0 = A250 0 0 0 := hE_n256 0 0 0 rfl
                  have k22_n256 : A254 0 0 22 = A250 0 0 22 := hE_n256 0 0 22 rfl
                  have k27_n256 : A254 0 0 27 = A250 0 0 27 := hE_n256 0 0 27 rfl
                  have k28_n256 : A254 0 0 28 = A250 0 0 28 := hE_n256 0 0 28 rfl
                  have k29_n256 : A254 0 0 29 = A250 0 0 29 := hE_n256 0 0 29 rfl
                  have k30_n256 : A254 0 0 30 = A250 0 0 30 := hE_n256 0 0 30 rfl
                  have g_n256 : A254 0 0 31 = 1 := wr_1 (hT_n256 0 0 31) (fun h9 => absurd ((g_n252 : A250 0 0 31 = 1).symm.trans (raw_hw_n256 h9).1) (by decide))
                  clear raw_hw_n256
                  refine m_blk 69 [(7, vi z257), (6, vi z248), (5, vi b), (4, vi m), (3, vi s), (2, vi i), (1, vi p), (0, vr 0 0)] [vr 0 0] C f_q_lotsOf_66_2 rfl ?_
                  refine m_geti C e_q_lotsOf_69 fg_Mo_155 rfl (by decide) rfl 1 g_n256 ?_
                  refine m_if_eq (tgt := 76) C e_q_lotsOf_72 (by decide) (by decide) (fun c258 => (by omega : False).elim) (fun c258 => ?_)
                  exact m_vret C Rm E e_q_lotsOf_75 ⟨rfl, hT_n256, hF_n256, (by show A254 0 0 24 ≤ A254 0 0 23 ∧ A254 0 0 23 ≤ A254 0 0 22; omega), pt_n256, (by show A 0 0 24 ≤ A254 0 0 24 ∧ A 0 0 29 ≤ A254 0 0 29; omega), (fun h9 => absurd ((g_n256 : A254 0 0 31 = 1).symm.trans h9) (by decide)), (lQ.eq iL ((funext fun j9 => hE_n256 41 p.toNat j9 rfl).trans ((funext fun j9 => hE_n252 41 p.toNat j9 rfl).trans ((funext fun j9 => hE_n247 41 p.toNat j9 rfl).trans ((funext fun j9 => hE_n199 41 p.toNat j9 rfl).trans rfl)))) ((funext fun j9 => hE_n256 42 p.toNat j9 rfl).trans ((funext fun j9 => hE_n252 42 p.toNat j9 rfl).trans ((funext fun j9 => hE_n247 42 p.toNat j9 rfl).trans ((funext fun j9 => hE_n199 42 p.toNat j9 rfl).trans rfl))))), (lNm.eq (((funext fun j9 => hE_n256 36 p.toNat j9 rfl).trans ((funext fun j9 => hE_n252 36 p.toNat j9 rfl).trans ((funext fun j9 => hE_n247 36 p.toNat j9 rfl).trans ((funext fun j9 => hE_n199 36 p.toNat j9 rfl).trans rfl)))).trans i36))⟩
            · refine m_blk 29 [(5, vi b), (4, vi m), (3, vi s), (2, vi i), (1, vi p), (0, vr 0 0)] [vi 1, vr 0 0] C f_q_lotsOf_27_2 rfl ?_
              refine m_putz C e_q_lotsOf_29 fp_Mo_155 rfl (by decide) rfl (Or.inr rfl) ?_
              have t259 : mTy (mu A2 0 0 31 1) := hT2.mu (by show 0 ≤ 1 ∧ 1 ≤ 1; omega)
              have q260 := hE2.mu (f := 0) (k := 0) (j := 31) (z := 1) (by simp [lo])
              exact m_vret C Rm E e_q_lotsOf_32 ⟨rfl, t259, q260, (by show A2 0 0 24 ≤ A2 0 0 23 ∧ A2 0 0 23 ≤ A2 0 0 22; omega), (fun h9 => absurd (show (1 : Int) = 0 from h9) (by decide)), (by show A 0 0 24 ≤ A2 0 0 24 ∧ A 0 0 29 ≤ A2 0 0 29; omega), (fun h9 => absurd (show (1 : Int) = 0 from h9) (by decide)), (lQ.eq iL rfl rfl), (lNm.eq i36)⟩
        · refine m_blk 10 [(5, vi b), (4, vi m), (3, vi s), (2, vi i), (1, vi p), (0, vr 0 0)] [vi b] C f_q_lotsOf_8_1 rfl ?_
          refine m_if_eq (tgt := 131) C e_q_lotsOf_10 (by decide) (by omega) (fun c261 => ?_) (fun c261 => ?_)
          · refine m_blk 132 [(5, vi b), (4, vi m), (3, vi s), (2, vi i), (1, vi p), (0, vr 0 0)] [vr 0 0] C f_q_lotsOf_131_1 rfl ?_
            refine m_getr C e_q_lotsOf_132 fg_Mo_27 rfl (by decide) rfl ?_
            refine m_blk 136 [(5, vi b), (4, vi m), (3, vi s), (2, vi i), (1, vi p), (0, vr 0 0)] [vi p, vr 16 0] C f_q_lotsOf_135_1 rfl ?_
            refine m_aald C p.toNat e_q_lotsOf_136 rfl rfl rfl (by decide) (by decide) (by omega) (by show p < ((6 : Nat) : Int); omega) (mz _ _) ?_
            refine m_blk 140 [(5, vi b), (4, vi m), (3, vi s), (2, vi i), (1, vi p), (0, vr 0 0)] [vi m, vi i, vr 36 p.toNat] C f_q_lotsOf_137_2 rfl ?_
            refine m_iast C e_q_lotsOf_140 rfl (by omega) (by decide) (by omega) (by show i < ((16 : Nat) : Int); omega) ?_
            have t262 : mTy (mu A2 36 p.toNat i.toNat m) := hT2.mu (by show (-1) ≤ m ∧ m ≤ 9; omega)
            have q263 := hE2.mu (f := 36) (k := p.toNat) (j := i.toNat) (z := m) (by simp [lo])
            refine m_blk 143 [(5, vi b), (4, vi m), (3, vi s), (2, vi i), (1, vi p), (0, vr 0 0)] [vi 2, vi s] C f_q_lotsOf_141_2 rfl ?_
            refine m_icmp_eq (tgt := 168) C e_q_lotsOf_143 (by decide) (by omega) (by decide) (fun c264 => ?_) (fun c264 => ?_)
            · exact m_vret C Rm E e_q_lotsOf_168 ⟨rfl, t262, q263, (by show A2 0 0 24 ≤ A2 0 0 23 ∧ A2 0 0 23 ≤ A2 0 0 22; omega), iT, (by show A 0 0 24 ≤ A2 0 0 24 ∧ A 0 0 29 ≤ A2 0 0 29; omega), (fun h9 => absurd ((g2 : A2 0 0 31 = 1).symm.trans h9) (by decide)), (lQ.eq iL rfl rfl), (lNm.put i36)⟩
            · refine m_blk 148 [(5, vi b), (4, vi m), (3, vi s), (2, vi i), (1, vi p), (0, vr 0 0)] [vi 4, vi s] C f_q_lotsOf_146_2 rfl ?_
              refine m_icmp_eq (tgt := 168) C e_q_lotsOf_148 (by decide) (by omega) (by decide) (fun c265 => ?_) (fun c265 => ?_)
              · exact m_vret C Rm E e_q_lotsOf_168 ⟨rfl, t262, q263, (by show A2 0 0 24 ≤ A2 0 0 23 ∧ A2 0 0 23 ≤ A2 0 0 22; omega), iT, (by show A 0 0 24 ≤ A2 0 0 24 ∧ A 0 0 29 ≤ A2 0 0 29; omega), (fun h9 => absurd ((g2 : A2 0 0 31 = 1).symm.trans h9) (by decide)), (lQ.eq iL rfl rfl), (lNm.put i36)⟩
              · refine m_blk 154 [(5, vi b), (4, vi m), (3, vi s), (2, vi i), (1, vi p), (0, vr 0 0)] [vi 8, vi s] C f_q_lotsOf_151_2 rfl ?_
                refine m_icmp_eq (tgt := 168) C e_q_lotsOf_154 (by decide) (by omega) (by decide) (fun c266 => ?_) (fun c266 => ?_)
                · exact m_vret C Rm E e_q_lotsOf_168 ⟨rfl, t262, q263, (by show A2 0 0 24 ≤ A2 0 0 23 ∧ A2 0 0 23 ≤ A2 0 0 22; omega), iT, (by show A 0 0 24 ≤ A2 0 0 24 ∧ A 0 0 29 ≤ A2 0 0 29; omega), (fun h9 => absurd ((g2 : A2 0 0 31 = 1).symm.trans h9) (by decide)), (lQ.eq iL rfl rfl), (lNm.put i36)⟩
                · refine m_blk 160 [(5, vi b), (4, vi m), (3, vi s), (2, vi i), (1, vi p), (0, vr 0 0)] [vi 16, vi s] C f_q_lotsOf_157_2 rfl ?_
                  refine m_icmp_eq (tgt := 168) C e_q_lotsOf_160 (by decide) (by omega) (by decide) (fun c267 => ?_) (fun c267 => ?_)
                  · exact m_vret C Rm E e_q_lotsOf_168 ⟨rfl, t262, q263, (by show A2 0 0 24 ≤ A2 0 0 23 ∧ A2 0 0 23 ≤ A2 0 0 22; omega), iT, (by show A 0 0 24 ≤ A2 0 0 24 ∧ A 0 0 29 ≤ A2 0 0 29; omega), (fun h9 => absurd ((g2 : A2 0 0 31 = 1).symm.trans h9) (by decide)), (lQ.eq iL rfl rfl), (lNm.put i36)⟩
                  · refine m_blk 165 [(5, vi b), (4, vi m), (3, vi s), (2, vi i), (1, vi p), (0, vr 0 0)] [vi 1, vr 0 0] C f_q_lotsOf_163_2 rfl ?_
                    refine m_putz C e_q_lotsOf_165 fp_Mo_155 rfl (by decide) rfl (Or.inr rfl) ?_
                    have t268 : mTy (mu (mu A2 36 p.toNat i.toNat m) 0 0 31 1) := t262.mu (by show 0 ≤ 1 ∧ 1 ≤ 1; omega)
                    have q269 := q263.mu (f := 0) (k := 0) (j := 31) (z := 1) (by simp [lo])
                    exact m_vret C Rm E e_q_lotsOf_168 ⟨rfl, t268, q269, (by show A2 0 0 24 ≤ A2 0 0 23 ∧ A2 0 0 23 ≤ A2 0 0 22; omega), (fun h9 => absurd (show (1 : Int) = 0 from h9) (by decide)), (by show A 0 0 24 ≤ A2 0 0 24 ∧ A 0 0 29 ≤ A2 0 0 29; omega), (fun h9 => absurd (show (1 : Int) = 0 from h9) (by decide)), (lQ.eq iL rfl rfl), (lNm.put i36)⟩
          · refine m_blk 14 [(5, vi b), (4, vi m), (3, vi s), (2, vi i), (1, vi p), (0, vr 0 0)] [vr 0 0] C f_q_lotsOf_13_1 rfl ?_
            refine m_geti C e_q_lotsOf_14 fg_Mo_155 rfl (by decide) rfl 1 g2 ?_
            refine m_if_ne (tgt := 131) C e_q_lotsOf_17 (by decide) (by decide) (fun c270 => ?_) (fun c270 => (by omega : False).elim)
            refine m_blk 132 [(5, vi b), (4, vi m), (3, vi s), (2, vi i), (1, vi p), (0, vr 0 0)] [vr 0 0] C f_q_lotsOf_131_1 rfl ?_
            refine m_getr C e_q_lotsOf_132 fg_Mo_27 rfl (by decide) rfl ?_
            refine m_blk 136 [(5, vi b), (4, vi m), (3, vi s), (2, vi i), (1, vi p), (0, vr 0 0)] [vi p, vr 16 0] C f_q_lotsOf_135_1 rfl ?_
            refine m_aald C p.toNat e_q_lotsOf_136 rfl rfl rfl (by decide) (by decide) (by omega) (by show p < ((6 : Nat) : Int); omega) (mz _ _) ?_
            refine m_blk 140 [(5, vi b), (4, vi m), (3, vi s), (2, vi i), (1, vi p), (0, vr 0 0)] [vi m, vi i, vr 36 p.toNat] C f_q_lotsOf_137_2 rfl ?_
            refine m_iast C e_q_lotsOf_140 rfl (by omega) (by decide) (by omega) (by show i < ((16 : Nat) : Int); omega) ?_
            have t271 : mTy (mu A2 36 p.toNat i.toNat m) := hT2.mu (by show (-1) ≤ m ∧ m ≤ 9; omega)
            have q272 := hE2.mu (f := 36) (k := p.toNat) (j := i.toNat) (z := m) (by simp [lo])
            refine m_blk 143 [(5, vi b), (4, vi m), (3, vi s), (2, vi i), (1, vi p), (0, vr 0 0)] [vi 2, vi s] C f_q_lotsOf_141_2 rfl ?_
            refine m_icmp_eq (tgt := 168) C e_q_lotsOf_143 (by decide) (by omega) (by decide) (fun c273 => ?_) (fun c273 => ?_)
            · exact m_vret C Rm E e_q_lotsOf_168 ⟨rfl, t271, q272, (by show A2 0 0 24 ≤ A2 0 0 23 ∧ A2 0 0 23 ≤ A2 0 0 22; omega), iT, (by show A 0 0 24 ≤ A2 0 0 24 ∧ A 0 0 29 ≤ A2 0 0 29; omega), (fun h9 => absurd ((g2 : A2 0 0 31 = 1).symm.trans h9) (by decide)), (lQ.eq iL rfl rfl), (lNm.put i36)⟩
            · refine m_blk 148 [(5, vi b), (4, vi m), (3, vi s), (2, vi i), (1, vi p), (0, vr 0 0)] [vi 4, vi s] C f_q_lotsOf_146_2 rfl ?_
              refine m_icmp_eq (tgt := 168) C e_q_lotsOf_148 (by decide) (by omega) (by decide) (fun c274 => ?_) (fun c274 => ?_)
              · exact m_vret C Rm E e_q_lotsOf_168 ⟨rfl, t271, q272, (by show A2 0 0 24 ≤ A2 0 0 23 ∧ A2 0 0 23 ≤ A2 0 0 22; omega), iT, (by show A 0 0 24 ≤ A2 0 0 24 ∧ A 0 0 29 ≤ A2 0 0 29; omega), (fun h9 => absurd ((g2 : A2 0 0 31 = 1).symm.trans h9) (by decide)), (lQ.eq iL rfl rfl), (lNm.put i36)⟩
              · refine m_blk 154 [(5, vi b), (4, vi m), (3, vi s), (2, vi i), (1, vi p), (0, vr 0 0)] [vi 8, vi s] C f_q_lotsOf_151_2 rfl ?_
                refine m_icmp_eq (tgt := 168) C e_q_lotsOf_154 (by decide) (by omega) (by decide) (fun c275 => ?_) (fun c275 => ?_)
                · exact m_vret C Rm E e_q_lotsOf_168 ⟨rfl, t271, q272, (by show A2 0 0 24 ≤ A2 0 0 23 ∧ A2 0 0 23 ≤ A2 0 0 22; omega), iT, (by show A 0 0 24 ≤ A2 0 0 24 ∧ A 0 0 29 ≤ A2 0 0 29; omega), (fun h9 => absurd ((g2 : A2 0 0 31 = 1).symm.trans h9) (by decide)), (lQ.eq iL rfl rfl), (lNm.put i36)⟩
                · refine m_blk 160 [(5, vi b), (4, vi m), (3, vi s), (2, vi i), (1, vi p), (0, vr 0 0)] [vi 16, vi s] C f_q_lotsOf_157_2 rfl ?_
                  refine m_icmp_eq (tgt := 168) C e_q_lotsOf_160 (by decide) (by omega) (by decide) (fun c276 => ?_) (fun c276 => ?_)
                  · exact m_vret C Rm E e_q_lotsOf_168 ⟨rfl, t271, q272, (by show A2 0 0 24 ≤ A2 0 0 23 ∧ A2 0 0 23 ≤ A2 0 0 22; omega), iT, (by show A 0 0 24 ≤ A2 0 0 24 ∧ A 0 0 29 ≤ A2 0 0 29; omega), (fun h9 => absurd ((g2 : A2 0 0 31 = 1).symm.trans h9) (by decide)), (lQ.eq iL rfl rfl), (lNm.put i36)⟩
                  · refine m_blk 165 [(5, vi b), (4, vi m), (3, vi s), (2, vi i), (1, vi p), (0, vr 0 0)] [vi 1, vr 0 0] C f_q_lotsOf_163_2 rfl ?_
                    refine m_putz C e_q_lotsOf_165 fp_Mo_155 rfl (by decide) rfl (Or.inr rfl) ?_
                    have t277 : mTy (mu (mu A2 36 p.toNat i.toNat m) 0 0 31 1) := t271.mu (by show 0 ≤ 1 ∧ 1 ≤ 1; omega)
                    have q278 := q272.mu (f := 0) (k := 0) (j := 31) (z := 1) (by simp [lo])
                    exact m_vret C Rm E e_q_lotsOf_168 ⟨rfl, t277, q278, (by show A2 0 0 24 ≤ A2 0 0 23 ∧ A2 0 0 23 ≤ A2 0 0 22; omega), (fun h9 => absurd (show (1 : Int) = 0 from h9) (by decide)), (by show A 0 0 24 ≤ A2 0 0 24 ∧ A 0 0 29 ≤ A2 0 0 29; omega), (fun h9 => absurd (show (1 : Int) = 0 from h9) (by decide)), (lQ.eq iL rfl rfl), (lNm.put i36)⟩
    refine m_loc [(5, vi 1), (4, vi 0), (3, vi 0), (2, vi i), (1, vi p), (0, vr 0 0)] ⟨rfl, rfl, rfl, rfl, rfl, rfl, trivial⟩ ?_
    exact hd_8 (Int.toNat ((20 - 0)) + 1) A 1 0 0 hT hE0 (by show A 0 0 24 ≤ A 0 0 23 ∧ A 0 0 23 ≤ A 0 0 22; omega) hn (by show A 0 0 24 ≤ A 0 0 24 ∧ A 0 0 29 = A 0 0 29 + 0 ∧ A 0 0 22 = A 0 0 22 ∧ A 0 0 30 = A 0 0 30; omega) (by show 0 ≤ 0 ∧ 0 ≤ 8 ∧ 0 ≤ 0 ∧ 0 ≤ 16 * 0; omega) (by show 1 = 0 ∨ 1 = 1; omega) (by show 1 = 1 ∨ 1 ≤ 0; omega) rfl (fun _ _ => ⟨rfl, rfl⟩) rfl (fun h9 => absurd ((g0 : A 0 0 31 = 1).symm.trans h9) (by decide)) (by show (20 - 0) < _; omega)
