/-! the reference: programs told and run on (own work, by program) -/
def S_tell (n : Nat) : Prop := ∀ (l : Launch) (D : va_G) (B : Nat) (H0 : Heap) (ad : mAd) (A : mA) (hT : mTy A) (u : Int) (p : Int) (d : Int) (hp : 0 ≤ p ∧ p ≤ 5) (ha : aOk A (p + 1)) (hn : 0 ≤ d ∧ d ≤ 9 ∧ 20 * p + 17 ≤ (n : Int)) (hu : A 0 0 33 = u ∧ 0 ≤ u ∧ u + (19 * p + 24) ≤ 200) (hS : mS A) , mMet l D B H0 ad y_Mo_tell b_Mo_tell 9 none (201 + 6 * n) (5530 + 150 * n) [vr 0 0, vi p, vi d] A (fun v9 A9 => v9 = none ∧ mTy A9 ∧ mEq (rm u.toNat) A A9 ∧ (A9 0 0 33 = u) ∧ (mS A9))
def S_run (n : Nat) : Prop := ∀ (l : Launch) (D : va_G) (B : Nat) (H0 : Heap) (ad : mAd) (A : mA) (hT : mTy A) (u : Int) (T : Int) (N : Int) (M : Int) (Ln : Int) (dep : Nat → Int) (p : Int) (i : Int) (ki : Nat) (hp : 0 ≤ p ∧ p ≤ 5) (hK : pK A p.toNat N M Ln dep) (ha : aOk A p) (hi : 0 ≤ i ∧ i < N ∧ 20 * p + 16 - i ≤ (n : Int)) (hu : A 0 0 33 = u ∧ 0 ≤ u ∧ u + (19 * p + 22 - 4 * dep i.toNat) ≤ 200) (hk : (ki : Int) < u) (hO : oG A ki T) (hT9 : 0 ≤ T ∧ T ≤ 1125899906842624) (hS : mS A) (hkd : A 34 p.toNat i.toNat = 5) , mMet l D B H0 ad y_Mo_run b_Mo_run 9 (some (.object "ChanceStepsModel$Odds")) (202 + 6 * n) (5560 + 150 * n) [vr 0 0, vi p, vi i, vr 1 ki] A (fun v9 A9 => ∃ z : Nat, v9 = some (vr 1 z) ∧ mTy A9 ∧ mEq (rm u.toNat) A A9 ∧ (u ≤ (z : Int) ∧ (z : Int) < A9 0 0 33) ∧ (u + 1 ≤ A9 0 0 33 ∧ A9 0 0 33 ≤ u + 1 + 4 * (5 - dep i.toNat)) ∧ (oG A9 z T) ∧ (mS A9))
theorem f_q_tell_0_1 : mblkB b_Mo_tell [(0, .aload_n 0, vi 0)] = true := by decide +kernel
theorem e_q_tell_1 : decode b_Mo_tell 1 = .ok (.getfield 65, 3) := by decide +kernel
theorem f_q_tell_4_1 : mblkB b_Mo_tell [(4, .iload_n 1, vi 0)] = true := by decide +kernel
theorem e_q_tell_5 : decode b_Mo_tell 5 = .ok (.aaload, 1) := by decide +kernel
theorem f_q_tell_6_1 : mblkB b_Mo_tell [(6, .iload_n 2, vi 0)] = true := by decide +kernel
theorem e_q_tell_7 : decode b_Mo_tell 7 = .ok (.baload, 1) := by decide +kernel
theorem e_q_tell_8 : decode b_Mo_tell 8 = .ok (.ifCond .eq 4, 3) := by decide +kernel
theorem f_q_tell_12_1 : mblkB b_Mo_tell [(12, .aload_n 0, vi 0)] = true := by decide +kernel
theorem e_q_tell_13 : decode b_Mo_tell 13 = .ok (.getfield 314, 3) := by decide +kernel
theorem f_q_tell_16_2 : mblkB b_Mo_tell [(16, .istore_n 3, vi 0), (17, .aload_n 0, vi 0)] = true := by decide +kernel
theorem e_q_tell_18 : decode b_Mo_tell 18 = .ok (.getfield 297, 3) := by decide +kernel
theorem f_q_tell_21_3 : mblkB b_Mo_tell [(21, .istore 4, vi 0), (23, .aload_n 0, vi 0), (24, .iconst 0, vi 0)] = true := by decide +kernel
theorem e_q_tell_25 : decode b_Mo_tell 25 = .ok (.putfield 297, 3) := by decide +kernel
theorem f_q_tell_28_1 : mblkB b_Mo_tell [(28, .aload_n 0, vi 0)] = true := by decide +kernel
theorem e_q_tell_29 : decode b_Mo_tell 29 = .ok (.getfield 269, 3) := by decide +kernel
theorem f_q_tell_32_2 : mblkB b_Mo_tell [(32, .istore 5, vi 0), (34, .aload_n 0, vi 0)] = true := by decide +kernel
theorem e_q_tell_35 : decode b_Mo_tell 35 = .ok (.invokevirtual 275, 3) := by decide +kernel
theorem f_q_tell_38_5 : mblkB b_Mo_tell [(38, .astore 6, vi 0), (40, .aload 6, vi 0), (42, .iconst 0, vi 0), (43, .iconst 0, vi 0), (44, .iload_n 2, vi 0)] = true := by decide +kernel
theorem e_q_tell_45 : decode b_Mo_tell 45 = .ok (.invokestatic 282, 3) := by decide +kernel
theorem e_q_tell_48 : decode b_Mo_tell 48 = .ok (.ldc2_w 340, 3) := by decide +kernel
theorem e_q_tell_51 : decode b_Mo_tell 51 = .ok (.invokevirtual 289, 3) := by decide +kernel
theorem f_q_tell_54_4 : mblkB b_Mo_tell [(54, .aload_n 0, vi 0), (55, .iload_n 1, vi 0), (56, .iconst 0, vi 0), (57, .aload_n 0, vi 0)] = true := by decide +kernel
theorem e_q_tell_58 : decode b_Mo_tell 58 = .ok (.getfield 9, 3) := by decide +kernel
theorem f_q_tell_61_1 : mblkB b_Mo_tell [(61, .iload_n 1, vi 0)] = true := by decide +kernel
theorem e_q_tell_62 : decode b_Mo_tell 62 = .ok (.iaload, 1) := by decide +kernel
theorem f_q_tell_63_2 : mblkB b_Mo_tell [(63, .aload 6, vi 0), (65, .iconst (-1), vi (-1))] = true := by decide +kernel
theorem e_q_tell_66 : decode b_Mo_tell 66 = .ok (.invokevirtual 336, 3) := by decide +kernel
theorem f_q_tell_69_3 : mblkB b_Mo_tell [(69, .astore 7, vi 0), (71, .iconst 0, vi 0), (72, .istore 8, vi 0)] = true := by decide +kernel
theorem f_q_tell_74_2 : mblkB b_Mo_tell [(74, .iload 8, vi 0), (76, .bipush 10, vi 10)] = true := by decide +kernel
theorem e_q_tell_78 : decode b_Mo_tell 78 = .ok (.if_icmp .ge 21, 3) := by decide +kernel
theorem f_q_tell_99_2 : mblkB b_Mo_tell [(99, .iconst 0, vi 0), (100, .istore 8, vi 0)] = true := by decide +kernel
theorem f_q_tell_102_2 : mblkB b_Mo_tell [(102, .iload 8, vi 0), (104, .aload 7, vi 0)] = true := by decide +kernel
theorem e_q_tell_106 : decode b_Mo_tell 106 = .ok (.getfield 272, 3) := by decide +kernel
theorem e_q_tell_109 : decode b_Mo_tell 109 = .ok (.if_icmp .ge 48, 3) := by decide +kernel
theorem f_q_tell_157_1 : mblkB b_Mo_tell [(157, .aload_n 0, vi 0)] = true := by decide +kernel
theorem e_q_tell_158 : decode b_Mo_tell 158 = .ok (.getfield 68, 3) := by decide +kernel
theorem f_q_tell_161_1 : mblkB b_Mo_tell [(161, .iload_n 1, vi 0)] = true := by decide +kernel
theorem e_q_tell_162 : decode b_Mo_tell 162 = .ok (.aaload, 1) := by decide +kernel
theorem f_q_tell_163_2 : mblkB b_Mo_tell [(163, .iload_n 2, vi 0), (164, .aload_n 0, vi 0)] = true := by decide +kernel
theorem e_q_tell_165 : decode b_Mo_tell 165 = .ok (.getfield 297, 3) := by decide +kernel
theorem e_q_tell_168 : decode b_Mo_tell 168 = .ok (.bastore, 1) := by decide +kernel
theorem f_q_tell_169_1 : mblkB b_Mo_tell [(169, .aload_n 0, vi 0)] = true := by decide +kernel
theorem e_q_tell_170 : decode b_Mo_tell 170 = .ok (.getfield 65, 3) := by decide +kernel
theorem f_q_tell_173_1 : mblkB b_Mo_tell [(173, .iload_n 1, vi 0)] = true := by decide +kernel
theorem e_q_tell_174 : decode b_Mo_tell 174 = .ok (.aaload, 1) := by decide +kernel
theorem f_q_tell_175_2 : mblkB b_Mo_tell [(175, .iload_n 2, vi 0), (176, .iconst 1, vi 1)] = true := by decide +kernel
theorem e_q_tell_177 : decode b_Mo_tell 177 = .ok (.bastore, 1) := by decide +kernel
theorem f_q_tell_178_2 : mblkB b_Mo_tell [(178, .aload_n 0, vi 0), (179, .iload 5, vi 0)] = true := by decide +kernel
theorem e_q_tell_181 : decode b_Mo_tell 181 = .ok (.putfield 269, 3) := by decide +kernel
theorem f_q_tell_184_2 : mblkB b_Mo_tell [(184, .aload_n 0, vi 0), (185, .iload 4, vi 0)] = true := by decide +kernel
theorem e_q_tell_187 : decode b_Mo_tell 187 = .ok (.putfield 297, 3) := by decide +kernel
theorem f_q_tell_190_2 : mblkB b_Mo_tell [(190, .aload_n 0, vi 0), (191, .iload_n 3, vi 0)] = true := by decide +kernel
theorem e_q_tell_192 : decode b_Mo_tell 192 = .ok (.putfield 314, 3) := by decide +kernel
theorem e_q_tell_195 : decode b_Mo_tell 195 = .ok (.return_, 1) := by decide +kernel
theorem f_q_tell_112_1 : mblkB b_Mo_tell [(112, .aload_n 0, vi 0)] = true := by decide +kernel
theorem e_q_tell_113 : decode b_Mo_tell 113 = .ok (.getfield 297, 3) := by decide +kernel
theorem e_q_tell_116 : decode b_Mo_tell 116 = .ok (.ifCond .ne 41, 3) := by decide +kernel
theorem f_q_tell_119_1 : mblkB b_Mo_tell [(119, .aload_n 0, vi 0)] = true := by decide +kernel
theorem e_q_tell_120 : decode b_Mo_tell 120 = .ok (.getfield 73, 3) := by decide +kernel
theorem f_q_tell_123_1 : mblkB b_Mo_tell [(123, .iload_n 1, vi 0)] = true := by decide +kernel
theorem e_q_tell_124 : decode b_Mo_tell 124 = .ok (.aaload, 1) := by decide +kernel
theorem f_q_tell_125_1 : mblkB b_Mo_tell [(125, .iload_n 2, vi 0)] = true := by decide +kernel
theorem e_q_tell_126 : decode b_Mo_tell 126 = .ok (.aaload, 1) := by decide +kernel
theorem f_q_tell_127_1 : mblkB b_Mo_tell [(127, .aload 7, vi 0)] = true := by decide +kernel
theorem e_q_tell_129 : decode b_Mo_tell 129 = .ok (.getfield 279, 3) := by decide +kernel
theorem f_q_tell_132_1 : mblkB b_Mo_tell [(132, .iload 8, vi 0)] = true := by decide +kernel
theorem e_q_tell_134 : decode b_Mo_tell 134 = .ok (.iaload, 1) := by decide +kernel
theorem f_q_tell_135_1 : mblkB b_Mo_tell [(135, .iconst 0, vi 0)] = true := by decide +kernel
theorem e_q_tell_136 : decode b_Mo_tell 136 = .ok (.invokestatic 260, 3) := by decide +kernel
theorem f_q_tell_139_1 : mblkB b_Mo_tell [(139, .dup2, vi 0)] = true := by decide +kernel
theorem e_q_tell_140 : decode b_Mo_tell 140 = .ok (.laload, 1) := by decide +kernel
theorem f_q_tell_141_1 : mblkB b_Mo_tell [(141, .aload 7, vi 0)] = true := by decide +kernel
theorem e_q_tell_143 : decode b_Mo_tell 143 = .ok (.getfield 285, 3) := by decide +kernel
theorem f_q_tell_146_1 : mblkB b_Mo_tell [(146, .iload 8, vi 0)] = true := by decide +kernel
theorem e_q_tell_148 : decode b_Mo_tell 148 = .ok (.laload, 1) := by decide +kernel
theorem f_q_tell_149_1 : mblkB b_Mo_tell [(149, .ladd, vi 0)] = true := by decide +kernel
theorem e_q_tell_150 : decode b_Mo_tell 150 = .ok (.lastore, 1) := by decide +kernel
theorem f_q_tell_151_2 : mblkB b_Mo_tell [(151, .iinc 8 1, vi 1), (154, .goto (-52), vi 102)] = true := by decide +kernel
theorem f_q_tell_81_1 : mblkB b_Mo_tell [(81, .aload_n 0, vi 0)] = true := by decide +kernel
theorem e_q_tell_82 : decode b_Mo_tell 82 = .ok (.getfield 73, 3) := by decide +kernel
theorem f_q_tell_85_1 : mblkB b_Mo_tell [(85, .iload_n 1, vi 0)] = true := by decide +kernel
theorem e_q_tell_86 : decode b_Mo_tell 86 = .ok (.aaload, 1) := by decide +kernel
theorem f_q_tell_87_1 : mblkB b_Mo_tell [(87, .iload_n 2, vi 0)] = true := by decide +kernel
theorem e_q_tell_88 : decode b_Mo_tell 88 = .ok (.aaload, 1) := by decide +kernel
theorem f_q_tell_89_2 : mblkB b_Mo_tell [(89, .iload 8, vi 0), (91, .lconst 0, vl 0)] = true := by decide +kernel
theorem e_q_tell_92 : decode b_Mo_tell 92 = .ok (.lastore, 1) := by decide +kernel
theorem f_q_tell_93_2 : mblkB b_Mo_tell [(93, .iinc 8 1, vi 1), (96, .goto (-22), vi 74)] = true := by decide +kernel
theorem e_q_tell_11 : decode b_Mo_tell 11 = .ok (.return_, 1) := by decide +kernel
set_option maxHeartbeats 40000000 in
set_option maxRecDepth 100000 in
theorem q_tell (n : Nat) (hq9 : S_make n) : S_tell n := by
  intro l D B H0 ad A hT u p d hp ha hn hu hS
  refine m_met (by decide) rfl (fun g w0 C Rm Y E => ?_)
  have hE0 : mEq (rm u.toNat) A A := mEq.rfl'
  show JM g D ad w0 A 0 [(0, vr 0 0), (1, vi p), (2, vi d)] []
  obtain ⟨M, Ln, dep, hK⟩ := ha.at (p := p) (by omega) (by omega)
  obtain ⟨N, hN⟩ : ∃ x, A 5 0 p.toNat = x := ⟨_, rfl⟩
  rw [hN] at hK
  have hr9 := hK.rng
  refine m_blk 1 [(0, vr 0 0), (1, vi p), (2, vi d)] [vr 0 0] C f_q_tell_0_1 rfl ?_
  refine m_getr C e_q_tell_1 fg_Mo_65 rfl (by decide) rfl ?_
  refine m_blk 5 [(0, vr 0 0), (1, vi p), (2, vi d)] [vi p, vr 27 0] C f_q_tell_4_1 rfl ?_
  refine m_aald C p.toNat e_q_tell_5 rfl rfl rfl (by decide) (by decide) (by omega) (by show p < ((6 : Nat) : Int); omega) (mz _ _) ?_
  refine m_blk 7 [(0, vr 0 0), (1, vi p), (2, vi d)] [vi d, vr 47 p.toNat] C f_q_tell_6_1 rfl ?_
  obtain ⟨x1, hx1⟩ : ∃ x, A 47 p.toNat d.toNat = x := ⟨_, rfl⟩
  have rx1 : 0 ≤ x1 ∧ x1 ≤ 1 := mrg hT hx1 rfl
  refine m_zald C e_q_tell_7 rfl (by omega) (by decide) (by omega) (by show d < ((10 : Nat) : Int); omega) x1 hx1 ?_
  refine m_if_eq (tgt := 12) C e_q_tell_8 (by decide) (by omega) (fun c2 => ?_) (fun c2 => ?_)
  · refine m_blk 13 [(0, vr 0 0), (1, vi p), (2, vi d)] [vr 0 0] C f_q_tell_12_1 rfl ?_
    obtain ⟨x3, hx3⟩ : ∃ x, A 0 0 35 = x := ⟨_, rfl⟩
    have rx3 : (-2147483648) ≤ x3 ∧ x3 ≤ 2147483647 := mrg hT hx3 rfl
    refine m_geti C e_q_tell_13 fg_Mo_314 rfl (by decide) rfl x3 hx3 ?_
    refine m_blk 18 [(3, vi x3), (0, vr 0 0), (1, vi p), (2, vi d)] [vr 0 0] C f_q_tell_16_2 rfl ?_
    obtain ⟨x4, hx4⟩ : ∃ x, A 0 0 34 = x := ⟨_, rfl⟩
    have rx4 : 0 ≤ x4 ∧ x4 ≤ 1 := mrg hT hx4 rfl
    refine m_geti C e_q_tell_18 fg_Mo_297 rfl (by decide) rfl x4 hx4 ?_
    refine m_blk 25 [(4, vi x4), (3, vi x3), (0, vr 0 0), (1, vi p), (2, vi d)] [vi 0, vr 0 0] C f_q_tell_21_3 rfl ?_
    refine m_putz C e_q_tell_25 fp_Mo_297 rfl (by decide) rfl (Or.inl rfl) ?_
    have t5 : mTy (mu A 0 0 34 0) := hT.mu (by show 0 ≤ 0 ∧ 0 ≤ 1; omega)
    have q6 := hE0.mu (f := 0) (k := 0) (j := 34) (z := 0) (by simp [rm])
    refine m_blk 29 [(4, vi x4), (3, vi x3), (0, vr 0 0), (1, vi p), (2, vi d)] [vr 0 0] C f_q_tell_28_1 rfl ?_
    refine m_geti C e_q_tell_29 fg_Mo_269 rfl (by decide) rfl u hu.1 ?_
    refine m_blk 35 [(5, vi u), (4, vi x4), (3, vi x3), (0, vr 0 0), (1, vi p), (2, vi d)] [vr 0 0] C f_q_tell_32_2 rfl ?_
    refine m_callV C Rm Y [] [] (q_taken l D B H0 ad _ t5 u (by show A 0 0 33 = u ∧ 0 ≤ u ∧ u ≤ 199; omega)) cl_Mo_275 rfl (by decide) rfl rfl e_q_tell_35 rfl rfl rfl ⟨by show _ ≤ (201 + 6 * n : Nat); omega, by show _ ≤ (5530 + 150 * n : Nat); omega⟩ ?_
    rintro v7 A8 ⟨z11, rfl, hT_n10, hE_n10, raw_hz_n10, raw_hu_n10, raw_hm_n10⟩
    have hF_n10 := q6.trans (hE_n10.sub (tk_rm (by omega)))
    have hz_n10 : (z11 : Int) = u := raw_hz_n10
    clear raw_hz_n10
    have hu_n10 : A8 0 0 33 = u + 1 := raw_hu_n10
    clear raw_hu_n10
    have hm_n10 : A8 1 z11 2 = 0 := raw_hm_n10
    clear raw_hm_n10
    show JM g D ad w0 A8 38 [(5, vi u), (4, vi x4), (3, vi x3), (0, vr 0 0), (1, vi p), (2, vi d)] [vr 1 z11]
    have ms_n10 : mS A8 := (hS.muf (by decide)).tkk hE_n10
    have ku_n10 : A8 0 0 33 = u + 1 := hu_n10
    refine m_blk 45 [(6, vr 1 z11), (5, vi u), (4, vi x4), (3, vi x3), (0, vr 0 0), (1, vi p), (2, vi d)] [vi d, vi 0, vi 0, vr 1 z11] C f_q_tell_38_5 rfl ?_
    refine m_callS C Rm Y [vi 0, vi 0, vi d] [vr 1 z11] (q_with l D B H0 ad _ 0 0 d (by show 0 ≤ 0 ∧ 0 ≤ 9999999; omega) (by show -1 ≤ 0 ∧ 0 ≤ 5; omega) (by show 0 ≤ d ∧ d ≤ 9; omega)) cl_Mo_282 e_q_tell_45 rfl rfl rfl ⟨by show _ ≤ (201 + 6 * n : Nat); omega, by show _ ≤ (5530 + 150 * n : Nat); omega⟩ ?_
    rintro v12 A13 ⟨z16, rfl, rfl, raw_hz_n15⟩
    have hz_n15 : z16 = 0 + (d - dg 0 0) * tnF 0 ∧ 0 ≤ z16 ∧ z16 ≤ 9999999 := raw_hz_n15
    clear raw_hz_n15
    show JM g D ad w0 A8 48 [(6, vr 1 z11), (5, vi u), (4, vi x4), (3, vi x3), (0, vr 0 0), (1, vi p), (2, vi d)] [vi z16, vr 1 z11]
    refine m_ldc2 C 1125899906842624 e_q_tell_48 ld_Mo_340 (by decide) ?_
    refine m_callV C Rm Y [vi z16, vl 1125899906842624] [] (q_come l D B H0 ad _ hT_n10 z11 0 z16 1125899906842624 (by show z11 < 200; omega) (oG.nil hm_n10) (by show 0 ≤ z16 ∧ z16 ≤ 9999999; omega) (by show 0 ≤ 1125899906842624 ∧ 0 ≤ 0 ∧ 0 + 1125899906842624 ≤ 1125899906842624; omega)) cl_Mo_289 rfl (by omega) rfl rfl e_q_tell_51 rfl rfl rfl ⟨by show _ ≤ (201 + 6 * n : Nat); omega, by show _ ≤ (5530 + 150 * n : Nat); omega⟩ ?_
    rintro v17 A18 ⟨rfl, hT_n20, hE_n20, raw_hO_n20⟩
    have hF_n20 := hF_n10.trans (hE_n20.sub (cm_rm (by omega)))
    have hO_n20 : oG A18 z11 (0 + 1125899906842624) := raw_hO_n20
    clear raw_hO_n20
    show JM g D ad w0 A18 54 [(6, vr 1 z11), (5, vi u), (4, vi x4), (3, vi x3), (0, vr 0 0), (1, vi p), (2, vi d)] []
    have ms_n20 : mS A18 := ms_n10.cmk hE_n20
    have ku_n20 : A18 0 0 33 = u + 1 := (hE_n20 0 0 33 rfl).trans ku_n10
    have ob_n20 : oG A18 z11 1125899906842624 := hO_n20.le (by omega)
    refine m_blk 58 [(6, vr 1 z11), (5, vi u), (4, vi x4), (3, vi x3), (0, vr 0 0), (1, vi p), (2, vi d)] [vr 0 0, vi 0, vi p, vr 0 0] C f_q_tell_54_4 rfl ?_
    refine m_getr C e_q_tell_58 fg_Mo_9 rfl (by decide) rfl ?_
    refine m_blk 62 [(6, vr 1 z11), (5, vi u), (4, vi x4), (3, vi x3), (0, vr 0 0), (1, vi p), (2, vi d)] [vi p, vr 5 0, vi 0, vi p, vr 0 0] C f_q_tell_61_1 rfl ?_
    obtain ⟨x21, hx21⟩ : ∃ x, A18 5 0 p.toNat = x := ⟨_, rfl⟩
    have rx21 : 0 ≤ x21 ∧ x21 ≤ 16 := mrg hT_n20 hx21 rfl
    have eN : x21 = N := hx21.symm.trans ((hF_n20 5 0 p.toNat (rm_far (by decide) (by decide) _)).trans hN)
    refine m_iald C e_q_tell_62 rfl (by decide) (by decide) (by omega) (by show p < ((6 : Nat) : Int); omega) x21 hx21 ?_
    refine m_blk 66 [(6, vr 1 z11), (5, vi u), (4, vi x4), (3, vi x3), (0, vr 0 0), (1, vi p), (2, vi d)] [vi (-1), vr 1 z11, vi x21, vi 0, vi p, vr 0 0] C f_q_tell_63_2 rfl ?_
    refine m_callV C Rm Y [vi p, vi 0, vi x21, vr 1 z11, vi (-1)] [] (hq9 l D B H0 ad _ hT_n20 (u + 1) 1125899906842624 N M Ln dep 0 p 0 x21 z11 (-1) (by show 0 ≤ p ∧ p ≤ 5; omega) (hK.rmk hF_n20) ((ha.rmk hF_n20).le (by omega)) (by show 0 ≤ 0 ∧ 0 ≤ 16 ∧ 0 ≤ x21 ∧ x21 ≤ N ∧ 20 * p + 17 - 0 ≤ (n : Int); omega) (hK.dQ0 (by omega)) (by show A18 0 0 33 = (u + 1) ∧ 0 ≤ (u + 1) ∧ (u + 1) + (19 * p + 23 - 4 * 0) ≤ 200 ∧ 0 ≤ 0 ∧ 0 ≤ 5; omega) (by show (z11 : Int) < (u + 1); omega) ob_n20 (by show 0 ≤ 1125899906842624 ∧ 1125899906842624 ≤ 1125899906842624; omega) (by show -2147483648 ≤ (-1) ∧ (-1) ≤ 2147483647; omega) ms_n20) cl_Mo_336 rfl (by decide) rfl rfl e_q_tell_66 rfl rfl rfl ⟨by show _ ≤ (201 + 6 * n : Nat); omega, by show _ ≤ (5530 + 150 * n : Nat); omega⟩ ?_
    rintro v22 A23 ⟨z26, rfl, hT_n25, hE_n25, raw_hz_n25, raw_hu_n25, raw_hx_n25, raw_hO_n25, raw_hS_n25⟩
    have hF_n25 := hF_n20.trans (hE_n25.sub (rm_rm (by omega)))
    have hz_n25 : (z26 : Int) = (u + 1) := raw_hz_n25
    clear raw_hz_n25
    have hu_n25 : (u + 1) + 1 ≤ A23 0 0 33 ∧ A23 0 0 33 ≤ (u + 1) + 2 + 4 * (5 - 0) := raw_hu_n25
    clear raw_hu_n25
    have hx_n25 : xQ A23 ((u + 1) + 1) := raw_hx_n25
    clear raw_hx_n25
    have hO_n25 : oG A23 z26 1125899906842624 := raw_hO_n25
    clear raw_hO_n25
    have hS_n25 : mS A23 := raw_hS_n25
    clear raw_hS_n25
    show JM g D ad w0 A23 69 [(6, vr 1 z11), (5, vi u), (4, vi x4), (3, vi x3), (0, vr 0 0), (1, vi p), (2, vi d)] [vr 1 z26]
    have rz9 : 0 ≤ A23 1 z26 2 ∧ A23 1 z26 2 ≤ 301 := hT_n25 1 z26 2
    obtain ⟨SJ, hSJ⟩ : ∃ f : Int → Int, ∀ j, f j = ws (A23 4 z26) 0 (Int.toNat j) := ⟨_, fun _ => rfl⟩
    have rO9 := rO.of hS_n25 (p.toNat * 10 + d.toNat)
    refine m_blk 74 [(8, vi 0), (7, vr 1 z26), (6, vr 1 z11), (5, vi u), (4, vi x4), (3, vi x3), (0, vr 0 0), (1, vi p), (2, vi d)] [] C f_q_tell_69_3 rfl ?_
    have hd_74 : ∀ (NZ : Nat) (A2 : mA) (j : Int), mTy A2 → mEq (rm u.toNat) A A2 → mEq mdm A23 A2 → rO A2 (p.toNat * 10 + d.toNat) → rZ A2 (p.toNat * 10 + d.toNat) j → 0 ≤ j ∧ j ≤ 10 → (400 - j) < (NZ : Int) → JM g D ad w0 A2 74 [(8, vi j), (7, vr 1 z26), (0, vr 0 0), (1, vi p), (2, vi d), (3, vi x3), (4, vi x4), (5, vi u)] [] := by
      intro NZ
      induction NZ with
      | zero => intro A2 j hTa hEa hDa rOa rXa hja hm74; exact absurd hm74 (by omega)
      | succ NZ ih74 =>
        intro A2 j hTa hEa hDa rOa rXa hja hm74
        refine m_blk 78 [(8, vi j), (7, vr 1 z26), (0, vr 0 0), (1, vi p), (2, vi d), (3, vi x3), (4, vi x4), (5, vi u)] [vi 10, vi j] C f_q_tell_74_2 rfl ?_
        refine m_icmp_ge (tgt := 99) C e_q_tell_78 (by decide) (by omega) (by decide) (fun c27 => ?_) (fun c27 => ?_)
        · refine m_blk 102 [(8, vi 0), (7, vr 1 z26), (0, vr 0 0), (1, vi p), (2, vi d), (3, vi x3), (4, vi x4), (5, vi u)] [] C f_q_tell_99_2 rfl ?_
          have hd_102 : ∀ (NZ : Nat) (A3 : mA) (j : Int), mTy A3 → mEq (rm u.toNat) A A3 → mEq mdm A23 A3 → rO A3 (p.toNat * 10 + d.toNat) → rT A3 (p.toNat * 10 + d.toNat) (SJ j) → 0 ≤ j ∧ j ≤ A23 1 z26 2 → (400 - j) < (NZ : Int) → JM g D ad w0 A3 102 [(8, vi j), (7, vr 1 z26), (0, vr 0 0), (1, vi p), (2, vi d), (3, vi x3), (4, vi x4), (5, vi u)] [] := by
            intro NZ
            induction NZ with
            | zero => intro A3 j hTb hEb hDb rOb rXb hjb hm102; exact absurd hm102 (by omega)
            | succ NZ ih102 =>
              intro A3 j hTb hEb hDb rOb rXb hjb hm102
              have w9 : A3 1 z26 2 = A23 1 z26 2 := hDb 1 z26 2 rfl
              refine m_blk 106 [(8, vi j), (7, vr 1 z26), (0, vr 0 0), (1, vi p), (2, vi d), (3, vi x3), (4, vi x4), (5, vi u)] [vr 1 z26, vi j] C f_q_tell_102_2 rfl ?_
              obtain ⟨x28, hx28⟩ : ∃ x, A3 1 z26 2 = x := ⟨_, rfl⟩
              have rx28 : 0 ≤ x28 ∧ x28 ≤ 301 := mrg hTb hx28 rfl
              refine m_getiN C e_q_tell_106 fg_Mo_272 rfl (by omega) rfl x28 hx28 ?_
              refine m_icmp_ge (tgt := 157) C e_q_tell_109 (by decide) (by omega) (by omega) (fun c29 => ?_) (fun c29 => ?_)
              · have sj9 : SJ j ≤ 1125899906842624 := by
                  rw [hSJ]
                  have k9 := ws_mono (w := A23 4 z26) (Int.toNat j) (Int.toNat (A23 1 z26 2)) (by omega) (fun v hv => by have h9 := hO_n25.1 v (by omega); omega)
                  have k8 := hO_n25.2
                  omega
                have ms9 : mS A3 := rXb.mS rOb sj9
                refine m_blk 158 [(8, vi j), (7, vr 1 z26), (0, vr 0 0), (1, vi p), (2, vi d), (3, vi x3), (4, vi x4), (5, vi u)] [vr 0 0] C f_q_tell_157_1 rfl ?_
                refine m_getr C e_q_tell_158 fg_Mo_68 rfl (by decide) rfl ?_
                refine m_blk 162 [(8, vi j), (7, vr 1 z26), (0, vr 0 0), (1, vi p), (2, vi d), (3, vi x3), (4, vi x4), (5, vi u)] [vi p, vr 28 0] C f_q_tell_161_1 rfl ?_
                refine m_aald C p.toNat e_q_tell_162 rfl rfl rfl (by decide) (by decide) (by omega) (by show p < ((6 : Nat) : Int); omega) (mz _ _) ?_
                refine m_blk 165 [(8, vi j), (7, vr 1 z26), (0, vr 0 0), (1, vi p), (2, vi d), (3, vi x3), (4, vi x4), (5, vi u)] [vr 0 0, vi d, vr 48 p.toNat] C f_q_tell_163_2 rfl ?_
                obtain ⟨x30, hx30⟩ : ∃ x, A3 0 0 34 = x := ⟨_, rfl⟩
                have rx30 : 0 ≤ x30 ∧ x30 ≤ 1 := mrg hTb hx30 rfl
                refine m_geti C e_q_tell_165 fg_Mo_297 rfl (by decide) rfl x30 hx30 ?_
                refine m_zast C e_q_tell_168 rfl (by omega) (by decide) (by omega) (by show d < ((10 : Nat) : Int); omega) (by omega) ?_
                have t31 : mTy (mu A3 48 p.toNat d.toNat x30) := hTb.mu (by show 0 ≤ x30 ∧ x30 ≤ 1; omega)
                have q32 := hEb.mu (f := 48) (k := p.toNat) (j := d.toNat) (z := x30) (by simp [rm])
                refine m_blk 170 [(8, vi j), (7, vr 1 z26), (0, vr 0 0), (1, vi p), (2, vi d), (3, vi x3), (4, vi x4), (5, vi u)] [vr 0 0] C f_q_tell_169_1 rfl ?_
                refine m_getr C e_q_tell_170 fg_Mo_65 rfl (by decide) rfl ?_
                refine m_blk 174 [(8, vi j), (7, vr 1 z26), (0, vr 0 0), (1, vi p), (2, vi d), (3, vi x3), (4, vi x4), (5, vi u)] [vi p, vr 27 0] C f_q_tell_173_1 rfl ?_
                refine m_aald C p.toNat e_q_tell_174 rfl rfl rfl (by decide) (by decide) (by omega) (by show p < ((6 : Nat) : Int); omega) (mz _ _) ?_
                refine m_blk 177 [(8, vi j), (7, vr 1 z26), (0, vr 0 0), (1, vi p), (2, vi d), (3, vi x3), (4, vi x4), (5, vi u)] [vi 1, vi d, vr 47 p.toNat] C f_q_tell_175_2 rfl ?_
                refine m_zast C e_q_tell_177 rfl (by omega) (by decide) (by omega) (by show d < ((10 : Nat) : Int); omega) (Or.inr rfl) ?_
                have t33 : mTy (mu (mu A3 48 p.toNat d.toNat x30) 47 p.toNat d.toNat 1) := t31.mu (by show 0 ≤ 1 ∧ 1 ≤ 1; omega)
                have q34 := q32.mu (f := 47) (k := p.toNat) (j := d.toNat) (z := 1) (by simp [rm])
                refine m_blk 181 [(8, vi j), (7, vr 1 z26), (0, vr 0 0), (1, vi p), (2, vi d), (3, vi x3), (4, vi x4), (5, vi u)] [vi u, vr 0 0] C f_q_tell_178_2 rfl ?_
                refine m_puti C e_q_tell_181 fp_Mo_269 rfl (by decide) rfl ?_
                have t35 : mTy (mu (mu (mu A3 48 p.toNat d.toNat x30) 47 p.toNat d.toNat 1) 0 0 33 u) := t33.mu (by show 0 ≤ u ∧ u ≤ 200; omega)
                have q36 := q34.mu (f := 0) (k := 0) (j := 33) (z := u) (by simp [rm])
                refine m_blk 187 [(8, vi j), (7, vr 1 z26), (0, vr 0 0), (1, vi p), (2, vi d), (3, vi x3), (4, vi x4), (5, vi u)] [vi x4, vr 0 0] C f_q_tell_184_2 rfl ?_
                refine m_putz C e_q_tell_187 fp_Mo_297 rfl (by decide) rfl (by omega) ?_
                have t37 : mTy (mu (mu (mu (mu A3 48 p.toNat d.toNat x30) 47 p.toNat d.toNat 1) 0 0 33 u) 0 0 34 x4) := t35.mu (by show 0 ≤ x4 ∧ x4 ≤ 1; omega)
                have q38 := q36.mu (f := 0) (k := 0) (j := 34) (z := x4) (by simp [rm])
                refine m_blk 192 [(8, vi j), (7, vr 1 z26), (0, vr 0 0), (1, vi p), (2, vi d), (3, vi x3), (4, vi x4), (5, vi u)] [vi x3, vr 0 0] C f_q_tell_190_2 rfl ?_
                refine m_puti C e_q_tell_192 fp_Mo_314 rfl (by decide) rfl ?_
                have t39 : mTy (mu (mu (mu (mu (mu A3 48 p.toNat d.toNat x30) 47 p.toNat d.toNat 1) 0 0 33 u) 0 0 34 x4) 0 0 35 x3) := t37.mu (by show (-2147483648) ≤ x3 ∧ x3 ≤ 2147483647; omega)
                have q40 := q38.mu (f := 0) (k := 0) (j := 35) (z := x3) (by simp [rm])
                exact m_vret C Rm E e_q_tell_195 ⟨rfl, t39, q40, (by show u = u; omega), (((((ms9.muf (by decide)).muf (by decide)).muf (by decide)).muf (by decide)).muf (by decide))⟩
              · refine m_blk 113 [(8, vi j), (7, vr 1 z26), (0, vr 0 0), (1, vi p), (2, vi d), (3, vi x3), (4, vi x4), (5, vi u)] [vr 0 0] C f_q_tell_112_1 rfl ?_
                obtain ⟨x41, hx41⟩ : ∃ x, A3 0 0 34 = x := ⟨_, rfl⟩
                have rx41 : 0 ≤ x41 ∧ x41 ≤ 1 := mrg hTb hx41 rfl
                refine m_geti C e_q_tell_113 fg_Mo_297 rfl (by decide) rfl x41 hx41 ?_
                refine m_if_ne (tgt := 157) C e_q_tell_116 (by decide) (by omega) (fun c42 => ?_) (fun c42 => ?_)
                · have sj9 : SJ j ≤ 1125899906842624 := by
                    rw [hSJ]
                    have k9 := ws_mono (w := A23 4 z26) (Int.toNat j) (Int.toNat (A23 1 z26 2)) (by omega) (fun v hv => by have h9 := hO_n25.1 v (by omega); omega)
                    have k8 := hO_n25.2
                    omega
                  have ms9 : mS A3 := rXb.mS rOb sj9
                  refine m_blk 158 [(8, vi j), (7, vr 1 z26), (0, vr 0 0), (1, vi p), (2, vi d), (3, vi x3), (4, vi x4), (5, vi u)] [vr 0 0] C f_q_tell_157_1 rfl ?_
                  refine m_getr C e_q_tell_158 fg_Mo_68 rfl (by decide) rfl ?_
                  refine m_blk 162 [(8, vi j), (7, vr 1 z26), (0, vr 0 0), (1, vi p), (2, vi d), (3, vi x3), (4, vi x4), (5, vi u)] [vi p, vr 28 0] C f_q_tell_161_1 rfl ?_
                  refine m_aald C p.toNat e_q_tell_162 rfl rfl rfl (by decide) (by decide) (by omega) (by show p < ((6 : Nat) : Int); omega) (mz _ _) ?_
                  refine m_blk 165 [(8, vi j), (7, vr 1 z26), (0, vr 0 0), (1, vi p), (2, vi d), (3, vi x3), (4, vi x4), (5, vi u)] [vr 0 0, vi d, vr 48 p.toNat] C f_q_tell_163_2 rfl ?_
                  refine m_geti C e_q_tell_165 fg_Mo_297 rfl (by decide) rfl x41 hx41 ?_
                  refine m_zast C e_q_tell_168 rfl (by omega) (by decide) (by omega) (by show d < ((10 : Nat) : Int); omega) (by omega) ?_
                  have t43 : mTy (mu A3 48 p.toNat d.toNat x41) := hTb.mu (by show 0 ≤ x41 ∧ x41 ≤ 1; omega)
                  have q44 := hEb.mu (f := 48) (k := p.toNat) (j := d.toNat) (z := x41) (by simp [rm])
                  refine m_blk 170 [(8, vi j), (7, vr 1 z26), (0, vr 0 0), (1, vi p), (2, vi d), (3, vi x3), (4, vi x4), (5, vi u)] [vr 0 0] C f_q_tell_169_1 rfl ?_
                  refine m_getr C e_q_tell_170 fg_Mo_65 rfl (by decide) rfl ?_
                  refine m_blk 174 [(8, vi j), (7, vr 1 z26), (0, vr 0 0), (1, vi p), (2, vi d), (3, vi x3), (4, vi x4), (5, vi u)] [vi p, vr 27 0] C f_q_tell_173_1 rfl ?_
                  refine m_aald C p.toNat e_q_tell_174 rfl rfl rfl (by decide) (by decide) (by omega) (by show p < ((6 : Nat) : Int); omega) (mz _ _) ?_
                  refine m_blk 177 [(8, vi j), (7, vr 1 z26), (0, vr 0 0), (1, vi p), (2, vi d), (3, vi x3), (4, vi x4), (5, vi u)] [vi 1, vi d, vr 47 p.toNat] C f_q_tell_175_2 rfl ?_
                  refine m_zast C e_q_tell_177 rfl (by omega) (by decide) (by omega) (by show d < ((10 : Nat) : Int); omega) (Or.inr rfl) ?_
                  have t45 : mTy (mu (mu A3 48 p.toNat d.toNat x41) 47 p.toNat d.toNat 1) := t43.mu (by show 0 ≤ 1 ∧ 1 ≤ 1; omega)
                  have q46 := q44.mu (f := 47) (k := p.toNat) (j := d.toNat) (z := 1) (by simp [rm])
                  refine m_blk 181 [(8, vi j), (7, vr 1 z26), (0, vr 0 0), (1, vi p), (2, vi d), (3, vi x3), (4, vi x4), (5, vi u)] [vi u, vr 0 0] C f_q_tell_178_2 rfl ?_
                  refine m_puti C e_q_tell_181 fp_Mo_269 rfl (by decide) rfl ?_
                  have t47 : mTy (mu (mu (mu A3 48 p.toNat d.toNat x41) 47 p.toNat d.toNat 1) 0 0 33 u) := t45.mu (by show 0 ≤ u ∧ u ≤ 200; omega)
                  have q48 := q46.mu (f := 0) (k := 0) (j := 33) (z := u) (by simp [rm])
                  refine m_blk 187 [(8, vi j), (7, vr 1 z26), (0, vr 0 0), (1, vi p), (2, vi d), (3, vi x3), (4, vi x4), (5, vi u)] [vi x4, vr 0 0] C f_q_tell_184_2 rfl ?_
                  refine m_putz C e_q_tell_187 fp_Mo_297 rfl (by decide) rfl (by omega) ?_
                  have t49 : mTy (mu (mu (mu (mu A3 48 p.toNat d.toNat x41) 47 p.toNat d.toNat 1) 0 0 33 u) 0 0 34 x4) := t47.mu (by show 0 ≤ x4 ∧ x4 ≤ 1; omega)
                  have q50 := q48.mu (f := 0) (k := 0) (j := 34) (z := x4) (by simp [rm])
                  refine m_blk 192 [(8, vi j), (7, vr 1 z26), (0, vr 0 0), (1, vi p), (2, vi d), (3, vi x3), (4, vi x4), (5, vi u)] [vi x3, vr 0 0] C f_q_tell_190_2 rfl ?_
                  refine m_puti C e_q_tell_192 fp_Mo_314 rfl (by decide) rfl ?_
                  have t51 : mTy (mu (mu (mu (mu (mu A3 48 p.toNat d.toNat x41) 47 p.toNat d.toNat 1) 0 0 33 u) 0 0 34 x4) 0 0 35 x3) := t49.mu (by show (-2147483648) ≤ x3 ∧ x3 ≤ 2147483647; omega)
                  have q52 := q50.mu (f := 0) (k := 0) (j := 35) (z := x3) (by simp [rm])
                  exact m_vret C Rm E e_q_tell_195 ⟨rfl, t51, q52, (by show u = u; omega), (((((ms9.muf (by decide)).muf (by decide)).muf (by decide)).muf (by decide)).muf (by decide))⟩
                · refine m_blk 120 [(8, vi j), (7, vr 1 z26), (0, vr 0 0), (1, vi p), (2, vi d), (3, vi x3), (4, vi x4), (5, vi u)] [vr 0 0] C f_q_tell_119_1 rfl ?_
                  refine m_getr C e_q_tell_120 fg_Mo_73 rfl (by decide) rfl ?_
                  refine m_blk 124 [(8, vi j), (7, vr 1 z26), (0, vr 0 0), (1, vi p), (2, vi d), (3, vi x3), (4, vi x4), (5, vi u)] [vi p, vr 30 0] C f_q_tell_123_1 rfl ?_
                  refine m_aald C p.toNat e_q_tell_124 rfl rfl rfl (by decide) (by decide) (by omega) (by show p < ((6 : Nat) : Int); omega) (mz _ _) ?_
                  refine m_blk 126 [(8, vi j), (7, vr 1 z26), (0, vr 0 0), (1, vi p), (2, vi d), (3, vi x3), (4, vi x4), (5, vi u)] [vi d, vr 50 p.toNat] C f_q_tell_125_1 rfl ?_
                  refine m_aald C (p.toNat * 10 + d.toNat) e_q_tell_126 rfl rfl rfl (by omega) (by decide) (by omega) (by show d < ((10 : Nat) : Int); omega) rfl ?_
                  refine m_blk 129 [(8, vi j), (7, vr 1 z26), (0, vr 0 0), (1, vi p), (2, vi d), (3, vi x3), (4, vi x4), (5, vi u)] [vr 1 z26, vr 51 (p.toNat * 10 + d.toNat)] C f_q_tell_127_1 rfl ?_
                  refine m_getrN C e_q_tell_129 fg_Mo_279 rfl (by omega) rfl ?_
                  refine m_blk 134 [(8, vi j), (7, vr 1 z26), (0, vr 0 0), (1, vi p), (2, vi d), (3, vi x3), (4, vi x4), (5, vi u)] [vi j, vr 3 z26, vr 51 (p.toNat * 10 + d.toNat)] C f_q_tell_132_1 rfl ?_
                  obtain ⟨x53, hx53⟩ : ∃ x, A3 3 z26 j.toNat = x := ⟨_, rfl⟩
                  have rx53 : 0 ≤ x53 ∧ x53 ≤ 9999999 := mrg hTb hx53 rfl
                  refine m_iald C e_q_tell_134 rfl (by omega) (by decide) (by omega) (by show j < ((301 : Nat) : Int); omega) x53 hx53 ?_
                  refine m_blk 136 [(8, vi j), (7, vr 1 z26), (0, vr 0 0), (1, vi p), (2, vi d), (3, vi x3), (4, vi x4), (5, vi u)] [vi 0, vi x53, vr 51 (p.toNat * 10 + d.toNat)] C f_q_tell_135_1 rfl ?_
                  refine m_callS C Rm Y [vi x53, vi 0] [vr 51 (p.toNat * 10 + d.toNat)] (q_valueOf l D B H0 ad _ x53 0 (by show 0 ≤ x53 ∧ x53 ≤ 2147483647; omega) (by show -1 ≤ 0 ∧ 0 ≤ 2147483647; omega)) cl_Mo_260 e_q_tell_136 rfl rfl rfl ⟨by show _ ≤ (201 + 6 * n : Nat); omega, by show _ ≤ (5530 + 150 * n : Nat); omega⟩ ?_
                  rintro v54 A55 ⟨z58, rfl, rfl, raw_hz_n57⟩
                  have hz_n57 : z58 = dg x53 0 ∧ 0 ≤ z58 ∧ z58 ≤ 9 := raw_hz_n57
                  clear raw_hz_n57
                  show JM g D ad w0 A3 139 [(8, vi j), (7, vr 1 z26), (0, vr 0 0), (1, vi p), (2, vi d), (3, vi x3), (4, vi x4), (5, vi u)] [vi z58, vr 51 (p.toNat * 10 + d.toNat)]
                  refine m_blk 140 [(8, vi j), (7, vr 1 z26), (0, vr 0 0), (1, vi p), (2, vi d), (3, vi x3), (4, vi x4), (5, vi u)] [vi z58, vr 51 (p.toNat * 10 + d.toNat), vi z58, vr 51 (p.toNat * 10 + d.toNat)] C f_q_tell_139_1 rfl ?_
                  obtain ⟨x59, hx59⟩ : ∃ x, A3 51 (p.toNat * 10 + d.toNat) z58.toNat = x := ⟨_, rfl⟩
                  have rx59 : (-9223372036854775808) ≤ x59 ∧ x59 ≤ 9223372036854775807 := mrg hTb hx59 rfl
                  have hy9 := hx59
                  have el9 := rXb.el (v := Int.toNat z58) (by omega)
                  rw [hx59] at el9
                  refine m_lald C e_q_tell_140 rfl (by omega) (by decide) (by omega) (by show z58 < ((10 : Nat) : Int); omega) x59 hx59 ?_
                  refine m_blk 143 [(8, vi j), (7, vr 1 z26), (0, vr 0 0), (1, vi p), (2, vi d), (3, vi x3), (4, vi x4), (5, vi u)] [vr 1 z26, vl x59, vi z58, vr 51 (p.toNat * 10 + d.toNat)] C f_q_tell_141_1 rfl ?_
                  refine m_getrN C e_q_tell_143 fg_Mo_285 rfl (by omega) rfl ?_
                  refine m_blk 148 [(8, vi j), (7, vr 1 z26), (0, vr 0 0), (1, vi p), (2, vi d), (3, vi x3), (4, vi x4), (5, vi u)] [vi j, vr 4 z26, vl x59, vi z58, vr 51 (p.toNat * 10 + d.toNat)] C f_q_tell_146_1 rfl ?_
                  obtain ⟨x60, hx60⟩ : ∃ x, A3 4 z26 j.toNat = x := ⟨_, rfl⟩
                  have rx60 : (-9223372036854775808) ≤ x60 ∧ x60 ≤ 9223372036854775807 := mrg hTb hx60 rfl
                  have ew9 : A23 4 z26 (Int.toNat j) = x60 := (hDb 4 z26 (Int.toNat j) rfl).symm.trans hx60
                  have pw9 : 0 ≤ SJ j ∧ 1 ≤ A23 4 z26 (Int.toNat j) ∧ SJ j + A23 4 z26 (Int.toNat j) ≤ 1125899906842624 ∧ SJ (j + 1) = SJ j + A23 4 z26 (Int.toNat j) := by rw [hSJ, hSJ]; exact hO_n25.part (j := j) (by omega) (by omega)
                  rw [ew9] at pw9
                  refine m_lald C e_q_tell_148 rfl (by omega) (by decide) (by omega) (by show j < ((301 : Nat) : Int); omega) x60 hx60 ?_
                  refine m_blk 150 [(8, vi j), (7, vr 1 z26), (0, vr 0 0), (1, vi p), (2, vi d), (3, vi x3), (4, vi x4), (5, vi u)] [vl (x59 + x60), vi z58, vr 51 (p.toNat * 10 + d.toNat)] C f_q_tell_149_1 rfl ?_
                  refine m_last C e_q_tell_150 rfl (by omega) (by decide) (by omega) (by show z58 < ((10 : Nat) : Int); omega) ?_
                  have t61 : mTy (mu A3 51 (p.toNat * 10 + d.toNat) z58.toNat (x59 + x60)) := hTb.mu (by show (-9223372036854775808) ≤ (x59 + x60) ∧ (x59 + x60) ≤ 9223372036854775807; omega)
                  have q62 := hEb.mu (f := 51) (k := (p.toNat * 10 + d.toNat)) (j := z58.toNat) (z := (x59 + x60)) (by simp [rm])
                  refine m_blk 102 [(8, vi (j + 1)), (7, vr 1 z26), (0, vr 0 0), (1, vi p), (2, vi d), (3, vi x3), (4, vi x4), (5, vi u)] [] C f_q_tell_151_2 rfl ?_
                  refine m_loc [(8, vi (j + 1)), (7, vr 1 z26), (0, vr 0 0), (1, vi p), (2, vi d), (3, vi x3), (4, vi x4), (5, vi u)] ⟨rfl, rfl, rfl, rfl, rfl, rfl, rfl, rfl, trivial⟩ ?_
                  exact ih102 (mu A3 51 (p.toNat * 10 + d.toNat) z58.toNat (x59 + x60)) (j + 1) t61 q62 (hDb.mu (f := 51) (k := (p.toNat * 10 + d.toNat)) (j := z58.toNat) (z := (x59 + x60)) (by simp [mdm])) (rOb.mu) (by rw [pw9.2.2.2]; exact rXb.add (by omega) hy9 (by omega)) (by show 0 ≤ (j + 1) ∧ (j + 1) ≤ A23 1 z26 2; omega) (by show (400 - (j + 1)) < _; omega)
          refine m_loc [(8, vi 0), (7, vr 1 z26), (0, vr 0 0), (1, vi p), (2, vi d), (3, vi x3), (4, vi x4), (5, vi u)] ⟨rfl, rfl, rfl, rfl, rfl, rfl, rfl, rfl, trivial⟩ ?_
          exact hd_102 (Int.toNat ((400 - 0)) + 1) A2 0 hTa hEa hDa rOa (by rw [show SJ 0 = 0 from by rw [hSJ]; rfl]; exact rXa.all (by omega)) (by show 0 ≤ 0 ∧ 0 ≤ A23 1 z26 2; omega) (by show (400 - 0) < _; omega)
        · refine m_blk 82 [(8, vi j), (7, vr 1 z26), (0, vr 0 0), (1, vi p), (2, vi d), (3, vi x3), (4, vi x4), (5, vi u)] [vr 0 0] C f_q_tell_81_1 rfl ?_
          refine m_getr C e_q_tell_82 fg_Mo_73 rfl (by decide) rfl ?_
          refine m_blk 86 [(8, vi j), (7, vr 1 z26), (0, vr 0 0), (1, vi p), (2, vi d), (3, vi x3), (4, vi x4), (5, vi u)] [vi p, vr 30 0] C f_q_tell_85_1 rfl ?_
          refine m_aald C p.toNat e_q_tell_86 rfl rfl rfl (by decide) (by decide) (by omega) (by show p < ((6 : Nat) : Int); omega) (mz _ _) ?_
          refine m_blk 88 [(8, vi j), (7, vr 1 z26), (0, vr 0 0), (1, vi p), (2, vi d), (3, vi x3), (4, vi x4), (5, vi u)] [vi d, vr 50 p.toNat] C f_q_tell_87_1 rfl ?_
          refine m_aald C (p.toNat * 10 + d.toNat) e_q_tell_88 rfl rfl rfl (by omega) (by decide) (by omega) (by show d < ((10 : Nat) : Int); omega) rfl ?_
          refine m_blk 92 [(8, vi j), (7, vr 1 z26), (0, vr 0 0), (1, vi p), (2, vi d), (3, vi x3), (4, vi x4), (5, vi u)] [vl 0, vi j, vr 51 (p.toNat * 10 + d.toNat)] C f_q_tell_89_2 rfl ?_
          refine m_last C e_q_tell_92 rfl (by omega) (by decide) (by omega) (by show j < ((10 : Nat) : Int); omega) ?_
          have t63 : mTy (mu A2 51 (p.toNat * 10 + d.toNat) j.toNat 0) := hTa.mu (by show (-9223372036854775808) ≤ 0 ∧ 0 ≤ 9223372036854775807; omega)
          have q64 := hEa.mu (f := 51) (k := (p.toNat * 10 + d.toNat)) (j := j.toNat) (z := 0) (by simp [rm])
          refine m_blk 74 [(8, vi (j + 1)), (7, vr 1 z26), (0, vr 0 0), (1, vi p), (2, vi d), (3, vi x3), (4, vi x4), (5, vi u)] [] C f_q_tell_93_2 rfl ?_
          refine m_loc [(8, vi (j + 1)), (7, vr 1 z26), (0, vr 0 0), (1, vi p), (2, vi d), (3, vi x3), (4, vi x4), (5, vi u)] ⟨rfl, rfl, rfl, rfl, rfl, rfl, rfl, rfl, trivial⟩ ?_
          exact ih74 (mu A2 51 (p.toNat * 10 + d.toNat) j.toNat 0) (j + 1) t63 q64 (hDa.mu (f := 51) (k := (p.toNat * 10 + d.toNat)) (j := j.toNat) (z := 0) (by simp [mdm])) (rOa.mu) rXa.mu (by show 0 ≤ (j + 1) ∧ (j + 1) ≤ 10; omega) (by show (400 - (j + 1)) < _; omega)
    refine m_loc [(8, vi 0), (7, vr 1 z26), (0, vr 0 0), (1, vi p), (2, vi d), (3, vi x3), (4, vi x4), (5, vi u)] ⟨rfl, rfl, rfl, rfl, rfl, rfl, rfl, rfl, trivial⟩ ?_
    exact hd_74 (Int.toNat ((400 - 0)) + 1) A23 0 hT_n25 hF_n25 mEq.rfl' rO9 rZ.none (by show 0 ≤ 0 ∧ 0 ≤ 10; omega) (by show (400 - 0) < _; omega)
  · exact m_vret C Rm E e_q_tell_11 ⟨rfl, hT, hE0, (by show A 0 0 33 = u; omega), hS⟩

theorem f_q_run_0_1 : mblkB b_Mo_run [(0, .aload_n 0, vi 0)] = true := by decide +kernel
theorem e_q_run_1 : decode b_Mo_run 1 = .ok (.invokevirtual 275, 3) := by decide +kernel
theorem f_q_run_4_2 : mblkB b_Mo_run [(4, .astore 4, vi 0), (6, .aload_n 0, vi 0)] = true := by decide +kernel
theorem e_q_run_7 : decode b_Mo_run 7 = .ok (.getfield 27, 3) := by decide +kernel
theorem f_q_run_10_1 : mblkB b_Mo_run [(10, .iload_n 1, vi 0)] = true := by decide +kernel
theorem e_q_run_11 : decode b_Mo_run 11 = .ok (.aaload, 1) := by decide +kernel
theorem f_q_run_12_1 : mblkB b_Mo_run [(12, .iload_n 2, vi 0)] = true := by decide +kernel
theorem e_q_run_13 : decode b_Mo_run 13 = .ok (.iaload, 1) := by decide +kernel
theorem f_q_run_14_3 : mblkB b_Mo_run [(14, .istore 5, vi 0), (16, .iconst 0, vi 0), (17, .istore 6, vi 0)] = true := by decide +kernel
theorem f_q_run_19_2 : mblkB b_Mo_run [(19, .iload 6, vi 0), (21, .aload_n 3, vi 0)] = true := by decide +kernel
theorem e_q_run_22 : decode b_Mo_run 22 = .ok (.getfield 272, 3) := by decide +kernel
theorem e_q_run_25 : decode b_Mo_run 25 = .ok (.if_icmp .ge 125, 3) := by decide +kernel
theorem f_q_run_150_1 : mblkB b_Mo_run [(150, .aload 4, vi 0)] = true := by decide +kernel
theorem e_q_run_152 : decode b_Mo_run 152 = .ok (.areturn, 1) := by decide +kernel
theorem f_q_run_28_3 : mblkB b_Mo_run [(28, .aload_n 0, vi 0), (29, .iload_n 1, vi 0), (30, .aload_n 0, vi 0)] = true := by decide +kernel
theorem e_q_run_31 : decode b_Mo_run 31 = .ok (.getfield 36, 3) := by decide +kernel
theorem f_q_run_34_1 : mblkB b_Mo_run [(34, .iload_n 1, vi 0)] = true := by decide +kernel
theorem e_q_run_35 : decode b_Mo_run 35 = .ok (.aaload, 1) := by decide +kernel
theorem f_q_run_36_1 : mblkB b_Mo_run [(36, .iload_n 2, vi 0)] = true := by decide +kernel
theorem e_q_run_37 : decode b_Mo_run 37 = .ok (.iaload, 1) := by decide +kernel
theorem f_q_run_38_1 : mblkB b_Mo_run [(38, .aload_n 3, vi 0)] = true := by decide +kernel
theorem e_q_run_39 : decode b_Mo_run 39 = .ok (.getfield 279, 3) := by decide +kernel
theorem f_q_run_42_1 : mblkB b_Mo_run [(42, .iload 6, vi 0)] = true := by decide +kernel
theorem e_q_run_44 : decode b_Mo_run 44 = .ok (.iaload, 1) := by decide +kernel
theorem e_q_run_45 : decode b_Mo_run 45 = .ok (.invokevirtual 263, 3) := by decide +kernel
theorem e_q_run_48 : decode b_Mo_run 48 = .ok (.invokestatic 333, 3) := by decide +kernel
theorem f_q_run_51_4 : mblkB b_Mo_run [(51, .istore 7, vi 0), (53, .aload_n 0, vi 0), (54, .iload 5, vi 0), (56, .iload 7, vi 0)] = true := by decide +kernel
theorem e_q_run_58 : decode b_Mo_run 58 = .ok (.invokevirtual 347, 3) := by decide +kernel
theorem f_q_run_61_2 : mblkB b_Mo_run [(61, .aload_n 0, vi 0), (62, .dup, vi 0)] = true := by decide +kernel
theorem e_q_run_63 : decode b_Mo_run 63 = .ok (.getfield 297, 3) := by decide +kernel
theorem f_q_run_66_1 : mblkB b_Mo_run [(66, .aload_n 0, vi 0)] = true := by decide +kernel
theorem e_q_run_67 : decode b_Mo_run 67 = .ok (.getfield 68, 3) := by decide +kernel
theorem f_q_run_70_1 : mblkB b_Mo_run [(70, .iload 5, vi 0)] = true := by decide +kernel
theorem e_q_run_72 : decode b_Mo_run 72 = .ok (.aaload, 1) := by decide +kernel
theorem f_q_run_73_1 : mblkB b_Mo_run [(73, .iload 7, vi 0)] = true := by decide +kernel
theorem e_q_run_75 : decode b_Mo_run 75 = .ok (.baload, 1) := by decide +kernel
theorem f_q_run_76_1 : mblkB b_Mo_run [(76, .ior, vi 0)] = true := by decide +kernel
theorem e_q_run_77 : decode b_Mo_run 77 = .ok (.putfield 297, 3) := by decide +kernel
theorem f_q_run_80_2 : mblkB b_Mo_run [(80, .iconst 0, vi 0), (81, .istore 8, vi 0)] = true := by decide +kernel
theorem f_q_run_83_2 : mblkB b_Mo_run [(83, .iload 8, vi 0), (85, .bipush 10, vi 10)] = true := by decide +kernel
theorem e_q_run_87 : decode b_Mo_run 87 = .ok (.if_icmp .ge 57, 3) := by decide +kernel
theorem f_q_run_144_2 : mblkB b_Mo_run [(144, .iinc 6 1, vi 1), (147, .goto (-128), vi 19)] = true := by decide +kernel
theorem f_q_run_90_2 : mblkB b_Mo_run [(90, .aload 4, vi 0), (92, .aload_n 3, vi 0)] = true := by decide +kernel
theorem e_q_run_93 : decode b_Mo_run 93 = .ok (.getfield 279, 3) := by decide +kernel
theorem f_q_run_96_1 : mblkB b_Mo_run [(96, .iload 6, vi 0)] = true := by decide +kernel
theorem e_q_run_98 : decode b_Mo_run 98 = .ok (.iaload, 1) := by decide +kernel
theorem f_q_run_99_1 : mblkB b_Mo_run [(99, .aload_n 0, vi 0)] = true := by decide +kernel
theorem e_q_run_100 : decode b_Mo_run 100 = .ok (.getfield 24, 3) := by decide +kernel
theorem f_q_run_103_1 : mblkB b_Mo_run [(103, .iload_n 1, vi 0)] = true := by decide +kernel
theorem e_q_run_104 : decode b_Mo_run 104 = .ok (.aaload, 1) := by decide +kernel
theorem f_q_run_105_1 : mblkB b_Mo_run [(105, .iload_n 2, vi 0)] = true := by decide +kernel
theorem e_q_run_106 : decode b_Mo_run 106 = .ok (.iaload, 1) := by decide +kernel
theorem f_q_run_107_1 : mblkB b_Mo_run [(107, .iload 8, vi 0)] = true := by decide +kernel
theorem e_q_run_109 : decode b_Mo_run 109 = .ok (.invokestatic 282, 3) := by decide +kernel
theorem f_q_run_112_1 : mblkB b_Mo_run [(112, .aload_n 3, vi 0)] = true := by decide +kernel
theorem e_q_run_113 : decode b_Mo_run 113 = .ok (.getfield 285, 3) := by decide +kernel
theorem f_q_run_116_1 : mblkB b_Mo_run [(116, .iload 6, vi 0)] = true := by decide +kernel
theorem e_q_run_118 : decode b_Mo_run 118 = .ok (.laload, 1) := by decide +kernel
theorem f_q_run_119_1 : mblkB b_Mo_run [(119, .aload_n 0, vi 0)] = true := by decide +kernel
theorem e_q_run_120 : decode b_Mo_run 120 = .ok (.getfield 73, 3) := by decide +kernel
theorem f_q_run_123_1 : mblkB b_Mo_run [(123, .iload 5, vi 0)] = true := by decide +kernel
theorem e_q_run_125 : decode b_Mo_run 125 = .ok (.aaload, 1) := by decide +kernel
theorem f_q_run_126_1 : mblkB b_Mo_run [(126, .iload 7, vi 0)] = true := by decide +kernel
theorem e_q_run_128 : decode b_Mo_run 128 = .ok (.aaload, 1) := by decide +kernel
theorem f_q_run_129_1 : mblkB b_Mo_run [(129, .iload 8, vi 0)] = true := by decide +kernel
theorem e_q_run_131 : decode b_Mo_run 131 = .ok (.laload, 1) := by decide +kernel
theorem e_q_run_132 : decode b_Mo_run 132 = .ok (.invokestatic 350, 3) := by decide +kernel
theorem e_q_run_135 : decode b_Mo_run 135 = .ok (.invokevirtual 289, 3) := by decide +kernel
theorem f_q_run_138_2 : mblkB b_Mo_run [(138, .iinc 8 1, vi 1), (141, .goto (-58), vi 83)] = true := by decide +kernel
set_option maxHeartbeats 40000000 in
set_option maxRecDepth 100000 in
theorem q_run (n : Nat) (hq9 : S_make n) : S_run n := by
  intro l D B H0 ad A hT u T N M Ln dep p i ki hp hK ha hi hu hk hO hT9 hS hkd
  refine m_met (by decide) rfl (fun g w0 C Rm Y E => ?_)
  have hE0 : mEq (rm u.toNat) A A := mEq.rfl'
  show JM g D ad w0 A 0 [(0, vr 0 0), (1, vi p), (2, vi i), (3, vr 1 ki)] []
  have hr9 := hK.rng
  have hs9 := hK.at (i := i) (by omega) (by omega)
  have f9 := hs9.k5 (by omega)
  have ht9 := hs9.tp
  have ht0 := hs9.t0 (by omega)
  have hp9 := hs9.dp
  have rk9 : 0 ≤ A 1 ki 2 ∧ A 1 ki 2 ≤ 301 := hT 1 ki 2
  obtain ⟨SJ, hSJ⟩ : ∃ f : Int → Int, ∀ j, f j = ws (A 4 ki) 0 (Int.toNat j) := ⟨_, fun _ => rfl⟩
  have t19 := (hO.tot rk9.1).2
  refine m_blk 1 [(0, vr 0 0), (1, vi p), (2, vi i), (3, vr 1 ki)] [vr 0 0] C f_q_run_0_1 rfl ?_
  refine m_callV C Rm Y [] [] (q_taken l D B H0 ad _ hT u (by show A 0 0 33 = u ∧ 0 ≤ u ∧ u ≤ 199; omega)) cl_Mo_275 rfl (by decide) rfl rfl e_q_run_1 rfl rfl rfl ⟨by show _ ≤ (202 + 6 * n : Nat); omega, by show _ ≤ (5560 + 150 * n : Nat); omega⟩ ?_
  rintro v1 A2 ⟨z5, rfl, hT_n4, hE_n4, raw_hz_n4, raw_hu_n4, raw_hm_n4⟩
  have hF_n4 := hE0.trans (hE_n4.sub (tk_rm (by omega)))
  have hz_n4 : (z5 : Int) = u := raw_hz_n4
  clear raw_hz_n4
  have hu_n4 : A2 0 0 33 = u + 1 := raw_hu_n4
  clear raw_hu_n4
  have hm_n4 : A2 1 z5 2 = 0 := raw_hm_n4
  clear raw_hm_n4
  show JM g D ad w0 A2 4 [(0, vr 0 0), (1, vi p), (2, vi i), (3, vr 1 ki)] [vr 1 z5]
  have ms_n4 : mS A2 := hS.tkk hE_n4
  have ku_n4 : A2 0 0 33 = u + 1 := hu_n4
  have e36 : A2 36 p.toNat i.toNat = A 36 p.toNat i.toNat := hF_n4 36 p.toNat i.toNat (rm_far (by decide) (by decide) _)
  refine m_blk 7 [(4, vr 1 z5), (0, vr 0 0), (1, vi p), (2, vi i), (3, vr 1 ki)] [vr 0 0] C f_q_run_4_2 rfl ?_
  refine m_getr C e_q_run_7 fg_Mo_27 rfl (by decide) rfl ?_
  refine m_blk 11 [(4, vr 1 z5), (0, vr 0 0), (1, vi p), (2, vi i), (3, vr 1 ki)] [vi p, vr 16 0] C f_q_run_10_1 rfl ?_
  refine m_aald C p.toNat e_q_run_11 rfl rfl rfl (by decide) (by decide) (by omega) (by show p < ((6 : Nat) : Int); omega) (mz _ _) ?_
  refine m_blk 13 [(4, vr 1 z5), (0, vr 0 0), (1, vi p), (2, vi i), (3, vr 1 ki)] [vi i, vr 36 p.toNat] C f_q_run_12_1 rfl ?_
  obtain ⟨x6, hx6⟩ : ∃ x, A2 36 p.toNat i.toNat = x := ⟨_, rfl⟩
  have rx6 : (-1) ≤ x6 ∧ x6 ≤ 9 := mrg hT_n4 hx6 rfl
  refine m_iald C e_q_run_13 rfl (by omega) (by decide) (by omega) (by show i < ((16 : Nat) : Int); omega) x6 hx6 ?_
  refine m_blk 19 [(6, vi 0), (5, vi x6), (4, vr 1 z5), (0, vr 0 0), (1, vi p), (2, vi i), (3, vr 1 ki)] [] C f_q_run_14_3 rfl ?_
  have hd_19 : ∀ (NZ : Nat) (A2 : mA) (j : Int), mTy A2 → mEq (rm u.toNat) A A2 → oG A2 z5 (SJ j) → 0 ≤ j ∧ j ≤ A 1 ki 2 → A2 0 0 33 = u + 1 → mS A2 → (400 - j) < (NZ : Int) → JM g D ad w0 A2 19 [(6, vi j), (5, vi x6), (4, vr 1 z5), (0, vr 0 0), (1, vi p), (2, vi i), (3, vr 1 ki)] [] := by
    intro NZ
    induction NZ with
    | zero => intro A2 j hT2 hE2 hO2 hj hu2 hS2 hm19; exact absurd hm19 (by omega)
    | succ NZ ih19 =>
      intro A2 j hT2 hE2 hO2 hj hu2 hS2 hm19
      have w9 : A2 1 ki 2 = A 1 ki 2 := hE2 1 ki 2 (rm_lo (by omega) (Or.inl rfl) 2)
      have K2 := hK.rmk hE2
      have hs2 := K2.at (i := i) (by omega) (by omega)
      have ht2 := hs2.tp
      have e39 : A2 39 p.toNat i.toNat = A 39 p.toNat i.toNat := hE2 39 p.toNat i.toNat (rm_far (by decide) (by decide) _)
      refine m_blk 22 [(6, vi j), (5, vi x6), (4, vr 1 z5), (0, vr 0 0), (1, vi p), (2, vi i), (3, vr 1 ki)] [vr 1 ki, vi j] C f_q_run_19_2 rfl ?_
      obtain ⟨x7, hx7⟩ : ∃ x, A2 1 ki 2 = x := ⟨_, rfl⟩
      have rx7 : 0 ≤ x7 ∧ x7 ≤ 301 := mrg hT2 hx7 rfl
      refine m_getiN C e_q_run_22 fg_Mo_272 rfl (by omega) rfl x7 hx7 ?_
      refine m_icmp_ge (tgt := 150) C e_q_run_25 (by decide) (by omega) (by omega) (fun c8 => ?_) (fun c8 => ?_)
      · refine m_blk 152 [(6, vi j), (5, vi x6), (4, vr 1 z5), (0, vr 0 0), (1, vi p), (2, vi i), (3, vr 1 ki)] [vr 1 z5] C f_q_run_150_1 rfl ?_
        exact m_aret C Rm E e_q_run_152 ⟨z5, rfl, hT2, hE2, (by show u ≤ (z5 : Int) ∧ (z5 : Int) < A2 0 0 33; omega), (by show u + 1 ≤ A2 0 0 33 ∧ A2 0 0 33 ≤ u + 1 + 4 * (5 - dep i.toNat); omega), (hO2.le (by have e9 : j = A 1 ki 2 := (by omega); rw [hSJ, e9]; exact t19)), hS2⟩
      · refine m_blk 31 [(6, vi j), (5, vi x6), (4, vr 1 z5), (0, vr 0 0), (1, vi p), (2, vi i), (3, vr 1 ki)] [vr 0 0, vi p, vr 0 0] C f_q_run_28_3 rfl ?_
        refine m_getr C e_q_run_31 fg_Mo_36 rfl (by decide) rfl ?_
        refine m_blk 35 [(6, vi j), (5, vi x6), (4, vr 1 z5), (0, vr 0 0), (1, vi p), (2, vi i), (3, vr 1 ki)] [vi p, vr 19 0, vi p, vr 0 0] C f_q_run_34_1 rfl ?_
        refine m_aald C p.toNat e_q_run_35 rfl rfl rfl (by decide) (by decide) (by omega) (by show p < ((6 : Nat) : Int); omega) (mz _ _) ?_
        refine m_blk 37 [(6, vi j), (5, vi x6), (4, vr 1 z5), (0, vr 0 0), (1, vi p), (2, vi i), (3, vr 1 ki)] [vi i, vr 39 p.toNat, vi p, vr 0 0] C f_q_run_36_1 rfl ?_
        obtain ⟨x9, hx9⟩ : ∃ x, A2 39 p.toNat i.toNat = x := ⟨_, rfl⟩
        have rx9 : (-1) ≤ x9 ∧ x9 ≤ 119 := mrg hT2 hx9 rfl
        refine m_iald C e_q_run_37 rfl (by omega) (by decide) (by omega) (by show i < ((16 : Nat) : Int); omega) x9 hx9 ?_
        refine m_blk 39 [(6, vi j), (5, vi x6), (4, vr 1 z5), (0, vr 0 0), (1, vi p), (2, vi i), (3, vr 1 ki)] [vr 1 ki, vi x9, vi p, vr 0 0] C f_q_run_38_1 rfl ?_
        refine m_getrN C e_q_run_39 fg_Mo_279 rfl (by omega) rfl ?_
        refine m_blk 44 [(6, vi j), (5, vi x6), (4, vr 1 z5), (0, vr 0 0), (1, vi p), (2, vi i), (3, vr 1 ki)] [vi j, vr 3 ki, vi x9, vi p, vr 0 0] C f_q_run_42_1 rfl ?_
        obtain ⟨x10, hx10⟩ : ∃ x, A2 3 ki j.toNat = x := ⟨_, rfl⟩
        have rx10 : 0 ≤ x10 ∧ x10 ≤ 9999999 := mrg hT2 hx10 rfl
        refine m_iald C e_q_run_44 rfl (by omega) (by decide) (by omega) (by show j < ((301 : Nat) : Int); omega) x10 hx10 ?_
        refine m_callV C Rm Y [vi p, vi x9, vi x10] [] ((q_worth_ 120) l D B H0 ad _ hT2 M p x9 x10 K2.2.2.2.2 (by show 0 ≤ p ∧ p ≤ 5 ∧ M ≤ 120; omega) (by show 0 ≤ x9 ∧ x9 < M ∧ x9 < ((120 : Nat) : Int); omega) (by show 0 ≤ x10 ∧ x10 ≤ 9999999; omega)) cl_Mo_263 rfl (by decide) rfl rfl e_q_run_45 rfl rfl rfl ⟨by show _ ≤ (202 + 6 * n : Nat); omega, by show _ ≤ (5560 + 150 * n : Nat); omega⟩ ?_
        rintro v11 A12 ⟨z15, rfl, rfl, raw_hz_n14⟩
        have hz_n14 : -2147483648 ≤ z15 ∧ z15 ≤ 2147483647 := raw_hz_n14
        clear raw_hz_n14
        show JM g D ad w0 A2 48 [(6, vi j), (5, vi x6), (4, vr 1 z5), (0, vr 0 0), (1, vi p), (2, vi i), (3, vr 1 ki)] [vi z15]
        refine m_callS C Rm Y [vi z15] [] (q_digit l D B H0 ad _ z15 (by show -2147483648 ≤ z15 ∧ z15 ≤ 2147483647; omega)) cl_Mo_333 e_q_run_48 rfl rfl rfl ⟨by show _ ≤ (202 + 6 * n : Nat); omega, by show _ ≤ (5560 + 150 * n : Nat); omega⟩ ?_
        rintro v16 A17 ⟨z20, rfl, rfl, raw_hz_n19⟩
        have hz_n19 : z20 = z15 % 10 ∧ 0 ≤ z20 ∧ z20 ≤ 9 := raw_hz_n19
        clear raw_hz_n19
        show JM g D ad w0 A2 51 [(6, vi j), (5, vi x6), (4, vr 1 z5), (0, vr 0 0), (1, vi p), (2, vi i), (3, vr 1 ki)] [vi z20]
        refine m_blk 58 [(7, vi z20), (6, vi j), (5, vi x6), (4, vr 1 z5), (0, vr 0 0), (1, vi p), (2, vi i), (3, vr 1 ki)] [vi z20, vi x6, vr 0 0] C f_q_run_51_4 rfl ?_
        refine m_callV C Rm Y [vi x6, vi z20] [] ((q_tell n hq9) l D B H0 ad _ hT2 (u + 1) x6 z20 (by show 0 ≤ x6 ∧ x6 ≤ 5; omega) ((ha.rmk hE2).le (by omega)) (by show 0 ≤ z20 ∧ z20 ≤ 9 ∧ 20 * x6 + 17 ≤ (n : Int); omega) (by show A2 0 0 33 = (u + 1) ∧ 0 ≤ (u + 1) ∧ (u + 1) + (19 * x6 + 24) ≤ 200; omega) hS2) cl_Mo_347 rfl (by decide) rfl rfl e_q_run_58 rfl rfl rfl ⟨by show _ ≤ (202 + 6 * n : Nat); omega, by show _ ≤ (5560 + 150 * n : Nat); omega⟩ ?_
        rintro v21 A22 ⟨rfl, hT_n24, hE_n24, raw_hu_n24, raw_hS_n24⟩
        have hF_n24 := hE2.trans (hE_n24.sub (rm_rm (by omega)))
        have hu_n24 : A22 0 0 33 = (u + 1) := raw_hu_n24
        clear raw_hu_n24
        have hS_n24 : mS A22 := raw_hS_n24
        clear raw_hS_n24
        show JM g D ad w0 A22 61 [(7, vi z20), (6, vi j), (5, vi x6), (4, vr 1 z5), (0, vr 0 0), (1, vi p), (2, vi i), (3, vr 1 ki)] []
        have lv25 : oG A22 z5 (SJ j) := hO2.rmk hE_n24 (by omega)
        have ku_n24 : A22 0 0 33 = u + 1 := hu_n24
        have hR9 := hS_n24.row (x6.toNat * 10 + z20.toNat)
        obtain ⟨RW, hRW⟩ : ∃ f, A22 51 (x6.toNat * 10 + z20.toNat) = f := ⟨_, rfl⟩
        rw [hRW] at hR9
        have pw9 : 0 ≤ SJ j ∧ 1 ≤ A 4 ki (Int.toNat j) ∧ SJ j + A 4 ki (Int.toNat j) ≤ T ∧ SJ (j + 1) = SJ j + A 4 ki (Int.toNat j) := by rw [hSJ, hSJ]; exact hO.part (j := j) (by omega) (by omega)
        obtain ⟨wj, hwj⟩ : ∃ x, A 4 ki (Int.toNat j) = x := ⟨_, rfl⟩
        rw [hwj] at pw9
        refine m_blk 63 [(7, vi z20), (6, vi j), (5, vi x6), (4, vr 1 z5), (0, vr 0 0), (1, vi p), (2, vi i), (3, vr 1 ki)] [vr 0 0, vr 0 0] C f_q_run_61_2 rfl ?_
        obtain ⟨x26, hx26⟩ : ∃ x, A22 0 0 34 = x := ⟨_, rfl⟩
        have rx26 : 0 ≤ x26 ∧ x26 ≤ 1 := mrg hT_n24 hx26 rfl
        refine m_geti C e_q_run_63 fg_Mo_297 rfl (by decide) rfl x26 hx26 ?_
        refine m_blk 67 [(7, vi z20), (6, vi j), (5, vi x6), (4, vr 1 z5), (0, vr 0 0), (1, vi p), (2, vi i), (3, vr 1 ki)] [vr 0 0, vi x26, vr 0 0] C f_q_run_66_1 rfl ?_
        refine m_getr C e_q_run_67 fg_Mo_68 rfl (by decide) rfl ?_
        refine m_blk 72 [(7, vi z20), (6, vi j), (5, vi x6), (4, vr 1 z5), (0, vr 0 0), (1, vi p), (2, vi i), (3, vr 1 ki)] [vi x6, vr 28 0, vi x26, vr 0 0] C f_q_run_70_1 rfl ?_
        refine m_aald C x6.toNat e_q_run_72 rfl rfl rfl (by decide) (by decide) (by omega) (by show x6 < ((6 : Nat) : Int); omega) (mz _ _) ?_
        refine m_blk 75 [(7, vi z20), (6, vi j), (5, vi x6), (4, vr 1 z5), (0, vr 0 0), (1, vi p), (2, vi i), (3, vr 1 ki)] [vi z20, vr 48 x6.toNat, vi x26, vr 0 0] C f_q_run_73_1 rfl ?_
        obtain ⟨x27, hx27⟩ : ∃ x, A22 48 x6.toNat z20.toNat = x := ⟨_, rfl⟩
        have rx27 : 0 ≤ x27 ∧ x27 ≤ 1 := mrg hT_n24 hx27 rfl
        refine m_zald C e_q_run_75 rfl (by omega) (by decide) (by omega) (by show z20 < ((10 : Nat) : Int); omega) x27 hx27 ?_
        refine m_blk 77 [(7, vi z20), (6, vi j), (5, vi x6), (4, vr 1 z5), (0, vr 0 0), (1, vi p), (2, vi i), (3, vr 1 ki)] [vi (iOr x26 x27), vr 0 0] C f_q_run_76_1 rfl ?_
        have or9 := iOr01 (x := x26) (y := x27) (by omega) (by omega)
        refine m_putz C e_q_run_77 fp_Mo_297 rfl (by decide) rfl (by omega) ?_
        have t28 : mTy (mu A22 0 0 34 (iOr x26 x27)) := hT_n24.mu (by show 0 ≤ (iOr x26 x27) ∧ (iOr x26 x27) ≤ 1; omega)
        have q29 := hF_n24.mu (f := 0) (k := 0) (j := 34) (z := (iOr x26 x27)) (by simp [rm])
        refine m_blk 83 [(8, vi 0), (7, vi z20), (6, vi j), (5, vi x6), (4, vr 1 z5), (0, vr 0 0), (1, vi p), (2, vi i), (3, vr 1 ki)] [] C f_q_run_80_2 rfl ?_
        have hd_83 : ∀ (NZ : Nat) (A3 : mA) (v : Int) (s : Int), mTy A3 → mEq (rm u.toNat) A A3 → oG A3 z5 (SJ j + s) → 0 ≤ v ∧ v ≤ 10 → 0 ≤ s ∧ s * 1125899906842624 ≤ wj * ws RW 0 v.toNat → A3 0 0 33 = u + 1 → mS A3 → A3 51 (x6.toNat * 10 + z20.toNat) = RW → (40 - v) < (NZ : Int) → JM g D ad w0 A3 83 [(8, vi v), (7, vi z20), (6, vi j), (5, vi x6), (4, vr 1 z5), (0, vr 0 0), (1, vi p), (2, vi i), (3, vr 1 ki)] [] := by
          intro NZ
          induction NZ with
          | zero => intro A3 v s hT3 hE3 hO3 hv3 hs3 hu3 hS3 hR3 hm83; exact absurd hm83 (by omega)
          | succ NZ ih83 =>
            intro A3 v s hT3 hE3 hO3 hv3 hs3 hu3 hS3 hR3 hm83
            have e43 : A3 4 ki (Int.toNat j) = wj := (hE3 4 ki (Int.toNat j) (rm_lo (by omega) (Or.inr (Or.inr rfl)) _)).trans hwj
            refine m_blk 87 [(8, vi v), (7, vi z20), (6, vi j), (5, vi x6), (4, vr 1 z5), (0, vr 0 0), (1, vi p), (2, vi i), (3, vr 1 ki)] [vi 10, vi v] C f_q_run_83_2 rfl ?_
            refine m_icmp_ge (tgt := 144) C e_q_run_87 (by decide) (by omega) (by decide) (fun c30 => ?_) (fun c30 => ?_)
            · refine m_blk 19 [(6, vi (j + 1)), (8, vi v), (7, vi z20), (5, vi x6), (4, vr 1 z5), (0, vr 0 0), (1, vi p), (2, vi i), (3, vr 1 ki)] [] C f_q_run_144_2 rfl ?_
              refine m_loc [(6, vi (j + 1)), (5, vi x6), (4, vr 1 z5), (0, vr 0 0), (1, vi p), (2, vi i), (3, vr 1 ki)] ⟨rfl, rfl, rfl, rfl, rfl, rfl, rfl, trivial⟩ ?_
              exact ih19 A3 (j + 1) hT3 hE3 (hO3.le (by rw [pw9.2.2.2]; have h9 := ru_le hs3.2 (hR9.2 v (by omega) (by omega)).2 (by omega); omega)) (by show 0 ≤ (j + 1) ∧ (j + 1) ≤ A 1 ki 2; omega) (by show A3 0 0 33 = u + 1; omega) hS3 (by show (400 - (j + 1)) < _; omega)
            · refine m_blk 93 [(8, vi v), (7, vi z20), (6, vi j), (5, vi x6), (4, vr 1 z5), (0, vr 0 0), (1, vi p), (2, vi i), (3, vr 1 ki)] [vr 1 ki, vr 1 z5] C f_q_run_90_2 rfl ?_
              refine m_getrN C e_q_run_93 fg_Mo_279 rfl (by omega) rfl ?_
              refine m_blk 98 [(8, vi v), (7, vi z20), (6, vi j), (5, vi x6), (4, vr 1 z5), (0, vr 0 0), (1, vi p), (2, vi i), (3, vr 1 ki)] [vi j, vr 3 ki, vr 1 z5] C f_q_run_96_1 rfl ?_
              obtain ⟨x31, hx31⟩ : ∃ x, A3 3 ki j.toNat = x := ⟨_, rfl⟩
              have rx31 : 0 ≤ x31 ∧ x31 ≤ 9999999 := mrg hT3 hx31 rfl
              refine m_iald C e_q_run_98 rfl (by omega) (by decide) (by omega) (by show j < ((301 : Nat) : Int); omega) x31 hx31 ?_
              refine m_blk 100 [(8, vi v), (7, vi z20), (6, vi j), (5, vi x6), (4, vr 1 z5), (0, vr 0 0), (1, vi p), (2, vi i), (3, vr 1 ki)] [vr 0 0, vi x31, vr 1 z5] C f_q_run_99_1 rfl ?_
              refine m_getr C e_q_run_100 fg_Mo_24 rfl (by decide) rfl ?_
              refine m_blk 104 [(8, vi v), (7, vi z20), (6, vi j), (5, vi x6), (4, vr 1 z5), (0, vr 0 0), (1, vi p), (2, vi i), (3, vr 1 ki)] [vi p, vr 15 0, vi x31, vr 1 z5] C f_q_run_103_1 rfl ?_
              refine m_aald C p.toNat e_q_run_104 rfl rfl rfl (by decide) (by decide) (by omega) (by show p < ((6 : Nat) : Int); omega) (mz _ _) ?_
              refine m_blk 106 [(8, vi v), (7, vi z20), (6, vi j), (5, vi x6), (4, vr 1 z5), (0, vr 0 0), (1, vi p), (2, vi i), (3, vr 1 ki)] [vi i, vr 35 p.toNat, vi x31, vr 1 z5] C f_q_run_105_1 rfl ?_
              obtain ⟨x32, hx32⟩ : ∃ x, A3 35 p.toNat i.toNat = x := ⟨_, rfl⟩
              have rx32 : (-1) ≤ x32 ∧ x32 ≤ 5 := mrg hT3 hx32 rfl
              refine m_iald C e_q_run_106 rfl (by omega) (by decide) (by omega) (by show i < ((16 : Nat) : Int); omega) x32 hx32 ?_
              refine m_blk 109 [(8, vi v), (7, vi z20), (6, vi j), (5, vi x6), (4, vr 1 z5), (0, vr 0 0), (1, vi p), (2, vi i), (3, vr 1 ki)] [vi v, vi x32, vi x31, vr 1 z5] C f_q_run_107_1 rfl ?_
              refine m_callS C Rm Y [vi x31, vi x32, vi v] [vr 1 z5] (q_with l D B H0 ad _ x31 x32 v (by show 0 ≤ x31 ∧ x31 ≤ 9999999; omega) (by show -1 ≤ x32 ∧ x32 ≤ 5; omega) (by show 0 ≤ v ∧ v ≤ 9; omega)) cl_Mo_282 e_q_run_109 rfl rfl rfl ⟨by show _ ≤ (202 + 6 * n : Nat); omega, by show _ ≤ (5560 + 150 * n : Nat); omega⟩ ?_
              rintro v33 A34 ⟨z37, rfl, rfl, raw_hz_n36⟩
              have hz_n36 : z37 = x31 + (v - dg x31 x32) * tnF x32 ∧ 0 ≤ z37 ∧ z37 ≤ 9999999 := raw_hz_n36
              clear raw_hz_n36
              show JM g D ad w0 A3 112 [(8, vi v), (7, vi z20), (6, vi j), (5, vi x6), (4, vr 1 z5), (0, vr 0 0), (1, vi p), (2, vi i), (3, vr 1 ki)] [vi z37, vr 1 z5]
              refine m_blk 113 [(8, vi v), (7, vi z20), (6, vi j), (5, vi x6), (4, vr 1 z5), (0, vr 0 0), (1, vi p), (2, vi i), (3, vr 1 ki)] [vr 1 ki, vi z37, vr 1 z5] C f_q_run_112_1 rfl ?_
              refine m_getrN C e_q_run_113 fg_Mo_285 rfl (by omega) rfl ?_
              refine m_blk 118 [(8, vi v), (7, vi z20), (6, vi j), (5, vi x6), (4, vr 1 z5), (0, vr 0 0), (1, vi p), (2, vi i), (3, vr 1 ki)] [vi j, vr 4 ki, vi z37, vr 1 z5] C f_q_run_116_1 rfl ?_
              obtain ⟨x38, hx38⟩ : ∃ x, A3 4 ki j.toNat = x := ⟨_, rfl⟩
              have rx38 : (-9223372036854775808) ≤ x38 ∧ x38 ≤ 9223372036854775807 := mrg hT3 hx38 rfl
              have ew9 : wj = x38 := e43.symm.trans hx38
              refine m_lald C e_q_run_118 rfl (by omega) (by decide) (by omega) (by show j < ((301 : Nat) : Int); omega) x38 hx38 ?_
              refine m_blk 120 [(8, vi v), (7, vi z20), (6, vi j), (5, vi x6), (4, vr 1 z5), (0, vr 0 0), (1, vi p), (2, vi i), (3, vr 1 ki)] [vr 0 0, vl x38, vi z37, vr 1 z5] C f_q_run_119_1 rfl ?_
              refine m_getr C e_q_run_120 fg_Mo_73 rfl (by decide) rfl ?_
              refine m_blk 125 [(8, vi v), (7, vi z20), (6, vi j), (5, vi x6), (4, vr 1 z5), (0, vr 0 0), (1, vi p), (2, vi i), (3, vr 1 ki)] [vi x6, vr 30 0, vl x38, vi z37, vr 1 z5] C f_q_run_123_1 rfl ?_
              refine m_aald C x6.toNat e_q_run_125 rfl rfl rfl (by decide) (by decide) (by omega) (by show x6 < ((6 : Nat) : Int); omega) (mz _ _) ?_
              refine m_blk 128 [(8, vi v), (7, vi z20), (6, vi j), (5, vi x6), (4, vr 1 z5), (0, vr 0 0), (1, vi p), (2, vi i), (3, vr 1 ki)] [vi z20, vr 50 x6.toNat, vl x38, vi z37, vr 1 z5] C f_q_run_126_1 rfl ?_
              refine m_aald C (x6.toNat * 10 + z20.toNat) e_q_run_128 rfl rfl rfl (by omega) (by decide) (by omega) (by show z20 < ((10 : Nat) : Int); omega) rfl ?_
              refine m_blk 131 [(8, vi v), (7, vi z20), (6, vi j), (5, vi x6), (4, vr 1 z5), (0, vr 0 0), (1, vi p), (2, vi i), (3, vr 1 ki)] [vi v, vr 51 (x6.toNat * 10 + z20.toNat), vl x38, vi z37, vr 1 z5] C f_q_run_129_1 rfl ?_
              obtain ⟨x39, hx39⟩ : ∃ x, A3 51 (x6.toNat * 10 + z20.toNat) v.toNat = x := ⟨_, rfl⟩
              have rx39 : (-9223372036854775808) ≤ x39 ∧ x39 ≤ 9223372036854775807 := mrg hT3 hx39 rfl
              have em9 : RW (Int.toNat v) = x39 := (congrFun hR3 (Int.toNat v)).symm.trans hx39
              have rr9 := hR9.1 v (by omega) (by omega)
              refine m_lald C e_q_run_131 rfl (by omega) (by decide) (by omega) (by show v < ((10 : Nat) : Int); omega) x39 hx39 ?_
              refine m_callS C Rm Y [vl x38, vl x39] [vi z37, vr 1 z5] (q_times l D B H0 ad _ x38 x39 (by show (0 ≤ x38 ∧ x38 ≤ 1125899906842624) ∧ 0 ≤ x39 ∧ x39 ≤ 1125899906842624; omega)) cl_Mo_350 e_q_run_132 rfl rfl rfl ⟨by show _ ≤ (202 + 6 * n : Nat); omega, by show _ ≤ (5560 + 150 * n : Nat); omega⟩ ?_
              rintro v40 A41 ⟨z44, rfl, rfl, raw_hz_n43⟩
              have hz_n43 : 0 ≤ z44 ∧ z44 * 1125899906842624 ≤ x38 * x39 := raw_hz_n43
              clear raw_hz_n43
              show JM g D ad w0 A3 135 [(8, vi v), (7, vi z20), (6, vi j), (5, vi x6), (4, vr 1 z5), (0, vr 0 0), (1, vi p), (2, vi i), (3, vr 1 ki)] [vl z44, vi z37, vr 1 z5]
              have tk9 : z44 * 1125899906842624 ≤ wj * RW (Int.toNat v) := by rw [em9, ew9]; exact hz_n43.2
              have tn9 := hz_n43.1
              have sl9 := ru_le (ru_ok hs3.2 tk9 rr9.2.2) (hR9.2 (v + 1) (by omega) (by omega)).2 (by omega)
              refine m_callV C Rm Y [vi z37, vl z44] [] (q_come l D B H0 ad _ hT3 z5 (SJ j + s) z37 z44 (by show z5 < 200; omega) hO3 (by show 0 ≤ z37 ∧ z37 ≤ 9999999; omega) (by show 0 ≤ z44 ∧ 0 ≤ (SJ j + s) ∧ (SJ j + s) + z44 ≤ 1125899906842624; omega)) cl_Mo_289 rfl (by omega) rfl rfl e_q_run_135 rfl rfl rfl ⟨by show _ ≤ (202 + 6 * n : Nat); omega, by show _ ≤ (5560 + 150 * n : Nat); omega⟩ ?_
              rintro v45 A46 ⟨rfl, hT_n48, hE_n48, raw_hO_n48⟩
              have hF_n48 := hE3.trans (hE_n48.sub (cm_rm (by omega)))
              have hO_n48 : oG A46 z5 ((SJ j + s) + z44) := raw_hO_n48
              clear raw_hO_n48
              show JM g D ad w0 A46 138 [(8, vi v), (7, vi z20), (6, vi j), (5, vi x6), (4, vr 1 z5), (0, vr 0 0), (1, vi p), (2, vi i), (3, vr 1 ki)] []
              have ms_n48 : mS A46 := hS3.cmk hE_n48
              have ku_n48 : A46 0 0 33 = u + 1 := (hE_n48 0 0 33 rfl).trans hu3
              refine m_blk 83 [(8, vi (v + 1)), (7, vi z20), (6, vi j), (5, vi x6), (4, vr 1 z5), (0, vr 0 0), (1, vi p), (2, vi i), (3, vr 1 ki)] [] C f_q_run_138_2 rfl ?_
              refine m_loc [(8, vi (v + 1)), (7, vi z20), (6, vi j), (5, vi x6), (4, vr 1 z5), (0, vr 0 0), (1, vi p), (2, vi i), (3, vr 1 ki)] ⟨rfl, rfl, rfl, rfl, rfl, rfl, rfl, rfl, rfl, trivial⟩ ?_
              exact ih83 A46 (v + 1) (s + z44) hT_n48 hF_n48 (hO_n48.le (by omega)) (by show 0 ≤ (v + 1) ∧ (v + 1) ≤ 10; omega) ⟨by omega, ru_ok hs3.2 tk9 (hR9.1 v (by omega) (by omega)).2.2⟩ (by show A46 0 0 33 = u + 1; omega) ms_n48 ((funext fun j9 => hE_n48 51 (x6.toNat * 10 + z20.toNat) j9 rfl).trans hR3) (by show (40 - (v + 1)) < _; omega)
        refine m_loc [(8, vi 0), (7, vi z20), (6, vi j), (5, vi x6), (4, vr 1 z5), (0, vr 0 0), (1, vi p), (2, vi i), (3, vr 1 ki)] ⟨rfl, rfl, rfl, rfl, rfl, rfl, rfl, rfl, rfl, trivial⟩ ?_
        exact hd_83 (Int.toNat ((40 - 0)) + 1) (mu A22 0 0 34 (iOr x26 x27)) 0 0 t28 q29 ((lv25.muf (by decide) (by decide)).le (by omega)) (by show 0 ≤ 0 ∧ 0 ≤ 10; omega) ⟨Int.le_refl _, by rw [Int.zero_mul]; exact Int.mul_nonneg (by omega) (hR9.2 0 (by omega) (by omega)).1⟩ (by show A22 0 0 33 = u + 1; omega) (hS_n24.muf (by decide)) ((mu_fk _ _ _ (fun q => absurd q.1 (by decide))).trans hRW) (by show (40 - 0) < _; omega)
  refine m_loc [(6, vi 0), (5, vi x6), (4, vr 1 z5), (0, vr 0 0), (1, vi p), (2, vi i), (3, vr 1 ki)] ⟨rfl, rfl, rfl, rfl, rfl, rfl, rfl, trivial⟩ ?_
  exact hd_19 (Int.toNat ((400 - 0)) + 1) A2 0 hT_n4 hF_n4 (by rw [show SJ 0 = 0 from by rw [hSJ]; rfl]; exact oG.nil hm_n4) (by show 0 ≤ 0 ∧ 0 ≤ A 1 ki 2; omega) (by show A2 0 0 33 = u + 1; omega) ms_n4 (by show (400 - 0) < _; omega)

theorem f_q_makeStep_0_1 : mblkB b_Mo_makeStep [(0, .aload_n 0, vi 0)] = true := by decide +kernel
theorem e_q_makeStep_1 : decode b_Mo_makeStep 1 = .ok (.getfield 21, 3) := by decide +kernel
theorem f_q_makeStep_4_1 : mblkB b_Mo_makeStep [(4, .iload_n 1, vi 0)] = true := by decide +kernel
theorem e_q_makeStep_5 : decode b_Mo_makeStep 5 = .ok (.aaload, 1) := by decide +kernel
theorem f_q_makeStep_6_1 : mblkB b_Mo_makeStep [(6, .iload_n 2, vi 0)] = true := by decide +kernel
theorem e_q_makeStep_7 : decode b_Mo_makeStep 7 = .ok (.iaload, 1) := by decide +kernel
theorem e_q_makeStep_8 : decode b_Mo_makeStep 8 = .ok (.tableswitch 81 0 4 #[36, 44, 52, 61, 71], 36) := by decide +kernel
theorem f_q_makeStep_44_4 : mblkB b_Mo_makeStep [(44, .aload_n 0, vi 0), (45, .iload_n 1, vi 0), (46, .iload_n 2, vi 0), (47, .aload_n 3, vi 0)] = true := by decide +kernel
theorem e_q_makeStep_48 : decode b_Mo_makeStep 48 = .ok (.invokevirtual 317, 3) := by decide +kernel
theorem e_q_makeStep_51 : decode b_Mo_makeStep 51 = .ok (.areturn, 1) := by decide +kernel
theorem f_q_makeStep_52_4 : mblkB b_Mo_makeStep [(52, .aload_n 0, vi 0), (53, .iload_n 1, vi 0), (54, .iload_n 2, vi 0), (55, .aload_n 3, vi 0)] = true := by decide +kernel
theorem e_q_makeStep_56 : decode b_Mo_makeStep 56 = .ok (.invokevirtual 320, 3) := by decide +kernel
theorem e_q_makeStep_59 : decode b_Mo_makeStep 59 = .ok (.areturn, 1) := by decide +kernel
theorem f_q_makeStep_60_5 : mblkB b_Mo_makeStep [(60, .aload_n 0, vi 0), (61, .iload_n 1, vi 0), (62, .iload_n 2, vi 0), (63, .aload_n 3, vi 0), (64, .iconst 1, vi 1)] = true := by decide +kernel
theorem e_q_makeStep_65 : decode b_Mo_makeStep 65 = .ok (.invokevirtual 322, 3) := by decide +kernel
theorem e_q_makeStep_68 : decode b_Mo_makeStep 68 = .ok (.areturn, 1) := by decide +kernel
theorem f_q_makeStep_69_5 : mblkB b_Mo_makeStep [(69, .aload_n 0, vi 0), (70, .iload_n 1, vi 0), (71, .iload_n 2, vi 0), (72, .aload_n 3, vi 0), (73, .iload 4, vi 0)] = true := by decide +kernel
theorem e_q_makeStep_75 : decode b_Mo_makeStep 75 = .ok (.invokevirtual 326, 3) := by decide +kernel
theorem e_q_makeStep_78 : decode b_Mo_makeStep 78 = .ok (.areturn, 1) := by decide +kernel
theorem f_q_makeStep_79_5 : mblkB b_Mo_makeStep [(79, .aload_n 0, vi 0), (80, .iload_n 1, vi 0), (81, .iload_n 2, vi 0), (82, .aload_n 3, vi 0), (83, .iload 4, vi 0)] = true := by decide +kernel
theorem e_q_makeStep_85 : decode b_Mo_makeStep 85 = .ok (.invokevirtual 329, 3) := by decide +kernel
theorem e_q_makeStep_88 : decode b_Mo_makeStep 88 = .ok (.areturn, 1) := by decide +kernel
theorem f_q_makeStep_89_4 : mblkB b_Mo_makeStep [(89, .aload_n 0, vi 0), (90, .iload_n 1, vi 0), (91, .iload_n 2, vi 0), (92, .aload_n 3, vi 0)] = true := by decide +kernel
theorem e_q_makeStep_93 : decode b_Mo_makeStep 93 = .ok (.invokevirtual 331, 3) := by decide +kernel
theorem e_q_makeStep_96 : decode b_Mo_makeStep 96 = .ok (.areturn, 1) := by decide +kernel
set_option maxHeartbeats 40000000 in
set_option maxRecDepth 100000 in
theorem q_makeStep (n : Nat) (hq9 : S_make n) : S_makeStep n := by
  intro l D B H0 ad A hT u T N M Ln dep p i ki w hp hK ha hi hu hk hO hT9 hw hS
  refine m_met (by decide) rfl (fun g w0 C Rm Y E => ?_)
  have hE0 : mEq (rm u.toNat) A A := mEq.rfl'
  show JM g D ad w0 A 0 [(0, vr 0 0), (1, vi p), (2, vi i), (3, vr 1 ki), (4, vi w)] []
  have hr9 := hK.rng
  have hs9 := hK.at (i := i) (by omega) (by omega)
  have hk9 := hs9.kd
  have hp9 := hs9.dp
  refine m_blk 1 [(0, vr 0 0), (1, vi p), (2, vi i), (3, vr 1 ki), (4, vi w)] [vr 0 0] C f_q_makeStep_0_1 rfl ?_
  refine m_getr C e_q_makeStep_1 fg_Mo_21 rfl (by decide) rfl ?_
  refine m_blk 5 [(0, vr 0 0), (1, vi p), (2, vi i), (3, vr 1 ki), (4, vi w)] [vi p, vr 14 0] C f_q_makeStep_4_1 rfl ?_
  refine m_aald C p.toNat e_q_makeStep_5 rfl rfl rfl (by decide) (by decide) (by omega) (by show p < ((6 : Nat) : Int); omega) (mz _ _) ?_
  refine m_blk 7 [(0, vr 0 0), (1, vi p), (2, vi i), (3, vr 1 ki), (4, vi w)] [vi i, vr 34 p.toNat] C f_q_makeStep_6_1 rfl ?_
  obtain ⟨x1, hx1⟩ : ∃ x, A 34 p.toNat i.toNat = x := ⟨_, rfl⟩
  have rx1 : (-1) ≤ x1 ∧ x1 ≤ 255 := mrg hT hx1 rfl
  refine m_iald C e_q_makeStep_7 rfl (by omega) (by decide) (by omega) (by show i < ((16 : Nat) : Int); omega) x1 hx1 ?_
  by_cases c2 : x1 = 0
  · refine m_tabIn (tgt := 44) C e_q_makeStep_8 (by omega) (by omega) (by omega) (by rw [c2]; rfl) (by decide) ?_
    refine m_blk 48 [(0, vr 0 0), (1, vi p), (2, vi i), (3, vr 1 ki), (4, vi w)] [vr 1 ki, vi i, vi p, vr 0 0] C f_q_makeStep_44_4 rfl ?_
    refine m_callV C Rm Y [vi p, vi i, vr 1 ki] [] (q_draw l D B H0 ad _ hT u T N M Ln dep p i ki (by show 0 ≤ p ∧ p ≤ 5; omega) hK (by show 0 ≤ i ∧ i < N; omega) (by show A 0 0 33 = u ∧ 0 ≤ u ∧ u ≤ 199; omega) (by show (ki : Int) < u; omega) hO (by show 0 ≤ T ∧ T ≤ 1125899906842624; omega) (by show A 34 p.toNat i.toNat = 0; omega)) cl_Mo_317 rfl (by decide) rfl rfl e_q_makeStep_48 rfl rfl rfl ⟨by show _ ≤ (203 + 6 * n : Nat); omega, by show _ ≤ (5590 + 150 * n : Nat); omega⟩ ?_
    rintro v3 A4 ⟨z7, rfl, hT_n6, hE_n6, raw_hz_n6, raw_hu_n6, raw_hO_n6⟩
    have hF_n6 := hE0.trans (hE_n6.sub (dm_rm (by omega)))
    have hz_n6 : (z7 : Int) = u := raw_hz_n6
    clear raw_hz_n6
    have hu_n6 : A4 0 0 33 = u + 1 := raw_hu_n6
    clear raw_hu_n6
    have hO_n6 : oG A4 z7 T := raw_hO_n6
    clear raw_hO_n6
    show JM g D ad w0 A4 51 [(0, vr 0 0), (1, vi p), (2, vi i), (3, vr 1 ki), (4, vi w)] [vr 1 z7]
    have ms_n6 : mS A4 := hS.dmk hE_n6
    exact m_aret C Rm E e_q_makeStep_51 ⟨z7, rfl, hT_n6, hF_n6, (by show u ≤ (z7 : Int) ∧ (z7 : Int) < A4 0 0 33; omega), (by show u + 1 ≤ A4 0 0 33 ∧ A4 0 0 33 ≤ u + 1 + 4 * (5 - dep i.toNat); omega), hO_n6, ms_n6⟩
  by_cases c8 : x1 = 1
  · refine m_tabIn (tgt := 52) C e_q_makeStep_8 (by omega) (by omega) (by omega) (by rw [c8]; rfl) (by decide) ?_
    refine m_blk 56 [(0, vr 0 0), (1, vi p), (2, vi i), (3, vr 1 ki), (4, vi w)] [vr 1 ki, vi i, vi p, vr 0 0] C f_q_makeStep_52_4 rfl ?_
    refine m_callV C Rm Y [vi p, vi i, vr 1 ki] [] (q_letO l D B H0 ad _ hT u T N M Ln dep p i ki (by show 0 ≤ p ∧ p ≤ 5; omega) hK (by show 0 ≤ i ∧ i < N; omega) (by show A 0 0 33 = u ∧ 0 ≤ u ∧ u ≤ 199; omega) (by show (ki : Int) < u; omega) hO (by show 0 ≤ T ∧ T ≤ 1125899906842624; omega) (by show A 34 p.toNat i.toNat = 1; omega)) cl_Mo_320 rfl (by decide) rfl rfl e_q_makeStep_56 rfl rfl rfl ⟨by show _ ≤ (203 + 6 * n : Nat); omega, by show _ ≤ (5590 + 150 * n : Nat); omega⟩ ?_
    rintro v9 A10 ⟨z13, rfl, hT_n12, hE_n12, raw_hz_n12, raw_hu_n12, raw_hO_n12⟩
    have hF_n12 := hE0.trans (hE_n12.sub (dm_rm (by omega)))
    have hz_n12 : (z13 : Int) = u := raw_hz_n12
    clear raw_hz_n12
    have hu_n12 : A10 0 0 33 = u + 1 := raw_hu_n12
    clear raw_hu_n12
    have hO_n12 : oG A10 z13 T := raw_hO_n12
    clear raw_hO_n12
    show JM g D ad w0 A10 59 [(0, vr 0 0), (1, vi p), (2, vi i), (3, vr 1 ki), (4, vi w)] [vr 1 z13]
    have ms_n12 : mS A10 := hS.dmk hE_n12
    exact m_aret C Rm E e_q_makeStep_59 ⟨z13, rfl, hT_n12, hF_n12, (by show u ≤ (z13 : Int) ∧ (z13 : Int) < A10 0 0 33; omega), (by show u + 1 ≤ A10 0 0 33 ∧ A10 0 0 33 ≤ u + 1 + 4 * (5 - dep i.toNat); omega), hO_n12, ms_n12⟩
  by_cases c14 : x1 = 2
  · refine m_tabIn (tgt := 60) C e_q_makeStep_8 (by omega) (by omega) (by omega) (by rw [c14]; rfl) (by decide) ?_
    refine m_blk 65 [(0, vr 0 0), (1, vi p), (2, vi i), (3, vr 1 ki), (4, vi w)] [vi 1, vr 1 ki, vi i, vi p, vr 0 0] C f_q_makeStep_60_5 rfl ?_
    refine m_callV C Rm Y [vi p, vi i, vr 1 ki, vi 1] [] (q_split l D B H0 ad _ hT u T N M Ln dep p i ki 1 (by show 0 ≤ p ∧ p ≤ 5; omega) hK (by show 0 ≤ i ∧ i < N; omega) (by show A 0 0 33 = u ∧ 0 ≤ u ∧ u ≤ 199; omega) (by show (ki : Int) < u; omega) hO (by show 0 ≤ T ∧ T ≤ 1125899906842624; omega) (by show A 34 p.toNat i.toNat = 2 ∨ A 34 p.toNat i.toNat = 3; omega) (by show 1 = 0 ∨ 1 = 1; omega)) cl_Mo_322 rfl (by decide) rfl rfl e_q_makeStep_65 rfl rfl rfl ⟨by show _ ≤ (203 + 6 * n : Nat); omega, by show _ ≤ (5590 + 150 * n : Nat); omega⟩ ?_
    rintro v15 A16 ⟨z19, rfl, hT_n18, hE_n18, raw_hz_n18, raw_hu_n18, raw_hO_n18⟩
    have hF_n18 := hE0.trans (hE_n18.sub (dm_rm (by omega)))
    have hz_n18 : (z19 : Int) = u := raw_hz_n18
    clear raw_hz_n18
    have hu_n18 : A16 0 0 33 = u + 1 := raw_hu_n18
    clear raw_hu_n18
    have hO_n18 : oG A16 z19 T := raw_hO_n18
    clear raw_hO_n18
    show JM g D ad w0 A16 68 [(0, vr 0 0), (1, vi p), (2, vi i), (3, vr 1 ki), (4, vi w)] [vr 1 z19]
    have ms_n18 : mS A16 := hS.dmk hE_n18
    exact m_aret C Rm E e_q_makeStep_68 ⟨z19, rfl, hT_n18, hF_n18, (by show u ≤ (z19 : Int) ∧ (z19 : Int) < A16 0 0 33; omega), (by show u + 1 ≤ A16 0 0 33 ∧ A16 0 0 33 ≤ u + 1 + 4 * (5 - dep i.toNat); omega), hO_n18, ms_n18⟩
  by_cases c20 : x1 = 3
  · refine m_tabIn (tgt := 69) C e_q_makeStep_8 (by omega) (by omega) (by omega) (by rw [c20]; rfl) (by decide) ?_
    refine m_blk 75 [(0, vr 0 0), (1, vi p), (2, vi i), (3, vr 1 ki), (4, vi w)] [vi w, vr 1 ki, vi i, vi p, vr 0 0] C f_q_makeStep_69_5 rfl ?_
    refine m_callV C Rm Y [vi p, vi i, vr 1 ki, vi w] [] ((q_choose n hq9) l D B H0 ad _ hT u T N M Ln dep p i ki w (by show 0 ≤ p ∧ p ≤ 5; omega) hK ha (by show 0 ≤ i ∧ i < N ∧ 20 * p + 16 - i ≤ (n : Int); omega) (by show A 0 0 33 = u ∧ 0 ≤ u ∧ u + (19 * p + 22 - 4 * dep i.toNat) ≤ 200; omega) (by show (ki : Int) < u; omega) hO (by show 0 ≤ T ∧ T ≤ 1125899906842624; omega) (by show -2147483648 ≤ w ∧ w ≤ 2147483647; omega) hS (by show A 34 p.toNat i.toNat = 3; omega)) cl_Mo_326 rfl (by decide) rfl rfl e_q_makeStep_75 rfl rfl rfl ⟨by show _ ≤ (203 + 6 * n : Nat); omega, by show _ ≤ (5590 + 150 * n : Nat); omega⟩ ?_
    rintro v21 A22 ⟨z25, rfl, hT_n24, hE_n24, raw_hz_n24, raw_hu_n24, raw_hO_n24, raw_hS_n24⟩
    have hF_n24 := hE0.trans (hE_n24.sub (fun _ _ _ h9 => h9))
    have hz_n24 : u ≤ (z25 : Int) ∧ (z25 : Int) < A22 0 0 33 := raw_hz_n24
    clear raw_hz_n24
    have hu_n24 : u + 1 ≤ A22 0 0 33 ∧ A22 0 0 33 ≤ u + 1 + 4 * (5 - dep i.toNat) := raw_hu_n24
    clear raw_hu_n24
    have hO_n24 : oG A22 z25 T := raw_hO_n24
    clear raw_hO_n24
    have hS_n24 : mS A22 := raw_hS_n24
    clear raw_hS_n24
    show JM g D ad w0 A22 78 [(0, vr 0 0), (1, vi p), (2, vi i), (3, vr 1 ki), (4, vi w)] [vr 1 z25]
    exact m_aret C Rm E e_q_makeStep_78 ⟨z25, rfl, hT_n24, hF_n24, (by show u ≤ (z25 : Int) ∧ (z25 : Int) < A22 0 0 33; omega), (by show u + 1 ≤ A22 0 0 33 ∧ A22 0 0 33 ≤ u + 1 + 4 * (5 - dep i.toNat); omega), hO_n24, hS_n24⟩
  by_cases c26 : x1 = 4
  · refine m_tabIn (tgt := 79) C e_q_makeStep_8 (by omega) (by omega) (by omega) (by rw [c26]; rfl) (by decide) ?_
    refine m_blk 85 [(0, vr 0 0), (1, vi p), (2, vi i), (3, vr 1 ki), (4, vi w)] [vi w, vr 1 ki, vi i, vi p, vr 0 0] C f_q_makeStep_79_5 rfl ?_
    refine m_callV C Rm Y [vi p, vi i, vr 1 ki, vi w] [] ((q_loop n hq9) l D B H0 ad _ hT u T N M Ln dep p i ki w (by show 0 ≤ p ∧ p ≤ 5; omega) hK ha (by show 0 ≤ i ∧ i < N ∧ 20 * p + 16 - i ≤ (n : Int); omega) (by show A 0 0 33 = u ∧ 0 ≤ u ∧ u + (19 * p + 22 - 4 * dep i.toNat) ≤ 200; omega) (by show (ki : Int) < u; omega) hO (by show 0 ≤ T ∧ T ≤ 1125899906842624; omega) (by show -2147483648 ≤ w ∧ w ≤ 2147483647; omega) hS (by show A 34 p.toNat i.toNat = 4; omega)) cl_Mo_329 rfl (by decide) rfl rfl e_q_makeStep_85 rfl rfl rfl ⟨by show _ ≤ (203 + 6 * n : Nat); omega, by show _ ≤ (5590 + 150 * n : Nat); omega⟩ ?_
    rintro v27 A28 ⟨z31, rfl, hT_n30, hE_n30, raw_hz_n30, raw_hu_n30, raw_hO_n30, raw_hS_n30⟩
    have hF_n30 := hE0.trans (hE_n30.sub (fun _ _ _ h9 => h9))
    have hz_n30 : u ≤ (z31 : Int) ∧ (z31 : Int) < A28 0 0 33 := raw_hz_n30
    clear raw_hz_n30
    have hu_n30 : u + 1 ≤ A28 0 0 33 ∧ A28 0 0 33 ≤ u + 1 + 4 * (5 - dep i.toNat) := raw_hu_n30
    clear raw_hu_n30
    have hO_n30 : oG A28 z31 T := raw_hO_n30
    clear raw_hO_n30
    have hS_n30 : mS A28 := raw_hS_n30
    clear raw_hS_n30
    show JM g D ad w0 A28 88 [(0, vr 0 0), (1, vi p), (2, vi i), (3, vr 1 ki), (4, vi w)] [vr 1 z31]
    exact m_aret C Rm E e_q_makeStep_88 ⟨z31, rfl, hT_n30, hF_n30, (by show u ≤ (z31 : Int) ∧ (z31 : Int) < A28 0 0 33; omega), (by show u + 1 ≤ A28 0 0 33 ∧ A28 0 0 33 ≤ u + 1 + 4 * (5 - dep i.toNat); omega), hO_n30, hS_n30⟩
  refine m_tabOut (tgt := 89) C e_q_makeStep_8 (by omega) (by omega) (by decide) ?_
  refine m_blk 93 [(0, vr 0 0), (1, vi p), (2, vi i), (3, vr 1 ki), (4, vi w)] [vr 1 ki, vi i, vi p, vr 0 0] C f_q_makeStep_89_4 rfl ?_
  refine m_callV C Rm Y [vi p, vi i, vr 1 ki] [] ((q_run n hq9) l D B H0 ad _ hT u T N M Ln dep p i ki (by show 0 ≤ p ∧ p ≤ 5; omega) hK ha (by show 0 ≤ i ∧ i < N ∧ 20 * p + 16 - i ≤ (n : Int); omega) (by show A 0 0 33 = u ∧ 0 ≤ u ∧ u + (19 * p + 22 - 4 * dep i.toNat) ≤ 200; omega) (by show (ki : Int) < u; omega) hO (by show 0 ≤ T ∧ T ≤ 1125899906842624; omega) hS (by show A 34 p.toNat i.toNat = 5; omega)) cl_Mo_331 rfl (by decide) rfl rfl e_q_makeStep_93 rfl rfl rfl ⟨by show _ ≤ (203 + 6 * n : Nat); omega, by show _ ≤ (5590 + 150 * n : Nat); omega⟩ ?_
  rintro v32 A33 ⟨z36, rfl, hT_n35, hE_n35, raw_hz_n35, raw_hu_n35, raw_hO_n35, raw_hS_n35⟩
  have hF_n35 := hE0.trans (hE_n35.sub (fun _ _ _ h9 => h9))
  have hz_n35 : u ≤ (z36 : Int) ∧ (z36 : Int) < A33 0 0 33 := raw_hz_n35
  clear raw_hz_n35
  have hu_n35 : u + 1 ≤ A33 0 0 33 ∧ A33 0 0 33 ≤ u + 1 + 4 * (5 - dep i.toNat) := raw_hu_n35
  clear raw_hu_n35
  have hO_n35 : oG A33 z36 T := raw_hO_n35
  clear raw_hO_n35
  have hS_n35 : mS A33 := raw_hS_n35
  clear raw_hS_n35
  show JM g D ad w0 A33 96 [(0, vr 0 0), (1, vi p), (2, vi i), (3, vr 1 ki), (4, vi w)] [vr 1 z36]
  exact m_aret C Rm E e_q_makeStep_96 ⟨z36, rfl, hT_n35, hF_n35, (by show u ≤ (z36 : Int) ∧ (z36 : Int) < A33 0 0 33; omega), (by show u + 1 ≤ A33 0 0 33 ∧ A33 0 0 33 ≤ u + 1 + 4 * (5 - dep i.toNat); omega), hO_n35, hS_n35⟩
