/-! the reference: faces that ask about programs, what comes by seeds (own work, by program) -/
def zm (f _k j : Nat) : Bool := f == 0 && j == 36
theorem zm_far {f : Nat} (hf : f ≠ 0) (k j : Nat) : zm f k j = false := by
  unfold zm
  rw [show (f == 0) = false from by simpa using hf]
  rfl
theorem mI.keep {A A9 : mA} (h : mI A) (k : ∀ f P, 34 ≤ f → f ≤ 46 → A9 f P = A f P) (e5 : A9 5 0 = A 5 0) (e51 : A9 51 = A 51) (e0 : A9 0 0 0 ≤ A 0 0 0) (e37 : A9 0 0 37 ≤ A9 0 0 0) : mI A9 := by
  refine ⟨fun p hp => (h.1 p (by omega)).fam (fun f h1 h2 => k f p h1 h2) (congrFun e5 p), e37, fun c => ?_⟩
  rw [e51]
  exact h.2.2 c
theorem mI.zmk {A A9 : mA} (h : mI A) (q : mEq zm A A9) : mI A9 := by
  have e0 : A9 0 0 0 = A 0 0 0 := q 0 0 0 rfl
  have e37 : A9 0 0 37 = A 0 0 37 := q 0 0 37 rfl
  refine h.keep (fun f P h1 h2 => funext fun j => q f P j (zm_far (by omega) _ _)) (funext fun j => q 5 0 j (zm_far (by decide) _ _)) (funext fun k => funext fun j => q 51 k j (zm_far (by decide) _ _)) (by omega) ?_
  rw [e37, e0]
  exact h.2.1
theorem pK.zmk {A A9 : mA} {P : Nat} {N M Ln : Int} {dep : Nat → Int} (h : pK A P N M Ln dep) (q : mEq zm A A9) : pK A9 P N M Ln dep := h.fam (fun f h1 h2 => funext fun j => q f P j (zm_far (by omega) _ _))
theorem aOk.zmk {A A9 : mA} {p : Int} (h : aOk A p) (q : mEq zm A A9) : aOk A9 p := fun r hr => (h r hr).fam (fun f h1 h2 => funext fun j => q f r j (zm_far (by omega) _ _)) (q 5 0 r (zm_far (by decide) _ _))
theorem iUsh9 (x : Int) : 0 ≤ iUsh x 9 ∧ iUsh x 9 ≤ 8388607 := by
  have e : (Int32.ofInt 9).toUInt32 &&& Int32.toUInt32 31 = 9 := by decide
  unfold iUsh
  rw [e]
  generalize (Int32.ofInt x).toUInt32 = u
  have h1 : (u >>> 9).toNat = u.toNat / 512 := by
    rw [UInt32.toNat_shiftRight]
    exact Nat.shiftRight_eq_div_pow _ 9
  have h2 : u.toNat < 4294967296 := u.toNat_lt
  have h3 : (u >>> 9).toInt32.toInt = ((u >>> 9).toNat : Int) := BitVec.toInt_eq_toNat_of_lt (x := (u >>> 9).toBitVec) (by show 2 * (u >>> 9).toNat < 4294967296; omega)
  rw [h3, h1]
  omega
theorem tm_lt {a b : Int} (h : 0 ≤ a) (hb : 1 ≤ b) : 0 ≤ Int.tmod a b ∧ Int.tmod a b < b := by
  rw [Int.tmod_eq_emod_of_nonneg h]
  exact ⟨Int.emod_nonneg _ (by omega), Int.emod_lt_of_pos _ (by omega)⟩
theorem f_q_told_0_2 : mblkB b_Mo_told [(0, .aload_n 0, vi 0), (1, .iload_n 1, vi 0)] = true := by decide +kernel
theorem e_q_told_2 : decode b_Mo_told 2 = .ok (.invokevirtual 364, 3) := by decide +kernel
theorem e_q_told_5 : decode b_Mo_told 5 = .ok (.ifCond .eq 13, 3) := by decide +kernel
theorem f_q_told_8_3 : mblkB b_Mo_told [(8, .iload_n 2, vi 0), (9, .iconst 0, vi 0), (10, .bipush 6, vi 6)] = true := by decide +kernel
theorem e_q_told_12 : decode b_Mo_told 12 = .ok (.invokestatic 108, 3) := by decide +kernel
theorem e_q_told_15 : decode b_Mo_told 15 = .ok (.ifCond .ne 6, 3) := by decide +kernel
theorem f_q_told_21_1 : mblkB b_Mo_told [(21, .iload_n 2, vi 0)] = true := by decide +kernel
theorem e_q_told_22 : decode b_Mo_told 22 = .ok (.ifCond .ne 10, 3) := by decide +kernel
theorem f_q_told_32_2 : mblkB b_Mo_told [(32, .iload_n 2, vi 0), (33, .iconst 1, vi 1)] = true := by decide +kernel
theorem e_q_told_34 : decode b_Mo_told 34 = .ok (.if_icmp .ne 10, 3) := by decide +kernel
theorem f_q_told_44_2 : mblkB b_Mo_told [(44, .iload_n 2, vi 0), (45, .iconst 2, vi 2)] = true := by decide +kernel
theorem e_q_told_46 : decode b_Mo_told 46 = .ok (.if_icmp .ne 17, 3) := by decide +kernel
theorem f_q_told_63_2 : mblkB b_Mo_told [(63, .iload_n 2, vi 0), (64, .bipush 6, vi 6)] = true := by decide +kernel
theorem e_q_told_66 : decode b_Mo_told 66 = .ok (.if_icmp .ne 10, 3) := by decide +kernel
theorem f_q_told_76_2 : mblkB b_Mo_told [(76, .iload_n 2, vi 0), (77, .iconst 3, vi 3)] = true := by decide +kernel
theorem e_q_told_78 : decode b_Mo_told 78 = .ok (.if_icmp .ne 73, 3) := by decide +kernel
theorem f_q_told_151_3 : mblkB b_Mo_told [(151, .aload_n 0, vi 0), (152, .iload_n 1, vi 0), (153, .iconst (-1), vi (-1))] = true := by decide +kernel
theorem e_q_told_154 : decode b_Mo_told 154 = .ok (.invokevirtual 367, 3) := by decide +kernel
theorem f_q_told_157_3 : mblkB b_Mo_told [(157, .astore_n 3, vi 0), (158, .iload_n 2, vi 0), (159, .iconst 4, vi 4)] = true := by decide +kernel
theorem e_q_told_160 : decode b_Mo_told 160 = .ok (.if_icmp .ne 16, 3) := by decide +kernel
theorem f_q_told_176_1 : mblkB b_Mo_told [(176, .aload_n 0, vi 0)] = true := by decide +kernel
theorem e_q_told_177 : decode b_Mo_told 177 = .ok (.getfield 297, 3) := by decide +kernel
theorem e_q_told_180 : decode b_Mo_told 180 = .ok (.ifCond .eq 8, 3) := by decide +kernel
theorem f_q_told_188_1 : mblkB b_Mo_told [(188, .aload_n 3, vi 0)] = true := by decide +kernel
theorem e_q_told_189 : decode b_Mo_told 189 = .ok (.getfield 272, 3) := by decide +kernel
theorem e_q_told_192 : decode b_Mo_told 192 = .ok (.ireturn, 1) := by decide +kernel
theorem f_q_told_183_2 : mblkB b_Mo_told [(183, .bipush (-6), vi (-6)), (185, .goto 7, vi 192)] = true := by decide +kernel
theorem f_q_told_163_1 : mblkB b_Mo_told [(163, .aload_n 0, vi 0)] = true := by decide +kernel
theorem e_q_told_164 : decode b_Mo_told 164 = .ok (.getfield 297, 3) := by decide +kernel
theorem e_q_told_167 : decode b_Mo_told 167 = .ok (.ifCond .eq 7, 3) := by decide +kernel
theorem f_q_told_174_1 : mblkB b_Mo_told [(174, .iconst 0, vi 0)] = true := by decide +kernel
theorem e_q_told_175 : decode b_Mo_told 175 = .ok (.ireturn, 1) := by decide +kernel
theorem f_q_told_170_2 : mblkB b_Mo_told [(170, .iconst 1, vi 1), (171, .goto 4, vi 175)] = true := by decide +kernel
theorem f_q_told_81_4 : mblkB b_Mo_told [(81, .iconst 0, vi 0), (82, .istore_n 3, vi 0), (83, .iconst 0, vi 0), (84, .istore 4, vi 0)] = true := by decide +kernel
theorem f_q_told_86_2 : mblkB b_Mo_told [(86, .iload 4, vi 0), (88, .aload_n 0, vi 0)] = true := by decide +kernel
theorem e_q_told_89 : decode b_Mo_told 89 = .ok (.getfield 9, 3) := by decide +kernel
theorem f_q_told_92_1 : mblkB b_Mo_told [(92, .iload_n 1, vi 0)] = true := by decide +kernel
theorem e_q_told_93 : decode b_Mo_told 93 = .ok (.iaload, 1) := by decide +kernel
theorem e_q_told_94 : decode b_Mo_told 94 = .ok (.if_icmp .ge 55, 3) := by decide +kernel
theorem f_q_told_149_1 : mblkB b_Mo_told [(149, .iload_n 3, vi 0)] = true := by decide +kernel
theorem e_q_told_150 : decode b_Mo_told 150 = .ok (.ireturn, 1) := by decide +kernel
theorem f_q_told_97_4 : mblkB b_Mo_told [(97, .iload_n 3, vi 0), (98, .aload_n 0, vi 0), (99, .iload_n 1, vi 0), (100, .aload_n 0, vi 0)] = true := by decide +kernel
theorem e_q_told_101 : decode b_Mo_told 101 = .ok (.getfield 36, 3) := by decide +kernel
theorem f_q_told_104_1 : mblkB b_Mo_told [(104, .iload_n 1, vi 0)] = true := by decide +kernel
theorem e_q_told_105 : decode b_Mo_told 105 = .ok (.aaload, 1) := by decide +kernel
theorem f_q_told_106_1 : mblkB b_Mo_told [(106, .iload 4, vi 0)] = true := by decide +kernel
theorem e_q_told_108 : decode b_Mo_told 108 = .ok (.iaload, 1) := by decide +kernel
theorem e_q_told_109 : decode b_Mo_told 109 = .ok (.invokevirtual 266, 3) := by decide +kernel
theorem f_q_told_112_1 : mblkB b_Mo_told [(112, .aload_n 0, vi 0)] = true := by decide +kernel
theorem e_q_told_113 : decode b_Mo_told 113 = .ok (.getfield 24, 3) := by decide +kernel
theorem f_q_told_116_1 : mblkB b_Mo_told [(116, .iload_n 1, vi 0)] = true := by decide +kernel
theorem e_q_told_117 : decode b_Mo_told 117 = .ok (.aaload, 1) := by decide +kernel
theorem f_q_told_118_1 : mblkB b_Mo_told [(118, .iload 4, vi 0)] = true := by decide +kernel
theorem e_q_told_120 : decode b_Mo_told 120 = .ok (.iaload, 1) := by decide +kernel
theorem f_q_told_121_1 : mblkB b_Mo_told [(121, .iconst (-1), vi (-1))] = true := by decide +kernel
theorem e_q_told_122 : decode b_Mo_told 122 = .ok (.if_icmp .ne 7, 3) := by decide +kernel
theorem f_q_told_129_2 : mblkB b_Mo_told [(129, .iconst 1, vi 1), (130, .aload_n 0, vi 0)] = true := by decide +kernel
theorem e_q_told_131 : decode b_Mo_told 131 = .ok (.getfield 24, 3) := by decide +kernel
theorem f_q_told_134_1 : mblkB b_Mo_told [(134, .iload_n 1, vi 0)] = true := by decide +kernel
theorem e_q_told_135 : decode b_Mo_told 135 = .ok (.aaload, 1) := by decide +kernel
theorem f_q_told_136_1 : mblkB b_Mo_told [(136, .iload 4, vi 0)] = true := by decide +kernel
theorem e_q_told_138 : decode b_Mo_told 138 = .ok (.iaload, 1) := by decide +kernel
theorem f_q_told_139_3 : mblkB b_Mo_told [(139, .ishl, vi 0), (140, .ior, vi 0), (141, .ior, vi 0)] = true := by decide +kernel
theorem f_q_told_142_3 : mblkB b_Mo_told [(142, .istore_n 3, vi 0), (143, .iinc 4 1, vi 1), (146, .goto (-60), vi 86)] = true := by decide +kernel
theorem f_q_told_125_2 : mblkB b_Mo_told [(125, .iconst 0, vi 0), (126, .goto 14, vi 140)] = true := by decide +kernel
theorem f_q_told_140_2 : mblkB b_Mo_told [(140, .ior, vi 0), (141, .ior, vi 0)] = true := by decide +kernel
theorem f_q_told_69_1 : mblkB b_Mo_told [(69, .aload_n 0, vi 0)] = true := by decide +kernel
theorem e_q_told_70 : decode b_Mo_told 70 = .ok (.getfield 16, 3) := by decide +kernel
theorem f_q_told_73_1 : mblkB b_Mo_told [(73, .iload_n 1, vi 0)] = true := by decide +kernel
theorem e_q_told_74 : decode b_Mo_told 74 = .ok (.iaload, 1) := by decide +kernel
theorem e_q_told_75 : decode b_Mo_told 75 = .ok (.ireturn, 1) := by decide +kernel
theorem f_q_told_49_2 : mblkB b_Mo_told [(49, .aload_n 0, vi 0), (50, .iload_n 1, vi 0)] = true := by decide +kernel
theorem e_q_told_51 : decode b_Mo_told 51 = .ok (.invokevirtual 303, 3) := by decide +kernel
theorem e_q_told_54 : decode b_Mo_told 54 = .ok (.ifCond .eq 7, 3) := by decide +kernel
theorem f_q_told_61_1 : mblkB b_Mo_told [(61, .iconst 0, vi 0)] = true := by decide +kernel
theorem e_q_told_62 : decode b_Mo_told 62 = .ok (.ireturn, 1) := by decide +kernel
theorem f_q_told_57_2 : mblkB b_Mo_told [(57, .iconst 1, vi 1), (58, .goto 4, vi 62)] = true := by decide +kernel
theorem f_q_told_37_1 : mblkB b_Mo_told [(37, .aload_n 0, vi 0)] = true := by decide +kernel
theorem e_q_told_38 : decode b_Mo_told 38 = .ok (.getfield 13, 3) := by decide +kernel
theorem f_q_told_41_1 : mblkB b_Mo_told [(41, .iload_n 1, vi 0)] = true := by decide +kernel
theorem e_q_told_42 : decode b_Mo_told 42 = .ok (.iaload, 1) := by decide +kernel
theorem e_q_told_43 : decode b_Mo_told 43 = .ok (.ireturn, 1) := by decide +kernel
theorem f_q_told_25_1 : mblkB b_Mo_told [(25, .aload_n 0, vi 0)] = true := by decide +kernel
theorem e_q_told_26 : decode b_Mo_told 26 = .ok (.getfield 9, 3) := by decide +kernel
theorem f_q_told_29_1 : mblkB b_Mo_told [(29, .iload_n 1, vi 0)] = true := by decide +kernel
theorem e_q_told_30 : decode b_Mo_told 30 = .ok (.iaload, 1) := by decide +kernel
theorem e_q_told_31 : decode b_Mo_told 31 = .ok (.ireturn, 1) := by decide +kernel
theorem f_q_told_18_1 : mblkB b_Mo_told [(18, .bipush (-2), vi (-2))] = true := by decide +kernel
theorem e_q_told_20 : decode b_Mo_told 20 = .ok (.ireturn, 1) := by decide +kernel
set_option maxHeartbeats 40000000 in
set_option maxRecDepth 100000 in
theorem q_told (l : Launch) (D : va_G) (B : Nat) (H0 : Heap) (ad : mAd) (A : mA) (hT : mTy A)  (p : Int) (w : Int) (hpr : -2147483648 ≤ p ∧ p ≤ 2147483647) (hwr : -2147483648 ≤ w ∧ w ≤ 2147483647) (hI : mI A)  : mMet l D B H0 ad y_Mo_told b_Mo_told 5 (some .int) 910 23500 [vr 0 0, vi p, vi w] A (fun v9 A9 => ∃ z : Int, v9 = some (vi z) ∧ mTy A9 ∧ mEq (rm 0) A A9 ∧ (-2147483648 ≤ z ∧ z ≤ 2147483647) ∧ (mI A9)) := by
  refine m_met (by decide) rfl (fun g w0 C Rm Y E => ?_)
  have hE0 : mEq (rm 0) A A := mEq.rfl'
  show JM g D ad w0 A 0 [(0, vr 0 0), (1, vi p), (2, vi w)] []
  have r0 : 0 ≤ A 0 0 0 ∧ A 0 0 0 ≤ 6 := hT 0 0 0
  refine m_blk 2 [(0, vr 0 0), (1, vi p), (2, vi w)] [vi p, vr 0 0] C f_q_told_0_2 rfl ?_
  refine m_callV C Rm Y [vi p] [] (q_isProgram l D B H0 ad _ hT p (by show -2147483648 ≤ p ∧ p ≤ 2147483647; omega)) cl_Mo_364 rfl (by decide) rfl rfl e_q_told_2 rfl rfl rfl ⟨by decide, by decide⟩ ?_
  rintro v1 A2 ⟨z5, rfl, rfl, raw_hz_n4⟩
  show JM g D ad w0 A 5 [(0, vr 0 0), (1, vi p), (2, vi w)] [vi z5]
  have hz_n4 : z5 = 1 ∧ 0 ≤ p ∧ p < A 0 0 0 ∨ z5 = 0 ∧ ¬ (0 ≤ p ∧ p < A 0 0 0) := raw_hz_n4
  clear raw_hz_n4
  rcases hz_n4 with ⟨e_n4, hz_n4⟩ | ⟨e_n4, hz_n4⟩
  · subst e_n4
    refine m_if_eq (tgt := 18) C e_q_told_5 (by decide) (by decide) (fun c6 => (by omega : False).elim) (fun c6 => ?_)
    refine m_blk 12 [(0, vr 0 0), (1, vi p), (2, vi w)] [vi 6, vi 0, vi w] C f_q_told_8_3 rfl ?_
    refine m_callS C Rm Y [vi w, vi 0, vi 6] [] (q_in l D B H0 ad _ w 0 6 (by show -2147483648 ≤ w ∧ w ≤ 2147483647; omega) (by show -2147483648 ≤ 0 ∧ 0 ≤ 2147483647; omega) (by show -2147483648 ≤ 6 ∧ 6 ≤ 2147483647; omega)) cl_Mo_108 e_q_told_12 rfl rfl rfl ⟨by decide, by decide⟩ ?_
    rintro v7 A8 ⟨z11, rfl, rfl, raw_hz_n10⟩
    show JM g D ad w0 A 15 [(0, vr 0 0), (1, vi p), (2, vi w)] [vi z11]
    have hz_n10 : z11 = 1 ∧ 0 ≤ w ∧ w ≤ 6 ∨ z11 = 0 ∧ ¬ (0 ≤ w ∧ w ≤ 6) := raw_hz_n10
    clear raw_hz_n10
    rcases hz_n10 with ⟨e_n10, hz_n10⟩ | ⟨e_n10, hz_n10⟩
    · subst e_n10
      refine m_if_ne (tgt := 21) C e_q_told_15 (by decide) (by decide) (fun c12 => ?_) (fun c12 => (by omega : False).elim)
      obtain ⟨M, Ln, dep, hK⟩ := (hI.ok (p := p) (by omega)).at (p := p) (by omega) (by omega)
      obtain ⟨N, hN⟩ : ∃ x, A 5 0 p.toNat = x := ⟨_, rfl⟩
      rw [hN] at hK
      have hr9 := hK.rng
      refine m_blk 22 [(0, vr 0 0), (1, vi p), (2, vi w)] [vi w] C f_q_told_21_1 rfl ?_
      refine m_if_ne (tgt := 32) C e_q_told_22 (by decide) (by omega) (fun c13 => ?_) (fun c13 => ?_)
      · refine m_blk 34 [(0, vr 0 0), (1, vi p), (2, vi w)] [vi 1, vi w] C f_q_told_32_2 rfl ?_
        refine m_icmp_ne (tgt := 44) C e_q_told_34 (by decide) (by omega) (by decide) (fun c14 => ?_) (fun c14 => ?_)
        · refine m_blk 46 [(0, vr 0 0), (1, vi p), (2, vi w)] [vi 2, vi w] C f_q_told_44_2 rfl ?_
          refine m_icmp_ne (tgt := 63) C e_q_told_46 (by decide) (by omega) (by decide) (fun c15 => ?_) (fun c15 => ?_)
          · refine m_blk 66 [(0, vr 0 0), (1, vi p), (2, vi w)] [vi 6, vi w] C f_q_told_63_2 rfl ?_
            refine m_icmp_ne (tgt := 76) C e_q_told_66 (by decide) (by omega) (by decide) (fun c16 => ?_) (fun c16 => ?_)
            · refine m_blk 78 [(0, vr 0 0), (1, vi p), (2, vi w)] [vi 3, vi w] C f_q_told_76_2 rfl ?_
              refine m_icmp_ne (tgt := 151) C e_q_told_78 (by decide) (by omega) (by decide) (fun c17 => ?_) (fun c17 => ?_)
              · refine m_blk 154 [(0, vr 0 0), (1, vi p), (2, vi w)] [vi (-1), vi p, vr 0 0] C f_q_told_151_3 rfl ?_
                refine m_callV C Rm Y [vi p, vi (-1)] [] (q_odds l D B H0 ad _ hT p (-1) (by show 0 ≤ p ∧ p ≤ 5; omega) ((hI.ok (by omega)).rmk hE0) (by show -2147483648 ≤ (-1) ∧ (-1) ≤ 2147483647; omega) hI.2.2) cl_Mo_367 rfl (by decide) rfl rfl e_q_told_154 rfl rfl rfl ⟨by decide, by decide⟩ ?_
                rintro v18 A19 ⟨z22, rfl, hT_n21, hE_n21, raw_hz_n21, raw_hu_n21, raw_hO_n21, raw_hS_n21⟩
                have hF_n21 := hE0.trans (hE_n21.sub (rm_rm (Nat.zero_le _)))
                have hz_n21 : 0 ≤ (z22 : Int) ∧ (z22 : Int) < A19 0 0 33 := raw_hz_n21
                clear raw_hz_n21
                have hu_n21 : A19 0 0 33 ≤ 24 := raw_hu_n21
                clear raw_hu_n21
                have hO_n21 : oG A19 z22 1125899906842624 := raw_hO_n21
                clear raw_hO_n21
                have hS_n21 : mS A19 := raw_hS_n21
                clear raw_hS_n21
                show JM g D ad w0 A19 157 [(0, vr 0 0), (1, vi p), (2, vi w)] [vr 1 z22]
                refine m_blk 160 [(3, vr 1 z22), (0, vr 0 0), (1, vi p), (2, vi w)] [vi 4, vi w] C f_q_told_157_3 rfl ?_
                refine m_icmp_ne (tgt := 176) C e_q_told_160 (by decide) (by omega) (by decide) (fun c23 => ?_) (fun c23 => ?_)
                · refine m_blk 177 [(3, vr 1 z22), (0, vr 0 0), (1, vi p), (2, vi w)] [vr 0 0] C f_q_told_176_1 rfl ?_
                  obtain ⟨x24, hx24⟩ : ∃ x, A19 0 0 34 = x := ⟨_, rfl⟩
                  have rx24 : 0 ≤ x24 ∧ x24 ≤ 1 := mrg hT_n21 hx24 rfl
                  refine m_geti C e_q_told_177 fg_Mo_297 rfl (by decide) rfl x24 hx24 ?_
                  refine m_if_eq (tgt := 188) C e_q_told_180 (by decide) (by omega) (fun c25 => ?_) (fun c25 => ?_)
                  · refine m_blk 189 [(3, vr 1 z22), (0, vr 0 0), (1, vi p), (2, vi w)] [vr 1 z22] C f_q_told_188_1 rfl ?_
                    obtain ⟨x26, hx26⟩ : ∃ x, A19 1 z22 2 = x := ⟨_, rfl⟩
                    have rx26 : 0 ≤ x26 ∧ x26 ≤ 301 := mrg hT_n21 hx26 rfl
                    refine m_getiN C e_q_told_189 fg_Mo_272 rfl (by omega) rfl x26 hx26 ?_
                    exact m_iret C Rm E e_q_told_192 ⟨x26, rfl, hT_n21, hF_n21, (by show -2147483648 ≤ x26 ∧ x26 ≤ 2147483647; omega), (hI.rm0 hF_n21 hS_n21)⟩
                  · refine m_blk 192 [(3, vr 1 z22), (0, vr 0 0), (1, vi p), (2, vi w)] [vi (-6)] C f_q_told_183_2 rfl ?_
                    exact m_iret C Rm E e_q_told_192 ⟨(-6), rfl, hT_n21, hF_n21, (by show -2147483648 ≤ (-6) ∧ (-6) ≤ 2147483647; omega), (hI.rm0 hF_n21 hS_n21)⟩
                · refine m_blk 164 [(3, vr 1 z22), (0, vr 0 0), (1, vi p), (2, vi w)] [vr 0 0] C f_q_told_163_1 rfl ?_
                  obtain ⟨x27, hx27⟩ : ∃ x, A19 0 0 34 = x := ⟨_, rfl⟩
                  have rx27 : 0 ≤ x27 ∧ x27 ≤ 1 := mrg hT_n21 hx27 rfl
                  refine m_geti C e_q_told_164 fg_Mo_297 rfl (by decide) rfl x27 hx27 ?_
                  refine m_if_eq (tgt := 174) C e_q_told_167 (by decide) (by omega) (fun c28 => ?_) (fun c28 => ?_)
                  · refine m_blk 175 [(3, vr 1 z22), (0, vr 0 0), (1, vi p), (2, vi w)] [vi 0] C f_q_told_174_1 rfl ?_
                    exact m_iret C Rm E e_q_told_175 ⟨0, rfl, hT_n21, hF_n21, (by show -2147483648 ≤ 0 ∧ 0 ≤ 2147483647; omega), (hI.rm0 hF_n21 hS_n21)⟩
                  · refine m_blk 175 [(3, vr 1 z22), (0, vr 0 0), (1, vi p), (2, vi w)] [vi 1] C f_q_told_170_2 rfl ?_
                    exact m_iret C Rm E e_q_told_175 ⟨1, rfl, hT_n21, hF_n21, (by show -2147483648 ≤ 1 ∧ 1 ≤ 2147483647; omega), (hI.rm0 hF_n21 hS_n21)⟩
              · refine m_blk 86 [(4, vi 0), (3, vi 0), (0, vr 0 0), (1, vi p), (2, vi w)] [] C f_q_told_81_4 rfl ?_
                have hd_86 : ∀ (NZ : Nat) (i : Int) (e9 : Int), 0 ≤ i ∧ i ≤ 16 → -2147483648 ≤ e9 ∧ e9 ≤ 2147483647 → (40 - i) < (NZ : Int) → JM g D ad w0 A 86 [(4, vi i), (3, vi e9), (0, vr 0 0), (1, vi p), (2, vi w)] [] := by
                  intro NZ
                  induction NZ with
                  | zero => intro i e9 hi9 he9 hm86; exact absurd hm86 (by omega)
                  | succ NZ ih86 =>
                    intro i e9 hi9 he9 hm86
                    refine m_blk 89 [(4, vi i), (3, vi e9), (0, vr 0 0), (1, vi p), (2, vi w)] [vr 0 0, vi i] C f_q_told_86_2 rfl ?_
                    refine m_getr C e_q_told_89 fg_Mo_9 rfl (by decide) rfl ?_
                    refine m_blk 93 [(4, vi i), (3, vi e9), (0, vr 0 0), (1, vi p), (2, vi w)] [vi p, vr 5 0, vi i] C f_q_told_92_1 rfl ?_
                    obtain ⟨x29, hx29⟩ : ∃ x, A 5 0 p.toNat = x := ⟨_, rfl⟩
                    have rx29 : 0 ≤ x29 ∧ x29 ≤ 16 := mrg hT hx29 rfl
                    refine m_iald C e_q_told_93 rfl (by decide) (by decide) (by omega) (by show p < ((6 : Nat) : Int); omega) x29 hx29 ?_
                    refine m_icmp_ge (tgt := 149) C e_q_told_94 (by decide) (by omega) (by omega) (fun c30 => ?_) (fun c30 => ?_)
                    · refine m_blk 150 [(4, vi i), (3, vi e9), (0, vr 0 0), (1, vi p), (2, vi w)] [vi e9] C f_q_told_149_1 rfl ?_
                      exact m_iret C Rm E e_q_told_150 ⟨e9, rfl, hT, hE0, (by show -2147483648 ≤ e9 ∧ e9 ≤ 2147483647; omega), (hI.rm0 hE0 hI.2.2)⟩
                    · have hs9 := hK.at (i := i) (by omega) (by omega)
                      have ht9 := hs9.tp
                      refine m_blk 101 [(4, vi i), (3, vi e9), (0, vr 0 0), (1, vi p), (2, vi w)] [vr 0 0, vi p, vr 0 0, vi e9] C f_q_told_97_4 rfl ?_
                      refine m_getr C e_q_told_101 fg_Mo_36 rfl (by decide) rfl ?_
                      refine m_blk 105 [(4, vi i), (3, vi e9), (0, vr 0 0), (1, vi p), (2, vi w)] [vi p, vr 19 0, vi p, vr 0 0, vi e9] C f_q_told_104_1 rfl ?_
                      refine m_aald C p.toNat e_q_told_105 rfl rfl rfl (by decide) (by decide) (by omega) (by show p < ((6 : Nat) : Int); omega) (mz _ _) ?_
                      refine m_blk 108 [(4, vi i), (3, vi e9), (0, vr 0 0), (1, vi p), (2, vi w)] [vi i, vr 39 p.toNat, vi p, vr 0 0, vi e9] C f_q_told_106_1 rfl ?_
                      obtain ⟨x31, hx31⟩ : ∃ x, A 39 p.toNat i.toNat = x := ⟨_, rfl⟩
                      have rx31 : (-1) ≤ x31 ∧ x31 ≤ 119 := mrg hT hx31 rfl
                      refine m_iald C e_q_told_108 rfl (by omega) (by decide) (by omega) (by show i < ((16 : Nat) : Int); omega) x31 hx31 ?_
                      refine m_callV C Rm Y [vi p, vi x31] [vi e9] ((q_namesIn_ 120) l D B H0 ad _ hT M p x31 hK.2.2.2.2 (by show 0 ≤ p ∧ p ≤ 5 ∧ M ≤ 120; omega) (by show -1 ≤ x31 ∧ x31 < M ∧ x31 < ((120 : Nat) : Int); omega)) cl_Mo_266 rfl (by decide) rfl rfl e_q_told_109 rfl rfl rfl ⟨by decide, by decide⟩ ?_
                      rintro v32 A33 ⟨z36, rfl, rfl, raw_hz_n35⟩
                      have hz_n35 : -2147483648 ≤ z36 ∧ z36 ≤ 2147483647 := raw_hz_n35
                      clear raw_hz_n35
                      show JM g D ad w0 A 112 [(4, vi i), (3, vi e9), (0, vr 0 0), (1, vi p), (2, vi w)] [vi z36, vi e9]
                      refine m_blk 113 [(4, vi i), (3, vi e9), (0, vr 0 0), (1, vi p), (2, vi w)] [vr 0 0, vi z36, vi e9] C f_q_told_112_1 rfl ?_
                      refine m_getr C e_q_told_113 fg_Mo_24 rfl (by decide) rfl ?_
                      refine m_blk 117 [(4, vi i), (3, vi e9), (0, vr 0 0), (1, vi p), (2, vi w)] [vi p, vr 15 0, vi z36, vi e9] C f_q_told_116_1 rfl ?_
                      refine m_aald C p.toNat e_q_told_117 rfl rfl rfl (by decide) (by decide) (by omega) (by show p < ((6 : Nat) : Int); omega) (mz _ _) ?_
                      refine m_blk 120 [(4, vi i), (3, vi e9), (0, vr 0 0), (1, vi p), (2, vi w)] [vi i, vr 35 p.toNat, vi z36, vi e9] C f_q_told_118_1 rfl ?_
                      obtain ⟨x37, hx37⟩ : ∃ x, A 35 p.toNat i.toNat = x := ⟨_, rfl⟩
                      have rx37 : (-1) ≤ x37 ∧ x37 ≤ 5 := mrg hT hx37 rfl
                      refine m_iald C e_q_told_120 rfl (by omega) (by decide) (by omega) (by show i < ((16 : Nat) : Int); omega) x37 hx37 ?_
                      refine m_blk 122 [(4, vi i), (3, vi e9), (0, vr 0 0), (1, vi p), (2, vi w)] [vi (-1), vi x37, vi z36, vi e9] C f_q_told_121_1 rfl ?_
                      refine m_icmp_ne (tgt := 129) C e_q_told_122 (by decide) (by omega) (by decide) (fun c38 => ?_) (fun c38 => ?_)
                      · refine m_blk 131 [(4, vi i), (3, vi e9), (0, vr 0 0), (1, vi p), (2, vi w)] [vr 0 0, vi 1, vi z36, vi e9] C f_q_told_129_2 rfl ?_
                        refine m_getr C e_q_told_131 fg_Mo_24 rfl (by decide) rfl ?_
                        refine m_blk 135 [(4, vi i), (3, vi e9), (0, vr 0 0), (1, vi p), (2, vi w)] [vi p, vr 15 0, vi 1, vi z36, vi e9] C f_q_told_134_1 rfl ?_
                        refine m_aald C p.toNat e_q_told_135 rfl rfl rfl (by decide) (by decide) (by omega) (by show p < ((6 : Nat) : Int); omega) (mz _ _) ?_
                        refine m_blk 138 [(4, vi i), (3, vi e9), (0, vr 0 0), (1, vi p), (2, vi w)] [vi i, vr 35 p.toNat, vi 1, vi z36, vi e9] C f_q_told_136_1 rfl ?_
                        refine m_iald C e_q_told_138 rfl (by omega) (by decide) (by omega) (by show i < ((16 : Nat) : Int); omega) x37 hx37 ?_
                        refine m_blk 142 [(4, vi i), (3, vi e9), (0, vr 0 0), (1, vi p), (2, vi w)] [vi (iOr e9 (iOr z36 (iShl 1 x37)))] C f_q_told_139_3 rfl ?_
                        refine m_nrm (fun y39 hy39 => ?_)
                        refine m_blk 86 [(4, vi (i + 1)), (3, vi y39), (0, vr 0 0), (1, vi p), (2, vi w)] [] C f_q_told_142_3 rfl ?_
                        refine m_loc [(4, vi (i + 1)), (3, vi y39), (0, vr 0 0), (1, vi p), (2, vi w)] ⟨rfl, rfl, rfl, rfl, rfl, trivial⟩ ?_
                        exact ih86 (i + 1) y39 (by show 0 ≤ (i + 1) ∧ (i + 1) ≤ 16; omega) (by show -2147483648 ≤ y39 ∧ y39 ≤ 2147483647; omega) (by show (40 - (i + 1)) < _; omega)
                      · refine m_blk 140 [(4, vi i), (3, vi e9), (0, vr 0 0), (1, vi p), (2, vi w)] [vi 0, vi z36, vi e9] C f_q_told_125_2 rfl ?_
                        refine m_blk 142 [(4, vi i), (3, vi e9), (0, vr 0 0), (1, vi p), (2, vi w)] [vi (iOr e9 (iOr z36 0))] C f_q_told_140_2 rfl ?_
                        refine m_nrm (fun y40 hy40 => ?_)
                        refine m_blk 86 [(4, vi (i + 1)), (3, vi y40), (0, vr 0 0), (1, vi p), (2, vi w)] [] C f_q_told_142_3 rfl ?_
                        refine m_loc [(4, vi (i + 1)), (3, vi y40), (0, vr 0 0), (1, vi p), (2, vi w)] ⟨rfl, rfl, rfl, rfl, rfl, trivial⟩ ?_
                        exact ih86 (i + 1) y40 (by show 0 ≤ (i + 1) ∧ (i + 1) ≤ 16; omega) (by show -2147483648 ≤ y40 ∧ y40 ≤ 2147483647; omega) (by show (40 - (i + 1)) < _; omega)
                refine m_loc [(4, vi 0), (3, vi 0), (0, vr 0 0), (1, vi p), (2, vi w)] ⟨rfl, rfl, rfl, rfl, rfl, trivial⟩ ?_
                exact hd_86 (Int.toNat ((40 - 0)) + 1) 0 0 (by show 0 ≤ 0 ∧ 0 ≤ 16; omega) (by show -2147483648 ≤ 0 ∧ 0 ≤ 2147483647; omega) (by show (40 - 0) < _; omega)
            · refine m_blk 70 [(0, vr 0 0), (1, vi p), (2, vi w)] [vr 0 0] C f_q_told_69_1 rfl ?_
              refine m_getr C e_q_told_70 fg_Mo_16 rfl (by decide) rfl ?_
              refine m_blk 74 [(0, vr 0 0), (1, vi p), (2, vi w)] [vi p, vr 7 0] C f_q_told_73_1 rfl ?_
              obtain ⟨x41, hx41⟩ : ∃ x, A 7 0 p.toNat = x := ⟨_, rfl⟩
              have rx41 : (-2147483648) ≤ x41 ∧ x41 ≤ 2147483647 := mrg hT hx41 rfl
              refine m_iald C e_q_told_74 rfl (by decide) (by decide) (by omega) (by show p < ((6 : Nat) : Int); omega) x41 hx41 ?_
              exact m_iret C Rm E e_q_told_75 ⟨x41, rfl, hT, hE0, (by show -2147483648 ≤ x41 ∧ x41 ≤ 2147483647; omega), (hI.rm0 hE0 hI.2.2)⟩
          · refine m_blk 51 [(0, vr 0 0), (1, vi p), (2, vi w)] [vi p, vr 0 0] C f_q_told_49_2 rfl ?_
            refine m_callV C Rm Y [vi p] [] ((q_sees_ 6) l D B H0 ad _ hT p (hI.ok (by omega)) (by show 0 ≤ p ∧ p ≤ 5 ∧ p < ((6 : Nat) : Int); omega)) cl_Mo_303 rfl (by decide) rfl rfl e_q_told_51 rfl rfl rfl ⟨by decide, by decide⟩ ?_
            rintro v42 A43 ⟨z46, rfl, rfl, raw_hz_n45⟩
            have hz_n45 : z46 = 0 ∨ z46 = 1 := raw_hz_n45
            clear raw_hz_n45
            show JM g D ad w0 A 54 [(0, vr 0 0), (1, vi p), (2, vi w)] [vi z46]
            refine m_if_eq (tgt := 61) C e_q_told_54 (by decide) (by omega) (fun c47 => ?_) (fun c47 => ?_)
            · refine m_blk 62 [(0, vr 0 0), (1, vi p), (2, vi w)] [vi 0] C f_q_told_61_1 rfl ?_
              exact m_iret C Rm E e_q_told_62 ⟨0, rfl, hT, hE0, (by show -2147483648 ≤ 0 ∧ 0 ≤ 2147483647; omega), (hI.rm0 hE0 hI.2.2)⟩
            · refine m_blk 62 [(0, vr 0 0), (1, vi p), (2, vi w)] [vi 1] C f_q_told_57_2 rfl ?_
              exact m_iret C Rm E e_q_told_62 ⟨1, rfl, hT, hE0, (by show -2147483648 ≤ 1 ∧ 1 ≤ 2147483647; omega), (hI.rm0 hE0 hI.2.2)⟩
        · refine m_blk 38 [(0, vr 0 0), (1, vi p), (2, vi w)] [vr 0 0] C f_q_told_37_1 rfl ?_
          refine m_getr C e_q_told_38 fg_Mo_13 rfl (by decide) rfl ?_
          refine m_blk 42 [(0, vr 0 0), (1, vi p), (2, vi w)] [vi p, vr 6 0] C f_q_told_41_1 rfl ?_
          obtain ⟨x48, hx48⟩ : ∃ x, A 6 0 p.toNat = x := ⟨_, rfl⟩
          have rx48 : (-2147483648) ≤ x48 ∧ x48 ≤ 2147483647 := mrg hT hx48 rfl
          refine m_iald C e_q_told_42 rfl (by decide) (by decide) (by omega) (by show p < ((6 : Nat) : Int); omega) x48 hx48 ?_
          exact m_iret C Rm E e_q_told_43 ⟨x48, rfl, hT, hE0, (by show -2147483648 ≤ x48 ∧ x48 ≤ 2147483647; omega), (hI.rm0 hE0 hI.2.2)⟩
      · refine m_blk 26 [(0, vr 0 0), (1, vi p), (2, vi w)] [vr 0 0] C f_q_told_25_1 rfl ?_
        refine m_getr C e_q_told_26 fg_Mo_9 rfl (by decide) rfl ?_
        refine m_blk 30 [(0, vr 0 0), (1, vi p), (2, vi w)] [vi p, vr 5 0] C f_q_told_29_1 rfl ?_
        obtain ⟨x49, hx49⟩ : ∃ x, A 5 0 p.toNat = x := ⟨_, rfl⟩
        have rx49 : 0 ≤ x49 ∧ x49 ≤ 16 := mrg hT hx49 rfl
        refine m_iald C e_q_told_30 rfl (by decide) (by decide) (by omega) (by show p < ((6 : Nat) : Int); omega) x49 hx49 ?_
        exact m_iret C Rm E e_q_told_31 ⟨x49, rfl, hT, hE0, (by show -2147483648 ≤ x49 ∧ x49 ≤ 2147483647; omega), (hI.rm0 hE0 hI.2.2)⟩
    · subst e_n10
      refine m_if_ne (tgt := 21) C e_q_told_15 (by decide) (by decide) (fun c50 => (by omega : False).elim) (fun c50 => ?_)
      refine m_blk 20 [(0, vr 0 0), (1, vi p), (2, vi w)] [vi (-2)] C f_q_told_18_1 rfl ?_
      exact m_iret C Rm E e_q_told_20 ⟨(-2), rfl, hT, hE0, (by show -2147483648 ≤ (-2) ∧ (-2) ≤ 2147483647; omega), (hI.rm0 hE0 hI.2.2)⟩
  · subst e_n4
    clear hz_n4
    refine m_if_eq (tgt := 18) C e_q_told_5 (by decide) (by decide) (fun c51 => ?_) (fun c51 => (by omega : False).elim)
    refine m_blk 20 [(0, vr 0 0), (1, vi p), (2, vi w)] [vi (-2)] C f_q_told_18_1 rfl ?_
    exact m_iret C Rm E e_q_told_20 ⟨(-2), rfl, hT, hE0, (by show -2147483648 ≤ (-2) ∧ (-2) ≤ 2147483647; omega), (hI.rm0 hE0 hI.2.2)⟩

theorem f_q_stepF_0_2 : mblkB b_Mo_step_1 [(0, .aload_n 0, vi 0), (1, .iload_n 1, vi 0)] = true := by decide +kernel
theorem e_q_stepF_2 : decode b_Mo_step_1 2 = .ok (.invokevirtual 364, 3) := by decide +kernel
theorem e_q_stepF_5 : decode b_Mo_step_1 5 = .ok (.ifCond .eq 12, 3) := by decide +kernel
theorem f_q_stepF_8_3 : mblkB b_Mo_step_1 [(8, .iload_n 3, vi 0), (9, .iconst 0, vi 0), (10, .iconst 5, vi 5)] = true := by decide +kernel
theorem e_q_stepF_11 : decode b_Mo_step_1 11 = .ok (.invokestatic 108, 3) := by decide +kernel
theorem e_q_stepF_14 : decode b_Mo_step_1 14 = .ok (.ifCond .ne 6, 3) := by decide +kernel
theorem f_q_stepF_20_3 : mblkB b_Mo_step_1 [(20, .iload_n 2, vi 0), (21, .iconst 0, vi 0), (22, .aload_n 0, vi 0)] = true := by decide +kernel
theorem e_q_stepF_23 : decode b_Mo_step_1 23 = .ok (.getfield 9, 3) := by decide +kernel
theorem f_q_stepF_26_1 : mblkB b_Mo_step_1 [(26, .iload_n 1, vi 0)] = true := by decide +kernel
theorem e_q_stepF_27 : decode b_Mo_step_1 27 = .ok (.iaload, 1) := by decide +kernel
theorem f_q_stepF_28_2 : mblkB b_Mo_step_1 [(28, .iconst 1, vi 1), (29, .isub, vi 0)] = true := by decide +kernel
theorem e_q_stepF_30 : decode b_Mo_step_1 30 = .ok (.invokestatic 108, 3) := by decide +kernel
theorem e_q_stepF_33 : decode b_Mo_step_1 33 = .ok (.ifCond .ne 6, 3) := by decide +kernel
theorem f_q_stepF_39_1 : mblkB b_Mo_step_1 [(39, .iload_n 3, vi 0)] = true := by decide +kernel
theorem e_q_stepF_40 : decode b_Mo_step_1 40 = .ok (.tableswitch 86 0 4 #[36, 45, 54, 65, 72], 36) := by decide +kernel
theorem f_q_stepF_76_1 : mblkB b_Mo_step_1 [(76, .aload_n 0, vi 0)] = true := by decide +kernel
theorem e_q_stepF_77 : decode b_Mo_step_1 77 = .ok (.getfield 21, 3) := by decide +kernel
theorem f_q_stepF_80_1 : mblkB b_Mo_step_1 [(80, .iload_n 1, vi 0)] = true := by decide +kernel
theorem e_q_stepF_81 : decode b_Mo_step_1 81 = .ok (.aaload, 1) := by decide +kernel
theorem f_q_stepF_82_1 : mblkB b_Mo_step_1 [(82, .iload_n 2, vi 0)] = true := by decide +kernel
theorem e_q_stepF_83 : decode b_Mo_step_1 83 = .ok (.iaload, 1) := by decide +kernel
theorem e_q_stepF_84 : decode b_Mo_step_1 84 = .ok (.ireturn, 1) := by decide +kernel
theorem f_q_stepF_85_1 : mblkB b_Mo_step_1 [(85, .aload_n 0, vi 0)] = true := by decide +kernel
theorem e_q_stepF_86 : decode b_Mo_step_1 86 = .ok (.getfield 24, 3) := by decide +kernel
theorem f_q_stepF_89_1 : mblkB b_Mo_step_1 [(89, .iload_n 1, vi 0)] = true := by decide +kernel
theorem e_q_stepF_90 : decode b_Mo_step_1 90 = .ok (.aaload, 1) := by decide +kernel
theorem f_q_stepF_91_1 : mblkB b_Mo_step_1 [(91, .iload_n 2, vi 0)] = true := by decide +kernel
theorem e_q_stepF_92 : decode b_Mo_step_1 92 = .ok (.iaload, 1) := by decide +kernel
theorem e_q_stepF_93 : decode b_Mo_step_1 93 = .ok (.ireturn, 1) := by decide +kernel
theorem f_q_stepF_94_1 : mblkB b_Mo_step_1 [(94, .aload_n 0, vi 0)] = true := by decide +kernel
theorem e_q_stepF_95 : decode b_Mo_step_1 95 = .ok (.getfield 30, 3) := by decide +kernel
theorem f_q_stepF_98_1 : mblkB b_Mo_step_1 [(98, .iload_n 1, vi 0)] = true := by decide +kernel
theorem e_q_stepF_99 : decode b_Mo_step_1 99 = .ok (.aaload, 1) := by decide +kernel
theorem f_q_stepF_100_1 : mblkB b_Mo_step_1 [(100, .iload_n 2, vi 0)] = true := by decide +kernel
theorem e_q_stepF_101 : decode b_Mo_step_1 101 = .ok (.iaload, 1) := by decide +kernel
theorem f_q_stepF_102_2 : mblkB b_Mo_step_1 [(102, .iload_n 2, vi 0), (103, .isub, vi 0)] = true := by decide +kernel
theorem e_q_stepF_104 : decode b_Mo_step_1 104 = .ok (.ireturn, 1) := by decide +kernel
theorem f_q_stepF_105_3 : mblkB b_Mo_step_1 [(105, .aload_n 0, vi 0), (106, .iload_n 1, vi 0), (107, .iload_n 2, vi 0)] = true := by decide +kernel
theorem e_q_stepF_108 : decode b_Mo_step_1 108 = .ok (.invokevirtual 228, 3) := by decide +kernel
theorem e_q_stepF_111 : decode b_Mo_step_1 111 = .ok (.ireturn, 1) := by decide +kernel
theorem f_q_stepF_112_3 : mblkB b_Mo_step_1 [(112, .aload_n 0, vi 0), (113, .iload_n 1, vi 0), (114, .aload_n 0, vi 0)] = true := by decide +kernel
theorem e_q_stepF_115 : decode b_Mo_step_1 115 = .ok (.getfield 36, 3) := by decide +kernel
theorem f_q_stepF_118_1 : mblkB b_Mo_step_1 [(118, .iload_n 1, vi 0)] = true := by decide +kernel
theorem e_q_stepF_119 : decode b_Mo_step_1 119 = .ok (.aaload, 1) := by decide +kernel
theorem f_q_stepF_120_1 : mblkB b_Mo_step_1 [(120, .iload_n 2, vi 0)] = true := by decide +kernel
theorem e_q_stepF_121 : decode b_Mo_step_1 121 = .ok (.iaload, 1) := by decide +kernel
theorem e_q_stepF_122 : decode b_Mo_step_1 122 = .ok (.invokevirtual 266, 3) := by decide +kernel
theorem e_q_stepF_125 : decode b_Mo_step_1 125 = .ok (.ireturn, 1) := by decide +kernel
theorem f_q_stepF_126_1 : mblkB b_Mo_step_1 [(126, .aload_n 0, vi 0)] = true := by decide +kernel
theorem e_q_stepF_127 : decode b_Mo_step_1 127 = .ok (.getfield 27, 3) := by decide +kernel
theorem f_q_stepF_130_1 : mblkB b_Mo_step_1 [(130, .iload_n 1, vi 0)] = true := by decide +kernel
theorem e_q_stepF_131 : decode b_Mo_step_1 131 = .ok (.aaload, 1) := by decide +kernel
theorem f_q_stepF_132_1 : mblkB b_Mo_step_1 [(132, .iload_n 2, vi 0)] = true := by decide +kernel
theorem e_q_stepF_133 : decode b_Mo_step_1 133 = .ok (.iaload, 1) := by decide +kernel
theorem e_q_stepF_134 : decode b_Mo_step_1 134 = .ok (.ireturn, 1) := by decide +kernel
theorem f_q_stepF_36_1 : mblkB b_Mo_step_1 [(36, .bipush (-12), vi (-12))] = true := by decide +kernel
theorem e_q_stepF_38 : decode b_Mo_step_1 38 = .ok (.ireturn, 1) := by decide +kernel
theorem f_q_stepF_17_1 : mblkB b_Mo_step_1 [(17, .bipush (-2), vi (-2))] = true := by decide +kernel
theorem e_q_stepF_19 : decode b_Mo_step_1 19 = .ok (.ireturn, 1) := by decide +kernel
set_option maxHeartbeats 40000000 in
set_option maxRecDepth 100000 in
theorem q_stepF (l : Launch) (D : va_G) (B : Nat) (H0 : Heap) (ad : mAd) (A : mA) (hT : mTy A)  (p : Int) (i : Int) (w : Int) (hpr : -2147483648 ≤ p ∧ p ≤ 2147483647) (hir : -2147483648 ≤ i ∧ i ≤ 2147483647) (hwr : -2147483648 ≤ w ∧ w ≤ 2147483647) (hI : mI A)  : mMet l D B H0 ad y_Mo_step_1 b_Mo_step_1 4 (some .int) 910 23500 [vr 0 0, vi p, vi i, vi w] A (fun v9 A9 => ∃ z : Int, v9 = some (vi z) ∧ mTy A9 ∧ mEq (rm 0) A A9 ∧ (-2147483648 ≤ z ∧ z ≤ 2147483647) ∧ (mI A9)) := by
  refine m_met (by decide) rfl (fun g w0 C Rm Y E => ?_)
  have hE0 : mEq (rm 0) A A := mEq.rfl'
  show JM g D ad w0 A 0 [(0, vr 0 0), (1, vi p), (2, vi i), (3, vi w)] []
  have r0 : 0 ≤ A 0 0 0 ∧ A 0 0 0 ≤ 6 := hT 0 0 0
  refine m_blk 2 [(0, vr 0 0), (1, vi p), (2, vi i), (3, vi w)] [vi p, vr 0 0] C f_q_stepF_0_2 rfl ?_
  refine m_callV C Rm Y [vi p] [] (q_isProgram l D B H0 ad _ hT p (by show -2147483648 ≤ p ∧ p ≤ 2147483647; omega)) cl_Mo_364 rfl (by decide) rfl rfl e_q_stepF_2 rfl rfl rfl ⟨by decide, by decide⟩ ?_
  rintro v1 A2 ⟨z5, rfl, rfl, raw_hz_n4⟩
  show JM g D ad w0 A 5 [(0, vr 0 0), (1, vi p), (2, vi i), (3, vi w)] [vi z5]
  have hz_n4 : z5 = 1 ∧ 0 ≤ p ∧ p < A 0 0 0 ∨ z5 = 0 ∧ ¬ (0 ≤ p ∧ p < A 0 0 0) := raw_hz_n4
  clear raw_hz_n4
  rcases hz_n4 with ⟨e_n4, hz_n4⟩ | ⟨e_n4, hz_n4⟩
  · subst e_n4
    refine m_if_eq (tgt := 17) C e_q_stepF_5 (by decide) (by decide) (fun c6 => (by omega : False).elim) (fun c6 => ?_)
    refine m_blk 11 [(0, vr 0 0), (1, vi p), (2, vi i), (3, vi w)] [vi 5, vi 0, vi w] C f_q_stepF_8_3 rfl ?_
    refine m_callS C Rm Y [vi w, vi 0, vi 5] [] (q_in l D B H0 ad _ w 0 5 (by show -2147483648 ≤ w ∧ w ≤ 2147483647; omega) (by show -2147483648 ≤ 0 ∧ 0 ≤ 2147483647; omega) (by show -2147483648 ≤ 5 ∧ 5 ≤ 2147483647; omega)) cl_Mo_108 e_q_stepF_11 rfl rfl rfl ⟨by decide, by decide⟩ ?_
    rintro v7 A8 ⟨z11, rfl, rfl, raw_hz_n10⟩
    show JM g D ad w0 A 14 [(0, vr 0 0), (1, vi p), (2, vi i), (3, vi w)] [vi z11]
    have hz_n10 : z11 = 1 ∧ 0 ≤ w ∧ w ≤ 5 ∨ z11 = 0 ∧ ¬ (0 ≤ w ∧ w ≤ 5) := raw_hz_n10
    clear raw_hz_n10
    rcases hz_n10 with ⟨e_n10, hz_n10⟩ | ⟨e_n10, hz_n10⟩
    · subst e_n10
      refine m_if_ne (tgt := 20) C e_q_stepF_14 (by decide) (by decide) (fun c12 => ?_) (fun c12 => (by omega : False).elim)
      obtain ⟨M, Ln, dep, hK⟩ := (hI.ok (p := p) (by omega)).at (p := p) (by omega) (by omega)
      obtain ⟨N, hN⟩ : ∃ x, A 5 0 p.toNat = x := ⟨_, rfl⟩
      rw [hN] at hK
      have hr9 := hK.rng
      refine m_blk 23 [(0, vr 0 0), (1, vi p), (2, vi i), (3, vi w)] [vr 0 0, vi 0, vi i] C f_q_stepF_20_3 rfl ?_
      refine m_getr C e_q_stepF_23 fg_Mo_9 rfl (by decide) rfl ?_
      refine m_blk 27 [(0, vr 0 0), (1, vi p), (2, vi i), (3, vi w)] [vi p, vr 5 0, vi 0, vi i] C f_q_stepF_26_1 rfl ?_
      obtain ⟨x13, hx13⟩ : ∃ x, A 5 0 p.toNat = x := ⟨_, rfl⟩
      have rx13 : 0 ≤ x13 ∧ x13 ≤ 16 := mrg hT hx13 rfl
      refine m_iald C e_q_stepF_27 rfl (by decide) (by decide) (by omega) (by show p < ((6 : Nat) : Int); omega) x13 hx13 ?_
      refine m_blk 30 [(0, vr 0 0), (1, vi p), (2, vi i), (3, vi w)] [vi (x13 - 1), vi 0, vi i] C f_q_stepF_28_2 rfl ?_
      refine m_callS C Rm Y [vi i, vi 0, vi (x13 - 1)] [] (q_in l D B H0 ad _ i 0 (x13 - 1) (by show -2147483648 ≤ i ∧ i ≤ 2147483647; omega) (by show -2147483648 ≤ 0 ∧ 0 ≤ 2147483647; omega) (by show -2147483648 ≤ (x13 - 1) ∧ (x13 - 1) ≤ 2147483647; omega)) cl_Mo_108 e_q_stepF_30 rfl rfl rfl ⟨by decide, by decide⟩ ?_
      rintro v14 A15 ⟨z18, rfl, rfl, raw_hz_n17⟩
      show JM g D ad w0 A 33 [(0, vr 0 0), (1, vi p), (2, vi i), (3, vi w)] [vi z18]
      have hz_n17 : z18 = 1 ∧ 0 ≤ i ∧ i ≤ (x13 - 1) ∨ z18 = 0 ∧ ¬ (0 ≤ i ∧ i ≤ (x13 - 1)) := raw_hz_n17
      clear raw_hz_n17
      rcases hz_n17 with ⟨e_n17, hz_n17⟩ | ⟨e_n17, hz_n17⟩
      · subst e_n17
        refine m_if_ne (tgt := 39) C e_q_stepF_33 (by decide) (by decide) (fun c19 => ?_) (fun c19 => (by omega : False).elim)
        have hs9 := hK.at (i := i) (by omega) (by omega)
        have ht9 := hs9.tp
        refine m_blk 40 [(0, vr 0 0), (1, vi p), (2, vi i), (3, vi w)] [vi w] C f_q_stepF_39_1 rfl ?_
        by_cases c20 : w = 0
        · refine m_tabIn (tgt := 76) C e_q_stepF_40 (by omega) (by omega) (by omega) (by rw [c20]; rfl) (by decide) ?_
          refine m_blk 77 [(0, vr 0 0), (1, vi p), (2, vi i), (3, vi w)] [vr 0 0] C f_q_stepF_76_1 rfl ?_
          refine m_getr C e_q_stepF_77 fg_Mo_21 rfl (by decide) rfl ?_
          refine m_blk 81 [(0, vr 0 0), (1, vi p), (2, vi i), (3, vi w)] [vi p, vr 14 0] C f_q_stepF_80_1 rfl ?_
          refine m_aald C p.toNat e_q_stepF_81 rfl rfl rfl (by decide) (by decide) (by omega) (by show p < ((6 : Nat) : Int); omega) (mz _ _) ?_
          refine m_blk 83 [(0, vr 0 0), (1, vi p), (2, vi i), (3, vi w)] [vi i, vr 34 p.toNat] C f_q_stepF_82_1 rfl ?_
          obtain ⟨x21, hx21⟩ : ∃ x, A 34 p.toNat i.toNat = x := ⟨_, rfl⟩
          have rx21 : (-1) ≤ x21 ∧ x21 ≤ 255 := mrg hT hx21 rfl
          refine m_iald C e_q_stepF_83 rfl (by omega) (by decide) (by omega) (by show i < ((16 : Nat) : Int); omega) x21 hx21 ?_
          exact m_iret C Rm E e_q_stepF_84 ⟨x21, rfl, hT, hE0, (by show -2147483648 ≤ x21 ∧ x21 ≤ 2147483647; omega), (hI.rm0 hE0 hI.2.2)⟩
        by_cases c22 : w = 1
        · refine m_tabIn (tgt := 85) C e_q_stepF_40 (by omega) (by omega) (by omega) (by rw [c22]; rfl) (by decide) ?_
          refine m_blk 86 [(0, vr 0 0), (1, vi p), (2, vi i), (3, vi w)] [vr 0 0] C f_q_stepF_85_1 rfl ?_
          refine m_getr C e_q_stepF_86 fg_Mo_24 rfl (by decide) rfl ?_
          refine m_blk 90 [(0, vr 0 0), (1, vi p), (2, vi i), (3, vi w)] [vi p, vr 15 0] C f_q_stepF_89_1 rfl ?_
          refine m_aald C p.toNat e_q_stepF_90 rfl rfl rfl (by decide) (by decide) (by omega) (by show p < ((6 : Nat) : Int); omega) (mz _ _) ?_
          refine m_blk 92 [(0, vr 0 0), (1, vi p), (2, vi i), (3, vi w)] [vi i, vr 35 p.toNat] C f_q_stepF_91_1 rfl ?_
          obtain ⟨x23, hx23⟩ : ∃ x, A 35 p.toNat i.toNat = x := ⟨_, rfl⟩
          have rx23 : (-1) ≤ x23 ∧ x23 ≤ 5 := mrg hT hx23 rfl
          refine m_iald C e_q_stepF_92 rfl (by omega) (by decide) (by omega) (by show i < ((16 : Nat) : Int); omega) x23 hx23 ?_
          exact m_iret C Rm E e_q_stepF_93 ⟨x23, rfl, hT, hE0, (by show -2147483648 ≤ x23 ∧ x23 ≤ 2147483647; omega), (hI.rm0 hE0 hI.2.2)⟩
        by_cases c24 : w = 2
        · refine m_tabIn (tgt := 94) C e_q_stepF_40 (by omega) (by omega) (by omega) (by rw [c24]; rfl) (by decide) ?_
          refine m_blk 95 [(0, vr 0 0), (1, vi p), (2, vi i), (3, vi w)] [vr 0 0] C f_q_stepF_94_1 rfl ?_
          refine m_getr C e_q_stepF_95 fg_Mo_30 rfl (by decide) rfl ?_
          refine m_blk 99 [(0, vr 0 0), (1, vi p), (2, vi i), (3, vi w)] [vi p, vr 17 0] C f_q_stepF_98_1 rfl ?_
          refine m_aald C p.toNat e_q_stepF_99 rfl rfl rfl (by decide) (by decide) (by omega) (by show p < ((6 : Nat) : Int); omega) (mz _ _) ?_
          refine m_blk 101 [(0, vr 0 0), (1, vi p), (2, vi i), (3, vi w)] [vi i, vr 37 p.toNat] C f_q_stepF_100_1 rfl ?_
          obtain ⟨x25, hx25⟩ : ∃ x, A 37 p.toNat i.toNat = x := ⟨_, rfl⟩
          have rx25 : 0 ≤ x25 ∧ x25 ≤ 16 := mrg hT hx25 rfl
          refine m_iald C e_q_stepF_101 rfl (by omega) (by decide) (by omega) (by show i < ((16 : Nat) : Int); omega) x25 hx25 ?_
          refine m_blk 104 [(0, vr 0 0), (1, vi p), (2, vi i), (3, vi w)] [vi (x25 - i)] C f_q_stepF_102_2 rfl ?_
          refine m_nrm (fun y26 hy26 => ?_)
          exact m_iret C Rm E e_q_stepF_104 ⟨y26, rfl, hT, hE0, (by show -2147483648 ≤ y26 ∧ y26 ≤ 2147483647; omega), (hI.rm0 hE0 hI.2.2)⟩
        by_cases c27 : w = 3
        · refine m_tabIn (tgt := 105) C e_q_stepF_40 (by omega) (by omega) (by omega) (by rw [c27]; rfl) (by decide) ?_
          refine m_blk 108 [(0, vr 0 0), (1, vi p), (2, vi i), (3, vi w)] [vi i, vi p, vr 0 0] C f_q_stepF_105_3 rfl ?_
          refine m_callV C Rm Y [vi p, vi i] [] ((q_bitsOf_ 16).2 l D B H0 ad _ hT N M Ln dep p i (by show 0 ≤ p ∧ p ≤ 5; omega) hK (by show 0 ≤ i ∧ i < N ∧ 16 - i ≤ ((16 : Nat) : Int); omega)) cl_Mo_228 rfl (by decide) rfl rfl e_q_stepF_108 rfl rfl rfl ⟨by decide, by decide⟩ ?_
          rintro v28 A29 ⟨z32, rfl, rfl, raw_hz_n31⟩
          have hz_n31 : -2147483648 ≤ z32 ∧ z32 ≤ 2147483647 := raw_hz_n31
          clear raw_hz_n31
          show JM g D ad w0 A 111 [(0, vr 0 0), (1, vi p), (2, vi i), (3, vi w)] [vi z32]
          exact m_iret C Rm E e_q_stepF_111 ⟨z32, rfl, hT, hE0, (by show -2147483648 ≤ z32 ∧ z32 ≤ 2147483647; omega), (hI.rm0 hE0 hI.2.2)⟩
        by_cases c33 : w = 4
        · refine m_tabIn (tgt := 112) C e_q_stepF_40 (by omega) (by omega) (by omega) (by rw [c33]; rfl) (by decide) ?_
          refine m_blk 115 [(0, vr 0 0), (1, vi p), (2, vi i), (3, vi w)] [vr 0 0, vi p, vr 0 0] C f_q_stepF_112_3 rfl ?_
          refine m_getr C e_q_stepF_115 fg_Mo_36 rfl (by decide) rfl ?_
          refine m_blk 119 [(0, vr 0 0), (1, vi p), (2, vi i), (3, vi w)] [vi p, vr 19 0, vi p, vr 0 0] C f_q_stepF_118_1 rfl ?_
          refine m_aald C p.toNat e_q_stepF_119 rfl rfl rfl (by decide) (by decide) (by omega) (by show p < ((6 : Nat) : Int); omega) (mz _ _) ?_
          refine m_blk 121 [(0, vr 0 0), (1, vi p), (2, vi i), (3, vi w)] [vi i, vr 39 p.toNat, vi p, vr 0 0] C f_q_stepF_120_1 rfl ?_
          obtain ⟨x34, hx34⟩ : ∃ x, A 39 p.toNat i.toNat = x := ⟨_, rfl⟩
          have rx34 : (-1) ≤ x34 ∧ x34 ≤ 119 := mrg hT hx34 rfl
          refine m_iald C e_q_stepF_121 rfl (by omega) (by decide) (by omega) (by show i < ((16 : Nat) : Int); omega) x34 hx34 ?_
          refine m_callV C Rm Y [vi p, vi x34] [] ((q_namesIn_ 120) l D B H0 ad _ hT M p x34 hK.2.2.2.2 (by show 0 ≤ p ∧ p ≤ 5 ∧ M ≤ 120; omega) (by show -1 ≤ x34 ∧ x34 < M ∧ x34 < ((120 : Nat) : Int); omega)) cl_Mo_266 rfl (by decide) rfl rfl e_q_stepF_122 rfl rfl rfl ⟨by decide, by decide⟩ ?_
          rintro v35 A36 ⟨z39, rfl, rfl, raw_hz_n38⟩
          have hz_n38 : -2147483648 ≤ z39 ∧ z39 ≤ 2147483647 := raw_hz_n38
          clear raw_hz_n38
          show JM g D ad w0 A 125 [(0, vr 0 0), (1, vi p), (2, vi i), (3, vi w)] [vi z39]
          exact m_iret C Rm E e_q_stepF_125 ⟨z39, rfl, hT, hE0, (by show -2147483648 ≤ z39 ∧ z39 ≤ 2147483647; omega), (hI.rm0 hE0 hI.2.2)⟩
        refine m_tabOut (tgt := 126) C e_q_stepF_40 (by omega) (by omega) (by decide) ?_
        refine m_blk 127 [(0, vr 0 0), (1, vi p), (2, vi i), (3, vi w)] [vr 0 0] C f_q_stepF_126_1 rfl ?_
        refine m_getr C e_q_stepF_127 fg_Mo_27 rfl (by decide) rfl ?_
        refine m_blk 131 [(0, vr 0 0), (1, vi p), (2, vi i), (3, vi w)] [vi p, vr 16 0] C f_q_stepF_130_1 rfl ?_
        refine m_aald C p.toNat e_q_stepF_131 rfl rfl rfl (by decide) (by decide) (by omega) (by show p < ((6 : Nat) : Int); omega) (mz _ _) ?_
        refine m_blk 133 [(0, vr 0 0), (1, vi p), (2, vi i), (3, vi w)] [vi i, vr 36 p.toNat] C f_q_stepF_132_1 rfl ?_
        obtain ⟨x40, hx40⟩ : ∃ x, A 36 p.toNat i.toNat = x := ⟨_, rfl⟩
        have rx40 : (-1) ≤ x40 ∧ x40 ≤ 9 := mrg hT hx40 rfl
        refine m_iald C e_q_stepF_133 rfl (by omega) (by decide) (by omega) (by show i < ((16 : Nat) : Int); omega) x40 hx40 ?_
        exact m_iret C Rm E e_q_stepF_134 ⟨x40, rfl, hT, hE0, (by show -2147483648 ≤ x40 ∧ x40 ≤ 2147483647; omega), (hI.rm0 hE0 hI.2.2)⟩
      · subst e_n17
        refine m_if_ne (tgt := 39) C e_q_stepF_33 (by decide) (by decide) (fun c41 => (by omega : False).elim) (fun c41 => ?_)
        refine m_blk 38 [(0, vr 0 0), (1, vi p), (2, vi i), (3, vi w)] [vi (-12)] C f_q_stepF_36_1 rfl ?_
        exact m_iret C Rm E e_q_stepF_38 ⟨(-12), rfl, hT, hE0, (by show -2147483648 ≤ (-12) ∧ (-12) ≤ 2147483647; omega), (hI.rm0 hE0 hI.2.2)⟩
    · subst e_n10
      refine m_if_ne (tgt := 20) C e_q_stepF_14 (by decide) (by decide) (fun c42 => (by omega : False).elim) (fun c42 => ?_)
      refine m_blk 19 [(0, vr 0 0), (1, vi p), (2, vi i), (3, vi w)] [vi (-2)] C f_q_stepF_17_1 rfl ?_
      exact m_iret C Rm E e_q_stepF_19 ⟨(-2), rfl, hT, hE0, (by show -2147483648 ≤ (-2) ∧ (-2) ≤ 2147483647; omega), (hI.rm0 hE0 hI.2.2)⟩
  · subst e_n4
    clear hz_n4
    refine m_if_eq (tgt := 17) C e_q_stepF_5 (by decide) (by decide) (fun c43 => ?_) (fun c43 => (by omega : False).elim)
    refine m_blk 19 [(0, vr 0 0), (1, vi p), (2, vi i), (3, vi w)] [vi (-2)] C f_q_stepF_17_1 rfl ?_
    exact m_iret C Rm E e_q_stepF_19 ⟨(-2), rfl, hT, hE0, (by show -2147483648 ≤ (-2) ∧ (-2) ≤ 2147483647; omega), (hI.rm0 hE0 hI.2.2)⟩

theorem f_q_takenF_0_2 : mblkB b_Mo_taken_1 [(0, .aload_n 0, vi 0), (1, .iload_n 1, vi 0)] = true := by decide +kernel
theorem e_q_takenF_2 : decode b_Mo_taken_1 2 = .ok (.invokevirtual 364, 3) := by decide +kernel
theorem e_q_takenF_5 : decode b_Mo_taken_1 5 = .ok (.ifCond .eq 12, 3) := by decide +kernel
theorem f_q_takenF_8_3 : mblkB b_Mo_taken_1 [(8, .iload_n 3, vi 0), (9, .iconst 0, vi 0), (10, .iconst 2, vi 2)] = true := by decide +kernel
theorem e_q_takenF_11 : decode b_Mo_taken_1 11 = .ok (.invokestatic 108, 3) := by decide +kernel
theorem e_q_takenF_14 : decode b_Mo_taken_1 14 = .ok (.ifCond .ne 6, 3) := by decide +kernel
theorem f_q_takenF_20_3 : mblkB b_Mo_taken_1 [(20, .iload_n 2, vi 0), (21, .iconst 0, vi 0), (22, .aload_n 0, vi 0)] = true := by decide +kernel
theorem e_q_takenF_23 : decode b_Mo_taken_1 23 = .ok (.getfield 9, 3) := by decide +kernel
theorem f_q_takenF_26_1 : mblkB b_Mo_taken_1 [(26, .iload_n 1, vi 0)] = true := by decide +kernel
theorem e_q_takenF_27 : decode b_Mo_taken_1 27 = .ok (.iaload, 1) := by decide +kernel
theorem f_q_takenF_28_2 : mblkB b_Mo_taken_1 [(28, .iconst 1, vi 1), (29, .isub, vi 0)] = true := by decide +kernel
theorem e_q_takenF_30 : decode b_Mo_taken_1 30 = .ok (.invokestatic 108, 3) := by decide +kernel
theorem e_q_takenF_33 : decode b_Mo_taken_1 33 = .ok (.ifCond .ne 6, 3) := by decide +kernel
theorem f_q_takenF_39_1 : mblkB b_Mo_taken_1 [(39, .aload_n 0, vi 0)] = true := by decide +kernel
theorem e_q_takenF_40 : decode b_Mo_taken_1 40 = .ok (.getfield 21, 3) := by decide +kernel
theorem f_q_takenF_43_1 : mblkB b_Mo_taken_1 [(43, .iload_n 1, vi 0)] = true := by decide +kernel
theorem e_q_takenF_44 : decode b_Mo_taken_1 44 = .ok (.aaload, 1) := by decide +kernel
theorem f_q_takenF_45_1 : mblkB b_Mo_taken_1 [(45, .iload_n 2, vi 0)] = true := by decide +kernel
theorem e_q_takenF_46 : decode b_Mo_taken_1 46 = .ok (.iaload, 1) := by decide +kernel
theorem f_q_takenF_47_2 : mblkB b_Mo_taken_1 [(47, .istore 4, vi 0), (49, .iload_n 3, vi 0)] = true := by decide +kernel
theorem e_q_takenF_50 : decode b_Mo_taken_1 50 = .ok (.ifCond .ne 23, 3) := by decide +kernel
theorem f_q_takenF_73_2 : mblkB b_Mo_taken_1 [(73, .iload_n 3, vi 0), (74, .iconst 1, vi 1)] = true := by decide +kernel
theorem e_q_takenF_75 : decode b_Mo_taken_1 75 = .ok (.if_icmp .ne 23, 3) := by decide +kernel
theorem f_q_takenF_98_1 : mblkB b_Mo_taken_1 [(98, .iload 4, vi 0)] = true := by decide +kernel
theorem e_q_takenF_100 : decode b_Mo_taken_1 100 = .ok (.ifCond .eq 13, 3) := by decide +kernel
theorem f_q_takenF_113_3 : mblkB b_Mo_taken_1 [(113, .iconst 0, vi 0), (114, .istore 5, vi 0), (116, .iload 5, vi 0)] = true := by decide +kernel
theorem e_q_takenF_118 : decode b_Mo_taken_1 118 = .ok (.ifCond .eq 8, 3) := by decide +kernel
theorem f_q_takenF_126_1 : mblkB b_Mo_taken_1 [(126, .bipush (-13), vi (-13))] = true := by decide +kernel
theorem e_q_takenF_128 : decode b_Mo_taken_1 128 = .ok (.ireturn, 1) := by decide +kernel
theorem f_q_takenF_103_2 : mblkB b_Mo_taken_1 [(103, .iload 4, vi 0), (105, .iconst 4, vi 4)] = true := by decide +kernel
theorem e_q_takenF_106 : decode b_Mo_taken_1 106 = .ok (.if_icmp .eq 7, 3) := by decide +kernel
theorem f_q_takenF_109_2 : mblkB b_Mo_taken_1 [(109, .iconst 1, vi 1), (110, .goto 4, vi 114)] = true := by decide +kernel
theorem f_q_takenF_114_2 : mblkB b_Mo_taken_1 [(114, .istore 5, vi 0), (116, .iload 5, vi 0)] = true := by decide +kernel
theorem f_q_takenF_121_2 : mblkB b_Mo_taken_1 [(121, .iload 4, vi 0), (123, .goto 5, vi 128)] = true := by decide +kernel
theorem f_q_takenF_78_2 : mblkB b_Mo_taken_1 [(78, .iload 4, vi 0), (80, .iconst 3, vi 3)] = true := by decide +kernel
theorem e_q_takenF_81 : decode b_Mo_taken_1 81 = .ok (.if_icmp .eq 9, 3) := by decide +kernel
theorem f_q_takenF_90_2 : mblkB b_Mo_taken_1 [(90, .iconst 1, vi 1), (91, .goto 23, vi 114)] = true := by decide +kernel
theorem f_q_takenF_84_2 : mblkB b_Mo_taken_1 [(84, .iload 4, vi 0), (86, .iconst 4, vi 4)] = true := by decide +kernel
theorem e_q_takenF_87 : decode b_Mo_taken_1 87 = .ok (.if_icmp .ne 7, 3) := by decide +kernel
theorem f_q_takenF_94_2 : mblkB b_Mo_taken_1 [(94, .iconst 0, vi 0), (95, .goto 19, vi 114)] = true := by decide +kernel
theorem f_q_takenF_53_2 : mblkB b_Mo_taken_1 [(53, .iload 4, vi 0), (55, .iconst 2, vi 2)] = true := by decide +kernel
theorem e_q_takenF_56 : decode b_Mo_taken_1 56 = .ok (.if_icmp .lt 9, 3) := by decide +kernel
theorem f_q_takenF_65_2 : mblkB b_Mo_taken_1 [(65, .iconst 1, vi 1), (66, .goto 48, vi 114)] = true := by decide +kernel
theorem f_q_takenF_59_2 : mblkB b_Mo_taken_1 [(59, .iload 4, vi 0), (61, .iconst 5, vi 5)] = true := by decide +kernel
theorem e_q_takenF_62 : decode b_Mo_taken_1 62 = .ok (.if_icmp .ne 7, 3) := by decide +kernel
theorem f_q_takenF_69_2 : mblkB b_Mo_taken_1 [(69, .iconst 0, vi 0), (70, .goto 44, vi 114)] = true := by decide +kernel
theorem f_q_takenF_36_1 : mblkB b_Mo_taken_1 [(36, .bipush (-12), vi (-12))] = true := by decide +kernel
theorem e_q_takenF_38 : decode b_Mo_taken_1 38 = .ok (.ireturn, 1) := by decide +kernel
theorem f_q_takenF_17_1 : mblkB b_Mo_taken_1 [(17, .bipush (-2), vi (-2))] = true := by decide +kernel
theorem e_q_takenF_19 : decode b_Mo_taken_1 19 = .ok (.ireturn, 1) := by decide +kernel
set_option maxHeartbeats 40000000 in
set_option maxRecDepth 100000 in
theorem q_takenF (l : Launch) (D : va_G) (B : Nat) (H0 : Heap) (ad : mAd) (A : mA) (hT : mTy A)  (p : Int) (i : Int) (gr : Int) (hpr : -2147483648 ≤ p ∧ p ≤ 2147483647) (hir : -2147483648 ≤ i ∧ i ≤ 2147483647) (hgrr : -2147483648 ≤ gr ∧ gr ≤ 2147483647) (hI : mI A)  : mMet l D B H0 ad y_Mo_taken_1 b_Mo_taken_1 6 (some .int) 910 23500 [vr 0 0, vi p, vi i, vi gr] A (fun v9 A9 => ∃ z : Int, v9 = some (vi z) ∧ mTy A9 ∧ mEq (rm 0) A A9 ∧ (-2147483648 ≤ z ∧ z ≤ 2147483647) ∧ (mI A9)) := by
  refine m_met (by decide) rfl (fun g w0 C Rm Y E => ?_)
  have hE0 : mEq (rm 0) A A := mEq.rfl'
  show JM g D ad w0 A 0 [(0, vr 0 0), (1, vi p), (2, vi i), (3, vi gr)] []
  have r0 : 0 ≤ A 0 0 0 ∧ A 0 0 0 ≤ 6 := hT 0 0 0
  refine m_blk 2 [(0, vr 0 0), (1, vi p), (2, vi i), (3, vi gr)] [vi p, vr 0 0] C f_q_takenF_0_2 rfl ?_
  refine m_callV C Rm Y [vi p] [] (q_isProgram l D B H0 ad _ hT p (by show -2147483648 ≤ p ∧ p ≤ 2147483647; omega)) cl_Mo_364 rfl (by decide) rfl rfl e_q_takenF_2 rfl rfl rfl ⟨by decide, by decide⟩ ?_
  rintro v1 A2 ⟨z5, rfl, rfl, raw_hz_n4⟩
  show JM g D ad w0 A 5 [(0, vr 0 0), (1, vi p), (2, vi i), (3, vi gr)] [vi z5]
  have hz_n4 : z5 = 1 ∧ 0 ≤ p ∧ p < A 0 0 0 ∨ z5 = 0 ∧ ¬ (0 ≤ p ∧ p < A 0 0 0) := raw_hz_n4
  clear raw_hz_n4
  rcases hz_n4 with ⟨e_n4, hz_n4⟩ | ⟨e_n4, hz_n4⟩
  · subst e_n4
    refine m_if_eq (tgt := 17) C e_q_takenF_5 (by decide) (by decide) (fun c6 => (by omega : False).elim) (fun c6 => ?_)
    refine m_blk 11 [(0, vr 0 0), (1, vi p), (2, vi i), (3, vi gr)] [vi 2, vi 0, vi gr] C f_q_takenF_8_3 rfl ?_
    refine m_callS C Rm Y [vi gr, vi 0, vi 2] [] (q_in l D B H0 ad _ gr 0 2 (by show -2147483648 ≤ gr ∧ gr ≤ 2147483647; omega) (by show -2147483648 ≤ 0 ∧ 0 ≤ 2147483647; omega) (by show -2147483648 ≤ 2 ∧ 2 ≤ 2147483647; omega)) cl_Mo_108 e_q_takenF_11 rfl rfl rfl ⟨by decide, by decide⟩ ?_
    rintro v7 A8 ⟨z11, rfl, rfl, raw_hz_n10⟩
    show JM g D ad w0 A 14 [(0, vr 0 0), (1, vi p), (2, vi i), (3, vi gr)] [vi z11]
    have hz_n10 : z11 = 1 ∧ 0 ≤ gr ∧ gr ≤ 2 ∨ z11 = 0 ∧ ¬ (0 ≤ gr ∧ gr ≤ 2) := raw_hz_n10
    clear raw_hz_n10
    rcases hz_n10 with ⟨e_n10, hz_n10⟩ | ⟨e_n10, hz_n10⟩
    · subst e_n10
      refine m_if_ne (tgt := 20) C e_q_takenF_14 (by decide) (by decide) (fun c12 => ?_) (fun c12 => (by omega : False).elim)
      obtain ⟨M, Ln, dep, hK⟩ := (hI.ok (p := p) (by omega)).at (p := p) (by omega) (by omega)
      obtain ⟨N, hN⟩ : ∃ x, A 5 0 p.toNat = x := ⟨_, rfl⟩
      rw [hN] at hK
      have hr9 := hK.rng
      refine m_blk 23 [(0, vr 0 0), (1, vi p), (2, vi i), (3, vi gr)] [vr 0 0, vi 0, vi i] C f_q_takenF_20_3 rfl ?_
      refine m_getr C e_q_takenF_23 fg_Mo_9 rfl (by decide) rfl ?_
      refine m_blk 27 [(0, vr 0 0), (1, vi p), (2, vi i), (3, vi gr)] [vi p, vr 5 0, vi 0, vi i] C f_q_takenF_26_1 rfl ?_
      obtain ⟨x13, hx13⟩ : ∃ x, A 5 0 p.toNat = x := ⟨_, rfl⟩
      have rx13 : 0 ≤ x13 ∧ x13 ≤ 16 := mrg hT hx13 rfl
      refine m_iald C e_q_takenF_27 rfl (by decide) (by decide) (by omega) (by show p < ((6 : Nat) : Int); omega) x13 hx13 ?_
      refine m_blk 30 [(0, vr 0 0), (1, vi p), (2, vi i), (3, vi gr)] [vi (x13 - 1), vi 0, vi i] C f_q_takenF_28_2 rfl ?_
      refine m_callS C Rm Y [vi i, vi 0, vi (x13 - 1)] [] (q_in l D B H0 ad _ i 0 (x13 - 1) (by show -2147483648 ≤ i ∧ i ≤ 2147483647; omega) (by show -2147483648 ≤ 0 ∧ 0 ≤ 2147483647; omega) (by show -2147483648 ≤ (x13 - 1) ∧ (x13 - 1) ≤ 2147483647; omega)) cl_Mo_108 e_q_takenF_30 rfl rfl rfl ⟨by decide, by decide⟩ ?_
      rintro v14 A15 ⟨z18, rfl, rfl, raw_hz_n17⟩
      show JM g D ad w0 A 33 [(0, vr 0 0), (1, vi p), (2, vi i), (3, vi gr)] [vi z18]
      have hz_n17 : z18 = 1 ∧ 0 ≤ i ∧ i ≤ (x13 - 1) ∨ z18 = 0 ∧ ¬ (0 ≤ i ∧ i ≤ (x13 - 1)) := raw_hz_n17
      clear raw_hz_n17
      rcases hz_n17 with ⟨e_n17, hz_n17⟩ | ⟨e_n17, hz_n17⟩
      · subst e_n17
        refine m_if_ne (tgt := 39) C e_q_takenF_33 (by decide) (by decide) (fun c19 => ?_) (fun c19 => (by omega : False).elim)
        refine m_blk 40 [(0, vr 0 0), (1, vi p), (2, vi i), (3, vi gr)] [vr 0 0] C f_q_takenF_39_1 rfl ?_
        refine m_getr C e_q_takenF_40 fg_Mo_21 rfl (by decide) rfl ?_
        refine m_blk 44 [(0, vr 0 0), (1, vi p), (2, vi i), (3, vi gr)] [vi p, vr 14 0] C f_q_takenF_43_1 rfl ?_
        refine m_aald C p.toNat e_q_takenF_44 rfl rfl rfl (by decide) (by decide) (by omega) (by show p < ((6 : Nat) : Int); omega) (mz _ _) ?_
        refine m_blk 46 [(0, vr 0 0), (1, vi p), (2, vi i), (3, vi gr)] [vi i, vr 34 p.toNat] C f_q_takenF_45_1 rfl ?_
        obtain ⟨x20, hx20⟩ : ∃ x, A 34 p.toNat i.toNat = x := ⟨_, rfl⟩
        have rx20 : (-1) ≤ x20 ∧ x20 ≤ 255 := mrg hT hx20 rfl
        refine m_iald C e_q_takenF_46 rfl (by omega) (by decide) (by omega) (by show i < ((16 : Nat) : Int); omega) x20 hx20 ?_
        refine m_blk 50 [(4, vi x20), (0, vr 0 0), (1, vi p), (2, vi i), (3, vi gr)] [vi gr] C f_q_takenF_47_2 rfl ?_
        refine m_if_ne (tgt := 73) C e_q_takenF_50 (by decide) (by omega) (fun c21 => ?_) (fun c21 => ?_)
        · refine m_blk 75 [(4, vi x20), (0, vr 0 0), (1, vi p), (2, vi i), (3, vi gr)] [vi 1, vi gr] C f_q_takenF_73_2 rfl ?_
          refine m_icmp_ne (tgt := 98) C e_q_takenF_75 (by decide) (by omega) (by decide) (fun c22 => ?_) (fun c22 => ?_)
          · refine m_blk 100 [(4, vi x20), (0, vr 0 0), (1, vi p), (2, vi i), (3, vi gr)] [vi x20] C f_q_takenF_98_1 rfl ?_
            refine m_if_eq (tgt := 113) C e_q_takenF_100 (by decide) (by omega) (fun c23 => ?_) (fun c23 => ?_)
            · refine m_blk 118 [(5, vi 0), (4, vi x20), (0, vr 0 0), (1, vi p), (2, vi i), (3, vi gr)] [vi 0] C f_q_takenF_113_3 rfl ?_
              refine m_if_eq (tgt := 126) C e_q_takenF_118 (by decide) (by decide) (fun c24 => ?_) (fun c24 => (by omega : False).elim)
              refine m_blk 128 [(5, vi 0), (4, vi x20), (0, vr 0 0), (1, vi p), (2, vi i), (3, vi gr)] [vi (-13)] C f_q_takenF_126_1 rfl ?_
              exact m_iret C Rm E e_q_takenF_128 ⟨(-13), rfl, hT, hE0, (by show -2147483648 ≤ (-13) ∧ (-13) ≤ 2147483647; omega), (hI.rm0 hE0 hI.2.2)⟩
            · refine m_blk 106 [(4, vi x20), (0, vr 0 0), (1, vi p), (2, vi i), (3, vi gr)] [vi 4, vi x20] C f_q_takenF_103_2 rfl ?_
              refine m_icmp_eq (tgt := 113) C e_q_takenF_106 (by decide) (by omega) (by decide) (fun c25 => ?_) (fun c25 => ?_)
              · refine m_blk 118 [(5, vi 0), (4, vi x20), (0, vr 0 0), (1, vi p), (2, vi i), (3, vi gr)] [vi 0] C f_q_takenF_113_3 rfl ?_
                refine m_if_eq (tgt := 126) C e_q_takenF_118 (by decide) (by decide) (fun c26 => ?_) (fun c26 => (by omega : False).elim)
                refine m_blk 128 [(5, vi 0), (4, vi x20), (0, vr 0 0), (1, vi p), (2, vi i), (3, vi gr)] [vi (-13)] C f_q_takenF_126_1 rfl ?_
                exact m_iret C Rm E e_q_takenF_128 ⟨(-13), rfl, hT, hE0, (by show -2147483648 ≤ (-13) ∧ (-13) ≤ 2147483647; omega), (hI.rm0 hE0 hI.2.2)⟩
              · refine m_blk 114 [(4, vi x20), (0, vr 0 0), (1, vi p), (2, vi i), (3, vi gr)] [vi 1] C f_q_takenF_109_2 rfl ?_
                refine m_blk 118 [(5, vi 1), (4, vi x20), (0, vr 0 0), (1, vi p), (2, vi i), (3, vi gr)] [vi 1] C f_q_takenF_114_2 rfl ?_
                refine m_if_eq (tgt := 126) C e_q_takenF_118 (by decide) (by decide) (fun c27 => (by omega : False).elim) (fun c27 => ?_)
                refine m_blk 128 [(5, vi 1), (4, vi x20), (0, vr 0 0), (1, vi p), (2, vi i), (3, vi gr)] [vi x20] C f_q_takenF_121_2 rfl ?_
                exact m_iret C Rm E e_q_takenF_128 ⟨x20, rfl, hT, hE0, (by show -2147483648 ≤ x20 ∧ x20 ≤ 2147483647; omega), (hI.rm0 hE0 hI.2.2)⟩
          · refine m_blk 81 [(4, vi x20), (0, vr 0 0), (1, vi p), (2, vi i), (3, vi gr)] [vi 3, vi x20] C f_q_takenF_78_2 rfl ?_
            refine m_icmp_eq (tgt := 90) C e_q_takenF_81 (by decide) (by omega) (by decide) (fun c28 => ?_) (fun c28 => ?_)
            · refine m_blk 114 [(4, vi x20), (0, vr 0 0), (1, vi p), (2, vi i), (3, vi gr)] [vi 1] C f_q_takenF_90_2 rfl ?_
              refine m_blk 118 [(5, vi 1), (4, vi x20), (0, vr 0 0), (1, vi p), (2, vi i), (3, vi gr)] [vi 1] C f_q_takenF_114_2 rfl ?_
              refine m_if_eq (tgt := 126) C e_q_takenF_118 (by decide) (by decide) (fun c29 => (by omega : False).elim) (fun c29 => ?_)
              refine m_blk 128 [(5, vi 1), (4, vi x20), (0, vr 0 0), (1, vi p), (2, vi i), (3, vi gr)] [vi x20] C f_q_takenF_121_2 rfl ?_
              exact m_iret C Rm E e_q_takenF_128 ⟨x20, rfl, hT, hE0, (by show -2147483648 ≤ x20 ∧ x20 ≤ 2147483647; omega), (hI.rm0 hE0 hI.2.2)⟩
            · refine m_blk 87 [(4, vi x20), (0, vr 0 0), (1, vi p), (2, vi i), (3, vi gr)] [vi 4, vi x20] C f_q_takenF_84_2 rfl ?_
              refine m_icmp_ne (tgt := 94) C e_q_takenF_87 (by decide) (by omega) (by decide) (fun c30 => ?_) (fun c30 => ?_)
              · refine m_blk 114 [(4, vi x20), (0, vr 0 0), (1, vi p), (2, vi i), (3, vi gr)] [vi 0] C f_q_takenF_94_2 rfl ?_
                refine m_blk 118 [(5, vi 0), (4, vi x20), (0, vr 0 0), (1, vi p), (2, vi i), (3, vi gr)] [vi 0] C f_q_takenF_114_2 rfl ?_
                refine m_if_eq (tgt := 126) C e_q_takenF_118 (by decide) (by decide) (fun c31 => ?_) (fun c31 => (by omega : False).elim)
                refine m_blk 128 [(5, vi 0), (4, vi x20), (0, vr 0 0), (1, vi p), (2, vi i), (3, vi gr)] [vi (-13)] C f_q_takenF_126_1 rfl ?_
                exact m_iret C Rm E e_q_takenF_128 ⟨(-13), rfl, hT, hE0, (by show -2147483648 ≤ (-13) ∧ (-13) ≤ 2147483647; omega), (hI.rm0 hE0 hI.2.2)⟩
              · refine m_blk 114 [(4, vi x20), (0, vr 0 0), (1, vi p), (2, vi i), (3, vi gr)] [vi 1] C f_q_takenF_90_2 rfl ?_
                refine m_blk 118 [(5, vi 1), (4, vi x20), (0, vr 0 0), (1, vi p), (2, vi i), (3, vi gr)] [vi 1] C f_q_takenF_114_2 rfl ?_
                refine m_if_eq (tgt := 126) C e_q_takenF_118 (by decide) (by decide) (fun c32 => (by omega : False).elim) (fun c32 => ?_)
                refine m_blk 128 [(5, vi 1), (4, vi x20), (0, vr 0 0), (1, vi p), (2, vi i), (3, vi gr)] [vi x20] C f_q_takenF_121_2 rfl ?_
                exact m_iret C Rm E e_q_takenF_128 ⟨x20, rfl, hT, hE0, (by show -2147483648 ≤ x20 ∧ x20 ≤ 2147483647; omega), (hI.rm0 hE0 hI.2.2)⟩
        · refine m_blk 56 [(4, vi x20), (0, vr 0 0), (1, vi p), (2, vi i), (3, vi gr)] [vi 2, vi x20] C f_q_takenF_53_2 rfl ?_
          refine m_icmp_lt (tgt := 65) C e_q_takenF_56 (by decide) (by omega) (by decide) (fun c33 => ?_) (fun c33 => ?_)
          · refine m_blk 114 [(4, vi x20), (0, vr 0 0), (1, vi p), (2, vi i), (3, vi gr)] [vi 1] C f_q_takenF_65_2 rfl ?_
            refine m_blk 118 [(5, vi 1), (4, vi x20), (0, vr 0 0), (1, vi p), (2, vi i), (3, vi gr)] [vi 1] C f_q_takenF_114_2 rfl ?_
            refine m_if_eq (tgt := 126) C e_q_takenF_118 (by decide) (by decide) (fun c34 => (by omega : False).elim) (fun c34 => ?_)
            refine m_blk 128 [(5, vi 1), (4, vi x20), (0, vr 0 0), (1, vi p), (2, vi i), (3, vi gr)] [vi x20] C f_q_takenF_121_2 rfl ?_
            exact m_iret C Rm E e_q_takenF_128 ⟨x20, rfl, hT, hE0, (by show -2147483648 ≤ x20 ∧ x20 ≤ 2147483647; omega), (hI.rm0 hE0 hI.2.2)⟩
          · refine m_blk 62 [(4, vi x20), (0, vr 0 0), (1, vi p), (2, vi i), (3, vi gr)] [vi 5, vi x20] C f_q_takenF_59_2 rfl ?_
            refine m_icmp_ne (tgt := 69) C e_q_takenF_62 (by decide) (by omega) (by decide) (fun c35 => ?_) (fun c35 => ?_)
            · refine m_blk 114 [(4, vi x20), (0, vr 0 0), (1, vi p), (2, vi i), (3, vi gr)] [vi 0] C f_q_takenF_69_2 rfl ?_
              refine m_blk 118 [(5, vi 0), (4, vi x20), (0, vr 0 0), (1, vi p), (2, vi i), (3, vi gr)] [vi 0] C f_q_takenF_114_2 rfl ?_
              refine m_if_eq (tgt := 126) C e_q_takenF_118 (by decide) (by decide) (fun c36 => ?_) (fun c36 => (by omega : False).elim)
              refine m_blk 128 [(5, vi 0), (4, vi x20), (0, vr 0 0), (1, vi p), (2, vi i), (3, vi gr)] [vi (-13)] C f_q_takenF_126_1 rfl ?_
              exact m_iret C Rm E e_q_takenF_128 ⟨(-13), rfl, hT, hE0, (by show -2147483648 ≤ (-13) ∧ (-13) ≤ 2147483647; omega), (hI.rm0 hE0 hI.2.2)⟩
            · refine m_blk 114 [(4, vi x20), (0, vr 0 0), (1, vi p), (2, vi i), (3, vi gr)] [vi 1] C f_q_takenF_65_2 rfl ?_
              refine m_blk 118 [(5, vi 1), (4, vi x20), (0, vr 0 0), (1, vi p), (2, vi i), (3, vi gr)] [vi 1] C f_q_takenF_114_2 rfl ?_
              refine m_if_eq (tgt := 126) C e_q_takenF_118 (by decide) (by decide) (fun c37 => (by omega : False).elim) (fun c37 => ?_)
              refine m_blk 128 [(5, vi 1), (4, vi x20), (0, vr 0 0), (1, vi p), (2, vi i), (3, vi gr)] [vi x20] C f_q_takenF_121_2 rfl ?_
              exact m_iret C Rm E e_q_takenF_128 ⟨x20, rfl, hT, hE0, (by show -2147483648 ≤ x20 ∧ x20 ≤ 2147483647; omega), (hI.rm0 hE0 hI.2.2)⟩
      · subst e_n17
        refine m_if_ne (tgt := 39) C e_q_takenF_33 (by decide) (by decide) (fun c38 => (by omega : False).elim) (fun c38 => ?_)
        refine m_blk 38 [(0, vr 0 0), (1, vi p), (2, vi i), (3, vi gr)] [vi (-12)] C f_q_takenF_36_1 rfl ?_
        exact m_iret C Rm E e_q_takenF_38 ⟨(-12), rfl, hT, hE0, (by show -2147483648 ≤ (-12) ∧ (-12) ≤ 2147483647; omega), (hI.rm0 hE0 hI.2.2)⟩
    · subst e_n10
      refine m_if_ne (tgt := 20) C e_q_takenF_14 (by decide) (by decide) (fun c39 => (by omega : False).elim) (fun c39 => ?_)
      refine m_blk 19 [(0, vr 0 0), (1, vi p), (2, vi i), (3, vi gr)] [vi (-2)] C f_q_takenF_17_1 rfl ?_
      exact m_iret C Rm E e_q_takenF_19 ⟨(-2), rfl, hT, hE0, (by show -2147483648 ≤ (-2) ∧ (-2) ≤ 2147483647; omega), (hI.rm0 hE0 hI.2.2)⟩
  · subst e_n4
    clear hz_n4
    refine m_if_eq (tgt := 17) C e_q_takenF_5 (by decide) (by decide) (fun c40 => ?_) (fun c40 => (by omega : False).elim)
    refine m_blk 19 [(0, vr 0 0), (1, vi p), (2, vi i), (3, vi gr)] [vi (-2)] C f_q_takenF_17_1 rfl ?_
    exact m_iret C Rm E e_q_takenF_19 ⟨(-2), rfl, hT, hE0, (by show -2147483648 ≤ (-2) ∧ (-2) ≤ 2147483647; omega), (hI.rm0 hE0 hI.2.2)⟩

theorem f_q_neededF_0_2 : mblkB b_Mo_needed [(0, .aload_n 0, vi 0), (1, .iload_n 1, vi 0)] = true := by decide +kernel
theorem e_q_neededF_2 : decode b_Mo_needed 2 = .ok (.invokevirtual 364, 3) := by decide +kernel
theorem e_q_neededF_5 : decode b_Mo_needed 5 = .ok (.ifCond .eq 29, 3) := by decide +kernel
theorem f_q_neededF_8_3 : mblkB b_Mo_needed [(8, .iload_n 2, vi 0), (9, .iconst 0, vi 0), (10, .bipush 63, vi 63)] = true := by decide +kernel
theorem e_q_neededF_12 : decode b_Mo_needed 12 = .ok (.invokestatic 108, 3) := by decide +kernel
theorem e_q_neededF_15 : decode b_Mo_needed 15 = .ok (.ifCond .eq 19, 3) := by decide +kernel
theorem f_q_neededF_18_4 : mblkB b_Mo_needed [(18, .aload_n 0, vi 0), (19, .iload_n 1, vi 0), (20, .iconst 0, vi 0), (21, .aload_n 0, vi 0)] = true := by decide +kernel
theorem e_q_neededF_22 : decode b_Mo_needed 22 = .ok (.getfield 9, 3) := by decide +kernel
theorem f_q_neededF_25_1 : mblkB b_Mo_needed [(25, .iload_n 1, vi 0)] = true := by decide +kernel
theorem e_q_neededF_26 : decode b_Mo_needed 26 = .ok (.iaload, 1) := by decide +kernel
theorem f_q_neededF_27_1 : mblkB b_Mo_needed [(27, .iload_n 2, vi 0)] = true := by decide +kernel
theorem e_q_neededF_28 : decode b_Mo_needed 28 = .ok (.invokevirtual 300, 3) := by decide +kernel
theorem f_q_neededF_31_1 : mblkB b_Mo_needed [(31, .goto 5, vi 36)] = true := by decide +kernel
theorem e_q_neededF_36 : decode b_Mo_needed 36 = .ok (.ireturn, 1) := by decide +kernel
theorem f_q_neededF_34_1 : mblkB b_Mo_needed [(34, .bipush (-2), vi (-2))] = true := by decide +kernel
set_option maxHeartbeats 40000000 in
set_option maxRecDepth 100000 in
theorem q_neededF (l : Launch) (D : va_G) (B : Nat) (H0 : Heap) (ad : mAd) (A : mA) (hT : mTy A)  (p : Int) (w : Int) (hpr : -2147483648 ≤ p ∧ p ≤ 2147483647) (hwr : -2147483648 ≤ w ∧ w ≤ 2147483647) (hI : mI A)  : mMet l D B H0 ad y_Mo_needed b_Mo_needed 3 (some .int) 910 23500 [vr 0 0, vi p, vi w] A (fun v9 A9 => ∃ z : Int, v9 = some (vi z) ∧ mTy A9 ∧ mEq (rm 0) A A9 ∧ (-2147483648 ≤ z ∧ z ≤ 2147483647) ∧ (mI A9)) := by
  refine m_met (by decide) rfl (fun g w0 C Rm Y E => ?_)
  have hE0 : mEq (rm 0) A A := mEq.rfl'
  show JM g D ad w0 A 0 [(0, vr 0 0), (1, vi p), (2, vi w)] []
  have r0 : 0 ≤ A 0 0 0 ∧ A 0 0 0 ≤ 6 := hT 0 0 0
  refine m_blk 2 [(0, vr 0 0), (1, vi p), (2, vi w)] [vi p, vr 0 0] C f_q_neededF_0_2 rfl ?_
  refine m_callV C Rm Y [vi p] [] (q_isProgram l D B H0 ad _ hT p (by show -2147483648 ≤ p ∧ p ≤ 2147483647; omega)) cl_Mo_364 rfl (by decide) rfl rfl e_q_neededF_2 rfl rfl rfl ⟨by decide, by decide⟩ ?_
  rintro v1 A2 ⟨z5, rfl, rfl, raw_hz_n4⟩
  show JM g D ad w0 A 5 [(0, vr 0 0), (1, vi p), (2, vi w)] [vi z5]
  have hz_n4 : z5 = 1 ∧ 0 ≤ p ∧ p < A 0 0 0 ∨ z5 = 0 ∧ ¬ (0 ≤ p ∧ p < A 0 0 0) := raw_hz_n4
  clear raw_hz_n4
  rcases hz_n4 with ⟨e_n4, hz_n4⟩ | ⟨e_n4, hz_n4⟩
  · subst e_n4
    refine m_if_eq (tgt := 34) C e_q_neededF_5 (by decide) (by decide) (fun c6 => (by omega : False).elim) (fun c6 => ?_)
    refine m_blk 12 [(0, vr 0 0), (1, vi p), (2, vi w)] [vi 63, vi 0, vi w] C f_q_neededF_8_3 rfl ?_
    refine m_callS C Rm Y [vi w, vi 0, vi 63] [] (q_in l D B H0 ad _ w 0 63 (by show -2147483648 ≤ w ∧ w ≤ 2147483647; omega) (by show -2147483648 ≤ 0 ∧ 0 ≤ 2147483647; omega) (by show -2147483648 ≤ 63 ∧ 63 ≤ 2147483647; omega)) cl_Mo_108 e_q_neededF_12 rfl rfl rfl ⟨by decide, by decide⟩ ?_
    rintro v7 A8 ⟨z11, rfl, rfl, raw_hz_n10⟩
    show JM g D ad w0 A 15 [(0, vr 0 0), (1, vi p), (2, vi w)] [vi z11]
    have hz_n10 : z11 = 1 ∧ 0 ≤ w ∧ w ≤ 63 ∨ z11 = 0 ∧ ¬ (0 ≤ w ∧ w ≤ 63) := raw_hz_n10
    clear raw_hz_n10
    rcases hz_n10 with ⟨e_n10, hz_n10⟩ | ⟨e_n10, hz_n10⟩
    · subst e_n10
      refine m_if_eq (tgt := 34) C e_q_neededF_15 (by decide) (by decide) (fun c12 => (by omega : False).elim) (fun c12 => ?_)
      obtain ⟨M, Ln, dep, hK⟩ := (hI.ok (p := p) (by omega)).at (p := p) (by omega) (by omega)
      obtain ⟨N, hN⟩ : ∃ x, A 5 0 p.toNat = x := ⟨_, rfl⟩
      rw [hN] at hK
      have hr9 := hK.rng
      refine m_blk 22 [(0, vr 0 0), (1, vi p), (2, vi w)] [vr 0 0, vi 0, vi p, vr 0 0] C f_q_neededF_18_4 rfl ?_
      refine m_getr C e_q_neededF_22 fg_Mo_9 rfl (by decide) rfl ?_
      refine m_blk 26 [(0, vr 0 0), (1, vi p), (2, vi w)] [vi p, vr 5 0, vi 0, vi p, vr 0 0] C f_q_neededF_25_1 rfl ?_
      obtain ⟨x13, hx13⟩ : ∃ x, A 5 0 p.toNat = x := ⟨_, rfl⟩
      have rx13 : 0 ≤ x13 ∧ x13 ≤ 16 := mrg hT hx13 rfl
      refine m_iald C e_q_neededF_26 rfl (by decide) (by decide) (by omega) (by show p < ((6 : Nat) : Int); omega) x13 hx13 ?_
      refine m_blk 28 [(0, vr 0 0), (1, vi p), (2, vi w)] [vi w, vi x13, vi 0, vi p, vr 0 0] C f_q_neededF_27_1 rfl ?_
      refine m_callV C Rm Y [vi p, vi 0, vi x13, vi w] [] ((q_needed_ 17).1 l D B H0 ad _ hT N M Ln dep p 0 x13 w (by show 0 ≤ p ∧ p ≤ 5; omega) hK ((hI.ok (p := p) (by omega)).le (by omega)) (by show 0 ≤ 0 ∧ 0 ≤ 16 ∧ 0 ≤ x13 ∧ x13 ≤ N ∧ 17 - 0 ≤ ((17 : Nat) : Int); omega) (by show -2147483648 ≤ w ∧ w ≤ 2147483647; omega)) cl_Mo_300 rfl (by decide) rfl rfl e_q_neededF_28 rfl rfl rfl ⟨by decide, by decide⟩ ?_
      rintro v14 A15 ⟨z18, rfl, rfl, raw_hz_n17⟩
      have hz_n17 : -2147483648 ≤ z18 ∧ z18 ≤ 2147483647 := raw_hz_n17
      clear raw_hz_n17
      show JM g D ad w0 A 31 [(0, vr 0 0), (1, vi p), (2, vi w)] [vi z18]
      refine m_blk 36 [(0, vr 0 0), (1, vi p), (2, vi w)] [vi z18] C f_q_neededF_31_1 rfl ?_
      exact m_iret C Rm E e_q_neededF_36 ⟨z18, rfl, hT, hE0, (by show -2147483648 ≤ z18 ∧ z18 ≤ 2147483647; omega), (hI.rm0 hE0 hI.2.2)⟩
    · subst e_n10
      refine m_if_eq (tgt := 34) C e_q_neededF_15 (by decide) (by decide) (fun c19 => ?_) (fun c19 => (by omega : False).elim)
      refine m_blk 36 [(0, vr 0 0), (1, vi p), (2, vi w)] [vi (-2)] C f_q_neededF_34_1 rfl ?_
      exact m_iret C Rm E e_q_neededF_36 ⟨(-2), rfl, hT, hE0, (by show -2147483648 ≤ (-2) ∧ (-2) ≤ 2147483647; omega), (hI.rm0 hE0 hI.2.2)⟩
  · subst e_n4
    clear hz_n4
    refine m_if_eq (tgt := 34) C e_q_neededF_5 (by decide) (by decide) (fun c20 => ?_) (fun c20 => (by omega : False).elim)
    refine m_blk 36 [(0, vr 0 0), (1, vi p), (2, vi w)] [vi (-2)] C f_q_neededF_34_1 rfl ?_
    exact m_iret C Rm E e_q_neededF_36 ⟨(-2), rfl, hT, hE0, (by show -2147483648 ≤ (-2) ∧ (-2) ≤ 2147483647; omega), (hI.rm0 hE0 hI.2.2)⟩
