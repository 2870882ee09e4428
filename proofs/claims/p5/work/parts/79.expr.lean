/-! the reference: formulas, the recursion (own work, by program) -/

/-- what is known of the token, unless it is wrong -/
def pT (A : mA) : Prop := A 0 0 31 = 0 → (A 0 0 25 = 0 ∨ A 0 0 24 < A 0 0 23) ∧ (A 0 0 25 = 2 → 0 ≤ A 0 0 26 ∧ A 0 0 26 ≤ 5)
theorem pT_lt {A : mA} (h : pT A) (g : A 0 0 31 = 0) (ht : ¬ A 0 0 25 = 0) : A 0 0 24 < A 0 0 23 := (h g).1.resolve_left ht
theorem pT_kind {A : mA} (h : pT A) (g : A 0 0 31 = 0) (ht : A 0 0 25 = 2) : 0 ≤ A 0 0 26 ∧ A 0 0 26 ≤ 5 := (h g).2 ht
theorem pT_eq {A A9 : mA} (h : pT A) (e1 : A9 0 0 31 = A 0 0 31) (e2 : A9 0 0 25 = A 0 0 25) (e3 : A9 0 0 24 = A 0 0 24) (e4 : A9 0 0 23 = A 0 0 23) (e5 : A9 0 0 26 = A 0 0 26) : pT A9 := by
  unfold pT
  rw [e1, e2, e3, e4, e5]
  exact h
theorem wr_1 {x : Int} (h : (mty 0 31).1 ≤ x ∧ x ≤ (mty 0 31).2) (k : ¬ x = 0) : x = 1 := by
  have h9 : 0 ≤ x ∧ x ≤ 1 := h
  omega
/-- room for nodes and lots, unless it is wrong -/
def pL (A : mA) : Prop := A 0 0 31 = 0 → A 0 0 30 + 3 * A 0 0 29 ≤ A 0 0 24
/-- a formula was read, unless it is wrong -/
def pW (A A9 : mA) (z : Int) : Prop := A9 0 0 31 = 0 → A 0 0 31 = 0 ∧ z < A9 0 0 30 ∧ A 0 0 24 - A 0 0 30 ≤ A9 0 0 24 - A9 0 0 30

def S_one (d : Nat) : Prop := ∀ (l : Launch) (D : va_G) (B : Nat) (H0 : Heap) (ad : mAd) (A : mA) (hS : mStr D ad) (hT : mTy A) (p0 : Int) (hp : A 0 0 0 = p0 ∧ 0 ≤ p0 ∧ p0 ≤ 5) (hb : A 0 0 24 ≤ A 0 0 23 ∧ A 0 0 23 ≤ A 0 0 22) (hn : pT A) (hl : pL A) (hG : nG p0.toNat A) (ho : A 0 0 27 = 4 - (d : Int) ∧ (d : Int) ≤ 4) , mMet l D B H0 ad y_Mo_one b_Mo_one 3 (some .int) (10 + 4 * d) (400 + 200 * d) [vr 0 0] A (fun v9 A9 => ∃ z : Int, v9 = some (vi z) ∧ mTy A9 ∧ mEq (em p0.toNat) A A9 ∧ (0 ≤ z ∧ z ≤ 119) ∧ (A9 0 0 24 ≤ A9 0 0 23 ∧ A9 0 0 23 ≤ A9 0 0 22) ∧ (pT A9) ∧ (pW A A9 z) ∧ (A 0 0 24 ≤ A9 0 0 24 ∧ A 0 0 30 ≤ A9 0 0 30 ∧ A9 0 0 27 = A 0 0 27) ∧ (nG p0.toNat A9) ∧ (nK p0.toNat A A9))
def S_term (d : Nat) : Prop := ∀ (l : Launch) (D : va_G) (B : Nat) (H0 : Heap) (ad : mAd) (A : mA) (hS : mStr D ad) (hT : mTy A) (p0 : Int) (hp : A 0 0 0 = p0 ∧ 0 ≤ p0 ∧ p0 ≤ 5) (hb : A 0 0 24 ≤ A 0 0 23 ∧ A 0 0 23 ≤ A 0 0 22) (hn : pT A) (hl : pL A) (hG : nG p0.toNat A) (ho : A 0 0 27 = 4 - (d : Int) ∧ (d : Int) ≤ 4) , mMet l D B H0 ad y_Mo_term b_Mo_term 4 (some .int) (11 + 4 * d) (430 + 200 * d) [vr 0 0] A (fun v9 A9 => ∃ z : Int, v9 = some (vi z) ∧ mTy A9 ∧ mEq (em p0.toNat) A A9 ∧ (0 ≤ z ∧ z ≤ 119) ∧ (A9 0 0 24 ≤ A9 0 0 23 ∧ A9 0 0 23 ≤ A9 0 0 22) ∧ (pT A9) ∧ (pW A A9 z) ∧ (A 0 0 24 ≤ A9 0 0 24 ∧ A 0 0 30 ≤ A9 0 0 30 ∧ A9 0 0 27 = A 0 0 27) ∧ (nG p0.toNat A9) ∧ (nK p0.toNat A A9))
def S_sum (d : Nat) : Prop := ∀ (l : Launch) (D : va_G) (B : Nat) (H0 : Heap) (ad : mAd) (A : mA) (hS : mStr D ad) (hT : mTy A) (p0 : Int) (hp : A 0 0 0 = p0 ∧ 0 ≤ p0 ∧ p0 ≤ 5) (hb : A 0 0 24 ≤ A 0 0 23 ∧ A 0 0 23 ≤ A 0 0 22) (hn : pT A) (hl : pL A) (hG : nG p0.toNat A) (ho : A 0 0 27 = 4 - (d : Int) ∧ (d : Int) ≤ 4) , mMet l D B H0 ad y_Mo_sum b_Mo_sum 4 (some .int) (12 + 4 * d) (460 + 200 * d) [vr 0 0] A (fun v9 A9 => ∃ z : Int, v9 = some (vi z) ∧ mTy A9 ∧ mEq (em p0.toNat) A A9 ∧ (0 ≤ z ∧ z ≤ 119) ∧ (A9 0 0 24 ≤ A9 0 0 23 ∧ A9 0 0 23 ≤ A9 0 0 22) ∧ (pT A9) ∧ (pW A A9 z) ∧ (A 0 0 24 ≤ A9 0 0 24 ∧ A 0 0 30 ≤ A9 0 0 30 ∧ A9 0 0 27 = A 0 0 27) ∧ (nG p0.toNat A9) ∧ (nK p0.toNat A A9))
def S_expression (d : Nat) : Prop := ∀ (l : Launch) (D : va_G) (B : Nat) (H0 : Heap) (ad : mAd) (A : mA) (hS : mStr D ad) (hT : mTy A) (p0 : Int) (hp : A 0 0 0 = p0 ∧ 0 ≤ p0 ∧ p0 ≤ 5) (hb : A 0 0 24 ≤ A 0 0 23 ∧ A 0 0 23 ≤ A 0 0 22) (hn : pT A) (hl : pL A) (hG : nG p0.toNat A) (ho : A 0 0 27 = 4 - (d : Int) ∧ (d : Int) ≤ 4) , mMet l D B H0 ad y_Mo_expression b_Mo_expression 4 (some .int) (13 + 4 * d) (490 + 200 * d) [vr 0 0] A (fun v9 A9 => ∃ z : Int, v9 = some (vi z) ∧ mTy A9 ∧ mEq (em p0.toNat) A A9 ∧ (0 ≤ z ∧ z ≤ 119) ∧ (A9 0 0 24 ≤ A9 0 0 23 ∧ A9 0 0 23 ≤ A9 0 0 22) ∧ (pT A9) ∧ (pW A A9 z) ∧ (A 0 0 24 ≤ A9 0 0 24 ∧ A 0 0 30 ≤ A9 0 0 30 ∧ A9 0 0 27 = A 0 0 27) ∧ (nG p0.toNat A9) ∧ (nK p0.toNat A A9))
theorem f_q_one_0_1 : mblkB b_Mo_one [(0, .aload_n 0, vi 0)] = true := by decide +kernel
theorem e_q_one_1 : decode b_Mo_one 1 = .ok (.getfield 155, 3) := by decide +kernel
theorem e_q_one_4 : decode b_Mo_one 4 = .ok (.ifCond .eq 5, 3) := by decide +kernel
theorem f_q_one_9_1 : mblkB b_Mo_one [(9, .aload_n 0, vi 0)] = true := by decide +kernel
theorem e_q_one_10 : decode b_Mo_one 10 = .ok (.getfield 159, 3) := by decide +kernel
theorem f_q_one_13_1 : mblkB b_Mo_one [(13, .iconst 3, vi 3)] = true := by decide +kernel
theorem e_q_one_14 : decode b_Mo_one 14 = .ok (.if_icmp .eq 11, 3) := by decide +kernel
theorem f_q_one_25_2 : mblkB b_Mo_one [(25, .aload_n 0, vi 0), (26, .aload_n 0, vi 0)] = true := by decide +kernel
theorem e_q_one_27 : decode b_Mo_one 27 = .ok (.getfield 159, 3) := by decide +kernel
theorem f_q_one_30_1 : mblkB b_Mo_one [(30, .iconst 3, vi 3)] = true := by decide +kernel
theorem e_q_one_31 : decode b_Mo_one 31 = .ok (.if_icmp .ne 7, 3) := by decide +kernel
theorem f_q_one_38_2 : mblkB b_Mo_one [(38, .iconst 1, vi 1), (39, .aload_n 0, vi 0)] = true := by decide +kernel
theorem e_q_one_40 : decode b_Mo_one 40 = .ok (.getfield 165, 3) := by decide +kernel
theorem f_q_one_43_2 : mblkB b_Mo_one [(43, .iconst (-1), vi (-1)), (44, .iconst (-1), vi (-1))] = true := by decide +kernel
theorem e_q_one_45 : decode b_Mo_one 45 = .ok (.invokevirtual 218, 3) := by decide +kernel
theorem f_q_one_48_2 : mblkB b_Mo_one [(48, .istore_n 1, vi 0), (49, .aload_n 0, vi 0)] = true := by decide +kernel
theorem e_q_one_50 : decode b_Mo_one 50 = .ok (.invokevirtual 176, 3) := by decide +kernel
theorem f_q_one_53_1 : mblkB b_Mo_one [(53, .iload_n 1, vi 0)] = true := by decide +kernel
theorem e_q_one_54 : decode b_Mo_one 54 = .ok (.ireturn, 1) := by decide +kernel
theorem f_q_one_34_2 : mblkB b_Mo_one [(34, .iconst 0, vi 0), (35, .goto 4, vi 39)] = true := by decide +kernel
theorem f_q_one_39_1 : mblkB b_Mo_one [(39, .aload_n 0, vi 0)] = true := by decide +kernel
theorem f_q_one_17_1 : mblkB b_Mo_one [(17, .aload_n 0, vi 0)] = true := by decide +kernel
theorem e_q_one_18 : decode b_Mo_one 18 = .ok (.getfield 159, 3) := by decide +kernel
theorem f_q_one_21_1 : mblkB b_Mo_one [(21, .iconst 1, vi 1)] = true := by decide +kernel
theorem e_q_one_22 : decode b_Mo_one 22 = .ok (.if_icmp .ne 33, 3) := by decide +kernel
theorem f_q_one_55_2 : mblkB b_Mo_one [(55, .aload_n 0, vi 0), (56, .bipush 45, vi 45)] = true := by decide +kernel
theorem e_q_one_58 : decode b_Mo_one 58 = .ok (.invokevirtual 173, 3) := by decide +kernel
theorem e_q_one_61 : decode b_Mo_one 61 = .ok (.ifCond .ne 12, 3) := by decide +kernel
theorem f_q_one_73_1 : mblkB b_Mo_one [(73, .aload_n 0, vi 0)] = true := by decide +kernel
theorem e_q_one_74 : decode b_Mo_one 74 = .ok (.getfield 182, 3) := by decide +kernel
theorem f_q_one_77_1 : mblkB b_Mo_one [(77, .iconst 4, vi 4)] = true := by decide +kernel
theorem e_q_one_78 : decode b_Mo_one 78 = .ok (.if_icmp .ne 10, 3) := by decide +kernel
theorem f_q_one_88_2 : mblkB b_Mo_one [(88, .aload_n 0, vi 0), (89, .bipush 45, vi 45)] = true := by decide +kernel
theorem e_q_one_91 : decode b_Mo_one 91 = .ok (.invokevirtual 173, 3) := by decide +kernel
theorem f_q_one_94_3 : mblkB b_Mo_one [(94, .istore_n 1, vi 0), (95, .aload_n 0, vi 0), (96, .dup, vi 0)] = true := by decide +kernel
theorem e_q_one_97 : decode b_Mo_one 97 = .ok (.getfield 182, 3) := by decide +kernel
theorem f_q_one_100_2 : mblkB b_Mo_one [(100, .iconst 1, vi 1), (101, .iadd, vi 0)] = true := by decide +kernel
theorem e_q_one_102 : decode b_Mo_one 102 = .ok (.putfield 182, 3) := by decide +kernel
theorem f_q_one_105_1 : mblkB b_Mo_one [(105, .aload_n 0, vi 0)] = true := by decide +kernel
theorem e_q_one_106 : decode b_Mo_one 106 = .ok (.invokevirtual 176, 3) := by decide +kernel
theorem f_q_one_109_1 : mblkB b_Mo_one [(109, .iload_n 1, vi 0)] = true := by decide +kernel
theorem e_q_one_110 : decode b_Mo_one 110 = .ok (.ifCond .eq 10, 3) := by decide +kernel
theorem f_q_one_113_1 : mblkB b_Mo_one [(113, .aload_n 0, vi 0)] = true := by decide +kernel
theorem e_q_one_114 : decode b_Mo_one 114 = .ok (.invokevirtual 225, 3) := by decide +kernel
theorem f_q_one_117_1 : mblkB b_Mo_one [(117, .goto 7, vi 124)] = true := by decide +kernel
theorem f_q_one_124_3 : mblkB b_Mo_one [(124, .istore_n 2, vi 0), (125, .aload_n 0, vi 0), (126, .dup, vi 0)] = true := by decide +kernel
theorem e_q_one_127 : decode b_Mo_one 127 = .ok (.getfield 182, 3) := by decide +kernel
theorem f_q_one_130_2 : mblkB b_Mo_one [(130, .iconst 1, vi 1), (131, .isub, vi 0)] = true := by decide +kernel
theorem e_q_one_132 : decode b_Mo_one 132 = .ok (.putfield 182, 3) := by decide +kernel
theorem f_q_one_135_1 : mblkB b_Mo_one [(135, .iload_n 1, vi 0)] = true := by decide +kernel
theorem e_q_one_136 : decode b_Mo_one 136 = .ok (.ifCond .eq 12, 3) := by decide +kernel
theorem f_q_one_139_5 : mblkB b_Mo_one [(139, .aload_n 0, vi 0), (140, .iconst 2, vi 2), (141, .iconst 0, vi 0), (142, .iload_n 2, vi 0), (143, .iconst (-1), vi (-1))] = true := by decide +kernel
theorem e_q_one_144 : decode b_Mo_one 144 = .ok (.invokevirtual 218, 3) := by decide +kernel
theorem e_q_one_147 : decode b_Mo_one 147 = .ok (.ireturn, 1) := by decide +kernel
theorem f_q_one_120_1 : mblkB b_Mo_one [(120, .aload_n 0, vi 0)] = true := by decide +kernel
theorem e_q_one_121 : decode b_Mo_one 121 = .ok (.invokevirtual 206, 3) := by decide +kernel
theorem f_q_one_148_2 : mblkB b_Mo_one [(148, .aload_n 0, vi 0), (149, .bipush 41, vi 41)] = true := by decide +kernel
theorem e_q_one_151 : decode b_Mo_one 151 = .ok (.invokevirtual 188, 3) := by decide +kernel
theorem f_q_one_154_1 : mblkB b_Mo_one [(154, .iload_n 2, vi 0)] = true := by decide +kernel
theorem e_q_one_155 : decode b_Mo_one 155 = .ok (.ireturn, 1) := by decide +kernel
theorem f_q_one_81_2 : mblkB b_Mo_one [(81, .aload_n 0, vi 0), (82, .iconst 1, vi 1)] = true := by decide +kernel
theorem e_q_one_83 : decode b_Mo_one 83 = .ok (.putfield 155, 3) := by decide +kernel
theorem f_q_one_86_1 : mblkB b_Mo_one [(86, .iconst 0, vi 0)] = true := by decide +kernel
theorem e_q_one_87 : decode b_Mo_one 87 = .ok (.ireturn, 1) := by decide +kernel
theorem f_q_one_64_2 : mblkB b_Mo_one [(64, .aload_n 0, vi 0), (65, .bipush 40, vi 40)] = true := by decide +kernel
theorem e_q_one_67 : decode b_Mo_one 67 = .ok (.invokevirtual 173, 3) := by decide +kernel
theorem e_q_one_70 : decode b_Mo_one 70 = .ok (.ifCond .eq 11, 3) := by decide +kernel
theorem f_q_one_7_1 : mblkB b_Mo_one [(7, .iconst 0, vi 0)] = true := by decide +kernel
theorem e_q_one_8 : decode b_Mo_one 8 = .ok (.ireturn, 1) := by decide +kernel
set_option maxHeartbeats 40000000 in
set_option maxRecDepth 100000 in
theorem q_one (d : Nat) (hrec : ∀ d1 : Nat, d = d1 + 1 → S_one d1 ∧ S_expression d1) : S_one d := by
  intro l D B H0 ad A hS hT p0 hp hb hn hl hG ho
  refine m_met (by decide) rfl (fun g w0 C Rm Y E => ?_)
  have hE0 : mEq (em p0.toNat) A A := mEq.rfl'
  show JM g D ad w0 A 0 [(0, vr 0 0)] []
  have rt : A 0 0 22 ≤ 120 := (hT 0 0 22).2
  have rd9 : 0 ≤ A 0 0 29 ∧ 0 ≤ A 0 0 30 := ⟨(hT 0 0 29).1, (hT 0 0 30).1⟩
  rcases (show A 0 0 31 = 0 ∨ A 0 0 31 = 1 from by have w8 : 0 ≤ A 0 0 31 ∧ A 0 0 31 ≤ 1 := hT 0 0 31; omega) with g0 | g0
  · have hl0 := hl g0
    refine m_blk 1 [(0, vr 0 0)] [vr 0 0] C f_q_one_0_1 rfl ?_
    refine m_geti C e_q_one_1 fg_Mo_155 rfl (by decide) rfl 0 g0 ?_
    refine m_if_eq (tgt := 9) C e_q_one_4 (by decide) (by decide) (fun c1 => ?_) (fun c1 => (by omega : False).elim)
    refine m_blk 10 [(0, vr 0 0)] [vr 0 0] C f_q_one_9_1 rfl ?_
    obtain ⟨x2, hx2⟩ : ∃ x, A 0 0 25 = x := ⟨_, rfl⟩
    have rx2 : 0 ≤ x2 ∧ x2 ≤ 4 := mrg hT hx2 rfl
    refine m_geti C e_q_one_10 fg_Mo_159 rfl (by decide) rfl x2 hx2 ?_
    refine m_blk 14 [(0, vr 0 0)] [vi 3, vi x2] C f_q_one_13_1 rfl ?_
    refine m_icmp_eq (tgt := 25) C e_q_one_14 (by decide) (by omega) (by decide) (fun c3 => ?_) (fun c3 => ?_)
    · have bt9 : A 0 0 24 < A 0 0 23 := pT_lt hn g0 (by omega)
      refine m_blk 27 [(0, vr 0 0)] [vr 0 0, vr 0 0] C f_q_one_25_2 rfl ?_
      refine m_geti C e_q_one_27 fg_Mo_159 rfl (by decide) rfl x2 hx2 ?_
      refine m_blk 31 [(0, vr 0 0)] [vi 3, vi x2, vr 0 0] C f_q_one_30_1 rfl ?_
      refine m_icmp_ne (tgt := 38) C e_q_one_31 (by decide) (by omega) (by decide) (fun c4 => ?_) (fun c4 => ?_)
      · refine m_blk 40 [(0, vr 0 0)] [vr 0 0, vi 1, vr 0 0] C f_q_one_38_2 rfl ?_
        obtain ⟨x5, hx5⟩ : ∃ x, A 0 0 26 = x := ⟨_, rfl⟩
        have rx5 : (-1) ≤ x5 ∧ x5 ≤ 255 := mrg hT hx5 rfl
        refine m_geti C e_q_one_40 fg_Mo_165 rfl (by decide) rfl x5 hx5 ?_
        refine m_blk 45 [(0, vr 0 0)] [vi (-1), vi (-1), vi x5, vi 1, vr 0 0] C f_q_one_43_2 rfl ?_
        refine m_callV C Rm Y [vi 1, vi x5, vi (-1), vi (-1)] [] (q_node l D B H0 ad _ hT p0 1 x5 (-1) (-1) (by show A 0 0 0 = p0 ∧ 0 ≤ p0 ∧ p0 ≤ 5; omega) (fun _ => by show A 0 0 30 ≤ 119; omega) (by show (-1 ≤ 1 ∧ 1 ≤ 255) ∧ (-1 ≤ x5 ∧ x5 ≤ 255) ∧ (-1 ≤ (-1) ∧ (-1) ≤ 119) ∧ (-1 ≤ (-1) ∧ (-1) ≤ 119); omega) hG (fun _ => by show (-1) < A 0 0 30 ∧ (-1) < A 0 0 30 ∧ (1 ≠ 0 → 1 ≠ 1 → 0 ≤ (-1)) ∧ (1 ≠ 0 → 1 ≠ 1 → 1 ≠ 2 → 0 ≤ (-1)); omega)) cl_Mo_218 rfl (by decide) rfl rfl e_q_one_45 rfl rfl rfl ⟨by show _ ≤ (10 + 4 * d : Nat); omega, by show _ ≤ (400 + 200 * d : Nat); omega⟩ ?_
        rintro v6 A7 ⟨z10, rfl, hT_n9, hE_n9, raw_hz_n9, raw_hw_n9, raw_hi_n9, raw_hm_n9, raw_hG_n9, raw_hK_n9⟩
        have hF_n9 := hE0.trans (hE_n9.sub (nd_em _))
        show JM g D ad w0 A7 48 [(0, vr 0 0)] [vi z10]
        have hz_n9 : 0 ≤ z10 ∧ z10 ≤ 119 := raw_hz_n9
        clear raw_hz_n9
        obtain ⟨b1_n9, b2_n9⟩ : A7 0 0 30 = A 0 0 30 + 1 ∧ z10 = A 0 0 30 := raw_hi_n9 g0
        clear raw_hi_n9 raw_hw_n9
        have k0_n9 : A7 0 0 0 = A 0 0 0 := hE_n9 0 0 0 rfl
        have k22_n9 : A7 0 0 22 = A 0 0 22 := hE_n9 0 0 22 rfl
        have k23_n9 : A7 0 0 23 = A 0 0 23 := hE_n9 0 0 23 rfl
        have k24_n9 : A7 0 0 24 = A 0 0 24 := hE_n9 0 0 24 rfl
        have k25_n9 : A7 0 0 25 = A 0 0 25 := hE_n9 0 0 25 rfl
        have k26_n9 : A7 0 0 26 = A 0 0 26 := hE_n9 0 0 26 rfl
        have k27_n9 : A7 0 0 27 = A 0 0 27 := hE_n9 0 0 27 rfl
        have k28_n9 : A7 0 0 28 = A 0 0 28 := hE_n9 0 0 28 rfl
        have k29_n9 : A7 0 0 29 = A 0 0 29 := hE_n9 0 0 29 rfl
        have g_n9 : A7 0 0 31 = 0 := (hE_n9 0 0 31 rfl).trans g0
        have hG_n9 : nG p0.toNat A7 := raw_hG_n9
        have hK_n9 : nK p0.toNat A A7 := raw_hK_n9
        have pt_n9 : pT A7 := pT_eq (A := A) hn (hE_n9 0 0 31 rfl) (hE_n9 0 0 25 rfl) (hE_n9 0 0 24 rfl) (hE_n9 0 0 23 rfl) (hE_n9 0 0 26 rfl)
        refine m_blk 50 [(1, vi z10), (0, vr 0 0)] [vr 0 0] C f_q_one_48_2 rfl ?_
        refine m_callV C Rm Y [] [] (q_next l D B H0 ad _ hS hT_n9 (by show A7 0 0 23 ≤ A7 0 0 22; omega)) cl_Mo_176 rfl (by decide) rfl rfl e_q_one_50 rfl rfl rfl ⟨by show _ ≤ (10 + 4 * d : Nat); omega, by show _ ≤ (400 + 200 * d : Nat); omega⟩ ?_
        rintro v11 A12 ⟨rfl, hT_n14, hE_n14, raw_hw_n14, raw_hb_n14⟩
        have hF_n14 := hF_n9.trans (hE_n14.sub (nm_em _))
        show JM g D ad w0 A12 53 [(1, vi z10), (0, vr 0 0)] []
        obtain ⟨b1_n14, b2_n14, b3_n14, pt_n14⟩ : A7 0 0 23 ≤ A12 0 0 24 ∧ A12 0 0 24 ≤ A12 0 0 23 ∧ A12 0 0 23 ≤ A12 0 0 22 ∧ pT A12 := raw_hb_n14 g_n9
        clear raw_hb_n14 raw_hw_n14
        have k0_n14 : A12 0 0 0 = A7 0 0 0 := hE_n14 0 0 0 rfl
        have k22_n14 : A12 0 0 22 = A7 0 0 22 := hE_n14 0 0 22 rfl
        have k27_n14 : A12 0 0 27 = A7 0 0 27 := hE_n14 0 0 27 rfl
        have k28_n14 : A12 0 0 28 = A7 0 0 28 := hE_n14 0 0 28 rfl
        have k29_n14 : A12 0 0 29 = A7 0 0 29 := hE_n14 0 0 29 rfl
        have k30_n14 : A12 0 0 30 = A7 0 0 30 := hE_n14 0 0 30 rfl
        rcases (show A12 0 0 31 = 0 ∨ A12 0 0 31 = 1 from by have w9 := hT_n14 0 0 31; have w8 : 0 ≤ A12 0 0 31 ∧ A12 0 0 31 ≤ 1 := w9; omega) with g_n14 | g_n14
        · refine m_blk 54 [(1, vi z10), (0, vr 0 0)] [vi z10] C f_q_one_53_1 rfl ?_
          exact m_iret C Rm E e_q_one_54 ⟨z10, rfl, hT_n14, hF_n14, (by show 0 ≤ z10 ∧ z10 ≤ 119; omega), (by show A12 0 0 24 ≤ A12 0 0 23 ∧ A12 0 0 23 ≤ A12 0 0 22; omega), pt_n14, (fun _ => ⟨g0, (by show z10 < A12 0 0 30; omega), (by show A 0 0 24 - A 0 0 30 ≤ A12 0 0 24 - A12 0 0 30; omega)⟩), (by show A 0 0 24 ≤ A12 0 0 24 ∧ A 0 0 30 ≤ A12 0 0 30 ∧ A12 0 0 27 = A 0 0 27; omega), (nG.nm (A := A7) hG_n9 hE_n14), (nK.nm (A2 := A7) (nK.trans (A2 := A) nK.rfl' hK_n9 (by show A 0 0 30 ≤ A 0 0 30; omega)) hE_n14)⟩
        · refine m_blk 54 [(1, vi z10), (0, vr 0 0)] [vi z10] C f_q_one_53_1 rfl ?_
          exact m_iret C Rm E e_q_one_54 ⟨z10, rfl, hT_n14, hF_n14, (by show 0 ≤ z10 ∧ z10 ≤ 119; omega), (by show A12 0 0 24 ≤ A12 0 0 23 ∧ A12 0 0 23 ≤ A12 0 0 22; omega), pt_n14, (fun h9 => absurd ((g_n14 : A12 0 0 31 = 1).symm.trans h9) (by decide)), (by show A 0 0 24 ≤ A12 0 0 24 ∧ A 0 0 30 ≤ A12 0 0 30 ∧ A12 0 0 27 = A 0 0 27; omega), (nG.nm (A := A7) hG_n9 hE_n14), (nK.nm (A2 := A7) (nK.trans (A2 := A) nK.rfl' hK_n9 (by show A 0 0 30 ≤ A 0 0 30; omega)) hE_n14)⟩
      · refine m_blk 39 [(0, vr 0 0)] [vi 0, vr 0 0] C f_q_one_34_2 rfl ?_
        refine m_blk 40 [(0, vr 0 0)] [vr 0 0, vi 0, vr 0 0] C f_q_one_39_1 rfl ?_
        obtain ⟨x15, hx15⟩ : ∃ x, A 0 0 26 = x := ⟨_, rfl⟩
        have rx15 : (-1) ≤ x15 ∧ x15 ≤ 255 := mrg hT hx15 rfl
        refine m_geti C e_q_one_40 fg_Mo_165 rfl (by decide) rfl x15 hx15 ?_
        refine m_blk 45 [(0, vr 0 0)] [vi (-1), vi (-1), vi x15, vi 0, vr 0 0] C f_q_one_43_2 rfl ?_
        refine m_callV C Rm Y [vi 0, vi x15, vi (-1), vi (-1)] [] (q_node l D B H0 ad _ hT p0 0 x15 (-1) (-1) (by show A 0 0 0 = p0 ∧ 0 ≤ p0 ∧ p0 ≤ 5; omega) (fun _ => by show A 0 0 30 ≤ 119; omega) (by show (-1 ≤ 0 ∧ 0 ≤ 255) ∧ (-1 ≤ x15 ∧ x15 ≤ 255) ∧ (-1 ≤ (-1) ∧ (-1) ≤ 119) ∧ (-1 ≤ (-1) ∧ (-1) ≤ 119); omega) hG (fun _ => by show (-1) < A 0 0 30 ∧ (-1) < A 0 0 30 ∧ (0 ≠ 0 → 0 ≠ 1 → 0 ≤ (-1)) ∧ (0 ≠ 0 → 0 ≠ 1 → 0 ≠ 2 → 0 ≤ (-1)); omega)) cl_Mo_218 rfl (by decide) rfl rfl e_q_one_45 rfl rfl rfl ⟨by show _ ≤ (10 + 4 * d : Nat); omega, by show _ ≤ (400 + 200 * d : Nat); omega⟩ ?_
        rintro v16 A17 ⟨z20, rfl, hT_n19, hE_n19, raw_hz_n19, raw_hw_n19, raw_hi_n19, raw_hm_n19, raw_hG_n19, raw_hK_n19⟩
        have hF_n19 := hE0.trans (hE_n19.sub (nd_em _))
        show JM g D ad w0 A17 48 [(0, vr 0 0)] [vi z20]
        have hz_n19 : 0 ≤ z20 ∧ z20 ≤ 119 := raw_hz_n19
        clear raw_hz_n19
        obtain ⟨b1_n19, b2_n19⟩ : A17 0 0 30 = A 0 0 30 + 1 ∧ z20 = A 0 0 30 := raw_hi_n19 g0
        clear raw_hi_n19 raw_hw_n19
        have k0_n19 : A17 0 0 0 = A 0 0 0 := hE_n19 0 0 0 rfl
        have k22_n19 : A17 0 0 22 = A 0 0 22 := hE_n19 0 0 22 rfl
        have k23_n19 : A17 0 0 23 = A 0 0 23 := hE_n19 0 0 23 rfl
        have k24_n19 : A17 0 0 24 = A 0 0 24 := hE_n19 0 0 24 rfl
        have k25_n19 : A17 0 0 25 = A 0 0 25 := hE_n19 0 0 25 rfl
        have k26_n19 : A17 0 0 26 = A 0 0 26 := hE_n19 0 0 26 rfl
        have k27_n19 : A17 0 0 27 = A 0 0 27 := hE_n19 0 0 27 rfl
        have k28_n19 : A17 0 0 28 = A 0 0 28 := hE_n19 0 0 28 rfl
        have k29_n19 : A17 0 0 29 = A 0 0 29 := hE_n19 0 0 29 rfl
        have g_n19 : A17 0 0 31 = 0 := (hE_n19 0 0 31 rfl).trans g0
        have hG_n19 : nG p0.toNat A17 := raw_hG_n19
        have hK_n19 : nK p0.toNat A A17 := raw_hK_n19
        have pt_n19 : pT A17 := pT_eq (A := A) hn (hE_n19 0 0 31 rfl) (hE_n19 0 0 25 rfl) (hE_n19 0 0 24 rfl) (hE_n19 0 0 23 rfl) (hE_n19 0 0 26 rfl)
        refine m_blk 50 [(1, vi z20), (0, vr 0 0)] [vr 0 0] C f_q_one_48_2 rfl ?_
        refine m_callV C Rm Y [] [] (q_next l D B H0 ad _ hS hT_n19 (by show A17 0 0 23 ≤ A17 0 0 22; omega)) cl_Mo_176 rfl (by decide) rfl rfl e_q_one_50 rfl rfl rfl ⟨by show _ ≤ (10 + 4 * d : Nat); omega, by show _ ≤ (400 + 200 * d : Nat); omega⟩ ?_
        rintro v21 A22 ⟨rfl, hT_n24, hE_n24, raw_hw_n24, raw_hb_n24⟩
        have hF_n24 := hF_n19.trans (hE_n24.sub (nm_em _))
        show JM g D ad w0 A22 53 [(1, vi z20), (0, vr 0 0)] []
        obtain ⟨b1_n24, b2_n24, b3_n24, pt_n24⟩ : A17 0 0 23 ≤ A22 0 0 24 ∧ A22 0 0 24 ≤ A22 0 0 23 ∧ A22 0 0 23 ≤ A22 0 0 22 ∧ pT A22 := raw_hb_n24 g_n19
        clear raw_hb_n24 raw_hw_n24
        have k0_n24 : A22 0 0 0 = A17 0 0 0 := hE_n24 0 0 0 rfl
        have k22_n24 : A22 0 0 22 = A17 0 0 22 := hE_n24 0 0 22 rfl
        have k27_n24 : A22 0 0 27 = A17 0 0 27 := hE_n24 0 0 27 rfl
        have k28_n24 : A22 0 0 28 = A17 0 0 28 := hE_n24 0 0 28 rfl
        have k29_n24 : A22 0 0 29 = A17 0 0 29 := hE_n24 0 0 29 rfl
        have k30_n24 : A22 0 0 30 = A17 0 0 30 := hE_n24 0 0 30 rfl
        rcases (show A22 0 0 31 = 0 ∨ A22 0 0 31 = 1 from by have w9 := hT_n24 0 0 31; have w8 : 0 ≤ A22 0 0 31 ∧ A22 0 0 31 ≤ 1 := w9; omega) with g_n24 | g_n24
        · refine m_blk 54 [(1, vi z20), (0, vr 0 0)] [vi z20] C f_q_one_53_1 rfl ?_
          exact m_iret C Rm E e_q_one_54 ⟨z20, rfl, hT_n24, hF_n24, (by show 0 ≤ z20 ∧ z20 ≤ 119; omega), (by show A22 0 0 24 ≤ A22 0 0 23 ∧ A22 0 0 23 ≤ A22 0 0 22; omega), pt_n24, (fun _ => ⟨g0, (by show z20 < A22 0 0 30; omega), (by show A 0 0 24 - A 0 0 30 ≤ A22 0 0 24 - A22 0 0 30; omega)⟩), (by show A 0 0 24 ≤ A22 0 0 24 ∧ A 0 0 30 ≤ A22 0 0 30 ∧ A22 0 0 27 = A 0 0 27; omega), (nG.nm (A := A17) hG_n19 hE_n24), (nK.nm (A2 := A17) (nK.trans (A2 := A) nK.rfl' hK_n19 (by show A 0 0 30 ≤ A 0 0 30; omega)) hE_n24)⟩
        · refine m_blk 54 [(1, vi z20), (0, vr 0 0)] [vi z20] C f_q_one_53_1 rfl ?_
          exact m_iret C Rm E e_q_one_54 ⟨z20, rfl, hT_n24, hF_n24, (by show 0 ≤ z20 ∧ z20 ≤ 119; omega), (by show A22 0 0 24 ≤ A22 0 0 23 ∧ A22 0 0 23 ≤ A22 0 0 22; omega), pt_n24, (fun h9 => absurd ((g_n24 : A22 0 0 31 = 1).symm.trans h9) (by decide)), (by show A 0 0 24 ≤ A22 0 0 24 ∧ A 0 0 30 ≤ A22 0 0 30 ∧ A22 0 0 27 = A 0 0 27; omega), (nG.nm (A := A17) hG_n19 hE_n24), (nK.nm (A2 := A17) (nK.trans (A2 := A) nK.rfl' hK_n19 (by show A 0 0 30 ≤ A 0 0 30; omega)) hE_n24)⟩
    · refine m_blk 18 [(0, vr 0 0)] [vr 0 0] C f_q_one_17_1 rfl ?_
      refine m_geti C e_q_one_18 fg_Mo_159 rfl (by decide) rfl x2 hx2 ?_
      refine m_blk 22 [(0, vr 0 0)] [vi 1, vi x2] C f_q_one_21_1 rfl ?_
      refine m_icmp_ne (tgt := 55) C e_q_one_22 (by decide) (by omega) (by decide) (fun c25 => ?_) (fun c25 => ?_)
      · refine m_blk 58 [(0, vr 0 0)] [vi 45, vr 0 0] C f_q_one_55_2 rfl ?_
        refine m_callV C Rm Y [vi 45] [] (q_isSign l D B H0 ad _ hT 45 (by show -2147483648 ≤ 45 ∧ 45 ≤ 2147483647; omega)) cl_Mo_173 rfl (by decide) rfl rfl e_q_one_58 rfl rfl rfl ⟨by show _ ≤ (10 + 4 * d : Nat); omega, by show _ ≤ (400 + 200 * d : Nat); omega⟩ ?_
        rintro v26 A27 ⟨z30, rfl, rfl, raw_hz_n29⟩
        show JM g D ad w0 A 61 [(0, vr 0 0)] [vi z30]
        have hz_n29 : z30 = 1 ∧ A 0 0 31 = 0 ∧ A 0 0 25 = 4 ∧ A 0 0 26 = 45 ∨ z30 = 0 ∧ ¬ (A 0 0 31 = 0 ∧ A 0 0 25 = 4 ∧ A 0 0 26 = 45) := raw_hz_n29
        clear raw_hz_n29
        rcases hz_n29 with ⟨e_n29, hz_n29⟩ | ⟨e_n29, hz_n29⟩
        · subst e_n29
          have bt_n29 : A 0 0 24 < A 0 0 23 := pT_lt (A := A) hn hz_n29.1 (by show ¬ A 0 0 25 = 0; omega)
          refine m_if_ne (tgt := 73) C e_q_one_61 (by decide) (by decide) (fun c31 => ?_) (fun c31 => (by omega : False).elim)
          refine m_blk 74 [(0, vr 0 0)] [vr 0 0] C f_q_one_73_1 rfl ?_
          obtain ⟨x32, hx32⟩ : ∃ x, A 0 0 27 = x := ⟨_, rfl⟩
          have rx32 : 0 ≤ x32 ∧ x32 ≤ 4 := mrg hT hx32 rfl
          refine m_geti C e_q_one_74 fg_Mo_182 rfl (by decide) rfl x32 hx32 ?_
          refine m_blk 78 [(0, vr 0 0)] [vi 4, vi x32] C f_q_one_77_1 rfl ?_
          refine m_icmp_ne (tgt := 88) C e_q_one_78 (by decide) (by omega) (by decide) (fun c33 => ?_) (fun c33 => ?_)
          · obtain ⟨d1, hd1⟩ : ∃ d1, d = d1 + 1 := ⟨d - 1, by omega⟩
            refine m_blk 91 [(0, vr 0 0)] [vi 45, vr 0 0] C f_q_one_88_2 rfl ?_
            refine m_callV C Rm Y [vi 45] [] (q_isSign l D B H0 ad _ hT 45 (by show -2147483648 ≤ 45 ∧ 45 ≤ 2147483647; omega)) cl_Mo_173 rfl (by decide) rfl rfl e_q_one_91 rfl rfl rfl ⟨by show _ ≤ (10 + 4 * d : Nat); omega, by show _ ≤ (400 + 200 * d : Nat); omega⟩ ?_
            rintro v34 A35 ⟨z38, rfl, rfl, raw_hz_n37⟩
            show JM g D ad w0 A 94 [(0, vr 0 0)] [vi z38]
            have hz_n37 : z38 = 1 ∧ A 0 0 31 = 0 ∧ A 0 0 25 = 4 ∧ A 0 0 26 = 45 ∨ z38 = 0 ∧ ¬ (A 0 0 31 = 0 ∧ A 0 0 25 = 4 ∧ A 0 0 26 = 45) := raw_hz_n37
            clear raw_hz_n37
            rcases hz_n37 with ⟨e_n37, hz_n37⟩ | ⟨e_n37, hz_n37⟩
            · subst e_n37
              have bt_n37 : A 0 0 24 < A 0 0 23 := pT_lt (A := A) hn hz_n37.1 (by show ¬ A 0 0 25 = 0; omega)
              refine m_blk 97 [(1, vi 1), (0, vr 0 0)] [vr 0 0, vr 0 0] C f_q_one_94_3 rfl ?_
              refine m_geti C e_q_one_97 fg_Mo_182 rfl (by decide) rfl x32 hx32 ?_
              refine m_blk 102 [(1, vi 1), (0, vr 0 0)] [vi (x32 + 1), vr 0 0] C f_q_one_100_2 rfl ?_
              refine m_puti C e_q_one_102 fp_Mo_182 rfl (by decide) rfl ?_
              have t39 : mTy (mu A 0 0 27 (x32 + 1)) := hT.mu (by show 0 ≤ (x32 + 1) ∧ (x32 + 1) ≤ 4; omega)
              have q40 := hE0.mu (f := 0) (k := 0) (j := 27) (z := (x32 + 1)) (by simp [em])
              refine m_blk 106 [(1, vi 1), (0, vr 0 0)] [vr 0 0] C f_q_one_105_1 rfl ?_
              refine m_callV C Rm Y [] [] (q_next l D B H0 ad _ hS t39 (by show A 0 0 23 ≤ A 0 0 22; omega)) cl_Mo_176 rfl (by decide) rfl rfl e_q_one_106 rfl rfl rfl ⟨by show _ ≤ (10 + 4 * d : Nat); omega, by show _ ≤ (400 + 200 * d : Nat); omega⟩ ?_
              rintro v41 A42 ⟨rfl, hT_n44, hE_n44, raw_hw_n44, raw_hb_n44⟩
              have hF_n44 := q40.trans (hE_n44.sub (nm_em _))
              show JM g D ad w0 A42 109 [(1, vi 1), (0, vr 0 0)] []
              obtain ⟨b1_n44, b2_n44, b3_n44, pt_n44⟩ : A 0 0 23 ≤ A42 0 0 24 ∧ A42 0 0 24 ≤ A42 0 0 23 ∧ A42 0 0 23 ≤ A42 0 0 22 ∧ pT A42 := raw_hb_n44 g0
              clear raw_hb_n44 raw_hw_n44
              have k0_n44 : A42 0 0 0 = A 0 0 0 := hE_n44 0 0 0 rfl
              have k22_n44 : A42 0 0 22 = A 0 0 22 := hE_n44 0 0 22 rfl
              have k27_n44 : A42 0 0 27 = (x32 + 1) := hE_n44 0 0 27 rfl
              have k28_n44 : A42 0 0 28 = A 0 0 28 := hE_n44 0 0 28 rfl
              have k29_n44 : A42 0 0 29 = A 0 0 29 := hE_n44 0 0 29 rfl
              have k30_n44 : A42 0 0 30 = A 0 0 30 := hE_n44 0 0 30 rfl
              rcases (show A42 0 0 31 = 0 ∨ A42 0 0 31 = 1 from by have w9 := hT_n44 0 0 31; have w8 : 0 ≤ A42 0 0 31 ∧ A42 0 0 31 ≤ 1 := w9; omega) with g_n44 | g_n44
              · refine m_blk 110 [(1, vi 1), (0, vr 0 0)] [vi 1] C f_q_one_109_1 rfl ?_
                refine m_if_eq (tgt := 120) C e_q_one_110 (by decide) (by decide) (fun c45 => (by omega : False).elim) (fun c45 => ?_)
                refine m_blk 114 [(1, vi 1), (0, vr 0 0)] [vr 0 0] C f_q_one_113_1 rfl ?_
                refine m_callV C Rm Y [] [] ((hrec d1 hd1).1 l D B H0 ad _ hS hT_n44 p0 (by show A42 0 0 0 = p0 ∧ 0 ≤ p0 ∧ p0 ≤ 5; omega) (by show A42 0 0 24 ≤ A42 0 0 23 ∧ A42 0 0 23 ≤ A42 0 0 22; omega) pt_n44 (fun _ => by show A42 0 0 30 + 3 * A42 0 0 29 ≤ A42 0 0 24; omega) (nG.nm (A := (mu A 0 0 27 (x32 + 1))) hG hE_n44) (by show A42 0 0 27 = 4 - (d1 : Int) ∧ (d1 : Int) ≤ 4; omega)) cl_Mo_225 rfl (by decide) rfl rfl e_q_one_114 rfl rfl rfl ⟨by show _ ≤ (10 + 4 * d : Nat); omega, by show _ ≤ (400 + 200 * d : Nat); omega⟩ ?_
                rintro v46 A47 ⟨z50, rfl, hT_n49, hE_n49, raw_hz_n49, raw_hb_n49, raw_hn_n49, raw_hw_n49, raw_hm_n49, raw_hG_n49, raw_hK_n49⟩
                have hF_n49 := hF_n44.trans (hE_n49.sub (fun _ _ _ h => h))
                show JM g D ad w0 A47 117 [(1, vi 1), (0, vr 0 0)] [vi z50]
                have hz_n49 : 0 ≤ z50 ∧ z50 ≤ 119 := raw_hz_n49
                clear raw_hz_n49
                have hb_n49 : A47 0 0 24 ≤ A47 0 0 23 ∧ A47 0 0 23 ≤ A47 0 0 22 := raw_hb_n49
                clear raw_hb_n49
                have hm_n49 : A42 0 0 24 ≤ A47 0 0 24 ∧ A42 0 0 30 ≤ A47 0 0 30 ∧ A47 0 0 27 = A42 0 0 27 := raw_hm_n49
                clear raw_hm_n49
                have pt_n49 : pT A47 := raw_hn_n49
                have k0_n49 : A47 0 0 0 = A42 0 0 0 := hE_n49 0 0 0 rfl
                have k22_n49 : A47 0 0 22 = A42 0 0 22 := hE_n49 0 0 22 rfl
                have k28_n49 : A47 0 0 28 = A42 0 0 28 := hE_n49 0 0 28 rfl
                have k29_n49 : A47 0 0 29 = A42 0 0 29 := hE_n49 0 0 29 rfl
                have hG_n49 : nG p0.toNat A47 := raw_hG_n49
                have hK_n49 : nK p0.toNat A42 A47 := raw_hK_n49
                rcases (show A47 0 0 31 = 0 ∨ A47 0 0 31 = 1 from by have w9 := hT_n49 0 0 31; have w8 : 0 ≤ A47 0 0 31 ∧ A47 0 0 31 ≤ 1 := w9; omega) with g_n49 | g_n49
                · have u_n49 : z50 < A47 0 0 30 ∧ A42 0 0 24 - A42 0 0 30 ≤ A47 0 0 24 - A47 0 0 30 := (raw_hw_n49 g_n49).2
                  refine m_blk 124 [(1, vi 1), (0, vr 0 0)] [vi z50] C f_q_one_117_1 rfl ?_
                  refine m_blk 127 [(2, vi z50), (1, vi 1), (0, vr 0 0)] [vr 0 0, vr 0 0] C f_q_one_124_3 rfl ?_
                  obtain ⟨x51, hx51⟩ : ∃ x, A47 0 0 27 = x := ⟨_, rfl⟩
                  have rx51 : 0 ≤ x51 ∧ x51 ≤ 4 := mrg hT_n49 hx51 rfl
                  refine m_geti C e_q_one_127 fg_Mo_182 rfl (by decide) rfl x51 hx51 ?_
                  refine m_blk 132 [(2, vi z50), (1, vi 1), (0, vr 0 0)] [vi (x51 - 1), vr 0 0] C f_q_one_130_2 rfl ?_
                  refine m_puti C e_q_one_132 fp_Mo_182 rfl (by decide) rfl ?_
                  have t52 : mTy (mu A47 0 0 27 (x51 - 1)) := hT_n49.mu (by show 0 ≤ (x51 - 1) ∧ (x51 - 1) ≤ 4; omega)
                  have q53 := hF_n49.mu (f := 0) (k := 0) (j := 27) (z := (x51 - 1)) (by simp [em])
                  refine m_blk 136 [(2, vi z50), (1, vi 1), (0, vr 0 0)] [vi 1] C f_q_one_135_1 rfl ?_
                  refine m_if_eq (tgt := 148) C e_q_one_136 (by decide) (by decide) (fun c54 => (by omega : False).elim) (fun c54 => ?_)
                  refine m_blk 144 [(2, vi z50), (1, vi 1), (0, vr 0 0)] [vi (-1), vi z50, vi 0, vi 2, vr 0 0] C f_q_one_139_5 rfl ?_
                  refine m_callV C Rm Y [vi 2, vi 0, vi z50, vi (-1)] [] (q_node l D B H0 ad _ t52 p0 2 0 z50 (-1) (by show A47 0 0 0 = p0 ∧ 0 ≤ p0 ∧ p0 ≤ 5; omega) (fun _ => by show A47 0 0 30 ≤ 119; omega) (by show (-1 ≤ 2 ∧ 2 ≤ 255) ∧ (-1 ≤ 0 ∧ 0 ≤ 255) ∧ (-1 ≤ z50 ∧ z50 ≤ 119) ∧ (-1 ≤ (-1) ∧ (-1) ≤ 119); omega) hG_n49 (fun _ => by show z50 < A47 0 0 30 ∧ (-1) < A47 0 0 30 ∧ (2 ≠ 0 → 2 ≠ 1 → 0 ≤ z50) ∧ (2 ≠ 0 → 2 ≠ 1 → 2 ≠ 2 → 0 ≤ (-1)); omega)) cl_Mo_218 rfl (by decide) rfl rfl e_q_one_144 rfl rfl rfl ⟨by show _ ≤ (10 + 4 * d : Nat); omega, by show _ ≤ (400 + 200 * d : Nat); omega⟩ ?_
                  rintro v55 A56 ⟨z59, rfl, hT_n58, hE_n58, raw_hz_n58, raw_hw_n58, raw_hi_n58, raw_hm_n58, raw_hG_n58, raw_hK_n58⟩
                  have hF_n58 := q53.trans (hE_n58.sub (nd_em _))
                  show JM g D ad w0 A56 147 [(2, vi z50), (1, vi 1), (0, vr 0 0)] [vi z59]
                  have hz_n58 : 0 ≤ z59 ∧ z59 ≤ 119 := raw_hz_n58
                  clear raw_hz_n58
                  obtain ⟨b1_n58, b2_n58⟩ : A56 0 0 30 = A47 0 0 30 + 1 ∧ z59 = A47 0 0 30 := raw_hi_n58 g_n49
                  clear raw_hi_n58 raw_hw_n58
                  have k0_n58 : A56 0 0 0 = A47 0 0 0 := hE_n58 0 0 0 rfl
                  have k22_n58 : A56 0 0 22 = A47 0 0 22 := hE_n58 0 0 22 rfl
                  have k23_n58 : A56 0 0 23 = A47 0 0 23 := hE_n58 0 0 23 rfl
                  have k24_n58 : A56 0 0 24 = A47 0 0 24 := hE_n58 0 0 24 rfl
                  have k25_n58 : A56 0 0 25 = A47 0 0 25 := hE_n58 0 0 25 rfl
                  have k26_n58 : A56 0 0 26 = A47 0 0 26 := hE_n58 0 0 26 rfl
                  have k27_n58 : A56 0 0 27 = (x51 - 1) := hE_n58 0 0 27 rfl
                  have k28_n58 : A56 0 0 28 = A47 0 0 28 := hE_n58 0 0 28 rfl
                  have k29_n58 : A56 0 0 29 = A47 0 0 29 := hE_n58 0 0 29 rfl
                  have g_n58 : A56 0 0 31 = 0 := (hE_n58 0 0 31 rfl).trans g_n49
                  have hG_n58 : nG p0.toNat A56 := raw_hG_n58
                  have hK_n58 : nK p0.toNat (mu A47 0 0 27 (x51 - 1)) A56 := raw_hK_n58
                  have pt_n58 : pT A56 := pT_eq (A := (mu A47 0 0 27 (x51 - 1))) pt_n49 (hE_n58 0 0 31 rfl) (hE_n58 0 0 25 rfl) (hE_n58 0 0 24 rfl) (hE_n58 0 0 23 rfl) (hE_n58 0 0 26 rfl)
                  exact m_iret C Rm E e_q_one_147 ⟨z59, rfl, hT_n58, hF_n58, (by show 0 ≤ z59 ∧ z59 ≤ 119; omega), (by show A56 0 0 24 ≤ A56 0 0 23 ∧ A56 0 0 23 ≤ A56 0 0 22; omega), pt_n58, (fun _ => ⟨g0, (by show z59 < A56 0 0 30; omega), (by show A 0 0 24 - A 0 0 30 ≤ A56 0 0 24 - A56 0 0 30; omega)⟩), (by show A 0 0 24 ≤ A56 0 0 24 ∧ A 0 0 30 ≤ A56 0 0 30 ∧ A56 0 0 27 = A 0 0 27; omega), hG_n58, (nK.trans (A2 := (mu A47 0 0 27 (x51 - 1))) (nK.trans (A2 := A42) (nK.nm (A2 := (mu A 0 0 27 (x32 + 1))) nK.rfl' hE_n44) hK_n49 (by show A 0 0 30 ≤ A42 0 0 30; omega)) hK_n58 (by show A 0 0 30 ≤ A47 0 0 30; omega))⟩
                · refine m_blk 124 [(1, vi 1), (0, vr 0 0)] [vi z50] C f_q_one_117_1 rfl ?_
                  refine m_blk 127 [(2, vi z50), (1, vi 1), (0, vr 0 0)] [vr 0 0, vr 0 0] C f_q_one_124_3 rfl ?_
                  obtain ⟨x60, hx60⟩ : ∃ x, A47 0 0 27 = x := ⟨_, rfl⟩
                  have rx60 : 0 ≤ x60 ∧ x60 ≤ 4 := mrg hT_n49 hx60 rfl
                  refine m_geti C e_q_one_127 fg_Mo_182 rfl (by decide) rfl x60 hx60 ?_
                  refine m_blk 132 [(2, vi z50), (1, vi 1), (0, vr 0 0)] [vi (x60 - 1), vr 0 0] C f_q_one_130_2 rfl ?_
                  refine m_puti C e_q_one_132 fp_Mo_182 rfl (by decide) rfl ?_
                  have t61 : mTy (mu A47 0 0 27 (x60 - 1)) := hT_n49.mu (by show 0 ≤ (x60 - 1) ∧ (x60 - 1) ≤ 4; omega)
                  have q62 := hF_n49.mu (f := 0) (k := 0) (j := 27) (z := (x60 - 1)) (by simp [em])
                  refine m_blk 136 [(2, vi z50), (1, vi 1), (0, vr 0 0)] [vi 1] C f_q_one_135_1 rfl ?_
                  refine m_if_eq (tgt := 148) C e_q_one_136 (by decide) (by decide) (fun c63 => (by omega : False).elim) (fun c63 => ?_)
                  refine m_blk 144 [(2, vi z50), (1, vi 1), (0, vr 0 0)] [vi (-1), vi z50, vi 0, vi 2, vr 0 0] C f_q_one_139_5 rfl ?_
                  refine m_callV C Rm Y [vi 2, vi 0, vi z50, vi (-1)] [] (q_node l D B H0 ad _ t61 p0 2 0 z50 (-1) (by show A47 0 0 0 = p0 ∧ 0 ≤ p0 ∧ p0 ≤ 5; omega) (fun h9 => absurd ((g_n49 : A47 0 0 31 = 1).symm.trans h9) (by decide)) (by show (-1 ≤ 2 ∧ 2 ≤ 255) ∧ (-1 ≤ 0 ∧ 0 ≤ 255) ∧ (-1 ≤ z50 ∧ z50 ≤ 119) ∧ (-1 ≤ (-1) ∧ (-1) ≤ 119); omega) hG_n49 (fun h9 => absurd ((g_n49 : A47 0 0 31 = 1).symm.trans h9) (by decide))) cl_Mo_218 rfl (by decide) rfl rfl e_q_one_144 rfl rfl rfl ⟨by show _ ≤ (10 + 4 * d : Nat); omega, by show _ ≤ (400 + 200 * d : Nat); omega⟩ ?_
                  rintro v64 A65 ⟨z68, rfl, hT_n67, hE_n67, raw_hz_n67, raw_hw_n67, raw_hi_n67, raw_hm_n67, raw_hG_n67, raw_hK_n67⟩
                  have hF_n67 := q62.trans (hE_n67.sub (nd_em _))
                  show JM g D ad w0 A65 147 [(2, vi z50), (1, vi 1), (0, vr 0 0)] [vi z68]
                  have hz_n67 : 0 ≤ z68 ∧ z68 ≤ 119 := raw_hz_n67
                  clear raw_hz_n67
                  have ee_n67 := (raw_hw_n67 g_n49).symm
                  subst ee_n67
                  show JM g D ad w0 (mu A47 0 0 27 (x60 - 1)) 147 [(2, vi z50), (1, vi 1), (0, vr 0 0)] [vi z68]
                  exact m_iret C Rm E e_q_one_147 ⟨z68, rfl, t61, q62, (by show 0 ≤ z68 ∧ z68 ≤ 119; omega), (by show A47 0 0 24 ≤ A47 0 0 23 ∧ A47 0 0 23 ≤ A47 0 0 22; omega), pt_n49, (fun h9 => absurd ((g_n49 : A47 0 0 31 = 1).symm.trans h9) (by decide)), (by show A 0 0 24 ≤ A47 0 0 24 ∧ A 0 0 30 ≤ A47 0 0 30 ∧ (x60 - 1) = A 0 0 27; omega), hG_n49, (nK.trans (A2 := A42) (nK.nm (A2 := (mu A 0 0 27 (x32 + 1))) nK.rfl' hE_n44) hK_n49 (by show A 0 0 30 ≤ A42 0 0 30; omega))⟩
              · refine m_blk 110 [(1, vi 1), (0, vr 0 0)] [vi 1] C f_q_one_109_1 rfl ?_
                refine m_if_eq (tgt := 120) C e_q_one_110 (by decide) (by decide) (fun c69 => (by omega : False).elim) (fun c69 => ?_)
                refine m_blk 114 [(1, vi 1), (0, vr 0 0)] [vr 0 0] C f_q_one_113_1 rfl ?_
                refine m_callV C Rm Y [] [] ((hrec d1 hd1).1 l D B H0 ad _ hS hT_n44 p0 (by show A42 0 0 0 = p0 ∧ 0 ≤ p0 ∧ p0 ≤ 5; omega) (by show A42 0 0 24 ≤ A42 0 0 23 ∧ A42 0 0 23 ≤ A42 0 0 22; omega) pt_n44 (fun h9 => absurd ((g_n44 : A42 0 0 31 = 1).symm.trans h9) (by decide)) (nG.nm (A := (mu A 0 0 27 (x32 + 1))) hG hE_n44) (by show A42 0 0 27 = 4 - (d1 : Int) ∧ (d1 : Int) ≤ 4; omega)) cl_Mo_225 rfl (by decide) rfl rfl e_q_one_114 rfl rfl rfl ⟨by show _ ≤ (10 + 4 * d : Nat); omega, by show _ ≤ (400 + 200 * d : Nat); omega⟩ ?_
                rintro v70 A71 ⟨z74, rfl, hT_n73, hE_n73, raw_hz_n73, raw_hb_n73, raw_hn_n73, raw_hw_n73, raw_hm_n73, raw_hG_n73, raw_hK_n73⟩
                have hF_n73 := hF_n44.trans (hE_n73.sub (fun _ _ _ h => h))
                show JM g D ad w0 A71 117 [(1, vi 1), (0, vr 0 0)] [vi z74]
                have hz_n73 : 0 ≤ z74 ∧ z74 ≤ 119 := raw_hz_n73
                clear raw_hz_n73
                have hb_n73 : A71 0 0 24 ≤ A71 0 0 23 ∧ A71 0 0 23 ≤ A71 0 0 22 := raw_hb_n73
                clear raw_hb_n73
                have hm_n73 : A42 0 0 24 ≤ A71 0 0 24 ∧ A42 0 0 30 ≤ A71 0 0 30 ∧ A71 0 0 27 = A42 0 0 27 := raw_hm_n73
                clear raw_hm_n73
                have pt_n73 : pT A71 := raw_hn_n73
                have k0_n73 : A71 0 0 0 = A42 0 0 0 := hE_n73 0 0 0 rfl
                have k22_n73 : A71 0 0 22 = A42 0 0 22 := hE_n73 0 0 22 rfl
                have k28_n73 : A71 0 0 28 = A42 0 0 28 := hE_n73 0 0 28 rfl
                have k29_n73 : A71 0 0 29 = A42 0 0 29 := hE_n73 0 0 29 rfl
                have hG_n73 : nG p0.toNat A71 := raw_hG_n73
                have hK_n73 : nK p0.toNat A42 A71 := raw_hK_n73
                have g_n73 : A71 0 0 31 = 1 := wr_1 (hT_n73 0 0 31) (fun h9 => absurd ((g_n44 : A42 0 0 31 = 1).symm.trans (raw_hw_n73 h9).1) (by decide))
                refine m_blk 124 [(1, vi 1), (0, vr 0 0)] [vi z74] C f_q_one_117_1 rfl ?_
                refine m_blk 127 [(2, vi z74), (1, vi 1), (0, vr 0 0)] [vr 0 0, vr 0 0] C f_q_one_124_3 rfl ?_
                obtain ⟨x75, hx75⟩ : ∃ x, A71 0 0 27 = x := ⟨_, rfl⟩
                have rx75 : 0 ≤ x75 ∧ x75 ≤ 4 := mrg hT_n73 hx75 rfl
                refine m_geti C e_q_one_127 fg_Mo_182 rfl (by decide) rfl x75 hx75 ?_
                refine m_blk 132 [(2, vi z74), (1, vi 1), (0, vr 0 0)] [vi (x75 - 1), vr 0 0] C f_q_one_130_2 rfl ?_
                refine m_puti C e_q_one_132 fp_Mo_182 rfl (by decide) rfl ?_
                have t76 : mTy (mu A71 0 0 27 (x75 - 1)) := hT_n73.mu (by show 0 ≤ (x75 - 1) ∧ (x75 - 1) ≤ 4; omega)
                have q77 := hF_n73.mu (f := 0) (k := 0) (j := 27) (z := (x75 - 1)) (by simp [em])
                refine m_blk 136 [(2, vi z74), (1, vi 1), (0, vr 0 0)] [vi 1] C f_q_one_135_1 rfl ?_
                refine m_if_eq (tgt := 148) C e_q_one_136 (by decide) (by decide) (fun c78 => (by omega : False).elim) (fun c78 => ?_)
                refine m_blk 144 [(2, vi z74), (1, vi 1), (0, vr 0 0)] [vi (-1), vi z74, vi 0, vi 2, vr 0 0] C f_q_one_139_5 rfl ?_
                refine m_callV C Rm Y [vi 2, vi 0, vi z74, vi (-1)] [] (q_node l D B H0 ad _ t76 p0 2 0 z74 (-1) (by show A71 0 0 0 = p0 ∧ 0 ≤ p0 ∧ p0 ≤ 5; omega) (fun h9 => absurd ((g_n73 : A71 0 0 31 = 1).symm.trans h9) (by decide)) (by show (-1 ≤ 2 ∧ 2 ≤ 255) ∧ (-1 ≤ 0 ∧ 0 ≤ 255) ∧ (-1 ≤ z74 ∧ z74 ≤ 119) ∧ (-1 ≤ (-1) ∧ (-1) ≤ 119); omega) hG_n73 (fun h9 => absurd ((g_n73 : A71 0 0 31 = 1).symm.trans h9) (by decide))) cl_Mo_218 rfl (by decide) rfl rfl e_q_one_144 rfl rfl rfl ⟨by show _ ≤ (10 + 4 * d : Nat); omega, by show _ ≤ (400 + 200 * d : Nat); omega⟩ ?_
                rintro v79 A80 ⟨z83, rfl, hT_n82, hE_n82, raw_hz_n82, raw_hw_n82, raw_hi_n82, raw_hm_n82, raw_hG_n82, raw_hK_n82⟩
                have hF_n82 := q77.trans (hE_n82.sub (nd_em _))
                show JM g D ad w0 A80 147 [(2, vi z74), (1, vi 1), (0, vr 0 0)] [vi z83]
                have hz_n82 : 0 ≤ z83 ∧ z83 ≤ 119 := raw_hz_n82
                clear raw_hz_n82
                have ee_n82 := (raw_hw_n82 g_n73).symm
                subst ee_n82
                show JM g D ad w0 (mu A71 0 0 27 (x75 - 1)) 147 [(2, vi z74), (1, vi 1), (0, vr 0 0)] [vi z83]
                exact m_iret C Rm E e_q_one_147 ⟨z83, rfl, t76, q77, (by show 0 ≤ z83 ∧ z83 ≤ 119; omega), (by show A71 0 0 24 ≤ A71 0 0 23 ∧ A71 0 0 23 ≤ A71 0 0 22; omega), pt_n73, (fun h9 => absurd ((g_n73 : A71 0 0 31 = 1).symm.trans h9) (by decide)), (by show A 0 0 24 ≤ A71 0 0 24 ∧ A 0 0 30 ≤ A71 0 0 30 ∧ (x75 - 1) = A 0 0 27; omega), hG_n73, (nK.trans (A2 := A42) (nK.nm (A2 := (mu A 0 0 27 (x32 + 1))) nK.rfl' hE_n44) hK_n73 (by show A 0 0 30 ≤ A42 0 0 30; omega))⟩
            · subst e_n37
              clear hz_n37
              refine m_blk 97 [(1, vi 0), (0, vr 0 0)] [vr 0 0, vr 0 0] C f_q_one_94_3 rfl ?_
              refine m_geti C e_q_one_97 fg_Mo_182 rfl (by decide) rfl x32 hx32 ?_
              refine m_blk 102 [(1, vi 0), (0, vr 0 0)] [vi (x32 + 1), vr 0 0] C f_q_one_100_2 rfl ?_
              refine m_puti C e_q_one_102 fp_Mo_182 rfl (by decide) rfl ?_
              have t84 : mTy (mu A 0 0 27 (x32 + 1)) := hT.mu (by show 0 ≤ (x32 + 1) ∧ (x32 + 1) ≤ 4; omega)
              have q85 := hE0.mu (f := 0) (k := 0) (j := 27) (z := (x32 + 1)) (by simp [em])
              refine m_blk 106 [(1, vi 0), (0, vr 0 0)] [vr 0 0] C f_q_one_105_1 rfl ?_
              refine m_callV C Rm Y [] [] (q_next l D B H0 ad _ hS t84 (by show A 0 0 23 ≤ A 0 0 22; omega)) cl_Mo_176 rfl (by decide) rfl rfl e_q_one_106 rfl rfl rfl ⟨by show _ ≤ (10 + 4 * d : Nat); omega, by show _ ≤ (400 + 200 * d : Nat); omega⟩ ?_
              rintro v86 A87 ⟨rfl, hT_n89, hE_n89, raw_hw_n89, raw_hb_n89⟩
              have hF_n89 := q85.trans (hE_n89.sub (nm_em _))
              show JM g D ad w0 A87 109 [(1, vi 0), (0, vr 0 0)] []
              obtain ⟨b1_n89, b2_n89, b3_n89, pt_n89⟩ : A 0 0 23 ≤ A87 0 0 24 ∧ A87 0 0 24 ≤ A87 0 0 23 ∧ A87 0 0 23 ≤ A87 0 0 22 ∧ pT A87 := raw_hb_n89 g0
              clear raw_hb_n89 raw_hw_n89
              have k0_n89 : A87 0 0 0 = A 0 0 0 := hE_n89 0 0 0 rfl
              have k22_n89 : A87 0 0 22 = A 0 0 22 := hE_n89 0 0 22 rfl
              have k27_n89 : A87 0 0 27 = (x32 + 1) := hE_n89 0 0 27 rfl
              have k28_n89 : A87 0 0 28 = A 0 0 28 := hE_n89 0 0 28 rfl
              have k29_n89 : A87 0 0 29 = A 0 0 29 := hE_n89 0 0 29 rfl
              have k30_n89 : A87 0 0 30 = A 0 0 30 := hE_n89 0 0 30 rfl
              rcases (show A87 0 0 31 = 0 ∨ A87 0 0 31 = 1 from by have w9 := hT_n89 0 0 31; have w8 : 0 ≤ A87 0 0 31 ∧ A87 0 0 31 ≤ 1 := w9; omega) with g_n89 | g_n89
              · refine m_blk 110 [(1, vi 0), (0, vr 0 0)] [vi 0] C f_q_one_109_1 rfl ?_
                refine m_if_eq (tgt := 120) C e_q_one_110 (by decide) (by decide) (fun c90 => ?_) (fun c90 => (by omega : False).elim)
                refine m_blk 121 [(1, vi 0), (0, vr 0 0)] [vr 0 0] C f_q_one_120_1 rfl ?_
                refine m_callV C Rm Y [] [] ((hrec d1 hd1).2 l D B H0 ad _ hS hT_n89 p0 (by show A87 0 0 0 = p0 ∧ 0 ≤ p0 ∧ p0 ≤ 5; omega) (by show A87 0 0 24 ≤ A87 0 0 23 ∧ A87 0 0 23 ≤ A87 0 0 22; omega) pt_n89 (fun _ => by show A87 0 0 30 + 3 * A87 0 0 29 ≤ A87 0 0 24; omega) (nG.nm (A := (mu A 0 0 27 (x32 + 1))) hG hE_n89) (by show A87 0 0 27 = 4 - (d1 : Int) ∧ (d1 : Int) ≤ 4; omega)) cl_Mo_206 rfl (by decide) rfl rfl e_q_one_121 rfl rfl rfl ⟨by show _ ≤ (10 + 4 * d : Nat); omega, by show _ ≤ (400 + 200 * d : Nat); omega⟩ ?_
                rintro v91 A92 ⟨z95, rfl, hT_n94, hE_n94, raw_hz_n94, raw_hb_n94, raw_hn_n94, raw_hw_n94, raw_hm_n94, raw_hG_n94, raw_hK_n94⟩
                have hF_n94 := hF_n89.trans (hE_n94.sub (fun _ _ _ h => h))
                show JM g D ad w0 A92 124 [(1, vi 0), (0, vr 0 0)] [vi z95]
                have hz_n94 : 0 ≤ z95 ∧ z95 ≤ 119 := raw_hz_n94
                clear raw_hz_n94
                have hb_n94 : A92 0 0 24 ≤ A92 0 0 23 ∧ A92 0 0 23 ≤ A92 0 0 22 := raw_hb_n94
                clear raw_hb_n94
                have hm_n94 : A87 0 0 24 ≤ A92 0 0 24 ∧ A87 0 0 30 ≤ A92 0 0 30 ∧ A92 0 0 27 = A87 0 0 27 := raw_hm_n94
                clear raw_hm_n94
                have pt_n94 : pT A92 := raw_hn_n94
                have k0_n94 : A92 0 0 0 = A87 0 0 0 := hE_n94 0 0 0 rfl
                have k22_n94 : A92 0 0 22 = A87 0 0 22 := hE_n94 0 0 22 rfl
                have k28_n94 : A92 0 0 28 = A87 0 0 28 := hE_n94 0 0 28 rfl
                have k29_n94 : A92 0 0 29 = A87 0 0 29 := hE_n94 0 0 29 rfl
                have hG_n94 : nG p0.toNat A92 := raw_hG_n94
                have hK_n94 : nK p0.toNat A87 A92 := raw_hK_n94
                rcases (show A92 0 0 31 = 0 ∨ A92 0 0 31 = 1 from by have w9 := hT_n94 0 0 31; have w8 : 0 ≤ A92 0 0 31 ∧ A92 0 0 31 ≤ 1 := w9; omega) with g_n94 | g_n94
                · have u_n94 : z95 < A92 0 0 30 ∧ A87 0 0 24 - A87 0 0 30 ≤ A92 0 0 24 - A92 0 0 30 := (raw_hw_n94 g_n94).2
                  refine m_blk 127 [(2, vi z95), (1, vi 0), (0, vr 0 0)] [vr 0 0, vr 0 0] C f_q_one_124_3 rfl ?_
                  obtain ⟨x96, hx96⟩ : ∃ x, A92 0 0 27 = x := ⟨_, rfl⟩
                  have rx96 : 0 ≤ x96 ∧ x96 ≤ 4 := mrg hT_n94 hx96 rfl
                  refine m_geti C e_q_one_127 fg_Mo_182 rfl (by decide) rfl x96 hx96 ?_
                  refine m_blk 132 [(2, vi z95), (1, vi 0), (0, vr 0 0)] [vi (x96 - 1), vr 0 0] C f_q_one_130_2 rfl ?_
                  refine m_puti C e_q_one_132 fp_Mo_182 rfl (by decide) rfl ?_
                  have t97 : mTy (mu A92 0 0 27 (x96 - 1)) := hT_n94.mu (by show 0 ≤ (x96 - 1) ∧ (x96 - 1) ≤ 4; omega)
                  have q98 := hF_n94.mu (f := 0) (k := 0) (j := 27) (z := (x96 - 1)) (by simp [em])
                  refine m_blk 136 [(2, vi z95), (1, vi 0), (0, vr 0 0)] [vi 0] C f_q_one_135_1 rfl ?_
                  refine m_if_eq (tgt := 148) C e_q_one_136 (by decide) (by decide) (fun c99 => ?_) (fun c99 => (by omega : False).elim)
                  refine m_blk 151 [(2, vi z95), (1, vi 0), (0, vr 0 0)] [vi 41, vr 0 0] C f_q_one_148_2 rfl ?_
                  refine m_callV C Rm Y [vi 41] [] (q_need l D B H0 ad _ hS t97 41 (by show -2147483648 ≤ 41 ∧ 41 ≤ 2147483647; omega) (by show A92 0 0 24 ≤ A92 0 0 23 ∧ A92 0 0 23 ≤ A92 0 0 22; omega) pt_n94) cl_Mo_188 rfl (by decide) rfl rfl e_q_one_151 rfl rfl rfl ⟨by show _ ≤ (10 + 4 * d : Nat); omega, by show _ ≤ (400 + 200 * d : Nat); omega⟩ ?_
                  rintro v100 A101 ⟨rfl, hT_n103, hE_n103, raw_hb_n103, raw_hn_n103, raw_hw_n103, raw_hm_n103⟩
                  have hF_n103 := q98.trans (hE_n103.sub (nm_em _))
                  show JM g D ad w0 A101 154 [(2, vi z95), (1, vi 0), (0, vr 0 0)] []
                  have hb_n103 : A101 0 0 24 ≤ A101 0 0 23 ∧ A101 0 0 23 ≤ A101 0 0 22 := raw_hb_n103
                  clear raw_hb_n103
                  have hm_n103 : A92 0 0 24 ≤ A101 0 0 24 := raw_hm_n103
                  clear raw_hm_n103
                  have pt_n103 : pT A101 := raw_hn_n103
                  clear raw_hn_n103
                  have k0_n103 : A101 0 0 0 = A92 0 0 0 := hE_n103 0 0 0 rfl
                  have k22_n103 : A101 0 0 22 = A92 0 0 22 := hE_n103 0 0 22 rfl
                  have k27_n103 : A101 0 0 27 = (x96 - 1) := hE_n103 0 0 27 rfl
                  have k28_n103 : A101 0 0 28 = A92 0 0 28 := hE_n103 0 0 28 rfl
                  have k29_n103 : A101 0 0 29 = A92 0 0 29 := hE_n103 0 0 29 rfl
                  have k30_n103 : A101 0 0 30 = A92 0 0 30 := hE_n103 0 0 30 rfl
                  rcases (show A101 0 0 31 = 0 ∨ A101 0 0 31 = 1 from by have w9 := hT_n103 0 0 31; have w8 : 0 ≤ A101 0 0 31 ∧ A101 0 0 31 ≤ 1 := w9; omega) with g_n103 | g_n103
                  · have u_n103 : A92 0 0 31 = 0 ∧ A92 0 0 24 < A101 0 0 24 := raw_hw_n103 g_n103
                    clear raw_hw_n103
                    refine m_blk 155 [(2, vi z95), (1, vi 0), (0, vr 0 0)] [vi z95] C f_q_one_154_1 rfl ?_
                    exact m_iret C Rm E e_q_one_155 ⟨z95, rfl, hT_n103, hF_n103, (by show 0 ≤ z95 ∧ z95 ≤ 119; omega), (by show A101 0 0 24 ≤ A101 0 0 23 ∧ A101 0 0 23 ≤ A101 0 0 22; omega), pt_n103, (fun _ => ⟨g0, (by show z95 < A101 0 0 30; omega), (by show A 0 0 24 - A 0 0 30 ≤ A101 0 0 24 - A101 0 0 30; omega)⟩), (by show A 0 0 24 ≤ A101 0 0 24 ∧ A 0 0 30 ≤ A101 0 0 30 ∧ A101 0 0 27 = A 0 0 27; omega), (nG.nm (A := (mu A92 0 0 27 (x96 - 1))) hG_n94 hE_n103), (nK.nm (A2 := (mu A92 0 0 27 (x96 - 1))) (nK.trans (A2 := A87) (nK.nm (A2 := (mu A 0 0 27 (x32 + 1))) nK.rfl' hE_n89) hK_n94 (by show A 0 0 30 ≤ A87 0 0 30; omega)) hE_n103)⟩
                  · clear raw_hw_n103
                    refine m_blk 155 [(2, vi z95), (1, vi 0), (0, vr 0 0)] [vi z95] C f_q_one_154_1 rfl ?_
                    exact m_iret C Rm E e_q_one_155 ⟨z95, rfl, hT_n103, hF_n103, (by show 0 ≤ z95 ∧ z95 ≤ 119; omega), (by show A101 0 0 24 ≤ A101 0 0 23 ∧ A101 0 0 23 ≤ A101 0 0 22; omega), pt_n103, (fun h9 => absurd ((g_n103 : A101 0 0 31 = 1).symm.trans h9) (by decide)), (by show A 0 0 24 ≤ A101 0 0 24 ∧ A 0 0 30 ≤ A101 0 0 30 ∧ A101 0 0 27 = A 0 0 27; omega), (nG.nm (A := (mu A92 0 0 27 (x96 - 1))) hG_n94 hE_n103), (nK.nm (A2 := (mu A92 0 0 27 (x96 - 1))) (nK.trans (A2 := A87) (nK.nm (A2 := (mu A 0 0 27 (x32 + 1))) nK.rfl' hE_n89) hK_n94 (by show A 0 0 30 ≤ A87 0 0 30; omega)) hE_n103)⟩
                · refine m_blk 127 [(2, vi z95), (1, vi 0), (0, vr 0 0)] [vr 0 0, vr 0 0] C f_q_one_124_3 rfl ?_
                  obtain ⟨x104, hx104⟩ : ∃ x, A92 0 0 27 = x := ⟨_, rfl⟩
                  have rx104 : 0 ≤ x104 ∧ x104 ≤ 4 := mrg hT_n94 hx104 rfl
                  refine m_geti C e_q_one_127 fg_Mo_182 rfl (by decide) rfl x104 hx104 ?_
                  refine m_blk 132 [(2, vi z95), (1, vi 0), (0, vr 0 0)] [vi (x104 - 1), vr 0 0] C f_q_one_130_2 rfl ?_
                  refine m_puti C e_q_one_132 fp_Mo_182 rfl (by decide) rfl ?_
                  have t105 : mTy (mu A92 0 0 27 (x104 - 1)) := hT_n94.mu (by show 0 ≤ (x104 - 1) ∧ (x104 - 1) ≤ 4; omega)
                  have q106 := hF_n94.mu (f := 0) (k := 0) (j := 27) (z := (x104 - 1)) (by simp [em])
                  refine m_blk 136 [(2, vi z95), (1, vi 0), (0, vr 0 0)] [vi 0] C f_q_one_135_1 rfl ?_
                  refine m_if_eq (tgt := 148) C e_q_one_136 (by decide) (by decide) (fun c107 => ?_) (fun c107 => (by omega : False).elim)
                  refine m_blk 151 [(2, vi z95), (1, vi 0), (0, vr 0 0)] [vi 41, vr 0 0] C f_q_one_148_2 rfl ?_
                  refine m_callV C Rm Y [vi 41] [] (q_need l D B H0 ad _ hS t105 41 (by show -2147483648 ≤ 41 ∧ 41 ≤ 2147483647; omega) (by show A92 0 0 24 ≤ A92 0 0 23 ∧ A92 0 0 23 ≤ A92 0 0 22; omega) pt_n94) cl_Mo_188 rfl (by decide) rfl rfl e_q_one_151 rfl rfl rfl ⟨by show _ ≤ (10 + 4 * d : Nat); omega, by show _ ≤ (400 + 200 * d : Nat); omega⟩ ?_
                  rintro v108 A109 ⟨rfl, hT_n111, hE_n111, raw_hb_n111, raw_hn_n111, raw_hw_n111, raw_hm_n111⟩
                  have hF_n111 := q106.trans (hE_n111.sub (nm_em _))
                  show JM g D ad w0 A109 154 [(2, vi z95), (1, vi 0), (0, vr 0 0)] []
                  have hb_n111 : A109 0 0 24 ≤ A109 0 0 23 ∧ A109 0 0 23 ≤ A109 0 0 22 := raw_hb_n111
                  clear raw_hb_n111
                  have hm_n111 : A92 0 0 24 ≤ A109 0 0 24 := raw_hm_n111
                  clear raw_hm_n111
                  have pt_n111 : pT A109 := raw_hn_n111
                  clear raw_hn_n111
                  have k0_n111 : A109 0 0 0 = A92 0 0 0 := hE_n111 0 0 0 rfl
                  have k22_n111 : A109 0 0 22 = A92 0 0 22 := hE_n111 0 0 22 rfl
                  have k27_n111 : A109 0 0 27 = (x104 - 1) := hE_n111 0 0 27 rfl
                  have k28_n111 : A109 0 0 28 = A92 0 0 28 := hE_n111 0 0 28 rfl
                  have k29_n111 : A109 0 0 29 = A92 0 0 29 := hE_n111 0 0 29 rfl
                  have k30_n111 : A109 0 0 30 = A92 0 0 30 := hE_n111 0 0 30 rfl
                  have g_n111 : A109 0 0 31 = 1 := wr_1 (hT_n111 0 0 31) (fun h9 => absurd ((g_n94 : A92 0 0 31 = 1).symm.trans (raw_hw_n111 h9).1) (by decide))
                  clear raw_hw_n111
                  refine m_blk 155 [(2, vi z95), (1, vi 0), (0, vr 0 0)] [vi z95] C f_q_one_154_1 rfl ?_
                  exact m_iret C Rm E e_q_one_155 ⟨z95, rfl, hT_n111, hF_n111, (by show 0 ≤ z95 ∧ z95 ≤ 119; omega), (by show A109 0 0 24 ≤ A109 0 0 23 ∧ A109 0 0 23 ≤ A109 0 0 22; omega), pt_n111, (fun h9 => absurd ((g_n111 : A109 0 0 31 = 1).symm.trans h9) (by decide)), (by show A 0 0 24 ≤ A109 0 0 24 ∧ A 0 0 30 ≤ A109 0 0 30 ∧ A109 0 0 27 = A 0 0 27; omega), (nG.nm (A := (mu A92 0 0 27 (x104 - 1))) hG_n94 hE_n111), (nK.nm (A2 := (mu A92 0 0 27 (x104 - 1))) (nK.trans (A2 := A87) (nK.nm (A2 := (mu A 0 0 27 (x32 + 1))) nK.rfl' hE_n89) hK_n94 (by show A 0 0 30 ≤ A87 0 0 30; omega)) hE_n111)⟩
              · refine m_blk 110 [(1, vi 0), (0, vr 0 0)] [vi 0] C f_q_one_109_1 rfl ?_
                refine m_if_eq (tgt := 120) C e_q_one_110 (by decide) (by decide) (fun c112 => ?_) (fun c112 => (by omega : False).elim)
                refine m_blk 121 [(1, vi 0), (0, vr 0 0)] [vr 0 0] C f_q_one_120_1 rfl ?_
                refine m_callV C Rm Y [] [] ((hrec d1 hd1).2 l D B H0 ad _ hS hT_n89 p0 (by show A87 0 0 0 = p0 ∧ 0 ≤ p0 ∧ p0 ≤ 5; omega) (by show A87 0 0 24 ≤ A87 0 0 23 ∧ A87 0 0 23 ≤ A87 0 0 22; omega) pt_n89 (fun h9 => absurd ((g_n89 : A87 0 0 31 = 1).symm.trans h9) (by decide)) (nG.nm (A := (mu A 0 0 27 (x32 + 1))) hG hE_n89) (by show A87 0 0 27 = 4 - (d1 : Int) ∧ (d1 : Int) ≤ 4; omega)) cl_Mo_206 rfl (by decide) rfl rfl e_q_one_121 rfl rfl rfl ⟨by show _ ≤ (10 + 4 * d : Nat); omega, by show _ ≤ (400 + 200 * d : Nat); omega⟩ ?_
                rintro v113 A114 ⟨z117, rfl, hT_n116, hE_n116, raw_hz_n116, raw_hb_n116, raw_hn_n116, raw_hw_n116, raw_hm_n116, raw_hG_n116, raw_hK_n116⟩
                have hF_n116 := hF_n89.trans (hE_n116.sub (fun _ _ _ h => h))
                show JM g D ad w0 A114 124 [(1, vi 0), (0, vr 0 0)] [vi z117]
                have hz_n116 : 0 ≤ z117 ∧ z117 ≤ 119 := raw_hz_n116
                clear raw_hz_n116
                have hb_n116 : A114 0 0 24 ≤ A114 0 0 23 ∧ A114 0 0 23 ≤ A114 0 0 22 := raw_hb_n116
                clear raw_hb_n116
                have hm_n116 : A87 0 0 24 ≤ A114 0 0 24 ∧ A87 0 0 30 ≤ A114 0 0 30 ∧ A114 0 0 27 = A87 0 0 27 := raw_hm_n116
                clear raw_hm_n116
                have pt_n116 : pT A114 := raw_hn_n116
                have k0_n116 : A114 0 0 0 = A87 0 0 0 := hE_n116 0 0 0 rfl
                have k22_n116 : A114 0 0 22 = A87 0 0 22 := hE_n116 0 0 22 rfl
                have k28_n116 : A114 0 0 28 = A87 0 0 28 := hE_n116 0 0 28 rfl
                have k29_n116 : A114 0 0 29 = A87 0 0 29 := hE_n116 0 0 29 rfl
                have hG_n116 : nG p0.toNat A114 := raw_hG_n116
                have hK_n116 : nK p0.toNat A87 A114 := raw_hK_n116
                have g_n116 : A114 0 0 31 = 1 := wr_1 (hT_n116 0 0 31) (fun h9 => absurd ((g_n89 : A87 0 0 31 = 1).symm.trans (raw_hw_n116 h9).1) (by decide))
                refine m_blk 127 [(2, vi z117), (1, vi 0), (0, vr 0 0)] [vr 0 0, vr 0 0] C f_q_one_124_3 rfl ?_
                obtain ⟨x118, hx118⟩ : ∃ x, A114 0 0 27 = x := ⟨_, rfl⟩
                have rx118 : 0 ≤ x118 ∧ x118 ≤ 4 := mrg hT_n116 hx118 rfl
                refine m_geti C e_q_one_127 fg_Mo_182 rfl (by decide) rfl x118 hx118 ?_
                refine m_blk 132 [(2, vi z117), (1, vi 0), (0, vr 0 0)] [vi (x118 - 1), vr 0 0] C f_q_one_130_2 rfl ?_
                refine m_puti C e_q_one_132 fp_Mo_182 rfl (by decide) rfl ?_
                have t119 : mTy (mu A114 0 0 27 (x118 - 1)) := hT_n116.mu (by show 0 ≤ (x118 - 1) ∧ (x118 - 1) ≤ 4; omega)
                have q120 := hF_n116.mu (f := 0) (k := 0) (j := 27) (z := (x118 - 1)) (by simp [em])
                refine m_blk 136 [(2, vi z117), (1, vi 0), (0, vr 0 0)] [vi 0] C f_q_one_135_1 rfl ?_
                refine m_if_eq (tgt := 148) C e_q_one_136 (by decide) (by decide) (fun c121 => ?_) (fun c121 => (by omega : False).elim)
                refine m_blk 151 [(2, vi z117), (1, vi 0), (0, vr 0 0)] [vi 41, vr 0 0] C f_q_one_148_2 rfl ?_
                refine m_callV C Rm Y [vi 41] [] (q_need l D B H0 ad _ hS t119 41 (by show -2147483648 ≤ 41 ∧ 41 ≤ 2147483647; omega) (by show A114 0 0 24 ≤ A114 0 0 23 ∧ A114 0 0 23 ≤ A114 0 0 22; omega) pt_n116) cl_Mo_188 rfl (by decide) rfl rfl e_q_one_151 rfl rfl rfl ⟨by show _ ≤ (10 + 4 * d : Nat); omega, by show _ ≤ (400 + 200 * d : Nat); omega⟩ ?_
                rintro v122 A123 ⟨rfl, hT_n125, hE_n125, raw_hb_n125, raw_hn_n125, raw_hw_n125, raw_hm_n125⟩
                have hF_n125 := q120.trans (hE_n125.sub (nm_em _))
                show JM g D ad w0 A123 154 [(2, vi z117), (1, vi 0), (0, vr 0 0)] []
                have hb_n125 : A123 0 0 24 ≤ A123 0 0 23 ∧ A123 0 0 23 ≤ A123 0 0 22 := raw_hb_n125
                clear raw_hb_n125
                have hm_n125 : A114 0 0 24 ≤ A123 0 0 24 := raw_hm_n125
                clear raw_hm_n125
                have pt_n125 : pT A123 := raw_hn_n125
                clear raw_hn_n125
                have k0_n125 : A123 0 0 0 = A114 0 0 0 := hE_n125 0 0 0 rfl
                have k22_n125 : A123 0 0 22 = A114 0 0 22 := hE_n125 0 0 22 rfl
                have k27_n125 : A123 0 0 27 = (x118 - 1) := hE_n125 0 0 27 rfl
                have k28_n125 : A123 0 0 28 = A114 0 0 28 := hE_n125 0 0 28 rfl
                have k29_n125 : A123 0 0 29 = A114 0 0 29 := hE_n125 0 0 29 rfl
                have k30_n125 : A123 0 0 30 = A114 0 0 30 := hE_n125 0 0 30 rfl
                have g_n125 : A123 0 0 31 = 1 := wr_1 (hT_n125 0 0 31) (fun h9 => absurd ((g_n116 : A114 0 0 31 = 1).symm.trans (raw_hw_n125 h9).1) (by decide))
                clear raw_hw_n125
                refine m_blk 155 [(2, vi z117), (1, vi 0), (0, vr 0 0)] [vi z117] C f_q_one_154_1 rfl ?_
                exact m_iret C Rm E e_q_one_155 ⟨z117, rfl, hT_n125, hF_n125, (by show 0 ≤ z117 ∧ z117 ≤ 119; omega), (by show A123 0 0 24 ≤ A123 0 0 23 ∧ A123 0 0 23 ≤ A123 0 0 22; omega), pt_n125, (fun h9 => absurd ((g_n125 : A123 0 0 31 = 1).symm.trans h9) (by decide)), (by show A 0 0 24 ≤ A123 0 0 24 ∧ A 0 0 30 ≤ A123 0 0 30 ∧ A123 0 0 27 = A 0 0 27; omega), (nG.nm (A := (mu A114 0 0 27 (x118 - 1))) hG_n116 hE_n125), (nK.nm (A2 := (mu A114 0 0 27 (x118 - 1))) (nK.trans (A2 := A87) (nK.nm (A2 := (mu A 0 0 27 (x32 + 1))) nK.rfl' hE_n89) hK_n116 (by show A 0 0 30 ≤ A87 0 0 30; omega)) hE_n125)⟩
          · refine m_blk 83 [(0, vr 0 0)] [vi 1, vr 0 0] C f_q_one_81_2 rfl ?_
            refine m_putz C e_q_one_83 fp_Mo_155 rfl (by decide) rfl (Or.inr rfl) ?_
            have t126 : mTy (mu A 0 0 31 1) := hT.mu (by show 0 ≤ 1 ∧ 1 ≤ 1; omega)
            have q127 := hE0.mu (f := 0) (k := 0) (j := 31) (z := 1) (by simp [em])
            refine m_blk 87 [(0, vr 0 0)] [vi 0] C f_q_one_86_1 rfl ?_
            exact m_iret C Rm E e_q_one_87 ⟨0, rfl, t126, q127, (by show 0 ≤ 0 ∧ 0 ≤ 119; omega), (by show A 0 0 24 ≤ A 0 0 23 ∧ A 0 0 23 ≤ A 0 0 22; omega), (fun h9 => absurd (show (1 : Int) = 0 from h9) (by decide)), (fun h9 => absurd (show (1 : Int) = 0 from h9) (by decide)), (by show A 0 0 24 ≤ A 0 0 24 ∧ A 0 0 30 ≤ A 0 0 30 ∧ A 0 0 27 = A 0 0 27; omega), hG, nK.rfl'⟩
        · subst e_n29
          clear hz_n29
          refine m_if_ne (tgt := 73) C e_q_one_61 (by decide) (by decide) (fun c128 => (by omega : False).elim) (fun c128 => ?_)
          refine m_blk 67 [(0, vr 0 0)] [vi 40, vr 0 0] C f_q_one_64_2 rfl ?_
          refine m_callV C Rm Y [vi 40] [] (q_isSign l D B H0 ad _ hT 40 (by show -2147483648 ≤ 40 ∧ 40 ≤ 2147483647; omega)) cl_Mo_173 rfl (by decide) rfl rfl e_q_one_67 rfl rfl rfl ⟨by show _ ≤ (10 + 4 * d : Nat); omega, by show _ ≤ (400 + 200 * d : Nat); omega⟩ ?_
          rintro v129 A130 ⟨z133, rfl, rfl, raw_hz_n132⟩
          show JM g D ad w0 A 70 [(0, vr 0 0)] [vi z133]
          have hz_n132 : z133 = 1 ∧ A 0 0 31 = 0 ∧ A 0 0 25 = 4 ∧ A 0 0 26 = 40 ∨ z133 = 0 ∧ ¬ (A 0 0 31 = 0 ∧ A 0 0 25 = 4 ∧ A 0 0 26 = 40) := raw_hz_n132
          clear raw_hz_n132
          rcases hz_n132 with ⟨e_n132, hz_n132⟩ | ⟨e_n132, hz_n132⟩
          · subst e_n132
            have bt_n132 : A 0 0 24 < A 0 0 23 := pT_lt (A := A) hn hz_n132.1 (by show ¬ A 0 0 25 = 0; omega)
            refine m_if_eq (tgt := 81) C e_q_one_70 (by decide) (by decide) (fun c134 => (by omega : False).elim) (fun c134 => ?_)
            refine m_blk 74 [(0, vr 0 0)] [vr 0 0] C f_q_one_73_1 rfl ?_
            obtain ⟨x135, hx135⟩ : ∃ x, A 0 0 27 = x := ⟨_, rfl⟩
            have rx135 : 0 ≤ x135 ∧ x135 ≤ 4 := mrg hT hx135 rfl
            refine m_geti C e_q_one_74 fg_Mo_182 rfl (by decide) rfl x135 hx135 ?_
            refine m_blk 78 [(0, vr 0 0)] [vi 4, vi x135] C f_q_one_77_1 rfl ?_
            refine m_icmp_ne (tgt := 88) C e_q_one_78 (by decide) (by omega) (by decide) (fun c136 => ?_) (fun c136 => ?_)
            · obtain ⟨d1, hd1⟩ : ∃ d1, d = d1 + 1 := ⟨d - 1, by omega⟩
              refine m_blk 91 [(0, vr 0 0)] [vi 45, vr 0 0] C f_q_one_88_2 rfl ?_
              refine m_callV C Rm Y [vi 45] [] (q_isSign l D B H0 ad _ hT 45 (by show -2147483648 ≤ 45 ∧ 45 ≤ 2147483647; omega)) cl_Mo_173 rfl (by decide) rfl rfl e_q_one_91 rfl rfl rfl ⟨by show _ ≤ (10 + 4 * d : Nat); omega, by show _ ≤ (400 + 200 * d : Nat); omega⟩ ?_
              rintro v137 A138 ⟨z141, rfl, rfl, raw_hz_n140⟩
              show JM g D ad w0 A 94 [(0, vr 0 0)] [vi z141]
              have hz_n140 : z141 = 1 ∧ A 0 0 31 = 0 ∧ A 0 0 25 = 4 ∧ A 0 0 26 = 45 ∨ z141 = 0 ∧ ¬ (A 0 0 31 = 0 ∧ A 0 0 25 = 4 ∧ A 0 0 26 = 45) := raw_hz_n140
              clear raw_hz_n140
              rcases hz_n140 with ⟨e_n140, hz_n140⟩ | ⟨e_n140, hz_n140⟩
              · subst e_n140
                have bt_n140 : A 0 0 24 < A 0 0 23 := pT_lt (A := A) hn hz_n140.1 (by show ¬ A 0 0 25 = 0; omega)
                refine m_blk 97 [(1, vi 1), (0, vr 0 0)] [vr 0 0, vr 0 0] C f_q_one_94_3 rfl ?_
                refine m_geti C e_q_one_97 fg_Mo_182 rfl (by decide) rfl x135 hx135 ?_
                refine m_blk 102 [(1, vi 1), (0, vr 0 0)] [vi (x135 + 1), vr 0 0] C f_q_one_100_2 rfl ?_
                refine m_puti C e_q_one_102 fp_Mo_182 rfl (by decide) rfl ?_
                have t142 : mTy (mu A 0 0 27 (x135 + 1)) := hT.mu (by show 0 ≤ (x135 + 1) ∧ (x135 + 1) ≤ 4; omega)
                have q143 := hE0.mu (f := 0) (k := 0) (j := 27) (z := (x135 + 1)) (by simp [em])
                refine m_blk 106 [(1, vi 1), (0, vr 0 0)] [vr 0 0] C f_q_one_105_1 rfl ?_
                refine m_callV C Rm Y [] [] (q_next l D B H0 ad _ hS t142 (by show A 0 0 23 ≤ A 0 0 22; omega)) cl_Mo_176 rfl (by decide) rfl rfl e_q_one_106 rfl rfl rfl ⟨by show _ ≤ (10 + 4 * d : Nat); omega, by show _ ≤ (400 + 200 * d : Nat); omega⟩ ?_
                rintro v144 A145 ⟨rfl, hT_n147, hE_n147, raw_hw_n147, raw_hb_n147⟩
                have hF_n147 := q143.trans (hE_n147.sub (nm_em _))
                show JM g D ad w0 A145 109 [(1, vi 1), (0, vr 0 0)] []
                obtain ⟨b1_n147, b2_n147, b3_n147, pt_n147⟩ : A 0 0 23 ≤ A145 0 0 24 ∧ A145 0 0 24 ≤ A145 0 0 23 ∧ A145 0 0 23 ≤ A145 0 0 22 ∧ pT A145 := raw_hb_n147 g0
                clear raw_hb_n147 raw_hw_n147
                have k0_n147 : A145 0 0 0 = A 0 0 0 := hE_n147 0 0 0 rfl
                have k22_n147 : A145 0 0 22 = A 0 0 22 := hE_n147 0 0 22 rfl
                have k27_n147 : A145 0 0 27 = (x135 + 1) := hE_n147 0 0 27 rfl
                have k28_n147 : A145 0 0 28 = A 0 0 28 := hE_n147 0 0 28 rfl
                have k29_n147 : A145 0 0 29 = A 0 0 29 := hE_n147 0 0 29 rfl
                have k30_n147 : A145 0 0 30 = A 0 0 30 := hE_n147 0 0 30 rfl
                rcases (show A145 0 0 31 = 0 ∨ A145 0 0 31 = 1 from by have w9 := hT_n147 0 0 31; have w8 : 0 ≤ A145 0 0 31 ∧ A145 0 0 31 ≤ 1 := w9; omega) with g_n147 | g_n147
                · refine m_blk 110 [(1, vi 1), (0, vr 0 0)] [vi 1] C f_q_one_109_1 rfl ?_
                  refine m_if_eq (tgt := 120) C e_q_one_110 (by decide) (by decide) (fun c148 => (by omega : False).elim) (fun c148 => ?_)
                  refine m_blk 114 [(1, vi 1), (0, vr 0 0)] [vr 0 0] C f_q_one_113_1 rfl ?_
                  refine m_callV C Rm Y [] [] ((hrec d1 hd1).1 l D B H0 ad _ hS hT_n147 p0 (by show A145 0 0 0 = p0 ∧ 0 ≤ p0 ∧ p0 ≤ 5; omega) (by show A145 0 0 24 ≤ A145 0 0 23 ∧ A145 0 0 23 ≤ A145 0 0 22; omega) pt_n147 (fun _ => by show A145 0 0 30 + 3 * A145 0 0 29 ≤ A145 0 0 24; omega) (nG.nm (A := (mu A 0 0 27 (x135 + 1))) hG hE_n147) (by show A145 0 0 27 = 4 - (d1 : Int) ∧ (d1 : Int) ≤ 4; omega)) cl_Mo_225 rfl (by decide) rfl rfl e_q_one_114 rfl rfl rfl ⟨by show _ ≤ (10 + 4 * d : Nat); omega, by show _ ≤ (400 + 200 * d : Nat); omega⟩ ?_
                  rintro v149 A150 ⟨z153, rfl, hT_n152, hE_n152, raw_hz_n152, raw_hb_n152, raw_hn_n152, raw_hw_n152, raw_hm_n152, raw_hG_n152, raw_hK_n152⟩
                  have hF_n152 := hF_n147.trans (hE_n152.sub (fun _ _ _ h => h))
                  show JM g D ad w0 A150 117 [(1, vi 1), (0, vr 0 0)] [vi z153]
                  have hz_n152 : 0 ≤ z153 ∧ z153 ≤ 119 := raw_hz_n152
                  clear raw_hz_n152
                  have hb_n152 : A150 0 0 24 ≤ A150 0 0 23 ∧ A150 0 0 23 ≤ A150 0 0 22 := raw_hb_n152
                  clear raw_hb_n152
                  have hm_n152 : A145 0 0 24 ≤ A150 0 0 24 ∧ A145 0 0 30 ≤ A150 0 0 30 ∧ A150 0 0 27 = A145 0 0 27 := raw_hm_n152
                  clear raw_hm_n152
                  have pt_n152 : pT A150 := raw_hn_n152
                  have k0_n152 : A150 0 0 0 = A145 0 0 0 := hE_n152 0 0 0 rfl
                  have k22_n152 : A150 0 0 22 = A145 0 0 22 := hE_n152 0 0 22 rfl
                  have k28_n152 : A150 0 0 28 = A145 0 0 28 := hE_n152 0 0 28 rfl
                  have k29_n152 : A150 0 0 29 = A145 0 0 29 := hE_n152 0 0 29 rfl
                  have hG_n152 : nG p0.toNat A150 := raw_hG_n152
                  have hK_n152 : nK p0.toNat A145 A150 := raw_hK_n152
                  rcases (show A150 0 0 31 = 0 ∨ A150 0 0 31 = 1 from by have w9 := hT_n152 0 0 31; have w8 : 0 ≤ A150 0 0 31 ∧ A150 0 0 31 ≤ 1 := w9; omega) with g_n152 | g_n152
                  · have u_n152 : z153 < A150 0 0 30 ∧ A145 0 0 24 - A145 0 0 30 ≤ A150 0 0 24 - A150 0 0 30 := (raw_hw_n152 g_n152).2
                    refine m_blk 124 [(1, vi 1), (0, vr 0 0)] [vi z153] C f_q_one_117_1 rfl ?_
                    refine m_blk 127 [(2, vi z153), (1, vi 1), (0, vr 0 0)] [vr 0 0, vr 0 0] C f_q_one_124_3 rfl ?_
                    obtain ⟨x154, hx154⟩ : ∃ x, A150 0 0 27 = x := ⟨_, rfl⟩
                    have rx154 : 0 ≤ x154 ∧ x154 ≤ 4 := mrg hT_n152 hx154 rfl
                    refine m_geti C e_q_one_127 fg_Mo_182 rfl (by decide) rfl x154 hx154 ?_
                    refine m_blk 132 [(2, vi z153), (1, vi 1), (0, vr 0 0)] [vi (x154 - 1), vr 0 0] C f_q_one_130_2 rfl ?_
                    refine m_puti C e_q_one_132 fp_Mo_182 rfl (by decide) rfl ?_
                    have t155 : mTy (mu A150 0 0 27 (x154 - 1)) := hT_n152.mu (by show 0 ≤ (x154 - 1) ∧ (x154 - 1) ≤ 4; omega)
                    have q156 := hF_n152.mu (f := 0) (k := 0) (j := 27) (z := (x154 - 1)) (by simp [em])
                    refine m_blk 136 [(2, vi z153), (1, vi 1), (0, vr 0 0)] [vi 1] C f_q_one_135_1 rfl ?_
                    refine m_if_eq (tgt := 148) C e_q_one_136 (by decide) (by decide) (fun c157 => (by omega : False).elim) (fun c157 => ?_)
                    refine m_blk 144 [(2, vi z153), (1, vi 1), (0, vr 0 0)] [vi (-1), vi z153, vi 0, vi 2, vr 0 0] C f_q_one_139_5 rfl ?_
                    refine m_callV C Rm Y [vi 2, vi 0, vi z153, vi (-1)] [] (q_node l D B H0 ad _ t155 p0 2 0 z153 (-1) (by show A150 0 0 0 = p0 ∧ 0 ≤ p0 ∧ p0 ≤ 5; omega) (fun _ => by show A150 0 0 30 ≤ 119; omega) (by show (-1 ≤ 2 ∧ 2 ≤ 255) ∧ (-1 ≤ 0 ∧ 0 ≤ 255) ∧ (-1 ≤ z153 ∧ z153 ≤ 119) ∧ (-1 ≤ (-1) ∧ (-1) ≤ 119); omega) hG_n152 (fun _ => by show z153 < A150 0 0 30 ∧ (-1) < A150 0 0 30 ∧ (2 ≠ 0 → 2 ≠ 1 → 0 ≤ z153) ∧ (2 ≠ 0 → 2 ≠ 1 → 2 ≠ 2 → 0 ≤ (-1)); omega)) cl_Mo_218 rfl (by decide) rfl rfl e_q_one_144 rfl rfl rfl ⟨by show _ ≤ (10 + 4 * d : Nat); omega, by show _ ≤ (400 + 200 * d : Nat); omega⟩ ?_
                    rintro v158 A159 ⟨z162, rfl, hT_n161, hE_n161, raw_hz_n161, raw_hw_n161, raw_hi_n161, raw_hm_n161, raw_hG_n161, raw_hK_n161⟩
                    have hF_n161 := q156.trans (hE_n161.sub (nd_em _))
                    show JM g D ad w0 A159 147 [(2, vi z153), (1, vi 1), (0, vr 0 0)] [vi z162]
                    have hz_n161 : 0 ≤ z162 ∧ z162 ≤ 119 := raw_hz_n161
                    clear raw_hz_n161
                    obtain ⟨b1_n161, b2_n161⟩ : A159 0 0 30 = A150 0 0 30 + 1 ∧ z162 = A150 0 0 30 := raw_hi_n161 g_n152
                    clear raw_hi_n161 raw_hw_n161
                    have k0_n161 : A159 0 0 0 = A150 0 0 0 := hE_n161 0 0 0 rfl
                    have k22_n161 : A159 0 0 22 = A150 0 0 22 := hE_n161 0 0 22 rfl
                    have k23_n161 : A159 0 0 23 = A150 0 0 23 := hE_n161 0 0 23 rfl
                    have k24_n161 : A159 0 0 24 = A150 0 0 24 := hE_n161 0 0 24 rfl
                    have k25_n161 : A159 0 0 25 = A150 0 0 25 := hE_n161 0 0 25 rfl
                    have k26_n161 : A159 0 0 26 = A150 0 0 26 := hE_n161 0 0 26 rfl
                    have k27_n161 : A159 0 0 27 = (x154 - 1) := hE_n161 0 0 27 rfl
                    have k28_n161 : A159 0 0 28 = A150 0 0 28 := hE_n161 0 0 28 rfl
                    have k29_n161 : A159 0 0 29 = A150 0 0 29 := hE_n161 0 0 29 rfl
                    have g_n161 : A159 0 0 31 = 0 := (hE_n161 0 0 31 rfl).trans g_n152
                    have hG_n161 : nG p0.toNat A159 := raw_hG_n161
                    have hK_n161 : nK p0.toNat (mu A150 0 0 27 (x154 - 1)) A159 := raw_hK_n161
                    have pt_n161 : pT A159 := pT_eq (A := (mu A150 0 0 27 (x154 - 1))) pt_n152 (hE_n161 0 0 31 rfl) (hE_n161 0 0 25 rfl) (hE_n161 0 0 24 rfl) (hE_n161 0 0 23 rfl) (hE_n161 0 0 26 rfl)
                    exact m_iret C Rm E e_q_one_147 ⟨z162, rfl, hT_n161, hF_n161, (by show 0 ≤ z162 ∧ z162 ≤ 119; omega), (by show A159 0 0 24 ≤ A159 0 0 23 ∧ A159 0 0 23 ≤ A159 0 0 22; omega), pt_n161, (fun _ => ⟨g0, (by show z162 < A159 0 0 30; omega), (by show A 0 0 24 - A 0 0 30 ≤ A159 0 0 24 - A159 0 0 30; omega)⟩), (by show A 0 0 24 ≤ A159 0 0 24 ∧ A 0 0 30 ≤ A159 0 0 30 ∧ A159 0 0 27 = A 0 0 27; omega), hG_n161, (nK.trans (A2 := (mu A150 0 0 27 (x154 - 1))) (nK.trans (A2 := A145) (nK.nm (A2 := (mu A 0 0 27 (x135 + 1))) nK.rfl' hE_n147) hK_n152 (by show A 0 0 30 ≤ A145 0 0 30; omega)) hK_n161 (by show A 0 0 30 ≤ A150 0 0 30; omega))⟩
                  · refine m_blk 124 [(1, vi 1), (0, vr 0 0)] [vi z153] C f_q_one_117_1 rfl ?_
                    refine m_blk 127 [(2, vi z153), (1, vi 1), (0, vr 0 0)] [vr 0 0, vr 0 0] C f_q_one_124_3 rfl ?_
                    obtain ⟨x163, hx163⟩ : ∃ x, A150 0 0 27 = x := ⟨_, rfl⟩
                    have rx163 : 0 ≤ x163 ∧ x163 ≤ 4 := mrg hT_n152 hx163 rfl
                    refine m_geti C e_q_one_127 fg_Mo_182 rfl (by decide) rfl x163 hx163 ?_
                    refine m_blk 132 [(2, vi z153), (1, vi 1), (0, vr 0 0)] [vi (x163 - 1), vr 0 0] C f_q_one_130_2 rfl ?_
                    refine m_puti C e_q_one_132 fp_Mo_182 rfl (by decide) rfl ?_
                    have t164 : mTy (mu A150 0 0 27 (x163 - 1)) := hT_n152.mu (by show 0 ≤ (x163 - 1) ∧ (x163 - 1) ≤ 4; omega)
                    have q165 := hF_n152.mu (f := 0) (k := 0) (j := 27) (z := (x163 - 1)) (by simp [em])
                    refine m_blk 136 [(2, vi z153), (1, vi 1), (0, vr 0 0)] [vi 1] C f_q_one_135_1 rfl ?_
                    refine m_if_eq (tgt := 148) C e_q_one_136 (by decide) (by decide) (fun c166 => (by omega : False).elim) (fun c166 => ?_)
                    refine m_blk 144 [(2, vi z153), (1, vi 1), (0, vr 0 0)] [vi (-1), vi z153, vi 0, vi 2, vr 0 0] C f_q_one_139_5 rfl ?_
                    refine m_callV C Rm Y [vi 2, vi 0, vi z153, vi (-1)] [] (q_node l D B H0 ad _ t164 p0 2 0 z153 (-1) (by show A150 0 0 0 = p0 ∧ 0 ≤ p0 ∧ p0 ≤ 5; omega) (fun h9 => absurd ((g_n152 : A150 0 0 31 = 1).symm.trans h9) (by decide)) (by show (-1 ≤ 2 ∧ 2 ≤ 255) ∧ (-1 ≤ 0 ∧ 0 ≤ 255) ∧ (-1 ≤ z153 ∧ z153 ≤ 119) ∧ (-1 ≤ (-1) ∧ (-1) ≤ 119); omega) hG_n152 (fun h9 => absurd ((g_n152 : A150 0 0 31 = 1).symm.trans h9) (by decide))) cl_Mo_218 rfl (by decide) rfl rfl e_q_one_144 rfl rfl rfl ⟨by show _ ≤ (10 + 4 * d : Nat); omega, by show _ ≤ (400 + 200 * d : Nat); omega⟩ ?_
                    rintro v167 A168 ⟨z171, rfl, hT_n170, hE_n170, raw_hz_n170, raw_hw_n170, raw_hi_n170, raw_hm_n170, raw_hG_n170, raw_hK_n170⟩
                    have hF_n170 := q165.trans (hE_n170.sub (nd_em _))
                    show JM g D ad w0 A168 147 [(2, vi z153), (1, vi 1), (0, vr 0 0)] [vi z171]
                    have hz_n170 : 0 ≤ z171 ∧ z171 ≤ 119 := raw_hz_n170
                    clear raw_hz_n170
                    have ee_n170 := (raw_hw_n170 g_n152).symm
                    subst ee_n170
                    show JM g D ad w0 (mu A150 0 0 27 (x163 - 1)) 147 [(2, vi z153), (1, vi 1), (0, vr 0 0)] [vi z171]
                    exact m_iret C Rm E e_q_one_147 ⟨z171, rfl, t164, q165, (by show 0 ≤ z171 ∧ z171 ≤ 119; omega), (by show A150 0 0 24 ≤ A150 0 0 23 ∧ A150 0 0 23 ≤ A150 0 0 22; omega), pt_n152, (fun h9 => absurd ((g_n152 : A150 0 0 31 = 1).symm.trans h9) (by decide)), (by show A 0 0 24 ≤ A150 0 0 24 ∧ A 0 0 30 ≤ A150 0 0 30 ∧ (x163 - 1) = A 0 0 27; omega), hG_n152, (nK.trans (A2 := A145) (nK.nm (A2 := (mu A 0 0 27 (x135 + 1))) nK.rfl' hE_n147) hK_n152 (by show A 0 0 30 ≤ A145 0 0 30; omega))⟩
                · refine m_blk 110 [(1, vi 1), (0, vr 0 0)] [vi 1] C f_q_one_109_1 rfl ?_
                  refine m_if_eq (tgt := 120) C e_q_one_110 (by decide) (by decide) (fun c172 => (by omega : False).elim) (fun c172 => ?_)
                  refine m_blk 114 [(1, vi 1), (0, vr 0 0)] [vr 0 0] C f_q_one_113_1 rfl ?_
                  refine m_callV C Rm Y [] [] ((hrec d1 hd1).1 l D B H0 ad _ hS hT_n147 p0 (by show A145 0 0 0 = p0 ∧ 0 ≤ p0 ∧ p0 ≤ 5; omega) (by show A145 0 0 24 ≤ A145 0 0 23 ∧ A145 0 0 23 ≤ A145 0 0 22; omega) pt_n147 (fun h9 => absurd ((g_n147 : A145 0 0 31 = 1).symm.trans h9) (by decide)) (nG.nm (A := (mu A 0 0 27 (x135 + 1))) hG hE_n147) (by show A145 0 0 27 = 4 - (d1 : Int) ∧ (d1 : Int) ≤ 4; omega)) cl_Mo_225 rfl (by decide) rfl rfl e_q_one_114 rfl rfl rfl ⟨by show _ ≤ (10 + 4 * d : Nat); omega, by show _ ≤ (400 + 200 * d : Nat); omega⟩ ?_
                  rintro v173 A174 ⟨z177, rfl, hT_n176, hE_n176, raw_hz_n176, raw_hb_n176, raw_hn_n176, raw_hw_n176, raw_hm_n176, raw_hG_n176, raw_hK_n176⟩
                  have hF_n176 := hF_n147.trans (hE_n176.sub (fun _ _ _ h => h))
                  show JM g D ad w0 A174 117 [(1, vi 1), (0, vr 0 0)] [vi z177]
                  have hz_n176 : 0 ≤ z177 ∧ z177 ≤ 119 := raw_hz_n176
                  clear raw_hz_n176
                  have hb_n176 : A174 0 0 24 ≤ A174 0 0 23 ∧ A174 0 0 23 ≤ A174 0 0 22 := raw_hb_n176
                  clear raw_hb_n176
                  have hm_n176 : A145 0 0 24 ≤ A174 0 0 24 ∧ A145 0 0 30 ≤ A174 0 0 30 ∧ A174 0 0 27 = A145 0 0 27 := raw_hm_n176
                  clear raw_hm_n176
                  have pt_n176 : pT A174 := raw_hn_n176
                  have k0_n176 : A174 0 0 0 = A145 0 0 0 := hE_n176 0 0 0 rfl
                  have k22_n176 : A174 0 0 22 = A145 0 0 22 := hE_n176 0 0 22 rfl
                  have k28_n176 : A174 0 0 28 = A145 0 0 28 := hE_n176 0 0 28 rfl
                  have k29_n176 : A174 0 0 29 = A145 0 0 29 := hE_n176 0 0 29 rfl
                  have hG_n176 : nG p0.toNat A174 := raw_hG_n176
                  have hK_n176 : nK p0.toNat A145 A174 := raw_hK_n176
                  have g_n176 : A174 0 0 31 = 1 := wr_1 (hT_n176 0 0 31) (fun h9 => absurd ((g_n147 : A145 0 0 31 = 1).symm.trans (raw_hw_n176 h9).1) (by decide))
                  refine m_blk 124 [(1, vi 1), (0, vr 0 0)] [vi z177] C f_q_one_117_1 rfl ?_
                  refine m_blk 127 [(2, vi z177), (1, vi 1), (0, vr 0 0)] [vr 0 0, vr 0 0] C f_q_one_124_3 rfl ?_
                  obtain ⟨x178, hx178⟩ : ∃ x, A174 0 0 27 = x := ⟨_, rfl⟩
                  have rx178 : 0 ≤ x178 ∧ x178 ≤ 4 := mrg hT_n176 hx178 rfl
                  refine m_geti C e_q_one_127 fg_Mo_182 rfl (by decide) rfl x178 hx178 ?_
                  refine m_blk 132 [(2, vi z177), (1, vi 1), (0, vr 0 0)] [vi (x178 - 1), vr 0 0] C f_q_one_130_2 rfl ?_
                  refine m_puti C e_q_one_132 fp_Mo_182 rfl (by decide) rfl ?_
                  have t179 : mTy (mu A174 0 0 27 (x178 - 1)) := hT_n176.mu (by show 0 ≤ (x178 - 1) ∧ (x178 - 1) ≤ 4; omega)
                  have q180 := hF_n176.mu (f := 0) (k := 0) (j := 27) (z := (x178 - 1)) (by simp [em])
                  refine m_blk 136 [(2, vi z177), (1, vi 1), (0, vr 0 0)] [vi 1] C f_q_one_135_1 rfl ?_
                  refine m_if_eq (tgt := 148) C e_q_one_136 (by decide) (by decide) (fun c181 => (by omega : False).elim) (fun c181 => ?_)
                  refine m_blk 144 [(2, vi z177), (1, vi 1), (0, vr 0 0)] [vi (-1), vi z177, vi 0, vi 2, vr 0 0] C f_q_one_139_5 rfl ?_
                  refine m_callV C Rm Y [vi 2, vi 0, vi z177, vi (-1)] [] (q_node l D B H0 ad _ t179 p0 2 0 z177 (-1) (by show A174 0 0 0 = p0 ∧ 0 ≤ p0 ∧ p0 ≤ 5; omega) (fun h9 => absurd ((g_n176 : A174 0 0 31 = 1).symm.trans h9) (by decide)) (by show (-1 ≤ 2 ∧ 2 ≤ 255) ∧ (-1 ≤ 0 ∧ 0 ≤ 255) ∧ (-1 ≤ z177 ∧ z177 ≤ 119) ∧ (-1 ≤ (-1) ∧ (-1) ≤ 119); omega) hG_n176 (fun h9 => absurd ((g_n176 : A174 0 0 31 = 1).symm.trans h9) (by decide))) cl_Mo_218 rfl (by decide) rfl rfl e_q_one_144 rfl rfl rfl ⟨by show _ ≤ (10 + 4 * d : Nat); omega, by show _ ≤ (400 + 200 * d : Nat); omega⟩ ?_
                  rintro v182 A183 ⟨z186, rfl, hT_n185, hE_n185, raw_hz_n185, raw_hw_n185, raw_hi_n185, raw_hm_n185, raw_hG_n185, raw_hK_n185⟩
                  have hF_n185 := q180.trans (hE_n185.sub (nd_em _))
                  show JM g D ad w0 A183 147 [(2, vi z177), (1, vi 1), (0, vr 0 0)] [vi z186]
                  have hz_n185 : 0 ≤ z186 ∧ z186 ≤ 119 := raw_hz_n185
                  clear raw_hz_n185
                  have ee_n185 := (raw_hw_n185 g_n176).symm
                  subst ee_n185
                  show JM g D ad w0 (mu A174 0 0 27 (x178 - 1)) 147 [(2, vi z177), (1, vi 1), (0, vr 0 0)] [vi z186]
                  exact m_iret C Rm E e_q_one_147 ⟨z186, rfl, t179, q180, (by show 0 ≤ z186 ∧ z186 ≤ 119; omega), (by show A174 0 0 24 ≤ A174 0 0 23 ∧ A174 0 0 23 ≤ A174 0 0 22; omega), pt_n176, (fun h9 => absurd ((g_n176 : A174 0 0 31 = 1).symm.trans h9) (by decide)), (by show A 0 0 24 ≤ A174 0 0 24 ∧ A 0 0 30 ≤ A174 0 0 30 ∧ (x178 - 1) = A 0 0 27; omega), hG_n176, (nK.trans (A2 := A145) (nK.nm (A2 := (mu A 0 0 27 (x135 + 1))) nK.rfl' hE_n147) hK_n176 (by show A 0 0 30 ≤ A145 0 0 30; omega))⟩
              · subst e_n140
                clear hz_n140
                refine m_blk 97 [(1, vi 0), (0, vr 0 0)] [vr 0 0, vr 0 0] C f_q_one_94_3 rfl ?_
                refine m_geti C e_q_one_97 fg_Mo_182 rfl (by decide) rfl x135 hx135 ?_
                refine m_blk 102 [(1, vi 0), (0, vr 0 0)] [vi (x135 + 1), vr 0 0] C f_q_one_100_2 rfl ?_
                refine m_puti C e_q_one_102 fp_Mo_182 rfl (by decide) rfl ?_
                have t187 : mTy (mu A 0 0 27 (x135 + 1)) := hT.mu (by show 0 ≤ (x135 + 1) ∧ (x135 + 1) ≤ 4; omega)
                have q188 := hE0.mu (f := 0) (k := 0) (j := 27) (z := (x135 + 1)) (by simp [em])
                refine m_blk 106 [(1, vi 0), (0, vr 0 0)] [vr 0 0] C f_q_one_105_1 rfl ?_
                refine m_callV C Rm Y [] [] (q_next l D B H0 ad _ hS t187 (by show A 0 0 23 ≤ A 0 0 22; omega)) cl_Mo_176 rfl (by decide) rfl rfl e_q_one_106 rfl rfl rfl ⟨by show _ ≤ (10 + 4 * d : Nat); omega, by show _ ≤ (400 + 200 * d : Nat); omega⟩ ?_
                rintro v189 A190 ⟨rfl, hT_n192, hE_n192, raw_hw_n192, raw_hb_n192⟩
                have hF_n192 := q188.trans (hE_n192.sub (nm_em _))
                show JM g D ad w0 A190 109 [(1, vi 0), (0, vr 0 0)] []
                obtain ⟨b1_n192, b2_n192, b3_n192, pt_n192⟩ : A 0 0 23 ≤ A190 0 0 24 ∧ A190 0 0 24 ≤ A190 0 0 23 ∧ A190 0 0 23 ≤ A190 0 0 22 ∧ pT A190 := raw_hb_n192 g0
                clear raw_hb_n192 raw_hw_n192
                have k0_n192 : A190 0 0 0 = A 0 0 0 := hE_n192 0 0 0 rfl
                have k22_n192 : A190 0 0 22 = A 0 0 22 := hE_n192 0 0 22 rfl
                have k27_n192 : A190 0 0 27 = (x135 + 1) := hE_n192 0 0 27 rfl
                have k28_n192 : A190 0 0 28 = A 0 0 28 := hE_n192 0 0 28 rfl
                have k29_n192 : A190 0 0 29 = A 0 0 29 := hE_n192 0 0 29 rfl
                have k30_n192 : A190 0 0 30 = A 0 0 30 := hE_n192 0 0 30 rfl
                rcases (show A190 0 0 31 = 0 ∨ A190 0 0 31 = 1 from by have w9 := hT_n192 0 0 31; have w8 : 0 ≤ A190 0 0 31 ∧ A190 0 0 31 ≤ 1 := w9; omega) with g_n192 | g_n192
                · refine m_blk 110 [(1, vi 0), (0, vr 0 0)] [vi 0] C f_q_one_109_1 rfl ?_
                  refine m_if_eq (tgt := 120) C e_q_one_110 (by decide) (by decide) (fun c193 => ?_) (fun c193 => (by omega : False).elim)
                  refine m_blk 121 [(1, vi 0), (0, vr 0 0)] [vr 0 0] C f_q_one_120_1 rfl ?_
                  refine m_callV C Rm Y [] [] ((hrec d1 hd1).2 l D B H0 ad _ hS hT_n192 p0 (by show A190 0 0 0 = p0 ∧ 0 ≤ p0 ∧ p0 ≤ 5; omega) (by show A190 0 0 24 ≤ A190 0 0 23 ∧ A190 0 0 23 ≤ A190 0 0 22; omega) pt_n192 (fun _ => by show A190 0 0 30 + 3 * A190 0 0 29 ≤ A190 0 0 24; omega) (nG.nm (A := (mu A 0 0 27 (x135 + 1))) hG hE_n192) (by show A190 0 0 27 = 4 - (d1 : Int) ∧ (d1 : Int) ≤ 4; omega)) cl_Mo_206 rfl (by decide) rfl rfl e_q_one_121 rfl rfl rfl ⟨by show _ ≤ (10 + 4 * d : Nat); omega, by show _ ≤ (400 + 200 * d : Nat); omega⟩ ?_
                  rintro v194 A195 ⟨z198, rfl, hT_n197, hE_n197, raw_hz_n197, raw_hb_n197, raw_hn_n197, raw_hw_n197, raw_hm_n197, raw_hG_n197, raw_hK_n197⟩
                  have hF_n197 := hF_n192.trans (hE_n197.sub (fun _ _ _ h => h))
                  show JM g D ad w0 A195 124 [(1, vi 0), (0, vr 0 0)] [vi z198]
                  have hz_n197 : 0 ≤ z198 ∧ z198 ≤ 119 := raw_hz_n197
                  clear raw_hz_n197
                  have hb_n197 : A195 0 0 24 ≤ A195 0 0 23 ∧ A195 0 0 23 ≤ A195 0 0 22 := raw_hb_n197
                  clear raw_hb_n197
                  have hm_n197 : A190 0 0 24 ≤ A195 0 0 24 ∧ A190 0 0 30 ≤ A195 0 0 30 ∧ A195 0 0 27 = A190 0 0 27 := raw_hm_n197
                  clear raw_hm_n197
                  have pt_n197 : pT A195 := raw_hn_n197
                  have k0_n197 : A195 0 0 0 = A190 0 0 0 := hE_n197 0 0 0 rfl
                  have k22_n197 : A195 0 0 22 = A190 0 0 22 := hE_n197 0 0 22 rfl
                  have k28_n197 : A195 0 0 28 = A190 0 0 28 := hE_n197 0 0 28 rfl
                  have k29_n197 : A195 0 0 29 = A190 0 0 29 := hE_n197 0 0 29 rfl
                  have hG_n197 : nG p0.toNat A195 := raw_hG_n197
                  have hK_n197 : nK p0.toNat A190 A195 := raw_hK_n197
                  rcases (show A195 0 0 31 = 0 ∨ A195 0 0 31 = 1 from by have w9 := hT_n197 0 0 31; have w8 : 0 ≤ A195 0 0 31 ∧ A195 0 0 31 ≤ 1 := w9; omega) with g_n197 | g_n197
                  · have u_n197 : z198 < A195 0 0 30 ∧ A190 0 0 24 - A190 0 0 30 ≤ A195 0 0 24 - A195 0 0 30 := (raw_hw_n197 g_n197).2
                    refine m_blk 127 [(2, vi z198), (1, vi 0), (0, vr 0 0)] [vr 0 0, vr 0 0] C f_q_one_124_3 rfl ?_
                    obtain ⟨x199, hx199⟩ : ∃ x, A195 0 0 27 = x := ⟨_, rfl⟩
                    have rx199 : 0 ≤ x199 ∧ x199 ≤ 4 := mrg hT_n197 hx199 rfl
                    refine m_geti C e_q_one_127 fg_Mo_182 rfl (by decide) rfl x199 hx199 ?_
                    refine m_blk 132 [(2, vi z198), (1, vi 0), (0, vr 0 0)] [vi (x199 - 1), vr 0 0] C f_q_one_130_2 rfl ?_
                    refine m_puti C e_q_one_132 fp_Mo_182 rfl (by decide) rfl ?_
                    have t200 : mTy (mu A195 0 0 27 (x199 - 1)) := hT_n197.mu (by show 0 ≤ (x199 - 1) ∧ (x199 - 1) ≤ 4; omega)
                    have q201 := hF_n197.mu (f := 0) (k := 0) (j := 27) (z := (x199 - 1)) (by simp [em])
                    refine m_blk 136 [(2, vi z198), (1, vi 0), (0, vr 0 0)] [vi 0] C f_q_one_135_1 rfl ?_
                    refine m_if_eq (tgt := 148) C e_q_one_136 (by decide) (by decide) (fun c202 => ?_) (fun c202 => (by omega : False).elim)
                    refine m_blk 151 [(2, vi z198), (1, vi 0), (0, vr 0 0)] [vi 41, vr 0 0] C f_q_one_148_2 rfl ?_
                    refine m_callV C Rm Y [vi 41] [] (q_need l D B H0 ad _ hS t200 41 (by show -2147483648 ≤ 41 ∧ 41 ≤ 2147483647; omega) (by show A195 0 0 24 ≤ A195 0 0 23 ∧ A195 0 0 23 ≤ A195 0 0 22; omega) pt_n197) cl_Mo_188 rfl (by decide) rfl rfl e_q_one_151 rfl rfl rfl ⟨by show _ ≤ (10 + 4 * d : Nat); omega, by show _ ≤ (400 + 200 * d : Nat); omega⟩ ?_
                    rintro v203 A204 ⟨rfl, hT_n206, hE_n206, raw_hb_n206, raw_hn_n206, raw_hw_n206, raw_hm_n206⟩
                    have hF_n206 := q201.trans (hE_n206.sub (nm_em _))
                    show JM g D ad w0 A204 154 [(2, vi z198), (1, vi 0), (0, vr 0 0)] []
                    have hb_n206 : A204 0 0 24 ≤ A204 0 0 23 ∧ A204 0 0 23 ≤ A204 0 0 22 := raw_hb_n206
                    clear raw_hb_n206
                    have hm_n206 : A195 0 0 24 ≤ A204 0 0 24 := raw_hm_n206
                    clear raw_hm_n206
                    have pt_n206 : pT A204 := raw_hn_n206
                    clear raw_hn_n206
                    have k0_n206 : A204 0 0 0 = A195 0 0 0 := hE_n206 0 0 0 rfl
                    have k22_n206 : A204 0 0 22 = A195 0 0 22 := hE_n206 0 0 22 rfl
                    have k27_n206 : A204 0 0 27 = (x199 - 1) := hE_n206 0 0 27 rfl
                    have k28_n206 : A204 0 0 28 = A195 0 0 28 := hE_n206 0 0 28 rfl
                    have k29_n206 : A204 0 0 29 = A195 0 0 29 := hE_n206 0 0 29 rfl
                    have k30_n206 : A204 0 0 30 = A195 0 0 30 := hE_n206 0 0 30 rfl
                    rcases (show A204 0 0 31 = 0 ∨ A204 0 0 31 = 1 from by have w9 := hT_n206 0 0 31; have w8 : 0 ≤ A204 0 0 31 ∧ A204 0 0 31 ≤ 1 := w9; omega) with g_n206 | g_n206
                    · have u_n206 : A195 0 0 31 = 0 ∧ A195 0 0 24 < A204 0 0 24 := raw_hw_n206 g_n206
                      clear raw_hw_n206
                      refine m_blk 155 [(2, vi z198), (1, vi 0), (0, vr 0 0)] [vi z198] C f_q_one_154_1 rfl ?_
                      exact m_iret C Rm E e_q_one_155 ⟨z198, rfl, hT_n206, hF_n206, (by show 0 ≤ z198 ∧ z198 ≤ 119; omega), (by show A204 0 0 24 ≤ A204 0 0 23 ∧ A204 0 0 23 ≤ A204 0 0 22; omega), pt_n206, (fun _ => ⟨g0, (by show z198 < A204 0 0 30; omega), (by show A 0 0 24 - A 0 0 30 ≤ A204 0 0 24 - A204 0 0 30; omega)⟩), (by show A 0 0 24 ≤ A204 0 0 24 ∧ A 0 0 30 ≤ A204 0 0 30 ∧ A204 0 0 27 = A 0 0 27; omega), (nG.nm (A := (mu A195 0 0 27 (x199 - 1))) hG_n197 hE_n206), (nK.nm (A2 := (mu A195 0 0 27 (x199 - 1))) (nK.trans (A2 := A190) (nK.nm (A2 := (mu A 0 0 27 (x135 + 1))) nK.rfl' hE_n192) hK_n197 (by show A 0 0 30 ≤ A190 0 0 30; omega)) hE_n206)⟩
                    · clear raw_hw_n206
                      refine m_blk 155 [(2, vi z198), (1, vi 0), (0, vr 0 0)] [vi z198] C f_q_one_154_1 rfl ?_
                      exact m_iret C Rm E e_q_one_155 ⟨z198, rfl, hT_n206, hF_n206, (by show 0 ≤ z198 ∧ z198 ≤ 119; omega), (by show A204 0 0 24 ≤ A204 0 0 23 ∧ A204 0 0 23 ≤ A204 0 0 22; omega), pt_n206, (fun h9 => absurd ((g_n206 : A204 0 0 31 = 1).symm.trans h9) (by decide)), (by show A 0 0 24 ≤ A204 0 0 24 ∧ A 0 0 30 ≤ A204 0 0 30 ∧ A204 0 0 27 = A 0 0 27; omega), (nG.nm (A := (mu A195 0 0 27 (x199 - 1))) hG_n197 hE_n206), (nK.nm (A2 := (mu A195 0 0 27 (x199 - 1))) (nK.trans (A2 := A190) (nK.nm (A2 := (mu A 0 0 27 (x135 + 1))) nK.rfl' hE_n192) hK_n197 (by show A 0 0 30 ≤ A190 0 0 30; omega)) hE_n206)⟩
                  · refine m_blk 127 [(2, vi z198), (1, vi 0), (0, vr 0 0)] [vr 0 0, vr 0 0] C f_q_one_124_3 rfl ?_
                    obtain ⟨x207, hx207⟩ : ∃ x, A195 0 0 27 = x := ⟨_, rfl⟩
                    have rx207 : 0 ≤ x207 ∧ x207 ≤ 4 := mrg hT_n197 hx207 rfl
                    refine m_geti C e_q_one_127 fg_Mo_182 rfl (by decide) rfl x207 hx207 ?_
                    refine m_blk 132 [(2, vi z198), (1, vi 0), (0, vr 0 0)] [vi (x207 - 1), vr 0 0] C f_q_one_130_2 rfl ?_
                    refine m_puti C e_q_one_132 fp_Mo_182 rfl (by decide) rfl ?_
                    have t208 : mTy (mu A195 0 0 27 (x207 - 1)) := hT_n197.mu (by show 0 ≤ (x207 - 1) ∧ (x207 - 1) ≤ 4; omega)
                    have q209 := hF_n197.mu (f := 0) (k := 0) (j := 27) (z := (x207 - 1)) (by simp [em])
                    refine m_blk 136 [(2, vi z198), (1, vi 0), (0, vr 0 0)] [vi 0] C f_q_one_135_1 rfl ?_
                    refine m_if_eq (tgt := 148) C e_q_one_136 (by decide) (by decide) (fun c210 => ?_) (fun c210 => (by omega : False).elim)
                    refine m_blk 151 [(2, vi z198), (1, vi 0), (0, vr 0 0)] [vi 41, vr 0 0] C f_q_one_148_2 rfl ?_
                    refine m_callV C Rm Y [vi 41] [] (q_need l D B H0 ad _ hS t208 41 (by show -2147483648 ≤ 41 ∧ 41 ≤ 2147483647; omega) (by show A195 0 0 24 ≤ A195 0 0 23 ∧ A195 0 0 23 ≤ A195 0 0 22; omega) pt_n197) cl_Mo_188 rfl (by decide) rfl rfl e_q_one_151 rfl rfl rfl ⟨by show _ ≤ (10 + 4 * d : Nat); omega, by show _ ≤ (400 + 200 * d : Nat); omega⟩ ?_
                    rintro v211 A212 ⟨rfl, hT_n214, hE_n214, raw_hb_n214, raw_hn_n214, raw_hw_n214, raw_hm_n214⟩
                    have hF_n214 := q209.trans (hE_n214.sub (nm_em _))
                    show JM g D ad w0 A212 154 [(2, vi z198), (1, vi 0), (0, vr 0 0)] []
                    have hb_n214 : A212 0 0 24 ≤ A212 0 0 23 ∧ A212 0 0 23 ≤ A212 0 0 22 := raw_hb_n214
                    clear raw_hb_n214
                    have hm_n214 : A195 0 0 24 ≤ A212 0 0 24 := raw_hm_n214
                    clear raw_hm_n214
                    have pt_n214 : pT A212 := raw_hn_n214
                    clear raw_hn_n214
                    have k0_n214 : A212 0 0 0 = A195 0 0 0 := hE_n214 0 0 0 rfl
                    have k22_n214 : A212 0 0 22 = A195 0 0 22 := hE_n214 0 0 22 rfl
                    have k27_n214 : A212 0 0 27 = (x207 - 1) := hE_n214 0 0 27 rfl
                    have k28_n214 : A212 0 0 28 = A195 0 0 28 := hE_n214 0 0 28 rfl
                    have k29_n214 : A212 0 0 29 = A195 0 0 29 := hE_n214 0 0 29 rfl
                    have k30_n214 : A212 0 0 30 = A195 0 0 30 := hE_n214 0 0 30 rfl
                    have g_n214 : A212 0 0 31 = 1 := wr_1 (hT_n214 0 0 31) (fun h9 => absurd ((g_n197 : A195 0 0 31 = 1).symm.trans (raw_hw_n214 h9).1) (by decide))
                    clear raw_hw_n214
                    refine m_blk 155 [(2, vi z198), (1, vi 0), (0, vr 0 0)] [vi z198] C f_q_one_154_1 rfl ?_
                    exact m_iret C Rm E e_q_one_155 ⟨z198, rfl, hT_n214, hF_n214, (by show 0 ≤ z198 ∧ z198 ≤ 119; omega), (by show A212 0 0 24 ≤ A212 0 0 23 ∧ A212 0 0 23 ≤ A212 0 0 22; omega), pt_n214, (fun h9 => absurd ((g_n214 : A212 0 0 31 = 1).symm.trans h9) (by decide)), (by show A 0 0 24 ≤ A212 0 0 24 ∧ A 0 0 30 ≤ A212 0 0 30 ∧ A212 0 0 27 = A 0 0 27; omega), (nG.nm (A := (mu A195 0 0 27 (x207 - 1))) hG_n197 hE_n214), (nK.nm (A2 := (mu A195 0 0 27 (x207 - 1))) (nK.trans (A2 := A190) (nK.nm (A2 := (mu A 0 0 27 (x135 + 1))) nK.rfl' hE_n192) hK_n197 (by show A 0 0 30 ≤ A190 0 0 30; omega)) hE_n214)⟩
                · refine m_blk 110 [(1, vi 0), (0, vr 0 0)] [vi 0] C f_q_one_109_1 rfl ?_
                  refine m_if_eq (tgt := 120) C e_q_one_110 (by decide) (by decide) (fun c215 => ?_) (fun c215 => (by omega : False).elim)
                  refine m_blk 121 [(1, vi 0), (0, vr 0 0)] [vr 0 0] C f_q_one_120_1 rfl ?_
                  refine m_callV C Rm Y [] [] ((hrec d1 hd1).2 l D B H0 ad _ hS hT_n192 p0 (by show A190 0 0 0 = p0 ∧ 0 ≤ p0 ∧ p0 ≤ 5; omega) (by show A190 0 0 24 ≤ A190 0 0 23 ∧ A190 0 0 23 ≤ A190 0 0 22; omega) pt_n192 (fun h9 => absurd ((g_n192 : A190 0 0 31 = 1).symm.trans h9) (by decide)) (nG.nm (A := (mu A 0 0 27 (x135 + 1))) hG hE_n192) (by show A190 0 0 27 = 4 - (d1 : Int) ∧ (d1 : Int) ≤ 4; omega)) cl_Mo_206 rfl (by decide) rfl rfl e_q_one_121 rfl rfl rfl ⟨by show _ ≤ (10 + 4 * d : Nat); omega, by show _ ≤ (400 + 200 * d : Nat); omega⟩ ?_
                  rintro v216 A217 ⟨z220, rfl, hT_n219, hE_n219, raw_hz_n219, raw_hb_n219, raw_hn_n219, raw_hw_n219, raw_hm_n219, raw_hG_n219, raw_hK_n219⟩
                  have hF_n219 := hF_n192.trans (hE_n219.sub (fun _ _ _ h => h))
                  show JM g D ad w0 A217 124 [(1, vi 0), (0, vr 0 0)] [vi z220]
                  have hz_n219 : 0 ≤ z220 ∧ z220 ≤ 119 := raw_hz_n219
                  clear raw_hz_n219
                  have hb_n219 : A217 0 0 24 ≤ A217 0 0 23 ∧ A217 0 0 23 ≤ A217 0 0 22 := raw_hb_n219
                  clear raw_hb_n219
                  have hm_n219 : A190 0 0 24 ≤ A217 0 0 24 ∧ A190 0 0 30 ≤ A217 0 0 30 ∧ A217 0 0 27 = A190 0 0 27 := raw_hm_n219
                  clear raw_hm_n219
                  have pt_n219 : pT A217 := raw_hn_n219
                  have k0_n219 : A217 0 0 0 = A190 0 0 0 := hE_n219 0 0 0 rfl
                  have k22_n219 : A217 0 0 22 = A190 0 0 22 := hE_n219 0 0 22 rfl
                  have k28_n219 : A217 0 0 28 = A190 0 0 28 := hE_n219 0 0 28 rfl
                  have k29_n219 : A217 0 0 29 = A190 0 0 29 := hE_n219 0 0 29 rfl
                  have hG_n219 : nG p0.toNat A217 := raw_hG_n219
                  have hK_n219 : nK p0.toNat A190 A217 := raw_hK_n219
                  have g_n219 : A217 0 0 31 = 1 := wr_1 (hT_n219 0 0 31) (fun h9 => absurd ((g_n192 : A190 0 0 31 = 1).symm.trans (raw_hw_n219 h9).1) (by decide))
                  refine m_blk 127 [(2, vi z220), (1, vi 0), (0, vr 0 0)] [vr 0 0, vr 0 0] C f_q_one_124_3 rfl ?_
                  obtain ⟨x221, hx221⟩ : ∃ x, A217 0 0 27 = x := ⟨_, rfl⟩
                  have rx221 : 0 ≤ x221 ∧ x221 ≤ 4 := mrg hT_n219 hx221 rfl
                  refine m_geti C e_q_one_127 fg_Mo_182 rfl (by decide) rfl x221 hx221 ?_
                  refine m_blk 132 [(2, vi z220), (1, vi 0), (0, vr 0 0)] [vi (x221 - 1), vr 0 0] C f_q_one_130_2 rfl ?_
                  refine m_puti C e_q_one_132 fp_Mo_182 rfl (by decide) rfl ?_
                  have t222 : mTy (mu A217 0 0 27 (x221 - 1)) := hT_n219.mu (by show 0 ≤ (x221 - 1) ∧ (x221 - 1) ≤ 4; omega)
                  have q223 := hF_n219.mu (f := 0) (k := 0) (j := 27) (z := (x221 - 1)) (by simp [em])
                  refine m_blk 136 [(2, vi z220), (1, vi 0), (0, vr 0 0)] [vi 0] C f_q_one_135_1 rfl ?_
                  refine m_if_eq (tgt := 148) C e_q_one_136 (by decide) (by decide) (fun c224 => ?_) (fun c224 => (by omega : False).elim)
                  refine m_blk 151 [(2, vi z220), (1, vi 0), (0, vr 0 0)] [vi 41, vr 0 0] C f_q_one_148_2 rfl ?_
                  refine m_callV C Rm Y [vi 41] [] (q_need l D B H0 ad _ hS t222 41 (by show -2147483648 ≤ 41 ∧ 41 ≤ 2147483647; omega) (by show A217 0 0 24 ≤ A217 0 0 23 ∧ A217 0 0 23 ≤ A217 0 0 22; omega) pt_n219) cl_Mo_188 rfl (by decide) rfl rfl e_q_one_151 rfl rfl rfl ⟨by show _ ≤ (10 + 4 * d : Nat); omega, by show _ ≤ (400 + 200 * d : Nat); omega⟩ ?_
                  rintro v225 A226 ⟨rfl, hT_n228, hE_n228, raw_hb_n228, raw_hn_n228, raw_hw_n228, raw_hm_n228⟩
                  have hF_n228 := q223.trans (hE_n228.sub (nm_em _))
                  show JM g D ad w0 A226 154 [(2, vi z220), (1, vi 0), (0, vr 0 0)] []
                  have hb_n228 : A226 0 0 24 ≤ A226 0 0 23 ∧ A226 0 0 23 ≤ A226 0 0 22 := raw_hb_n228
                  clear raw_hb_n228
                  have hm_n228 : A217 0 0 24 ≤ A226 0 0 24 := raw_hm_n228
                  clear raw_hm_n228
                  have pt_n228 : pT A226 := raw_hn_n228
                  clear raw_hn_n228
                  have k0_n228 : A226 0 0 0 = A217 0 0 0 := hE_n228 0 0 0 rfl
                  have k22_n228 : A226 0 0 22 = A217 0 0 22 := hE_n228 0 0 22 rfl
                  have k27_n228 : A226 0 0 27 = (x221 - 1) := hE_n228 0 0 27 rfl
                  have k28_n228 : A226 0 0 28 = A217 0 0 28 := hE_n228 0 0 28 rfl
                  have k29_n228 : A226 0 0 29 = A217 0 0 29 := hE_n228 0 0 29 rfl
                  have k30_n228 : A226 0 0 30 = A217 0 0 30 := hE_n228 0 0 30 rfl
                  have g_n228 : A226 0 0 31 = 1 := wr_1 (hT_n228 0 0 31) (fun h9 => absurd ((g_n219 : A217 0 0 31 = 1).symm.trans (raw_hw_n228 h9).1) (by decide))
                  clear raw_hw_n228
                  refine m_blk 155 [(2, vi z220), (1, vi 0), (0, vr 0 0)] [vi z220] C f_q_one_154_1 rfl ?_
                  exact m_iret C Rm E e_q_one_155 ⟨z220, rfl, hT_n228, hF_n228, (by show 0 ≤ z220 ∧ z220 ≤ 119; omega), (by show A226 0 0 24 ≤ A226 0 0 23 ∧ A226 0 0 23 ≤ A226 0 0 22; omega), pt_n228, (fun h9 => absurd ((g_n228 : A226 0 0 31 = 1).symm.trans h9) (by decide)), (by show A 0 0 24 ≤ A226 0 0 24 ∧ A 0 0 30 ≤ A226 0 0 30 ∧ A226 0 0 27 = A 0 0 27; omega), (nG.nm (A := (mu A217 0 0 27 (x221 - 1))) hG_n219 hE_n228), (nK.nm (A2 := (mu A217 0 0 27 (x221 - 1))) (nK.trans (A2 := A190) (nK.nm (A2 := (mu A 0 0 27 (x135 + 1))) nK.rfl' hE_n192) hK_n219 (by show A 0 0 30 ≤ A190 0 0 30; omega)) hE_n228)⟩
            · refine m_blk 83 [(0, vr 0 0)] [vi 1, vr 0 0] C f_q_one_81_2 rfl ?_
              refine m_putz C e_q_one_83 fp_Mo_155 rfl (by decide) rfl (Or.inr rfl) ?_
              have t229 : mTy (mu A 0 0 31 1) := hT.mu (by show 0 ≤ 1 ∧ 1 ≤ 1; omega)
              have q230 := hE0.mu (f := 0) (k := 0) (j := 31) (z := 1) (by simp [em])
              refine m_blk 87 [(0, vr 0 0)] [vi 0] C f_q_one_86_1 rfl ?_
              exact m_iret C Rm E e_q_one_87 ⟨0, rfl, t229, q230, (by show 0 ≤ 0 ∧ 0 ≤ 119; omega), (by show A 0 0 24 ≤ A 0 0 23 ∧ A 0 0 23 ≤ A 0 0 22; omega), (fun h9 => absurd (show (1 : Int) = 0 from h9) (by decide)), (fun h9 => absurd (show (1 : Int) = 0 from h9) (by decide)), (by show A 0 0 24 ≤ A 0 0 24 ∧ A 0 0 30 ≤ A 0 0 30 ∧ A 0 0 27 = A 0 0 27; omega), hG, nK.rfl'⟩
          · subst e_n132
            clear hz_n132
            refine m_if_eq (tgt := 81) C e_q_one_70 (by decide) (by decide) (fun c231 => ?_) (fun c231 => (by omega : False).elim)
            refine m_blk 83 [(0, vr 0 0)] [vi 1, vr 0 0] C f_q_one_81_2 rfl ?_
            refine m_putz C e_q_one_83 fp_Mo_155 rfl (by decide) rfl (Or.inr rfl) ?_
            have t232 : mTy (mu A 0 0 31 1) := hT.mu (by show 0 ≤ 1 ∧ 1 ≤ 1; omega)
            have q233 := hE0.mu (f := 0) (k := 0) (j := 31) (z := 1) (by simp [em])
            refine m_blk 87 [(0, vr 0 0)] [vi 0] C f_q_one_86_1 rfl ?_
            exact m_iret C Rm E e_q_one_87 ⟨0, rfl, t232, q233, (by show 0 ≤ 0 ∧ 0 ≤ 119; omega), (by show A 0 0 24 ≤ A 0 0 23 ∧ A 0 0 23 ≤ A 0 0 22; omega), (fun h9 => absurd (show (1 : Int) = 0 from h9) (by decide)), (fun h9 => absurd (show (1 : Int) = 0 from h9) (by decide)), (by show A 0 0 24 ≤ A 0 0 24 ∧ A 0 0 30 ≤ A 0 0 30 ∧ A 0 0 27 = A 0 0 27; omega), hG, nK.rfl'⟩
      · have bt9 : A 0 0 24 < A 0 0 23 := pT_lt hn g0 (by omega)
        refine m_blk 27 [(0, vr 0 0)] [vr 0 0, vr 0 0] C f_q_one_25_2 rfl ?_
        refine m_geti C e_q_one_27 fg_Mo_159 rfl (by decide) rfl x2 hx2 ?_
        refine m_blk 31 [(0, vr 0 0)] [vi 3, vi x2, vr 0 0] C f_q_one_30_1 rfl ?_
        refine m_icmp_ne (tgt := 38) C e_q_one_31 (by decide) (by omega) (by decide) (fun c234 => ?_) (fun c234 => ?_)
        · refine m_blk 40 [(0, vr 0 0)] [vr 0 0, vi 1, vr 0 0] C f_q_one_38_2 rfl ?_
          obtain ⟨x235, hx235⟩ : ∃ x, A 0 0 26 = x := ⟨_, rfl⟩
          have rx235 : (-1) ≤ x235 ∧ x235 ≤ 255 := mrg hT hx235 rfl
          refine m_geti C e_q_one_40 fg_Mo_165 rfl (by decide) rfl x235 hx235 ?_
          refine m_blk 45 [(0, vr 0 0)] [vi (-1), vi (-1), vi x235, vi 1, vr 0 0] C f_q_one_43_2 rfl ?_
          refine m_callV C Rm Y [vi 1, vi x235, vi (-1), vi (-1)] [] (q_node l D B H0 ad _ hT p0 1 x235 (-1) (-1) (by show A 0 0 0 = p0 ∧ 0 ≤ p0 ∧ p0 ≤ 5; omega) (fun _ => by show A 0 0 30 ≤ 119; omega) (by show (-1 ≤ 1 ∧ 1 ≤ 255) ∧ (-1 ≤ x235 ∧ x235 ≤ 255) ∧ (-1 ≤ (-1) ∧ (-1) ≤ 119) ∧ (-1 ≤ (-1) ∧ (-1) ≤ 119); omega) hG (fun _ => by show (-1) < A 0 0 30 ∧ (-1) < A 0 0 30 ∧ (1 ≠ 0 → 1 ≠ 1 → 0 ≤ (-1)) ∧ (1 ≠ 0 → 1 ≠ 1 → 1 ≠ 2 → 0 ≤ (-1)); omega)) cl_Mo_218 rfl (by decide) rfl rfl e_q_one_45 rfl rfl rfl ⟨by show _ ≤ (10 + 4 * d : Nat); omega, by show _ ≤ (400 + 200 * d : Nat); omega⟩ ?_
          rintro v236 A237 ⟨z240, rfl, hT_n239, hE_n239, raw_hz_n239, raw_hw_n239, raw_hi_n239, raw_hm_n239, raw_hG_n239, raw_hK_n239⟩
          have hF_n239 := hE0.trans (hE_n239.sub (nd_em _))
          show JM g D ad w0 A237 48 [(0, vr 0 0)] [vi z240]
          have hz_n239 : 0 ≤ z240 ∧ z240 ≤ 119 := raw_hz_n239
          clear raw_hz_n239
          obtain ⟨b1_n239, b2_n239⟩ : A237 0 0 30 = A 0 0 30 + 1 ∧ z240 = A 0 0 30 := raw_hi_n239 g0
          clear raw_hi_n239 raw_hw_n239
          have k0_n239 : A237 0 0 0 = A 0 0 0 := hE_n239 0 0 0 rfl
          have k22_n239 : A237 0 0 22 = A 0 0 22 := hE_n239 0 0 22 rfl
          have k23_n239 : A237 0 0 23 = A 0 0 23 := hE_n239 0 0 23 rfl
          have k24_n239 : A237 0 0 24 = A 0 0 24 := hE_n239 0 0 24 rfl
          have k25_n239 : A237 0 0 25 = A 0 0 25 := hE_n239 0 0 25 rfl
          have k26_n239 : A237 0 0 26 = A 0 0 26 := hE_n239 0 0 26 rfl
          have k27_n239 : A237 0 0 27 = A 0 0 27 := hE_n239 0 0 27 rfl
          have k28_n239 : A237 0 0 28 = A 0 0 28 := hE_n239 0 0 28 rfl
          have k29_n239 : A237 0 0 29 = A 0 0 29 := hE_n239 0 0 29 rfl
          have g_n239 : A237 0 0 31 = 0 := (hE_n239 0 0 31 rfl).trans g0
          have hG_n239 : nG p0.toNat A237 := raw_hG_n239
          have hK_n239 : nK p0.toNat A A237 := raw_hK_n239
          have pt_n239 : pT A237 := pT_eq (A := A) hn (hE_n239 0 0 31 rfl) (hE_n239 0 0 25 rfl) (hE_n239 0 0 24 rfl) (hE_n239 0 0 23 rfl) (hE_n239 0 0 26 rfl)
          refine m_blk 50 [(1, vi z240), (0, vr 0 0)] [vr 0 0] C f_q_one_48_2 rfl ?_
          refine m_callV C Rm Y [] [] (q_next l D B H0 ad _ hS hT_n239 (by show A237 0 0 23 ≤ A237 0 0 22; omega)) cl_Mo_176 rfl (by decide) rfl rfl e_q_one_50 rfl rfl rfl ⟨by show _ ≤ (10 + 4 * d : Nat); omega, by show _ ≤ (400 + 200 * d : Nat); omega⟩ ?_
          rintro v241 A242 ⟨rfl, hT_n244, hE_n244, raw_hw_n244, raw_hb_n244⟩
          have hF_n244 := hF_n239.trans (hE_n244.sub (nm_em _))
          show JM g D ad w0 A242 53 [(1, vi z240), (0, vr 0 0)] []
          obtain ⟨b1_n244, b2_n244, b3_n244, pt_n244⟩ : A237 0 0 23 ≤ A242 0 0 24 ∧ A242 0 0 24 ≤ A242 0 0 23 ∧ A242 0 0 23 ≤ A242 0 0 22 ∧ pT A242 := raw_hb_n244 g_n239
          clear raw_hb_n244 raw_hw_n244
          have k0_n244 : A242 0 0 0 = A237 0 0 0 := hE_n244 0 0 0 rfl
          have k22_n244 : A242 0 0 22 = A237 0 0 22 := hE_n244 0 0 22 rfl
          have k27_n244 : A242 0 0 27 = A237 0 0 27 := hE_n244 0 0 27 rfl
          have k28_n244 : A242 0 0 28 = A237 0 0 28 := hE_n244 0 0 28 rfl
          have k29_n244 : A242 0 0 29 = A237 0 0 29 := hE_n244 0 0 29 rfl
          have k30_n244 : A242 0 0 30 = A237 0 0 30 := hE_n244 0 0 30 rfl
          rcases (show A242 0 0 31 = 0 ∨ A242 0 0 31 = 1 from by have w9 := hT_n244 0 0 31; have w8 : 0 ≤ A242 0 0 31 ∧ A242 0 0 31 ≤ 1 := w9; omega) with g_n244 | g_n244
          · refine m_blk 54 [(1, vi z240), (0, vr 0 0)] [vi z240] C f_q_one_53_1 rfl ?_
            exact m_iret C Rm E e_q_one_54 ⟨z240, rfl, hT_n244, hF_n244, (by show 0 ≤ z240 ∧ z240 ≤ 119; omega), (by show A242 0 0 24 ≤ A242 0 0 23 ∧ A242 0 0 23 ≤ A242 0 0 22; omega), pt_n244, (fun _ => ⟨g0, (by show z240 < A242 0 0 30; omega), (by show A 0 0 24 - A 0 0 30 ≤ A242 0 0 24 - A242 0 0 30; omega)⟩), (by show A 0 0 24 ≤ A242 0 0 24 ∧ A 0 0 30 ≤ A242 0 0 30 ∧ A242 0 0 27 = A 0 0 27; omega), (nG.nm (A := A237) hG_n239 hE_n244), (nK.nm (A2 := A237) (nK.trans (A2 := A) nK.rfl' hK_n239 (by show A 0 0 30 ≤ A 0 0 30; omega)) hE_n244)⟩
          · refine m_blk 54 [(1, vi z240), (0, vr 0 0)] [vi z240] C f_q_one_53_1 rfl ?_
            exact m_iret C Rm E e_q_one_54 ⟨z240, rfl, hT_n244, hF_n244, (by show 0 ≤ z240 ∧ z240 ≤ 119; omega), (by show A242 0 0 24 ≤ A242 0 0 23 ∧ A242 0 0 23 ≤ A242 0 0 22; omega), pt_n244, (fun h9 => absurd ((g_n244 : A242 0 0 31 = 1).symm.trans h9) (by decide)), (by show A 0 0 24 ≤ A242 0 0 24 ∧ A 0 0 30 ≤ A242 0 0 30 ∧ A242 0 0 27 = A 0 0 27; omega), (nG.nm (A := A237) hG_n239 hE_n244), (nK.nm (A2 := A237) (nK.trans (A2 := A) nK.rfl' hK_n239 (by show A 0 0 30 ≤ A 0 0 30; omega)) hE_n244)⟩
        · refine m_blk 39 [(0, vr 0 0)] [vi 0, vr 0 0] C f_q_one_34_2 rfl ?_
          refine m_blk 40 [(0, vr 0 0)] [vr 0 0, vi 0, vr 0 0] C f_q_one_39_1 rfl ?_
          obtain ⟨x245, hx245⟩ : ∃ x, A 0 0 26 = x := ⟨_, rfl⟩
          have rx245 : (-1) ≤ x245 ∧ x245 ≤ 255 := mrg hT hx245 rfl
          refine m_geti C e_q_one_40 fg_Mo_165 rfl (by decide) rfl x245 hx245 ?_
          refine m_blk 45 [(0, vr 0 0)] [vi (-1), vi (-1), vi x245, vi 0, vr 0 0] C f_q_one_43_2 rfl ?_
          refine m_callV C Rm Y [vi 0, vi x245, vi (-1), vi (-1)] [] (q_node l D B H0 ad _ hT p0 0 x245 (-1) (-1) (by show A 0 0 0 = p0 ∧ 0 ≤ p0 ∧ p0 ≤ 5; omega) (fun _ => by show A 0 0 30 ≤ 119; omega) (by show (-1 ≤ 0 ∧ 0 ≤ 255) ∧ (-1 ≤ x245 ∧ x245 ≤ 255) ∧ (-1 ≤ (-1) ∧ (-1) ≤ 119) ∧ (-1 ≤ (-1) ∧ (-1) ≤ 119); omega) hG (fun _ => by show (-1) < A 0 0 30 ∧ (-1) < A 0 0 30 ∧ (0 ≠ 0 → 0 ≠ 1 → 0 ≤ (-1)) ∧ (0 ≠ 0 → 0 ≠ 1 → 0 ≠ 2 → 0 ≤ (-1)); omega)) cl_Mo_218 rfl (by decide) rfl rfl e_q_one_45 rfl rfl rfl ⟨by show _ ≤ (10 + 4 * d : Nat); omega, by show _ ≤ (400 + 200 * d : Nat); omega⟩ ?_
          rintro v246 A247 ⟨z250, rfl, hT_n249, hE_n249, raw_hz_n249, raw_hw_n249, raw_hi_n249, raw_hm_n249, raw_hG_n249, raw_hK_n249⟩
          have hF_n249 := hE0.trans (hE_n249.sub (nd_em _))
          show JM g D ad w0 A247 48 [(0, vr 0 0)] [vi z250]
          have hz_n249 : 0 ≤ z250 ∧ z250 ≤ 119 := raw_hz_n249
          clear raw_hz_n249
          obtain ⟨b1_n249, b2_n249⟩ : A247 0 0 30 = A 0 0 30 + 1 ∧ z250 = A 0 0 30 := raw_hi_n249 g0
          clear raw_hi_n249 raw_hw_n249
          have k0_n249 : A247 0 0 0 = A 0 0 0 := hE_n249 0 0 0 rfl
          have k22_n249 : A247 0 0 22 = A 0 0 22 := hE_n249 0 0 22 rfl
          have k23_n249 : A247 0 0 23 = A 0 0 23 := hE_n249 0 0 23 rfl
          have k24_n249 : A247 0 0 24 = A 0 0 24 := hE_n249 0 0 24 rfl
          have k25_n249 : A247 0 0 25 = A 0 0 25 := hE_n249 0 0 25 rfl
          have k26_n249 : A247 0 0 26 = A 0 0 26 := hE_n249 0 0 26 rfl
          have k27_n249 : A247 0 0 27 = A 0 0 27 := hE_n249 0 0 27 rfl
          have k28_n249 : A247 0 0 28 = A 0 0 28 := hE_n249 0 0 28 rfl
          have k29_n249 : A247 0 0 29 = A 0 0 29 := hE_n249 0 0 29 rfl
          have g_n249 : A247 0 0 31 = 0 := (hE_n249 0 0 31 rfl).trans g0
          have hG_n249 : nG p0.toNat A247 := raw_hG_n249
          have hK_n249 : nK p0.toNat A A247 := raw_hK_n249
          have pt_n249 : pT A247 := pT_eq (A := A) hn (hE_n249 0 0 31 rfl) (hE_n249 0 0 25 rfl) (hE_n249 0 0 24 rfl) (hE_n249 0 0 23 rfl) (hE_n249 0 0 26 rfl)
          refine m_blk 50 [(1, vi z250), (0, vr 0 0)] [vr 0 0] C f_q_one_48_2 rfl ?_
          refine m_callV C Rm Y [] [] (q_next l D B H0 ad _ hS hT_n249 (by show A247 0 0 23 ≤ A247 0 0 22; omega)) cl_Mo_176 rfl (by decide) rfl rfl e_q_one_50 rfl rfl rfl ⟨by show _ ≤ (10 + 4 * d : Nat); omega, by show _ ≤ (400 + 200 * d : Nat); omega⟩ ?_
          rintro v251 A252 ⟨rfl, hT_n254, hE_n254, raw_hw_n254, raw_hb_n254⟩
          have hF_n254 := hF_n249.trans (hE_n254.sub (nm_em _))
          show JM g D ad w0 A252 53 [(1, vi z250), (0, vr 0 0)] []
          obtain ⟨b1_n254, b2_n254, b3_n254, pt_n254⟩ : A247 0 0 23 ≤ A252 0 0 24 ∧ A252 0 0 24 ≤ A252 0 0 23 ∧ A252 0 0 23 ≤ A252 0 0 22 ∧ pT A252 := raw_hb_n254 g_n249
          clear raw_hb_n254 raw_hw_n254
          have k0_n254 : A252 0 0 0 = A247 0 0 0 := hE_n254 0 0 0 rfl
          have k22_n254 : A252 0 0 22 = A247 0 0 22 := hE_n254 0 0 22 rfl
          have k27_n254 : A252 0 0 27 = A247 0 0 27 := hE_n254 0 0 27 rfl
          have k28_n254 : A252 0 0 28 = A247 0 0 28 := hE_n254 0 0 28 rfl
          have k29_n254 : A252 0 0 29 = A247 0 0 29 := hE_n254 0 0 29 rfl
          have k30_n254 : A252 0 0 30 = A247 0 0 30 := hE_n254 0 0 30 rfl
          rcases (show A252 0 0 31 = 0 ∨ A252 0 0 31 = 1 from by have w9 := hT_n254 0 0 31; have w8 : 0 ≤ A252 0 0 31 ∧ A252 0 0 31 ≤ 1 := w9; omega) with g_n254 | g_n254
          · refine m_blk 54 [(1, vi z250), (0, vr 0 0)] [vi z250] C f_q_one_53_1 rfl ?_
            exact m_iret C Rm E e_q_one_54 ⟨z250, rfl, hT_n254, hF_n254, (by show 0 ≤ z250 ∧ z250 ≤ 119; omega), (by show A252 0 0 24 ≤ A252 0 0 23 ∧ A252 0 0 23 ≤ A252 0 0 22; omega), pt_n254, (fun _ => ⟨g0, (by show z250 < A252 0 0 30; omega), (by show A 0 0 24 - A 0 0 30 ≤ A252 0 0 24 - A252 0 0 30; omega)⟩), (by show A 0 0 24 ≤ A252 0 0 24 ∧ A 0 0 30 ≤ A252 0 0 30 ∧ A252 0 0 27 = A 0 0 27; omega), (nG.nm (A := A247) hG_n249 hE_n254), (nK.nm (A2 := A247) (nK.trans (A2 := A) nK.rfl' hK_n249 (by show A 0 0 30 ≤ A 0 0 30; omega)) hE_n254)⟩
          · refine m_blk 54 [(1, vi z250), (0, vr 0 0)] [vi z250] C f_q_one_53_1 rfl ?_
            exact m_iret C Rm E e_q_one_54 ⟨z250, rfl, hT_n254, hF_n254, (by show 0 ≤ z250 ∧ z250 ≤ 119; omega), (by show A252 0 0 24 ≤ A252 0 0 23 ∧ A252 0 0 23 ≤ A252 0 0 22; omega), pt_n254, (fun h9 => absurd ((g_n254 : A252 0 0 31 = 1).symm.trans h9) (by decide)), (by show A 0 0 24 ≤ A252 0 0 24 ∧ A 0 0 30 ≤ A252 0 0 30 ∧ A252 0 0 27 = A 0 0 27; omega), (nG.nm (A := A247) hG_n249 hE_n254), (nK.nm (A2 := A247) (nK.trans (A2 := A) nK.rfl' hK_n249 (by show A 0 0 30 ≤ A 0 0 30; omega)) hE_n254)⟩
  · refine m_blk 1 [(0, vr 0 0)] [vr 0 0] C f_q_one_0_1 rfl ?_
    refine m_geti C e_q_one_1 fg_Mo_155 rfl (by decide) rfl 1 g0 ?_
    refine m_if_eq (tgt := 9) C e_q_one_4 (by decide) (by decide) (fun c255 => (by omega : False).elim) (fun c255 => ?_)
    refine m_blk 8 [(0, vr 0 0)] [vi 0] C f_q_one_7_1 rfl ?_
    exact m_iret C Rm E e_q_one_8 ⟨0, rfl, hT, hE0, (by show 0 ≤ 0 ∧ 0 ≤ 119; omega), (by show A 0 0 24 ≤ A 0 0 23 ∧ A 0 0 23 ≤ A 0 0 22; omega), hn, (fun h9 => absurd ((g0 : A 0 0 31 = 1).symm.trans h9) (by decide)), (by show A 0 0 24 ≤ A 0 0 24 ∧ A 0 0 30 ≤ A 0 0 30 ∧ A 0 0 27 = A 0 0 27; omega), hG, nK.rfl'⟩

theorem f_q_term_0_1 : mblkB b_Mo_term [(0, .aload_n 0, vi 0)] = true := by decide +kernel
theorem e_q_term_1 : decode b_Mo_term 1 = .ok (.invokevirtual 225, 3) := by decide +kernel
theorem f_q_term_4_1 : mblkB b_Mo_term [(4, .istore_n 1, vi 0)] = true := by decide +kernel
theorem f_q_term_5_2 : mblkB b_Mo_term [(5, .aload_n 0, vi 0), (6, .bipush 42, vi 42)] = true := by decide +kernel
theorem e_q_term_8 : decode b_Mo_term 8 = .ok (.invokevirtual 173, 3) := by decide +kernel
theorem e_q_term_11 : decode b_Mo_term 11 = .ok (.ifCond .ne 12, 3) := by decide +kernel
theorem f_q_term_23_1 : mblkB b_Mo_term [(23, .aload_n 0, vi 0)] = true := by decide +kernel
theorem e_q_term_24 : decode b_Mo_term 24 = .ok (.getfield 165, 3) := by decide +kernel
theorem f_q_term_27_2 : mblkB b_Mo_term [(27, .istore_n 2, vi 0), (28, .aload_n 0, vi 0)] = true := by decide +kernel
theorem e_q_term_29 : decode b_Mo_term 29 = .ok (.invokevirtual 176, 3) := by decide +kernel
theorem f_q_term_32_1 : mblkB b_Mo_term [(32, .aload_n 0, vi 0)] = true := by decide +kernel
theorem e_q_term_33 : decode b_Mo_term 33 = .ok (.invokevirtual 225, 3) := by decide +kernel
theorem f_q_term_36_6 : mblkB b_Mo_term [(36, .istore_n 3, vi 0), (37, .aload_n 0, vi 0), (38, .iload_n 2, vi 0), (39, .iconst 0, vi 0), (40, .iload_n 1, vi 0), (41, .iload_n 3, vi 0)] = true := by decide +kernel
theorem e_q_term_42 : decode b_Mo_term 42 = .ok (.invokevirtual 218, 3) := by decide +kernel
theorem f_q_term_45_2 : mblkB b_Mo_term [(45, .istore_n 1, vi 0), (46, .goto (-41), vi 5)] = true := by decide +kernel
theorem f_q_term_14_2 : mblkB b_Mo_term [(14, .aload_n 0, vi 0), (15, .bipush 37, vi 37)] = true := by decide +kernel
theorem e_q_term_17 : decode b_Mo_term 17 = .ok (.invokevirtual 173, 3) := by decide +kernel
theorem e_q_term_20 : decode b_Mo_term 20 = .ok (.ifCond .eq 29, 3) := by decide +kernel
theorem f_q_term_49_1 : mblkB b_Mo_term [(49, .iload_n 1, vi 0)] = true := by decide +kernel
theorem e_q_term_50 : decode b_Mo_term 50 = .ok (.ireturn, 1) := by decide +kernel
set_option maxHeartbeats 40000000 in
set_option maxRecDepth 100000 in
theorem q_term (d : Nat) (hq9 : S_one d) : S_term d := by
  intro l D B H0 ad A hS hT p0 hp hb hn hl hG ho
  refine m_met (by decide) rfl (fun g w0 C Rm Y E => ?_)
  have hE0 : mEq (em p0.toNat) A A := mEq.rfl'
  show JM g D ad w0 A 0 [(0, vr 0 0)] []
  have rt : A 0 0 22 ≤ 120 := (hT 0 0 22).2
  have rd9 : 0 ≤ A 0 0 29 ∧ 0 ≤ A 0 0 30 := ⟨(hT 0 0 29).1, (hT 0 0 30).1⟩
  rcases (show A 0 0 31 = 0 ∨ A 0 0 31 = 1 from by have w8 : 0 ≤ A 0 0 31 ∧ A 0 0 31 ≤ 1 := hT 0 0 31; omega) with g0 | g0
  · have hl0 := hl g0
    refine m_blk 1 [(0, vr 0 0)] [vr 0 0] C f_q_term_0_1 rfl ?_
    refine m_callV C Rm Y [] [] (hq9 l D B H0 ad _ hS hT p0 (by show A 0 0 0 = p0 ∧ 0 ≤ p0 ∧ p0 ≤ 5; omega) (by show A 0 0 24 ≤ A 0 0 23 ∧ A 0 0 23 ≤ A 0 0 22; omega) hn (fun _ => by show A 0 0 30 + 3 * A 0 0 29 ≤ A 0 0 24; omega) hG (by show A 0 0 27 = 4 - (d : Int) ∧ (d : Int) ≤ 4; omega)) cl_Mo_225 rfl (by decide) rfl rfl e_q_term_1 rfl rfl rfl ⟨by show _ ≤ (11 + 4 * d : Nat); omega, by show _ ≤ (430 + 200 * d : Nat); omega⟩ ?_
    rintro v1 A2 ⟨z5, rfl, hT_n4, hE_n4, raw_hz_n4, raw_hb_n4, raw_hn_n4, raw_hw_n4, raw_hm_n4, raw_hG_n4, raw_hK_n4⟩
    have hF_n4 := hE0.trans (hE_n4.sub (fun _ _ _ h => h))
    show JM g D ad w0 A2 4 [(0, vr 0 0)] [vi z5]
    have hz_n4 : 0 ≤ z5 ∧ z5 ≤ 119 := raw_hz_n4
    clear raw_hz_n4
    have hb_n4 : A2 0 0 24 ≤ A2 0 0 23 ∧ A2 0 0 23 ≤ A2 0 0 22 := raw_hb_n4
    clear raw_hb_n4
    have hm_n4 : A 0 0 24 ≤ A2 0 0 24 ∧ A 0 0 30 ≤ A2 0 0 30 ∧ A2 0 0 27 = A 0 0 27 := raw_hm_n4
    clear raw_hm_n4
    have pt_n4 : pT A2 := raw_hn_n4
    have k0_n4 : A2 0 0 0 = A 0 0 0 := hE_n4 0 0 0 rfl
    have k22_n4 : A2 0 0 22 = A 0 0 22 := hE_n4 0 0 22 rfl
    have k28_n4 : A2 0 0 28 = A 0 0 28 := hE_n4 0 0 28 rfl
    have k29_n4 : A2 0 0 29 = A 0 0 29 := hE_n4 0 0 29 rfl
    have hG_n4 : nG p0.toNat A2 := raw_hG_n4
    have hK_n4 : nK p0.toNat A A2 := raw_hK_n4
    rcases (show A2 0 0 31 = 0 ∨ A2 0 0 31 = 1 from by have w9 := hT_n4 0 0 31; have w8 : 0 ≤ A2 0 0 31 ∧ A2 0 0 31 ≤ 1 := w9; omega) with g_n4 | g_n4
    · have u_n4 : z5 < A2 0 0 30 ∧ A 0 0 24 - A 0 0 30 ≤ A2 0 0 24 - A2 0 0 30 := (raw_hw_n4 g_n4).2
      refine m_blk 5 [(1, vi z5), (0, vr 0 0)] [] C f_q_term_4_1 rfl ?_
      have hd_5 : ∀ (N : Nat) (A2 : mA) (a : Int), mTy A2 → mEq (em p0.toNat) A A2 → 0 ≤ a ∧ a ≤ 119 → A2 0 0 24 ≤ A2 0 0 23 ∧ A2 0 0 23 ≤ A2 0 0 22 → pT A2 → pW A A2 a → A 0 0 24 ≤ A2 0 0 24 ∧ A 0 0 30 ≤ A2 0 0 30 ∧ A2 0 0 27 = A 0 0 27 ∧ A2 0 0 22 = A 0 0 22 ∧ A2 0 0 0 = p0 ∧ A2 0 0 29 = A 0 0 29 ∧ A2 0 0 28 = A 0 0 28 → nG p0.toNat A2 → nK p0.toNat A A2 → (200 - A2 0 0 24) < (N : Int) → JM g D ad w0 A2 5 [(1, vi a), (0, vr 0 0)] [] := by
        intro N
        induction N with
        | zero => intro A2 a hT2 hE2 ia ib iT iw im iG iK hm; exact absurd hm (by omega)
        | succ N ih =>
          intro A2 a hT2 hE2 ia ib iT iw im iG iK hm
          rcases (show A2 0 0 31 = 0 ∨ A2 0 0 31 = 1 from by have w8 : 0 ≤ A2 0 0 31 ∧ A2 0 0 31 ≤ 1 := hT2 0 0 31; omega) with g2 | g2
          · have u2 : a < A2 0 0 30 ∧ A 0 0 24 - A 0 0 30 ≤ A2 0 0 24 - A2 0 0 30 := (iw g2).2
            have g0 : A 0 0 31 = 0 := (iw g2).1
            have hl0 := hl g0
            refine m_blk 8 [(1, vi a), (0, vr 0 0)] [vi 42, vr 0 0] C f_q_term_5_2 rfl ?_
            refine m_callV C Rm Y [vi 42] [] (q_isSign l D B H0 ad _ hT2 42 (by show -2147483648 ≤ 42 ∧ 42 ≤ 2147483647; omega)) cl_Mo_173 rfl (by decide) rfl rfl e_q_term_8 rfl rfl rfl ⟨by show _ ≤ (11 + 4 * d : Nat); omega, by show _ ≤ (430 + 200 * d : Nat); omega⟩ ?_
            rintro v6 A7 ⟨z10, rfl, rfl, raw_hz_n9⟩
            show JM g D ad w0 A2 11 [(1, vi a), (0, vr 0 0)] [vi z10]
            have hz_n9 : z10 = 1 ∧ A2 0 0 31 = 0 ∧ A2 0 0 25 = 4 ∧ A2 0 0 26 = 42 ∨ z10 = 0 ∧ ¬ (A2 0 0 31 = 0 ∧ A2 0 0 25 = 4 ∧ A2 0 0 26 = 42) := raw_hz_n9
            clear raw_hz_n9
            rcases hz_n9 with ⟨e_n9, hz_n9⟩ | ⟨e_n9, hz_n9⟩
            · subst e_n9
              have bt_n9 : A2 0 0 24 < A2 0 0 23 := pT_lt (A := A2) iT hz_n9.1 (by show ¬ A2 0 0 25 = 0; omega)
              refine m_if_ne (tgt := 23) C e_q_term_11 (by decide) (by decide) (fun c11 => ?_) (fun c11 => (by omega : False).elim)
              refine m_blk 24 [(1, vi a), (0, vr 0 0)] [vr 0 0] C f_q_term_23_1 rfl ?_
              obtain ⟨x12, hx12⟩ : ∃ x, A2 0 0 26 = x := ⟨_, rfl⟩
              have rx12 : (-1) ≤ x12 ∧ x12 ≤ 255 := mrg hT2 hx12 rfl
              refine m_geti C e_q_term_24 fg_Mo_165 rfl (by decide) rfl x12 hx12 ?_
              refine m_blk 29 [(2, vi x12), (1, vi a), (0, vr 0 0)] [vr 0 0] C f_q_term_27_2 rfl ?_
              refine m_callV C Rm Y [] [] (q_next l D B H0 ad _ hS hT2 (by show A2 0 0 23 ≤ A2 0 0 22; omega)) cl_Mo_176 rfl (by decide) rfl rfl e_q_term_29 rfl rfl rfl ⟨by show _ ≤ (11 + 4 * d : Nat); omega, by show _ ≤ (430 + 200 * d : Nat); omega⟩ ?_
              rintro v13 A14 ⟨rfl, hT_n16, hE_n16, raw_hw_n16, raw_hb_n16⟩
              have hF_n16 := hE2.trans (hE_n16.sub (nm_em _))
              show JM g D ad w0 A14 32 [(2, vi x12), (1, vi a), (0, vr 0 0)] []
              obtain ⟨b1_n16, b2_n16, b3_n16, pt_n16⟩ : A2 0 0 23 ≤ A14 0 0 24 ∧ A14 0 0 24 ≤ A14 0 0 23 ∧ A14 0 0 23 ≤ A14 0 0 22 ∧ pT A14 := raw_hb_n16 g2
              clear raw_hb_n16 raw_hw_n16
              have k0_n16 : A14 0 0 0 = A2 0 0 0 := hE_n16 0 0 0 rfl
              have k22_n16 : A14 0 0 22 = A2 0 0 22 := hE_n16 0 0 22 rfl
              have k27_n16 : A14 0 0 27 = A2 0 0 27 := hE_n16 0 0 27 rfl
              have k28_n16 : A14 0 0 28 = A2 0 0 28 := hE_n16 0 0 28 rfl
              have k29_n16 : A14 0 0 29 = A2 0 0 29 := hE_n16 0 0 29 rfl
              have k30_n16 : A14 0 0 30 = A2 0 0 30 := hE_n16 0 0 30 rfl
              rcases (show A14 0 0 31 = 0 ∨ A14 0 0 31 = 1 from by have w9 := hT_n16 0 0 31; have w8 : 0 ≤ A14 0 0 31 ∧ A14 0 0 31 ≤ 1 := w9; omega) with g_n16 | g_n16
              · refine m_blk 33 [(2, vi x12), (1, vi a), (0, vr 0 0)] [vr 0 0] C f_q_term_32_1 rfl ?_
                refine m_callV C Rm Y [] [] (hq9 l D B H0 ad _ hS hT_n16 p0 (by show A14 0 0 0 = p0 ∧ 0 ≤ p0 ∧ p0 ≤ 5; omega) (by show A14 0 0 24 ≤ A14 0 0 23 ∧ A14 0 0 23 ≤ A14 0 0 22; omega) pt_n16 (fun _ => by show A14 0 0 30 + 3 * A14 0 0 29 ≤ A14 0 0 24; omega) (nG.nm (A := A2) iG hE_n16) (by show A14 0 0 27 = 4 - (d : Int) ∧ (d : Int) ≤ 4; omega)) cl_Mo_225 rfl (by decide) rfl rfl e_q_term_33 rfl rfl rfl ⟨by show _ ≤ (11 + 4 * d : Nat); omega, by show _ ≤ (430 + 200 * d : Nat); omega⟩ ?_
                rintro v17 A18 ⟨z21, rfl, hT_n20, hE_n20, raw_hz_n20, raw_hb_n20, raw_hn_n20, raw_hw_n20, raw_hm_n20, raw_hG_n20, raw_hK_n20⟩
                have hF_n20 := hF_n16.trans (hE_n20.sub (fun _ _ _ h => h))
                show JM g D ad w0 A18 36 [(2, vi x12), (1, vi a), (0, vr 0 0)] [vi z21]
                have hz_n20 : 0 ≤ z21 ∧ z21 ≤ 119 := raw_hz_n20
                clear raw_hz_n20
                have hb_n20 : A18 0 0 24 ≤ A18 0 0 23 ∧ A18 0 0 23 ≤ A18 0 0 22 := raw_hb_n20
                clear raw_hb_n20
                have hm_n20 : A14 0 0 24 ≤ A18 0 0 24 ∧ A14 0 0 30 ≤ A18 0 0 30 ∧ A18 0 0 27 = A14 0 0 27 := raw_hm_n20
                clear raw_hm_n20
                have pt_n20 : pT A18 := raw_hn_n20
                have k0_n20 : A18 0 0 0 = A14 0 0 0 := hE_n20 0 0 0 rfl
                have k22_n20 : A18 0 0 22 = A14 0 0 22 := hE_n20 0 0 22 rfl
                have k28_n20 : A18 0 0 28 = A14 0 0 28 := hE_n20 0 0 28 rfl
                have k29_n20 : A18 0 0 29 = A14 0 0 29 := hE_n20 0 0 29 rfl
                have hG_n20 : nG p0.toNat A18 := raw_hG_n20
                have hK_n20 : nK p0.toNat A14 A18 := raw_hK_n20
                rcases (show A18 0 0 31 = 0 ∨ A18 0 0 31 = 1 from by have w9 := hT_n20 0 0 31; have w8 : 0 ≤ A18 0 0 31 ∧ A18 0 0 31 ≤ 1 := w9; omega) with g_n20 | g_n20
                · have u_n20 : z21 < A18 0 0 30 ∧ A14 0 0 24 - A14 0 0 30 ≤ A18 0 0 24 - A18 0 0 30 := (raw_hw_n20 g_n20).2
                  refine m_blk 42 [(3, vi z21), (2, vi x12), (1, vi a), (0, vr 0 0)] [vi z21, vi a, vi 0, vi x12, vr 0 0] C f_q_term_36_6 rfl ?_
                  refine m_callV C Rm Y [vi x12, vi 0, vi a, vi z21] [] (q_node l D B H0 ad _ hT_n20 p0 x12 0 a z21 (by show A18 0 0 0 = p0 ∧ 0 ≤ p0 ∧ p0 ≤ 5; omega) (fun _ => by show A18 0 0 30 ≤ 119; omega) (by show (-1 ≤ x12 ∧ x12 ≤ 255) ∧ (-1 ≤ 0 ∧ 0 ≤ 255) ∧ (-1 ≤ a ∧ a ≤ 119) ∧ (-1 ≤ z21 ∧ z21 ≤ 119); omega) hG_n20 (fun _ => by show a < A18 0 0 30 ∧ z21 < A18 0 0 30 ∧ (x12 ≠ 0 → x12 ≠ 1 → 0 ≤ a) ∧ (x12 ≠ 0 → x12 ≠ 1 → x12 ≠ 2 → 0 ≤ z21); omega)) cl_Mo_218 rfl (by decide) rfl rfl e_q_term_42 rfl rfl rfl ⟨by show _ ≤ (11 + 4 * d : Nat); omega, by show _ ≤ (430 + 200 * d : Nat); omega⟩ ?_
                  rintro v22 A23 ⟨z26, rfl, hT_n25, hE_n25, raw_hz_n25, raw_hw_n25, raw_hi_n25, raw_hm_n25, raw_hG_n25, raw_hK_n25⟩
                  have hF_n25 := hF_n20.trans (hE_n25.sub (nd_em _))
                  show JM g D ad w0 A23 45 [(3, vi z21), (2, vi x12), (1, vi a), (0, vr 0 0)] [vi z26]
                  have hz_n25 : 0 ≤ z26 ∧ z26 ≤ 119 := raw_hz_n25
                  clear raw_hz_n25
                  obtain ⟨b1_n25, b2_n25⟩ : A23 0 0 30 = A18 0 0 30 + 1 ∧ z26 = A18 0 0 30 := raw_hi_n25 g_n20
                  clear raw_hi_n25 raw_hw_n25
                  have k0_n25 : A23 0 0 0 = A18 0 0 0 := hE_n25 0 0 0 rfl
                  have k22_n25 : A23 0 0 22 = A18 0 0 22 := hE_n25 0 0 22 rfl
                  have k23_n25 : A23 0 0 23 = A18 0 0 23 := hE_n25 0 0 23 rfl
                  have k24_n25 : A23 0 0 24 = A18 0 0 24 := hE_n25 0 0 24 rfl
                  have k25_n25 : A23 0 0 25 = A18 0 0 25 := hE_n25 0 0 25 rfl
                  have k26_n25 : A23 0 0 26 = A18 0 0 26 := hE_n25 0 0 26 rfl
                  have k27_n25 : A23 0 0 27 = A18 0 0 27 := hE_n25 0 0 27 rfl
                  have k28_n25 : A23 0 0 28 = A18 0 0 28 := hE_n25 0 0 28 rfl
                  have k29_n25 : A23 0 0 29 = A18 0 0 29 := hE_n25 0 0 29 rfl
                  have g_n25 : A23 0 0 31 = 0 := (hE_n25 0 0 31 rfl).trans g_n20
                  have hG_n25 : nG p0.toNat A23 := raw_hG_n25
                  have hK_n25 : nK p0.toNat A18 A23 := raw_hK_n25
                  have pt_n25 : pT A23 := pT_eq (A := A18) pt_n20 (hE_n25 0 0 31 rfl) (hE_n25 0 0 25 rfl) (hE_n25 0 0 24 rfl) (hE_n25 0 0 23 rfl) (hE_n25 0 0 26 rfl)
                  refine m_blk 5 [(1, vi z26), (3, vi z21), (2, vi x12), (0, vr 0 0)] [] C f_q_term_45_2 rfl ?_
                  refine m_loc [(1, vi z26), (0, vr 0 0)] ⟨rfl, rfl, trivial⟩ ?_
                  exact ih A23 z26 hT_n25 hF_n25 (by show 0 ≤ z26 ∧ z26 ≤ 119; omega) (by show A23 0 0 24 ≤ A23 0 0 23 ∧ A23 0 0 23 ≤ A23 0 0 22; omega) pt_n25 (fun _ => ⟨g0, by show z26 < A23 0 0 30; omega, by show A 0 0 24 - A 0 0 30 ≤ A23 0 0 24 - A23 0 0 30; omega⟩) (by show A 0 0 24 ≤ A23 0 0 24 ∧ A 0 0 30 ≤ A23 0 0 30 ∧ A23 0 0 27 = A 0 0 27 ∧ A23 0 0 22 = A 0 0 22 ∧ A23 0 0 0 = p0 ∧ A23 0 0 29 = A 0 0 29 ∧ A23 0 0 28 = A 0 0 28; omega) hG_n25 (nK.trans (A2 := A18) (nK.trans (A2 := A14) (nK.nm (A2 := A2) iK hE_n16) hK_n20 (by show A 0 0 30 ≤ A14 0 0 30; omega)) hK_n25 (by show A 0 0 30 ≤ A18 0 0 30; omega)) (by have hm9 := hm; show (200 - A23 0 0 24) < _; omega)
                · refine m_blk 42 [(3, vi z21), (2, vi x12), (1, vi a), (0, vr 0 0)] [vi z21, vi a, vi 0, vi x12, vr 0 0] C f_q_term_36_6 rfl ?_
                  refine m_callV C Rm Y [vi x12, vi 0, vi a, vi z21] [] (q_node l D B H0 ad _ hT_n20 p0 x12 0 a z21 (by show A18 0 0 0 = p0 ∧ 0 ≤ p0 ∧ p0 ≤ 5; omega) (fun h9 => absurd ((g_n20 : A18 0 0 31 = 1).symm.trans h9) (by decide)) (by show (-1 ≤ x12 ∧ x12 ≤ 255) ∧ (-1 ≤ 0 ∧ 0 ≤ 255) ∧ (-1 ≤ a ∧ a ≤ 119) ∧ (-1 ≤ z21 ∧ z21 ≤ 119); omega) hG_n20 (fun h9 => absurd ((g_n20 : A18 0 0 31 = 1).symm.trans h9) (by decide))) cl_Mo_218 rfl (by decide) rfl rfl e_q_term_42 rfl rfl rfl ⟨by show _ ≤ (11 + 4 * d : Nat); omega, by show _ ≤ (430 + 200 * d : Nat); omega⟩ ?_
                  rintro v27 A28 ⟨z31, rfl, hT_n30, hE_n30, raw_hz_n30, raw_hw_n30, raw_hi_n30, raw_hm_n30, raw_hG_n30, raw_hK_n30⟩
                  have hF_n30 := hF_n20.trans (hE_n30.sub (nd_em _))
                  show JM g D ad w0 A28 45 [(3, vi z21), (2, vi x12), (1, vi a), (0, vr 0 0)] [vi z31]
                  have hz_n30 : 0 ≤ z31 ∧ z31 ≤ 119 := raw_hz_n30
                  clear raw_hz_n30
                  have ee_n30 := (raw_hw_n30 g_n20).symm
                  subst ee_n30
                  show JM g D ad w0 A18 45 [(3, vi z21), (2, vi x12), (1, vi a), (0, vr 0 0)] [vi z31]
                  refine m_blk 5 [(1, vi z31), (3, vi z21), (2, vi x12), (0, vr 0 0)] [] C f_q_term_45_2 rfl ?_
                  refine m_loc [(1, vi z31), (0, vr 0 0)] ⟨rfl, rfl, trivial⟩ ?_
                  exact ih A18 z31 hT_n20 hF_n20 (by show 0 ≤ z31 ∧ z31 ≤ 119; omega) (by show A18 0 0 24 ≤ A18 0 0 23 ∧ A18 0 0 23 ≤ A18 0 0 22; omega) pt_n20 (fun h9 => absurd ((g_n20 : A18 0 0 31 = 1).symm.trans h9) (by decide)) (by show A 0 0 24 ≤ A18 0 0 24 ∧ A 0 0 30 ≤ A18 0 0 30 ∧ A18 0 0 27 = A 0 0 27 ∧ A18 0 0 22 = A 0 0 22 ∧ A18 0 0 0 = p0 ∧ A18 0 0 29 = A 0 0 29 ∧ A18 0 0 28 = A 0 0 28; omega) hG_n20 (nK.trans (A2 := A14) (nK.nm (A2 := A2) iK hE_n16) hK_n20 (by show A 0 0 30 ≤ A14 0 0 30; omega)) (by have hm9 := hm; show (200 - A18 0 0 24) < _; omega)
              · refine m_blk 33 [(2, vi x12), (1, vi a), (0, vr 0 0)] [vr 0 0] C f_q_term_32_1 rfl ?_
                refine m_callV C Rm Y [] [] (hq9 l D B H0 ad _ hS hT_n16 p0 (by show A14 0 0 0 = p0 ∧ 0 ≤ p0 ∧ p0 ≤ 5; omega) (by show A14 0 0 24 ≤ A14 0 0 23 ∧ A14 0 0 23 ≤ A14 0 0 22; omega) pt_n16 (fun h9 => absurd ((g_n16 : A14 0 0 31 = 1).symm.trans h9) (by decide)) (nG.nm (A := A2) iG hE_n16) (by show A14 0 0 27 = 4 - (d : Int) ∧ (d : Int) ≤ 4; omega)) cl_Mo_225 rfl (by decide) rfl rfl e_q_term_33 rfl rfl rfl ⟨by show _ ≤ (11 + 4 * d : Nat); omega, by show _ ≤ (430 + 200 * d : Nat); omega⟩ ?_
                rintro v32 A33 ⟨z36, rfl, hT_n35, hE_n35, raw_hz_n35, raw_hb_n35, raw_hn_n35, raw_hw_n35, raw_hm_n35, raw_hG_n35, raw_hK_n35⟩
                have hF_n35 := hF_n16.trans (hE_n35.sub (fun _ _ _ h => h))
                show JM g D ad w0 A33 36 [(2, vi x12), (1, vi a), (0, vr 0 0)] [vi z36]
                have hz_n35 : 0 ≤ z36 ∧ z36 ≤ 119 := raw_hz_n35
                clear raw_hz_n35
                have hb_n35 : A33 0 0 24 ≤ A33 0 0 23 ∧ A33 0 0 23 ≤ A33 0 0 22 := raw_hb_n35
                clear raw_hb_n35
                have hm_n35 : A14 0 0 24 ≤ A33 0 0 24 ∧ A14 0 0 30 ≤ A33 0 0 30 ∧ A33 0 0 27 = A14 0 0 27 := raw_hm_n35
                clear raw_hm_n35
                have pt_n35 : pT A33 := raw_hn_n35
                have k0_n35 : A33 0 0 0 = A14 0 0 0 := hE_n35 0 0 0 rfl
                have k22_n35 : A33 0 0 22 = A14 0 0 22 := hE_n35 0 0 22 rfl
                have k28_n35 : A33 0 0 28 = A14 0 0 28 := hE_n35 0 0 28 rfl
                have k29_n35 : A33 0 0 29 = A14 0 0 29 := hE_n35 0 0 29 rfl
                have hG_n35 : nG p0.toNat A33 := raw_hG_n35
                have hK_n35 : nK p0.toNat A14 A33 := raw_hK_n35
                have g_n35 : A33 0 0 31 = 1 := wr_1 (hT_n35 0 0 31) (fun h9 => absurd ((g_n16 : A14 0 0 31 = 1).symm.trans (raw_hw_n35 h9).1) (by decide))
                refine m_blk 42 [(3, vi z36), (2, vi x12), (1, vi a), (0, vr 0 0)] [vi z36, vi a, vi 0, vi x12, vr 0 0] C f_q_term_36_6 rfl ?_
                refine m_callV C Rm Y [vi x12, vi 0, vi a, vi z36] [] (q_node l D B H0 ad _ hT_n35 p0 x12 0 a z36 (by show A33 0 0 0 = p0 ∧ 0 ≤ p0 ∧ p0 ≤ 5; omega) (fun h9 => absurd ((g_n35 : A33 0 0 31 = 1).symm.trans h9) (by decide)) (by show (-1 ≤ x12 ∧ x12 ≤ 255) ∧ (-1 ≤ 0 ∧ 0 ≤ 255) ∧ (-1 ≤ a ∧ a ≤ 119) ∧ (-1 ≤ z36 ∧ z36 ≤ 119); omega) hG_n35 (fun h9 => absurd ((g_n35 : A33 0 0 31 = 1).symm.trans h9) (by decide))) cl_Mo_218 rfl (by decide) rfl rfl e_q_term_42 rfl rfl rfl ⟨by show _ ≤ (11 + 4 * d : Nat); omega, by show _ ≤ (430 + 200 * d : Nat); omega⟩ ?_
                rintro v37 A38 ⟨z41, rfl, hT_n40, hE_n40, raw_hz_n40, raw_hw_n40, raw_hi_n40, raw_hm_n40, raw_hG_n40, raw_hK_n40⟩
                have hF_n40 := hF_n35.trans (hE_n40.sub (nd_em _))
                show JM g D ad w0 A38 45 [(3, vi z36), (2, vi x12), (1, vi a), (0, vr 0 0)] [vi z41]
                have hz_n40 : 0 ≤ z41 ∧ z41 ≤ 119 := raw_hz_n40
                clear raw_hz_n40
                have ee_n40 := (raw_hw_n40 g_n35).symm
                subst ee_n40
                show JM g D ad w0 A33 45 [(3, vi z36), (2, vi x12), (1, vi a), (0, vr 0 0)] [vi z41]
                refine m_blk 5 [(1, vi z41), (3, vi z36), (2, vi x12), (0, vr 0 0)] [] C f_q_term_45_2 rfl ?_
                refine m_loc [(1, vi z41), (0, vr 0 0)] ⟨rfl, rfl, trivial⟩ ?_
                exact ih A33 z41 hT_n35 hF_n35 (by show 0 ≤ z41 ∧ z41 ≤ 119; omega) (by show A33 0 0 24 ≤ A33 0 0 23 ∧ A33 0 0 23 ≤ A33 0 0 22; omega) pt_n35 (fun h9 => absurd ((g_n35 : A33 0 0 31 = 1).symm.trans h9) (by decide)) (by show A 0 0 24 ≤ A33 0 0 24 ∧ A 0 0 30 ≤ A33 0 0 30 ∧ A33 0 0 27 = A 0 0 27 ∧ A33 0 0 22 = A 0 0 22 ∧ A33 0 0 0 = p0 ∧ A33 0 0 29 = A 0 0 29 ∧ A33 0 0 28 = A 0 0 28; omega) hG_n35 (nK.trans (A2 := A14) (nK.nm (A2 := A2) iK hE_n16) hK_n35 (by show A 0 0 30 ≤ A14 0 0 30; omega)) (by have hm9 := hm; show (200 - A33 0 0 24) < _; omega)
            · subst e_n9
              clear hz_n9
              refine m_if_ne (tgt := 23) C e_q_term_11 (by decide) (by decide) (fun c42 => (by omega : False).elim) (fun c42 => ?_)
              refine m_blk 17 [(1, vi a), (0, vr 0 0)] [vi 37, vr 0 0] C f_q_term_14_2 rfl ?_
              refine m_callV C Rm Y [vi 37] [] (q_isSign l D B H0 ad _ hT2 37 (by show -2147483648 ≤ 37 ∧ 37 ≤ 2147483647; omega)) cl_Mo_173 rfl (by decide) rfl rfl e_q_term_17 rfl rfl rfl ⟨by show _ ≤ (11 + 4 * d : Nat); omega, by show _ ≤ (430 + 200 * d : Nat); omega⟩ ?_
              rintro v43 A44 ⟨z47, rfl, rfl, raw_hz_n46⟩
              show JM g D ad w0 A2 20 [(1, vi a), (0, vr 0 0)] [vi z47]
              have hz_n46 : z47 = 1 ∧ A2 0 0 31 = 0 ∧ A2 0 0 25 = 4 ∧ A2 0 0 26 = 37 ∨ z47 = 0 ∧ ¬ (A2 0 0 31 = 0 ∧ A2 0 0 25 = 4 ∧ A2 0 0 26 = 37) := raw_hz_n46
              clear raw_hz_n46
              rcases hz_n46 with ⟨e_n46, hz_n46⟩ | ⟨e_n46, hz_n46⟩
              · subst e_n46
                have bt_n46 : A2 0 0 24 < A2 0 0 23 := pT_lt (A := A2) iT hz_n46.1 (by show ¬ A2 0 0 25 = 0; omega)
                refine m_if_eq (tgt := 49) C e_q_term_20 (by decide) (by decide) (fun c48 => (by omega : False).elim) (fun c48 => ?_)
                refine m_blk 24 [(1, vi a), (0, vr 0 0)] [vr 0 0] C f_q_term_23_1 rfl ?_
                obtain ⟨x49, hx49⟩ : ∃ x, A2 0 0 26 = x := ⟨_, rfl⟩
                have rx49 : (-1) ≤ x49 ∧ x49 ≤ 255 := mrg hT2 hx49 rfl
                refine m_geti C e_q_term_24 fg_Mo_165 rfl (by decide) rfl x49 hx49 ?_
                refine m_blk 29 [(2, vi x49), (1, vi a), (0, vr 0 0)] [vr 0 0] C f_q_term_27_2 rfl ?_
                refine m_callV C Rm Y [] [] (q_next l D B H0 ad _ hS hT2 (by show A2 0 0 23 ≤ A2 0 0 22; omega)) cl_Mo_176 rfl (by decide) rfl rfl e_q_term_29 rfl rfl rfl ⟨by show _ ≤ (11 + 4 * d : Nat); omega, by show _ ≤ (430 + 200 * d : Nat); omega⟩ ?_
                rintro v50 A51 ⟨rfl, hT_n53, hE_n53, raw_hw_n53, raw_hb_n53⟩
                have hF_n53 := hE2.trans (hE_n53.sub (nm_em _))
                show JM g D ad w0 A51 32 [(2, vi x49), (1, vi a), (0, vr 0 0)] []
                obtain ⟨b1_n53, b2_n53, b3_n53, pt_n53⟩ : A2 0 0 23 ≤ A51 0 0 24 ∧ A51 0 0 24 ≤ A51 0 0 23 ∧ A51 0 0 23 ≤ A51 0 0 22 ∧ pT A51 := raw_hb_n53 g2
                clear raw_hb_n53 raw_hw_n53
                have k0_n53 : A51 0 0 0 = A2 0 0 0 := hE_n53 0 0 0 rfl
                have k22_n53 : A51 0 0 22 = A2 0 0 22 := hE_n53 0 0 22 rfl
                have k27_n53 : A51 0 0 27 = A2 0 0 27 := hE_n53 0 0 27 rfl
                have k28_n53 : A51 0 0 28 = A2 0 0 28 := hE_n53 0 0 28 rfl
                have k29_n53 : A51 0 0 29 = A2 0 0 29 := hE_n53 0 0 29 rfl
                have k30_n53 : A51 0 0 30 = A2 0 0 30 := hE_n53 0 0 30 rfl
                rcases (show A51 0 0 31 = 0 ∨ A51 0 0 31 = 1 from by have w9 := hT_n53 0 0 31; have w8 : 0 ≤ A51 0 0 31 ∧ A51 0 0 31 ≤ 1 := w9; omega) with g_n53 | g_n53
                · refine m_blk 33 [(2, vi x49), (1, vi a), (0, vr 0 0)] [vr 0 0] C f_q_term_32_1 rfl ?_
                  refine m_callV C Rm Y [] [] (hq9 l D B H0 ad _ hS hT_n53 p0 (by show A51 0 0 0 = p0 ∧ 0 ≤ p0 ∧ p0 ≤ 5; omega) (by show A51 0 0 24 ≤ A51 0 0 23 ∧ A51 0 0 23 ≤ A51 0 0 22; omega) pt_n53 (fun _ => by show A51 0 0 30 + 3 * A51 0 0 29 ≤ A51 0 0 24; omega) (nG.nm (A := A2) iG hE_n53) (by show A51 0 0 27 = 4 - (d : Int) ∧ (d : Int) ≤ 4; omega)) cl_Mo_225 rfl (by decide) rfl rfl e_q_term_33 rfl rfl rfl ⟨by show _ ≤ (11 + 4 * d : Nat); omega, by show _ ≤ (430 + 200 * d : Nat); omega⟩ ?_
                  rintro v54 A55 ⟨z58, rfl, hT_n57, hE_n57, raw_hz_n57, raw_hb_n57, raw_hn_n57, raw_hw_n57, raw_hm_n57, raw_hG_n57, raw_hK_n57⟩
                  have hF_n57 := hF_n53.trans (hE_n57.sub (fun _ _ _ h => h))
                  show JM g D ad w0 A55 36 [(2, vi x49), (1, vi a), (0, vr 0 0)] [vi z58]
                  have hz_n57 : 0 ≤ z58 ∧ z58 ≤ 119 := raw_hz_n57
                  clear raw_hz_n57
                  have hb_n57 : A55 0 0 24 ≤ A55 0 0 23 ∧ A55 0 0 23 ≤ A55 0 0 22 := raw_hb_n57
                  clear raw_hb_n57
                  have hm_n57 : A51 0 0 24 ≤ A55 0 0 24 ∧ A51 0 0 30 ≤ A55 0 0 30 ∧ A55 0 0 27 = A51 0 0 27 := raw_hm_n57
                  clear raw_hm_n57
                  have pt_n57 : pT A55 := raw_hn_n57
                  have k0_n57 : A55 0 0 0 = A51 0 0 0 := hE_n57 0 0 0 rfl
                  have k22_n57 : A55 0 0 22 = A51 0 0 22 := hE_n57 0 0 22 rfl
                  have k28_n57 : A55 0 0 28 = A51 0 0 28 := hE_n57 0 0 28 rfl
                  have k29_n57 : A55 0 0 29 = A51 0 0 29 := hE_n57 0 0 29 rfl
                  have hG_n57 : nG p0.toNat A55 := raw_hG_n57
                  have hK_n57 : nK p0.toNat A51 A55 := raw_hK_n57
                  rcases (show A55 0 0 31 = 0 ∨ A55 0 0 31 = 1 from by have w9 := hT_n57 0 0 31; have w8 : 0 ≤ A55 0 0 31 ∧ A55 0 0 31 ≤ 1 := w9; omega) with g_n57 | g_n57
                  · have u_n57 : z58 < A55 0 0 30 ∧ A51 0 0 24 - A51 0 0 30 ≤ A55 0 0 24 - A55 0 0 30 := (raw_hw_n57 g_n57).2
                    refine m_blk 42 [(3, vi z58), (2, vi x49), (1, vi a), (0, vr 0 0)] [vi z58, vi a, vi 0, vi x49, vr 0 0] C f_q_term_36_6 rfl ?_
                    refine m_callV C Rm Y [vi x49, vi 0, vi a, vi z58] [] (q_node l D B H0 ad _ hT_n57 p0 x49 0 a z58 (by show A55 0 0 0 = p0 ∧ 0 ≤ p0 ∧ p0 ≤ 5; omega) (fun _ => by show A55 0 0 30 ≤ 119; omega) (by show (-1 ≤ x49 ∧ x49 ≤ 255) ∧ (-1 ≤ 0 ∧ 0 ≤ 255) ∧ (-1 ≤ a ∧ a ≤ 119) ∧ (-1 ≤ z58 ∧ z58 ≤ 119); omega) hG_n57 (fun _ => by show a < A55 0 0 30 ∧ z58 < A55 0 0 30 ∧ (x49 ≠ 0 → x49 ≠ 1 → 0 ≤ a) ∧ (x49 ≠ 0 → x49 ≠ 1 → x49 ≠ 2 → 0 ≤ z58); omega)) cl_Mo_218 rfl (by decide) rfl rfl e_q_term_42 rfl rfl rfl ⟨by show _ ≤ (11 + 4 * d : Nat); omega, by show _ ≤ (430 + 200 * d : Nat); omega⟩ ?_
                    rintro v59 A60 ⟨z63, rfl, hT_n62, hE_n62, raw_hz_n62, raw_hw_n62, raw_hi_n62, raw_hm_n62, raw_hG_n62, raw_hK_n62⟩
                    have hF_n62 := hF_n57.trans (hE_n62.sub (nd_em _))
                    show JM g D ad w0 A60 45 [(3, vi z58), (2, vi x49), (1, vi a), (0, vr 0 0)] [vi z63]
                    have hz_n62 : 0 ≤ z63 ∧ z63 ≤ 119 := raw_hz_n62
                    clear raw_hz_n62
                    obtain ⟨b1_n62, b2_n62⟩ : A60 0 0 30 = A55 0 0 30 + 1 ∧ z63 = A55 0 0 30 := raw_hi_n62 g_n57
                    clear raw_hi_n62 raw_hw_n62
                    have k0_n62 : A60 0 0 0 = A55 0 0 0 := hE_n62 0 0 0 rfl
                    have k22_n62 : A60 0 0 22 = A55 0 0 22 := hE_n62 0 0 22 rfl
                    have k23_n62 : A60 0 0 23 = A55 0 0 23 := hE_n62 0 0 23 rfl
                    have k24_n62 : A60 0 0 24 = A55 0 0 24 := hE_n62 0 0 24 rfl
                    have k25_n62 : A60 0 0 25 = A55 0 0 25 := hE_n62 0 0 25 rfl
                    have k26_n62 : A60 0 0 26 = A55 0 0 26 := hE_n62 0 0 26 rfl
                    have k27_n62 : A60 0 0 27 = A55 0 0 27 := hE_n62 0 0 27 rfl
                    have k28_n62 : A60 0 0 28 = A55 0 0 28 := hE_n62 0 0 28 rfl
                    have k29_n62 : A60 0 0 29 = A55 0 0 29 := hE_n62 0 0 29 rfl
                    have g_n62 : A60 0 0 31 = 0 := (hE_n62 0 0 31 rfl).trans g_n57
                    have hG_n62 : nG p0.toNat A60 := raw_hG_n62
                    have hK_n62 : nK p0.toNat A55 A60 := raw_hK_n62
                    have pt_n62 : pT A60 := pT_eq (A := A55) pt_n57 (hE_n62 0 0 31 rfl) (hE_n62 0 0 25 rfl) (hE_n62 0 0 24 rfl) (hE_n62 0 0 23 rfl) (hE_n62 0 0 26 rfl)
                    refine m_blk 5 [(1, vi z63), (3, vi z58), (2, vi x49), (0, vr 0 0)] [] C f_q_term_45_2 rfl ?_
                    refine m_loc [(1, vi z63), (0, vr 0 0)] ⟨rfl, rfl, trivial⟩ ?_
                    exact ih A60 z63 hT_n62 hF_n62 (by show 0 ≤ z63 ∧ z63 ≤ 119; omega) (by show A60 0 0 24 ≤ A60 0 0 23 ∧ A60 0 0 23 ≤ A60 0 0 22; omega) pt_n62 (fun _ => ⟨g0, by show z63 < A60 0 0 30; omega, by show A 0 0 24 - A 0 0 30 ≤ A60 0 0 24 - A60 0 0 30; omega⟩) (by show A 0 0 24 ≤ A60 0 0 24 ∧ A 0 0 30 ≤ A60 0 0 30 ∧ A60 0 0 27 = A 0 0 27 ∧ A60 0 0 22 = A 0 0 22 ∧ A60 0 0 0 = p0 ∧ A60 0 0 29 = A 0 0 29 ∧ A60 0 0 28 = A 0 0 28; omega) hG_n62 (nK.trans (A2 := A55) (nK.trans (A2 := A51) (nK.nm (A2 := A2) iK hE_n53) hK_n57 (by show A 0 0 30 ≤ A51 0 0 30; omega)) hK_n62 (by show A 0 0 30 ≤ A55 0 0 30; omega)) (by have hm9 := hm; show (200 - A60 0 0 24) < _; omega)
                  · refine m_blk 42 [(3, vi z58), (2, vi x49), (1, vi a), (0, vr 0 0)] [vi z58, vi a, vi 0, vi x49, vr 0 0] C f_q_term_36_6 rfl ?_
                    refine m_callV C Rm Y [vi x49, vi 0, vi a, vi z58] [] (q_node l D B H0 ad _ hT_n57 p0 x49 0 a z58 (by show A55 0 0 0 = p0 ∧ 0 ≤ p0 ∧ p0 ≤ 5; omega) (fun h9 => absurd ((g_n57 : A55 0 0 31 = 1).symm.trans h9) (by decide)) (by show (-1 ≤ x49 ∧ x49 ≤ 255) ∧ (-1 ≤ 0 ∧ 0 ≤ 255) ∧ (-1 ≤ a ∧ a ≤ 119) ∧ (-1 ≤ z58 ∧ z58 ≤ 119); omega) hG_n57 (fun h9 => absurd ((g_n57 : A55 0 0 31 = 1).symm.trans h9) (by decide))) cl_Mo_218 rfl (by decide) rfl rfl e_q_term_42 rfl rfl rfl ⟨by show _ ≤ (11 + 4 * d : Nat); omega, by show _ ≤ (430 + 200 * d : Nat); omega⟩ ?_
                    rintro v64 A65 ⟨z68, rfl, hT_n67, hE_n67, raw_hz_n67, raw_hw_n67, raw_hi_n67, raw_hm_n67, raw_hG_n67, raw_hK_n67⟩
                    have hF_n67 := hF_n57.trans (hE_n67.sub (nd_em _))
                    show JM g D ad w0 A65 45 [(3, vi z58), (2, vi x49), (1, vi a), (0, vr 0 0)] [vi z68]
                    have hz_n67 : 0 ≤ z68 ∧ z68 ≤ 119 := raw_hz_n67
                    clear raw_hz_n67
                    have ee_n67 := (raw_hw_n67 g_n57).symm
                    subst ee_n67
                    show JM g D ad w0 A55 45 [(3, vi z58), (2, vi x49), (1, vi a), (0, vr 0 0)] [vi z68]
                    refine m_blk 5 [(1, vi z68), (3, vi z58), (2, vi x49), (0, vr 0 0)] [] C f_q_term_45_2 rfl ?_
                    refine m_loc [(1, vi z68), (0, vr 0 0)] ⟨rfl, rfl, trivial⟩ ?_
                    exact ih A55 z68 hT_n57 hF_n57 (by show 0 ≤ z68 ∧ z68 ≤ 119; omega) (by show A55 0 0 24 ≤ A55 0 0 23 ∧ A55 0 0 23 ≤ A55 0 0 22; omega) pt_n57 (fun h9 => absurd ((g_n57 : A55 0 0 31 = 1).symm.trans h9) (by decide)) (by show A 0 0 24 ≤ A55 0 0 24 ∧ A 0 0 30 ≤ A55 0 0 30 ∧ A55 0 0 27 = A 0 0 27 ∧ A55 0 0 22 = A 0 0 22 ∧ A55 0 0 0 = p0 ∧ A55 0 0 29 = A 0 0 29 ∧ A55 0 0 28 = A 0 0 28; omega) hG_n57 (nK.trans (A2 := A51) (nK.nm (A2 := A2) iK hE_n53) hK_n57 (by show A 0 0 30 ≤ A51 0 0 30; omega)) (by have hm9 := hm; show (200 - A55 0 0 24) < _; omega)
                · refine m_blk 33 [(2, vi x49), (1, vi a), (0, vr 0 0)] [vr 0 0] C f_q_term_32_1 rfl ?_
                  refine m_callV C Rm Y [] [] (hq9 l D B H0 ad _ hS hT_n53 p0 (by show A51 0 0 0 = p0 ∧ 0 ≤ p0 ∧ p0 ≤ 5; omega) (by show A51 0 0 24 ≤ A51 0 0 23 ∧ A51 0 0 23 ≤ A51 0 0 22; omega) pt_n53 (fun h9 => absurd ((g_n53 : A51 0 0 31 = 1).symm.trans h9) (by decide)) (nG.nm (A := A2) iG hE_n53) (by show A51 0 0 27 = 4 - (d : Int) ∧ (d : Int) ≤ 4; omega)) cl_Mo_225 rfl (by decide) rfl rfl e_q_term_33 rfl rfl rfl ⟨by show _ ≤ (11 + 4 * d : Nat); omega, by show _ ≤ (430 + 200 * d : Nat); omega⟩ ?_
                  rintro v69 A70 ⟨z73, rfl, hT_n72, hE_n72, raw_hz_n72, raw_hb_n72, raw_hn_n72, raw_hw_n72, raw_hm_n72, raw_hG_n72, raw_hK_n72⟩
                  have hF_n72 := hF_n53.trans (hE_n72.sub (fun _ _ _ h => h))
                  show JM g D ad w0 A70 36 [(2, vi x49), (1, vi a), (0, vr 0 0)] [vi z73]
                  have hz_n72 : 0 ≤ z73 ∧ z73 ≤ 119 := raw_hz_n72
                  clear raw_hz_n72
                  have hb_n72 : A70 0 0 24 ≤ A70 0 0 23 ∧ A70 0 0 23 ≤ A70 0 0 22 := raw_hb_n72
                  clear raw_hb_n72
                  have hm_n72 : A51 0 0 24 ≤ A70 0 0 24 ∧ A51 0 0 30 ≤ A70 0 0 30 ∧ A70 0 0 27 = A51 0 0 27 := raw_hm_n72
                  clear raw_hm_n72
                  have pt_n72 : pT A70 := raw_hn_n72
                  have k0_n72 : A70 0 0 0 = A51 0 0 0 := hE_n72 0 0 0 rfl
                  have k22_n72 : A70 0 0 22 = A51 0 0 22 := hE_n72 0 0 22 rfl
                  have k28_n72 : A70 0 0 28 = A51 0 0 28 := hE_n72 0 0 28 rfl
                  have k29_n72 : A70 0 0 29 = A51 0 0 29 := hE_n72 0 0 29 rfl
                  have hG_n72 : nG p0.toNat A70 := raw_hG_n72
                  have hK_n72 : nK p0.toNat A51 A70 := raw_hK_n72
                  have g_n72 : A70 0 0 31 = 1 := wr_1 (hT_n72 0 0 31) (fun h9 => absurd ((g_n53 : A51 0 0 31 = 1).symm.trans (raw_hw_n72 h9).1) (by decide))
                  refine m_blk 42 [(3, vi z73), (2, vi x49), (1, vi a), (0, vr 0 0)] [vi z73, vi a, vi 0, vi x49, vr 0 0] C f_q_term_36_6 rfl ?_
                  refine m_callV C Rm Y [vi x49, vi 0, vi a, vi z73] [] (q_node l D B H0 ad _ hT_n72 p0 x49 0 a z73 (by show A70 0 0 0 = p0 ∧ 0 ≤ p0 ∧ p0 ≤ 5; omega) (fun h9 => absurd ((g_n72 : A70 0 0 31 = 1).symm.trans h9) (by decide)) (by show (-1 ≤ x49 ∧ x49 ≤ 255) ∧ (-1 ≤ 0 ∧ 0 ≤ 255) ∧ (-1 ≤ a ∧ a ≤ 119) ∧ (-1 ≤ z73 ∧ z73 ≤ 119); omega) hG_n72 (fun h9 => absurd ((g_n72 : A70 0 0 31 = 1).symm.trans h9) (by decide))) cl_Mo_218 rfl (by decide) rfl rfl e_q_term_42 rfl rfl rfl ⟨by show _ ≤ (11 + 4 * d : Nat); omega, by show _ ≤ (430 + 200 * d : Nat); omega⟩ ?_
                  rintro v74 A75 ⟨z78, rfl, hT_n77, hE_n77, raw_hz_n77, raw_hw_n77, raw_hi_n77, raw_hm_n77, raw_hG_n77, raw_hK_n77⟩
                  have hF_n77 := hF_n72.trans (hE_n77.sub (nd_em _))
                  show JM g D ad w0 A75 45 [(3, vi z73), (2, vi x49), (1, vi a), (0, vr 0 0)] [vi z78]
                  have hz_n77 : 0 ≤ z78 ∧ z78 ≤ 119 := raw_hz_n77
                  clear raw_hz_n77
                  have ee_n77 := (raw_hw_n77 g_n72).symm
                  subst ee_n77
                  show JM g D ad w0 A70 45 [(3, vi z73), (2, vi x49), (1, vi a), (0, vr 0 0)] [vi z78]
                  refine m_blk 5 [(1, vi z78), (3, vi z73), (2, vi x49), (0, vr 0 0)] [] C f_q_term_45_2 rfl ?_
                  refine m_loc [(1, vi z78), (0, vr 0 0)] ⟨rfl, rfl, trivial⟩ ?_
                  exact ih A70 z78 hT_n72 hF_n72 (by show 0 ≤ z78 ∧ z78 ≤ 119; omega) (by show A70 0 0 24 ≤ A70 0 0 23 ∧ A70 0 0 23 ≤ A70 0 0 22; omega) pt_n72 (fun h9 => absurd ((g_n72 : A70 0 0 31 = 1).symm.trans h9) (by decide)) (by show A 0 0 24 ≤ A70 0 0 24 ∧ A 0 0 30 ≤ A70 0 0 30 ∧ A70 0 0 27 = A 0 0 27 ∧ A70 0 0 22 = A 0 0 22 ∧ A70 0 0 0 = p0 ∧ A70 0 0 29 = A 0 0 29 ∧ A70 0 0 28 = A 0 0 28; omega) hG_n72 (nK.trans (A2 := A51) (nK.nm (A2 := A2) iK hE_n53) hK_n72 (by show A 0 0 30 ≤ A51 0 0 30; omega)) (by have hm9 := hm; show (200 - A70 0 0 24) < _; omega)
              · subst e_n46
                clear hz_n46
                refine m_if_eq (tgt := 49) C e_q_term_20 (by decide) (by decide) (fun c79 => ?_) (fun c79 => (by omega : False).elim)
                refine m_blk 50 [(1, vi a), (0, vr 0 0)] [vi a] C f_q_term_49_1 rfl ?_
                exact m_iret C Rm E e_q_term_50 ⟨a, rfl, hT2, hE2, (by show 0 ≤ a ∧ a ≤ 119; omega), (by show A2 0 0 24 ≤ A2 0 0 23 ∧ A2 0 0 23 ≤ A2 0 0 22; omega), iT, (fun _ => ⟨g0, (by show a < A2 0 0 30; omega), (by show A 0 0 24 - A 0 0 30 ≤ A2 0 0 24 - A2 0 0 30; omega)⟩), (by show A 0 0 24 ≤ A2 0 0 24 ∧ A 0 0 30 ≤ A2 0 0 30 ∧ A2 0 0 27 = A 0 0 27; omega), iG, iK⟩
          · refine m_blk 8 [(1, vi a), (0, vr 0 0)] [vi 42, vr 0 0] C f_q_term_5_2 rfl ?_
            refine m_callV C Rm Y [vi 42] [] (q_isSign l D B H0 ad _ hT2 42 (by show -2147483648 ≤ 42 ∧ 42 ≤ 2147483647; omega)) cl_Mo_173 rfl (by decide) rfl rfl e_q_term_8 rfl rfl rfl ⟨by show _ ≤ (11 + 4 * d : Nat); omega, by show _ ≤ (430 + 200 * d : Nat); omega⟩ ?_
            rintro v80 A81 ⟨z84, rfl, rfl, raw_hz_n83⟩
            show JM g D ad w0 A2 11 [(1, vi a), (0, vr 0 0)] [vi z84]
            have hz_n83 : z84 = 1 ∧ A2 0 0 31 = 0 ∧ A2 0 0 25 = 4 ∧ A2 0 0 26 = 42 ∨ z84 = 0 ∧ ¬ (A2 0 0 31 = 0 ∧ A2 0 0 25 = 4 ∧ A2 0 0 26 = 42) := raw_hz_n83
            clear raw_hz_n83
            rcases hz_n83 with ⟨e_n83, hz_n83⟩ | ⟨e_n83, hz_n83⟩
            · subst e_n83
              exact (by omega : False).elim
            · subst e_n83
              clear hz_n83
              refine m_if_ne (tgt := 23) C e_q_term_11 (by decide) (by decide) (fun c85 => (by omega : False).elim) (fun c85 => ?_)
              refine m_blk 17 [(1, vi a), (0, vr 0 0)] [vi 37, vr 0 0] C f_q_term_14_2 rfl ?_
              refine m_callV C Rm Y [vi 37] [] (q_isSign l D B H0 ad _ hT2 37 (by show -2147483648 ≤ 37 ∧ 37 ≤ 2147483647; omega)) cl_Mo_173 rfl (by decide) rfl rfl e_q_term_17 rfl rfl rfl ⟨by show _ ≤ (11 + 4 * d : Nat); omega, by show _ ≤ (430 + 200 * d : Nat); omega⟩ ?_
              rintro v86 A87 ⟨z90, rfl, rfl, raw_hz_n89⟩
              show JM g D ad w0 A2 20 [(1, vi a), (0, vr 0 0)] [vi z90]
              have hz_n89 : z90 = 1 ∧ A2 0 0 31 = 0 ∧ A2 0 0 25 = 4 ∧ A2 0 0 26 = 37 ∨ z90 = 0 ∧ ¬ (A2 0 0 31 = 0 ∧ A2 0 0 25 = 4 ∧ A2 0 0 26 = 37) := raw_hz_n89
              clear raw_hz_n89
              rcases hz_n89 with ⟨e_n89, hz_n89⟩ | ⟨e_n89, hz_n89⟩
              · subst e_n89
                exact (by omega : False).elim
              · subst e_n89
                clear hz_n89
                refine m_if_eq (tgt := 49) C e_q_term_20 (by decide) (by decide) (fun c91 => ?_) (fun c91 => (by omega : False).elim)
                refine m_blk 50 [(1, vi a), (0, vr 0 0)] [vi a] C f_q_term_49_1 rfl ?_
                exact m_iret C Rm E e_q_term_50 ⟨a, rfl, hT2, hE2, (by show 0 ≤ a ∧ a ≤ 119; omega), (by show A2 0 0 24 ≤ A2 0 0 23 ∧ A2 0 0 23 ≤ A2 0 0 22; omega), iT, (fun h9 => absurd ((g2 : A2 0 0 31 = 1).symm.trans h9) (by decide)), (by show A 0 0 24 ≤ A2 0 0 24 ∧ A 0 0 30 ≤ A2 0 0 30 ∧ A2 0 0 27 = A 0 0 27; omega), iG, iK⟩
      refine m_loc [(1, vi z5), (0, vr 0 0)] ⟨rfl, rfl, trivial⟩ ?_
      exact hd_5 (Int.toNat ((200 - A2 0 0 24)) + 1) A2 z5 hT_n4 hF_n4 (by show 0 ≤ z5 ∧ z5 ≤ 119; omega) (by show A2 0 0 24 ≤ A2 0 0 23 ∧ A2 0 0 23 ≤ A2 0 0 22; omega) pt_n4 (fun _ => ⟨g0, by show z5 < A2 0 0 30; omega, by show A 0 0 24 - A 0 0 30 ≤ A2 0 0 24 - A2 0 0 30; omega⟩) (by show A 0 0 24 ≤ A2 0 0 24 ∧ A 0 0 30 ≤ A2 0 0 30 ∧ A2 0 0 27 = A 0 0 27 ∧ A2 0 0 22 = A 0 0 22 ∧ A2 0 0 0 = p0 ∧ A2 0 0 29 = A 0 0 29 ∧ A2 0 0 28 = A 0 0 28; omega) hG_n4 (nK.trans (A2 := A) nK.rfl' hK_n4 (by show A 0 0 30 ≤ A 0 0 30; omega)) (by show (200 - A2 0 0 24) < _; omega)
    · refine m_blk 5 [(1, vi z5), (0, vr 0 0)] [] C f_q_term_4_1 rfl ?_
      have hd_5 : ∀ (N : Nat) (A2 : mA) (a : Int), mTy A2 → mEq (em p0.toNat) A A2 → 0 ≤ a ∧ a ≤ 119 → A2 0 0 24 ≤ A2 0 0 23 ∧ A2 0 0 23 ≤ A2 0 0 22 → pT A2 → pW A A2 a → A 0 0 24 ≤ A2 0 0 24 ∧ A 0 0 30 ≤ A2 0 0 30 ∧ A2 0 0 27 = A 0 0 27 ∧ A2 0 0 22 = A 0 0 22 ∧ A2 0 0 0 = p0 ∧ A2 0 0 29 = A 0 0 29 ∧ A2 0 0 28 = A 0 0 28 → nG p0.toNat A2 → nK p0.toNat A A2 → (200 - A2 0 0 24) < (N : Int) → JM g D ad w0 A2 5 [(1, vi a), (0, vr 0 0)] [] := by
        intro N
        induction N with
        | zero => intro A2 a hT2 hE2 ia ib iT iw im iG iK hm; exact absurd hm (by omega)
        | succ N ih =>
          intro A2 a hT2 hE2 ia ib iT iw im iG iK hm
          rcases (show A2 0 0 31 = 0 ∨ A2 0 0 31 = 1 from by have w8 : 0 ≤ A2 0 0 31 ∧ A2 0 0 31 ≤ 1 := hT2 0 0 31; omega) with g2 | g2
          · have u2 : a < A2 0 0 30 ∧ A 0 0 24 - A 0 0 30 ≤ A2 0 0 24 - A2 0 0 30 := (iw g2).2
            have g0 : A 0 0 31 = 0 := (iw g2).1
            have hl0 := hl g0
            refine m_blk 8 [(1, vi a), (0, vr 0 0)] [vi 42, vr 0 0] C f_q_term_5_2 rfl ?_
            refine m_callV C Rm Y [vi 42] [] (q_isSign l D B H0 ad _ hT2 42 (by show -2147483648 ≤ 42 ∧ 42 ≤ 2147483647; omega)) cl_Mo_173 rfl (by decide) rfl rfl e_q_term_8 rfl rfl rfl ⟨by show _ ≤ (11 + 4 * d : Nat); omega, by show _ ≤ (430 + 200 * d : Nat); omega⟩ ?_
            rintro v92 A93 ⟨z96, rfl, rfl, raw_hz_n95⟩
            show JM g D ad w0 A2 11 [(1, vi a), (0, vr 0 0)] [vi z96]
            have hz_n95 : z96 = 1 ∧ A2 0 0 31 = 0 ∧ A2 0 0 25 = 4 ∧ A2 0 0 26 = 42 ∨ z96 = 0 ∧ ¬ (A2 0 0 31 = 0 ∧ A2 0 0 25 = 4 ∧ A2 0 0 26 = 42) := raw_hz_n95
            clear raw_hz_n95
            rcases hz_n95 with ⟨e_n95, hz_n95⟩ | ⟨e_n95, hz_n95⟩
            · subst e_n95
              have bt_n95 : A2 0 0 24 < A2 0 0 23 := pT_lt (A := A2) iT hz_n95.1 (by show ¬ A2 0 0 25 = 0; omega)
              refine m_if_ne (tgt := 23) C e_q_term_11 (by decide) (by decide) (fun c97 => ?_) (fun c97 => (by omega : False).elim)
              refine m_blk 24 [(1, vi a), (0, vr 0 0)] [vr 0 0] C f_q_term_23_1 rfl ?_
              obtain ⟨x98, hx98⟩ : ∃ x, A2 0 0 26 = x := ⟨_, rfl⟩
              have rx98 : (-1) ≤ x98 ∧ x98 ≤ 255 := mrg hT2 hx98 rfl
              refine m_geti C e_q_term_24 fg_Mo_165 rfl (by decide) rfl x98 hx98 ?_
              refine m_blk 29 [(2, vi x98), (1, vi a), (0, vr 0 0)] [vr 0 0] C f_q_term_27_2 rfl ?_
              refine m_callV C Rm Y [] [] (q_next l D B H0 ad _ hS hT2 (by show A2 0 0 23 ≤ A2 0 0 22; omega)) cl_Mo_176 rfl (by decide) rfl rfl e_q_term_29 rfl rfl rfl ⟨by show _ ≤ (11 + 4 * d : Nat); omega, by show _ ≤ (430 + 200 * d : Nat); omega⟩ ?_
              rintro v99 A100 ⟨rfl, hT_n102, hE_n102, raw_hw_n102, raw_hb_n102⟩
              have hF_n102 := hE2.trans (hE_n102.sub (nm_em _))
              show JM g D ad w0 A100 32 [(2, vi x98), (1, vi a), (0, vr 0 0)] []
              obtain ⟨b1_n102, b2_n102, b3_n102, pt_n102⟩ : A2 0 0 23 ≤ A100 0 0 24 ∧ A100 0 0 24 ≤ A100 0 0 23 ∧ A100 0 0 23 ≤ A100 0 0 22 ∧ pT A100 := raw_hb_n102 g2
              clear raw_hb_n102 raw_hw_n102
              have k0_n102 : A100 0 0 0 = A2 0 0 0 := hE_n102 0 0 0 rfl
              have k22_n102 : A100 0 0 22 = A2 0 0 22 := hE_n102 0 0 22 rfl
              have k27_n102 : A100 0 0 27 = A2 0 0 27 := hE_n102 0 0 27 rfl
              have k28_n102 : A100 0 0 28 = A2 0 0 28 := hE_n102 0 0 28 rfl
              have k29_n102 : A100 0 0 29 = A2 0 0 29 := hE_n102 0 0 29 rfl
              have k30_n102 : A100 0 0 30 = A2 0 0 30 := hE_n102 0 0 30 rfl
              rcases (show A100 0 0 31 = 0 ∨ A100 0 0 31 = 1 from by have w9 := hT_n102 0 0 31; have w8 : 0 ≤ A100 0 0 31 ∧ A100 0 0 31 ≤ 1 := w9; omega) with g_n102 | g_n102
              · refine m_blk 33 [(2, vi x98), (1, vi a), (0, vr 0 0)] [vr 0 0] C f_q_term_32_1 rfl ?_
                refine m_callV C Rm Y [] [] (hq9 l D B H0 ad _ hS hT_n102 p0 (by show A100 0 0 0 = p0 ∧ 0 ≤ p0 ∧ p0 ≤ 5; omega) (by show A100 0 0 24 ≤ A100 0 0 23 ∧ A100 0 0 23 ≤ A100 0 0 22; omega) pt_n102 (fun _ => by show A100 0 0 30 + 3 * A100 0 0 29 ≤ A100 0 0 24; omega) (nG.nm (A := A2) iG hE_n102) (by show A100 0 0 27 = 4 - (d : Int) ∧ (d : Int) ≤ 4; omega)) cl_Mo_225 rfl (by decide) rfl rfl e_q_term_33 rfl rfl rfl ⟨by show _ ≤ (11 + 4 * d : Nat); omega, by show _ ≤ (430 + 200 * d : Nat); omega⟩ ?_
                rintro v103 A104 ⟨z107, rfl, hT_n106, hE_n106, raw_hz_n106, raw_hb_n106, raw_hn_n106, raw_hw_n106, raw_hm_n106, raw_hG_n106, raw_hK_n106⟩
                have hF_n106 := hF_n102.trans (hE_n106.sub (fun _ _ _ h => h))
                show JM g D ad w0 A104 36 [(2, vi x98), (1, vi a), (0, vr 0 0)] [vi z107]
                have hz_n106 : 0 ≤ z107 ∧ z107 ≤ 119 := raw_hz_n106
                clear raw_hz_n106
                have hb_n106 : A104 0 0 24 ≤ A104 0 0 23 ∧ A104 0 0 23 ≤ A104 0 0 22 := raw_hb_n106
                clear raw_hb_n106
                have hm_n106 : A100 0 0 24 ≤ A104 0 0 24 ∧ A100 0 0 30 ≤ A104 0 0 30 ∧ A104 0 0 27 = A100 0 0 27 := raw_hm_n106
                clear raw_hm_n106
                have pt_n106 : pT A104 := raw_hn_n106
                have k0_n106 : A104 0 0 0 = A100 0 0 0 := hE_n106 0 0 0 rfl
                have k22_n106 : A104 0 0 22 = A100 0 0 22 := hE_n106 0 0 22 rfl
                have k28_n106 : A104 0 0 28 = A100 0 0 28 := hE_n106 0 0 28 rfl
                have k29_n106 : A104 0 0 29 = A100 0 0 29 := hE_n106 0 0 29 rfl
                have hG_n106 : nG p0.toNat A104 := raw_hG_n106
                have hK_n106 : nK p0.toNat A100 A104 := raw_hK_n106
                rcases (show A104 0 0 31 = 0 ∨ A104 0 0 31 = 1 from by have w9 := hT_n106 0 0 31; have w8 : 0 ≤ A104 0 0 31 ∧ A104 0 0 31 ≤ 1 := w9; omega) with g_n106 | g_n106
                · have u_n106 : z107 < A104 0 0 30 ∧ A100 0 0 24 - A100 0 0 30 ≤ A104 0 0 24 - A104 0 0 30 := (raw_hw_n106 g_n106).2
                  refine m_blk 42 [(3, vi z107), (2, vi x98), (1, vi a), (0, vr 0 0)] [vi z107, vi a, vi 0, vi x98, vr 0 0] C f_q_term_36_6 rfl ?_
                  refine m_callV C Rm Y [vi x98, vi 0, vi a, vi z107] [] (q_node l D B H0 ad _ hT_n106 p0 x98 0 a z107 (by show A104 0 0 0 = p0 ∧ 0 ≤ p0 ∧ p0 ≤ 5; omega) (fun _ => by show A104 0 0 30 ≤ 119; omega) (by show (-1 ≤ x98 ∧ x98 ≤ 255) ∧ (-1 ≤ 0 ∧ 0 ≤ 255) ∧ (-1 ≤ a ∧ a ≤ 119) ∧ (-1 ≤ z107 ∧ z107 ≤ 119); omega) hG_n106 (fun _ => by show a < A104 0 0 30 ∧ z107 < A104 0 0 30 ∧ (x98 ≠ 0 → x98 ≠ 1 → 0 ≤ a) ∧ (x98 ≠ 0 → x98 ≠ 1 → x98 ≠ 2 → 0 ≤ z107); omega)) cl_Mo_218 rfl (by decide) rfl rfl e_q_term_42 rfl rfl rfl ⟨by show _ ≤ (11 + 4 * d : Nat); omega, by show _ ≤ (430 + 200 * d : Nat); omega⟩ ?_
                  rintro v108 A109 ⟨z112, rfl, hT_n111, hE_n111, raw_hz_n111, raw_hw_n111, raw_hi_n111, raw_hm_n111, raw_hG_n111, raw_hK_n111⟩
                  have hF_n111 := hF_n106.trans (hE_n111.sub (nd_em _))
                  show JM g D ad w0 A109 45 [(3, vi z107), (2, vi x98), (1, vi a), (0, vr 0 0)] [vi z112]
                  have hz_n111 : 0 ≤ z112 ∧ z112 ≤ 119 := raw_hz_n111
                  clear raw_hz_n111
                  obtain ⟨b1_n111, b2_n111⟩ : A109 0 0 30 = A104 0 0 30 + 1 ∧ z112 = A104 0 0 30 := raw_hi_n111 g_n106
                  clear raw_hi_n111 raw_hw_n111
                  have k0_n111 : A109 0 0 0 = A104 0 0 0 := hE_n111 0 0 0 rfl
                  have k22_n111 : A109 0 0 22 = A104 0 0 22 := hE_n111 0 0 22 rfl
                  have k23_n111 : A109 0 0 23 = A104 0 0 23 := hE_n111 0 0 23 rfl
                  have k24_n111 : A109 0 0 24 = A104 0 0 24 := hE_n111 0 0 24 rfl
                  have k25_n111 : A109 0 0 25 = A104 0 0 25 := hE_n111 0 0 25 rfl
                  have k26_n111 : A109 0 0 26 = A104 0 0 26 := hE_n111 0 0 26 rfl
                  have k27_n111 : A109 0 0 27 = A104 0 0 27 := hE_n111 0 0 27 rfl
                  have k28_n111 : A109 0 0 28 = A104 0 0 28 := hE_n111 0 0 28 rfl
                  have k29_n111 : A109 0 0 29 = A104 0 0 29 := hE_n111 0 0 29 rfl
                  have g_n111 : A109 0 0 31 = 0 := (hE_n111 0 0 31 rfl).trans g_n106
                  have hG_n111 : nG p0.toNat A109 := raw_hG_n111
                  have hK_n111 : nK p0.toNat A104 A109 := raw_hK_n111
                  have pt_n111 : pT A109 := pT_eq (A := A104) pt_n106 (hE_n111 0 0 31 rfl) (hE_n111 0 0 25 rfl) (hE_n111 0 0 24 rfl) (hE_n111 0 0 23 rfl) (hE_n111 0 0 26 rfl)
                  refine m_blk 5 [(1, vi z112), (3, vi z107), (2, vi x98), (0, vr 0 0)] [] C f_q_term_45_2 rfl ?_
                  refine m_loc [(1, vi z112), (0, vr 0 0)] ⟨rfl, rfl, trivial⟩ ?_
                  exact ih A109 z112 hT_n111 hF_n111 (by show 0 ≤ z112 ∧ z112 ≤ 119; omega) (by show A109 0 0 24 ≤ A109 0 0 23 ∧ A109 0 0 23 ≤ A109 0 0 22; omega) pt_n111 (fun _ => ⟨g0, by show z112 < A109 0 0 30; omega, by show A 0 0 24 - A 0 0 30 ≤ A109 0 0 24 - A109 0 0 30; omega⟩) (by show A 0 0 24 ≤ A109 0 0 24 ∧ A 0 0 30 ≤ A109 0 0 30 ∧ A109 0 0 27 = A 0 0 27 ∧ A109 0 0 22 = A 0 0 22 ∧ A109 0 0 0 = p0 ∧ A109 0 0 29 = A 0 0 29 ∧ A109 0 0 28 = A 0 0 28; omega) hG_n111 (nK.trans (A2 := A104) (nK.trans (A2 := A100) (nK.nm (A2 := A2) iK hE_n102) hK_n106 (by show A 0 0 30 ≤ A100 0 0 30; omega)) hK_n111 (by show A 0 0 30 ≤ A104 0 0 30; omega)) (by have hm9 := hm; show (200 - A109 0 0 24) < _; omega)
                · refine m_blk 42 [(3, vi z107), (2, vi x98), (1, vi a), (0, vr 0 0)] [vi z107, vi a, vi 0, vi x98, vr 0 0] C f_q_term_36_6 rfl ?_
                  refine m_callV C Rm Y [vi x98, vi 0, vi a, vi z107] [] (q_node l D B H0 ad _ hT_n106 p0 x98 0 a z107 (by show A104 0 0 0 = p0 ∧ 0 ≤ p0 ∧ p0 ≤ 5; omega) (fun h9 => absurd ((g_n106 : A104 0 0 31 = 1).symm.trans h9) (by decide)) (by show (-1 ≤ x98 ∧ x98 ≤ 255) ∧ (-1 ≤ 0 ∧ 0 ≤ 255) ∧ (-1 ≤ a ∧ a ≤ 119) ∧ (-1 ≤ z107 ∧ z107 ≤ 119); omega) hG_n106 (fun h9 => absurd ((g_n106 : A104 0 0 31 = 1).symm.trans h9) (by decide))) cl_Mo_218 rfl (by decide) rfl rfl e_q_term_42 rfl rfl rfl ⟨by show _ ≤ (11 + 4 * d : Nat); omega, by show _ ≤ (430 + 200 * d : Nat); omega⟩ ?_
                  rintro v113 A114 ⟨z117, rfl, hT_n116, hE_n116, raw_hz_n116, raw_hw_n116, raw_hi_n116, raw_hm_n116, raw_hG_n116, raw_hK_n116⟩
                  have hF_n116 := hF_n106.trans (hE_n116.sub (nd_em _))
                  show JM g D ad w0 A114 45 [(3, vi z107), (2, vi x98), (1, vi a), (0, vr 0 0)] [vi z117]
                  have hz_n116 : 0 ≤ z117 ∧ z117 ≤ 119 := raw_hz_n116
                  clear raw_hz_n116
                  have ee_n116 := (raw_hw_n116 g_n106).symm
                  subst ee_n116
                  show JM g D ad w0 A104 45 [(3, vi z107), (2, vi x98), (1, vi a), (0, vr 0 0)] [vi z117]
                  refine m_blk 5 [(1, vi z117), (3, vi z107), (2, vi x98), (0, vr 0 0)] [] C f_q_term_45_2 rfl ?_
                  refine m_loc [(1, vi z117), (0, vr 0 0)] ⟨rfl, rfl, trivial⟩ ?_
                  exact ih A104 z117 hT_n106 hF_n106 (by show 0 ≤ z117 ∧ z117 ≤ 119; omega) (by show A104 0 0 24 ≤ A104 0 0 23 ∧ A104 0 0 23 ≤ A104 0 0 22; omega) pt_n106 (fun h9 => absurd ((g_n106 : A104 0 0 31 = 1).symm.trans h9) (by decide)) (by show A 0 0 24 ≤ A104 0 0 24 ∧ A 0 0 30 ≤ A104 0 0 30 ∧ A104 0 0 27 = A 0 0 27 ∧ A104 0 0 22 = A 0 0 22 ∧ A104 0 0 0 = p0 ∧ A104 0 0 29 = A 0 0 29 ∧ A104 0 0 28 = A 0 0 28; omega) hG_n106 (nK.trans (A2 := A100) (nK.nm (A2 := A2) iK hE_n102) hK_n106 (by show A 0 0 30 ≤ A100 0 0 30; omega)) (by have hm9 := hm; show (200 - A104 0 0 24) < _; omega)
              · refine m_blk 33 [(2, vi x98), (1, vi a), (0, vr 0 0)] [vr 0 0] C f_q_term_32_1 rfl ?_
                refine m_callV C Rm Y [] [] (hq9 l D B H0 ad _ hS hT_n102 p0 (by show A100 0 0 0 = p0 ∧ 0 ≤ p0 ∧ p0 ≤ 5; omega) (by show A100 0 0 24 ≤ A100 0 0 23 ∧ A100 0 0 23 ≤ A100 0 0 22; omega) pt_n102 (fun h9 => absurd ((g_n102 : A100 0 0 31 = 1).symm.trans h9) (by decide)) (nG.nm (A := A2) iG hE_n102) (by show A100 0 0 27 = 4 - (d : Int) ∧ (d : Int) ≤ 4; omega)) cl_Mo_225 rfl (by decide) rfl rfl e_q_term_33 rfl rfl rfl ⟨by show _ ≤ (11 + 4 * d : Nat); omega, by show _ ≤ (430 + 200 * d : Nat); omega⟩ ?_
                rintro v118 A119 ⟨z122, rfl, hT_n121, hE_n121, raw_hz_n121, raw_hb_n121, raw_hn_n121, raw_hw_n121, raw_hm_n121, raw_hG_n121, raw_hK_n121⟩
                have hF_n121 := hF_n102.trans (hE_n121.sub (fun _ _ _ h => h))
                show JM g D ad w0 A119 36 [(2, vi x98), (1, vi a), (0, vr 0 0)] [vi z122]
                have hz_n121 : 0 ≤ z122 ∧ z122 ≤ 119 := raw_hz_n121
                clear raw_hz_n121
                have hb_n121 : A119 0 0 24 ≤ A119 0 0 23 ∧ A119 0 0 23 ≤ A119 0 0 22 := raw_hb_n121
                clear raw_hb_n121
                have hm_n121 : A100 0 0 24 ≤ A119 0 0 24 ∧ A100 0 0 30 ≤ A119 0 0 30 ∧ A119 0 0 27 = A100 0 0 27 := raw_hm_n121
                clear raw_hm_n121
                have pt_n121 : pT A119 := raw_hn_n121
                have k0_n121 : A119 0 0 0 = A100 0 0 0 := hE_n121 0 0 0 rfl
                have k22_n121 : A119 0 0 22 = A100 0 0 22 := hE_n121 0 0 22 rfl
                have k28_n121 : A119 0 0 28 = A100 0 0 28 := hE_n121 0 0 28 rfl
                have k29_n121 : A119 0 0 29 = A100 0 0 29 := hE_n121 0 0 29 rfl
                have hG_n121 : nG p0.toNat A119 := raw_hG_n121
                have hK_n121 : nK p0.toNat A100 A119 := raw_hK_n121
                have g_n121 : A119 0 0 31 = 1 := wr_1 (hT_n121 0 0 31) (fun h9 => absurd ((g_n102 : A100 0 0 31 = 1).symm.trans (raw_hw_n121 h9).1) (by decide))
                refine m_blk 42 [(3, vi z122), (2, vi x98), (1, vi a), (0, vr 0 0)] [vi z122, vi a, vi 0, vi x98, vr 0 0] C f_q_term_36_6 rfl ?_
                refine m_callV C Rm Y [vi x98, vi 0, vi a, vi z122] [] (q_node l D B H0 ad _ hT_n121 p0 x98 0 a z122 (by show A119 0 0 0 = p0 ∧ 0 ≤ p0 ∧ p0 ≤ 5; omega) (fun h9 => absurd ((g_n121 : A119 0 0 31 = 1).symm.trans h9) (by decide)) (by show (-1 ≤ x98 ∧ x98 ≤ 255) ∧ (-1 ≤ 0 ∧ 0 ≤ 255) ∧ (-1 ≤ a ∧ a ≤ 119) ∧ (-1 ≤ z122 ∧ z122 ≤ 119); omega) hG_n121 (fun h9 => absurd ((g_n121 : A119 0 0 31 = 1).symm.trans h9) (by decide))) cl_Mo_218 rfl (by decide) rfl rfl e_q_term_42 rfl rfl rfl ⟨by show _ ≤ (11 + 4 * d : Nat); omega, by show _ ≤ (430 + 200 * d : Nat); omega⟩ ?_
                rintro v123 A124 ⟨z127, rfl, hT_n126, hE_n126, raw_hz_n126, raw_hw_n126, raw_hi_n126, raw_hm_n126, raw_hG_n126, raw_hK_n126⟩
                have hF_n126 := hF_n121.trans (hE_n126.sub (nd_em _))
                show JM g D ad w0 A124 45 [(3, vi z122), (2, vi x98), (1, vi a), (0, vr 0 0)] [vi z127]
                have hz_n126 : 0 ≤ z127 ∧ z127 ≤ 119 := raw_hz_n126
                clear raw_hz_n126
                have ee_n126 := (raw_hw_n126 g_n121).symm
                subst ee_n126
                show JM g D ad w0 A119 45 [(3, vi z122), (2, vi x98), (1, vi a), (0, vr 0 0)] [vi z127]
                refine m_blk 5 [(1, vi z127), (3, vi z122), (2, vi x98), (0, vr 0 0)] [] C f_q_term_45_2 rfl ?_
                refine m_loc [(1, vi z127), (0, vr 0 0)] ⟨rfl, rfl, trivial⟩ ?_
                exact ih A119 z127 hT_n121 hF_n121 (by show 0 ≤ z127 ∧ z127 ≤ 119; omega) (by show A119 0 0 24 ≤ A119 0 0 23 ∧ A119 0 0 23 ≤ A119 0 0 22; omega) pt_n121 (fun h9 => absurd ((g_n121 : A119 0 0 31 = 1).symm.trans h9) (by decide)) (by show A 0 0 24 ≤ A119 0 0 24 ∧ A 0 0 30 ≤ A119 0 0 30 ∧ A119 0 0 27 = A 0 0 27 ∧ A119 0 0 22 = A 0 0 22 ∧ A119 0 0 0 = p0 ∧ A119 0 0 29 = A 0 0 29 ∧ A119 0 0 28 = A 0 0 28; omega) hG_n121 (nK.trans (A2 := A100) (nK.nm (A2 := A2) iK hE_n102) hK_n121 (by show A 0 0 30 ≤ A100 0 0 30; omega)) (by have hm9 := hm; show (200 - A119 0 0 24) < _; omega)
            · subst e_n95
              clear hz_n95
              refine m_if_ne (tgt := 23) C e_q_term_11 (by decide) (by decide) (fun c128 => (by omega : False).elim) (fun c128 => ?_)
              refine m_blk 17 [(1, vi a), (0, vr 0 0)] [vi 37, vr 0 0] C f_q_term_14_2 rfl ?_
              refine m_callV C Rm Y [vi 37] [] (q_isSign l D B H0 ad _ hT2 37 (by show -2147483648 ≤ 37 ∧ 37 ≤ 2147483647; omega)) cl_Mo_173 rfl (by decide) rfl rfl e_q_term_17 rfl rfl rfl ⟨by show _ ≤ (11 + 4 * d : Nat); omega, by show _ ≤ (430 + 200 * d : Nat); omega⟩ ?_
              rintro v129 A130 ⟨z133, rfl, rfl, raw_hz_n132⟩
              show JM g D ad w0 A2 20 [(1, vi a), (0, vr 0 0)] [vi z133]
              have hz_n132 : z133 = 1 ∧ A2 0 0 31 = 0 ∧ A2 0 0 25 = 4 ∧ A2 0 0 26 = 37 ∨ z133 = 0 ∧ ¬ (A2 0 0 31 = 0 ∧ A2 0 0 25 = 4 ∧ A2 0 0 26 = 37) := raw_hz_n132
              clear raw_hz_n132
              rcases hz_n132 with ⟨e_n132, hz_n132⟩ | ⟨e_n132, hz_n132⟩
              · subst e_n132
                have bt_n132 : A2 0 0 24 < A2 0 0 23 := pT_lt (A := A2) iT hz_n132.1 (by show ¬ A2 0 0 25 = 0; omega)
                refine m_if_eq (tgt := 49) C e_q_term_20 (by decide) (by decide) (fun c134 => (by omega : False).elim) (fun c134 => ?_)
                refine m_blk 24 [(1, vi a), (0, vr 0 0)] [vr 0 0] C f_q_term_23_1 rfl ?_
                obtain ⟨x135, hx135⟩ : ∃ x, A2 0 0 26 = x := ⟨_, rfl⟩
                have rx135 : (-1) ≤ x135 ∧ x135 ≤ 255 := mrg hT2 hx135 rfl
                refine m_geti C e_q_term_24 fg_Mo_165 rfl (by decide) rfl x135 hx135 ?_
                refine m_blk 29 [(2, vi x135), (1, vi a), (0, vr 0 0)] [vr 0 0] C f_q_term_27_2 rfl ?_
                refine m_callV C Rm Y [] [] (q_next l D B H0 ad _ hS hT2 (by show A2 0 0 23 ≤ A2 0 0 22; omega)) cl_Mo_176 rfl (by decide) rfl rfl e_q_term_29 rfl rfl rfl ⟨by show _ ≤ (11 + 4 * d : Nat); omega, by show _ ≤ (430 + 200 * d : Nat); omega⟩ ?_
                rintro v136 A137 ⟨rfl, hT_n139, hE_n139, raw_hw_n139, raw_hb_n139⟩
                have hF_n139 := hE2.trans (hE_n139.sub (nm_em _))
                show JM g D ad w0 A137 32 [(2, vi x135), (1, vi a), (0, vr 0 0)] []
                obtain ⟨b1_n139, b2_n139, b3_n139, pt_n139⟩ : A2 0 0 23 ≤ A137 0 0 24 ∧ A137 0 0 24 ≤ A137 0 0 23 ∧ A137 0 0 23 ≤ A137 0 0 22 ∧ pT A137 := raw_hb_n139 g2
                clear raw_hb_n139 raw_hw_n139
                have k0_n139 : A137 0 0 0 = A2 0 0 0 := hE_n139 0 0 0 rfl
                have k22_n139 : A137 0 0 22 = A2 0 0 22 := hE_n139 0 0 22 rfl
                have k27_n139 : A137 0 0 27 = A2 0 0 27 := hE_n139 0 0 27 rfl
                have k28_n139 : A137 0 0 28 = A2 0 0 28 := hE_n139 0 0 28 rfl
                have k29_n139 : A137 0 0 29 = A2 0 0 29 := hE_n139 0 0 29 rfl
                have k30_n139 : A137 0 0 30 = A2 0 0 30 := hE_n139 0 0 30 rfl
                rcases (show A137 0 0 31 = 0 ∨ A137 0 0 31 = 1 from by have w9 := hT_n139 0 0 31; have w8 : 0 ≤ A137 0 0 31 ∧ A137 0 0 31 ≤ 1 := w9; omega) with g_n139 | g_n139
                · refine m_blk 33 [(2, vi x135), (1, vi a), (0, vr 0 0)] [vr 0 0] C f_q_term_32_1 rfl ?_
                  refine m_callV C Rm Y [] [] (hq9 l D B H0 ad _ hS hT_n139 p0 (by show A137 0 0 0 = p0 ∧ 0 ≤ p0 ∧ p0 ≤ 5; omega) (by show A137 0 0 24 ≤ A137 0 0 23 ∧ A137 0 0 23 ≤ A137 0 0 22; omega) pt_n139 (fun _ => by show A137 0 0 30 + 3 * A137 0 0 29 ≤ A137 0 0 24; omega) (nG.nm (A := A2) iG hE_n139) (by show A137 0 0 27 = 4 - (d : Int) ∧ (d : Int) ≤ 4; omega)) cl_Mo_225 rfl (by decide) rfl rfl e_q_term_33 rfl rfl rfl ⟨by show _ ≤ (11 + 4 * d : Nat); omega, by show _ ≤ (430 + 200 * d : Nat); omega⟩ ?_
                  rintro v140 A141 ⟨z144, rfl, hT_n143, hE_n143, raw_hz_n143, raw_hb_n143, raw_hn_n143, raw_hw_n143, raw_hm_n143, raw_hG_n143, raw_hK_n143⟩
                  have hF_n143 := hF_n139.trans (hE_n143.sub (fun _ _ _ h => h))
                  show JM g D ad w0 A141 36 [(2, vi x135), (1, vi a), (0, vr 0 0)] [vi z144]
                  have hz_n143 : 0 ≤ z144 ∧ z144 ≤ 119 := raw_hz_n143
                  clear raw_hz_n143
                  have hb_n143 : A141 0 0 24 ≤ A141 0 0 23 ∧ A141 0 0 23 ≤ A141 0 0 22 := raw_hb_n143
                  clear raw_hb_n143
                  have hm_n143 : A137 0 0 24 ≤ A141 0 0 24 ∧ A137 0 0 30 ≤ A141 0 0 30 ∧ A141 0 0 27 = A137 0 0 27 := raw_hm_n143
                  clear raw_hm_n143
                  have pt_n143 : pT A141 := raw_hn_n143
                  have k0_n143 : A141 0 0 0 = A137 0 0 0 := hE_n143 0 0 0 rfl
                  have k22_n143 : A141 0 0 22 = A137 0 0 22 := hE_n143 0 0 22 rfl
                  have k28_n143 : A141 0 0 28 = A137 0 0 28 := hE_n143 0 0 28 rfl
                  have k29_n143 : A141 0 0 29 = A137 0 0 29 := hE_n143 0 0 29 rfl
                  have hG_n143 : nG p0.toNat A141 := raw_hG_n143
                  have hK_n143 : nK p0.toNat A137 A141 := raw_hK_n143
                  rcases (show A141 0 0 31 = 0 ∨ A141 0 0 31 = 1 from by have w9 := hT_n143 0 0 31; have w8 : 0 ≤ A141 0 0 31 ∧ A141 0 0 31 ≤ 1 := w9; omega) with g_n143 | g_n143
                  · have u_n143 : z144 < A141 0 0 30 ∧ A137 0 0 24 - A137 0 0 30 ≤ A141 0 0 24 - A141 0 0 30 := (raw_hw_n143 g_n143).2
                    refine m_blk 42 [(3, vi z144), (2, vi x135), (1, vi a), (0, vr 0 0)] [vi z144, vi a, vi 0, vi x135, vr 0 0] C f_q_term_36_6 rfl ?_
                    refine m_callV C Rm Y [vi x135, vi 0, vi a, vi z144] [] (q_node l D B H0 ad _ hT_n143 p0 x135 0 a z144 (by show A141 0 0 0 = p0 ∧ 0 ≤ p0 ∧ p0 ≤ 5; omega) (fun _ => by show A141 0 0 30 ≤ 119; omega) (by show (-1 ≤ x135 ∧ x135 ≤ 255) ∧ (-1 ≤ 0 ∧ 0 ≤ 255) ∧ (-1 ≤ a ∧ a ≤ 119) ∧ (-1 ≤ z144 ∧ z144 ≤ 119); omega) hG_n143 (fun _ => by show a < A141 0 0 30 ∧ z144 < A141 0 0 30 ∧ (x135 ≠ 0 → x135 ≠ 1 → 0 ≤ a) ∧ (x135 ≠ 0 → x135 ≠ 1 → x135 ≠ 2 → 0 ≤ z144); omega)) cl_Mo_218 rfl (by decide) rfl rfl e_q_term_42 rfl rfl rfl ⟨by show _ ≤ (11 + 4 * d : Nat); omega, by show _ ≤ (430 + 200 * d : Nat); omega⟩ ?_
                    rintro v145 A146 ⟨z149, rfl, hT_n148, hE_n148, raw_hz_n148, raw_hw_n148, raw_hi_n148, raw_hm_n148, raw_hG_n148, raw_hK_n148⟩
                    have hF_n148 := hF_n143.trans (hE_n148.sub (nd_em _))
                    show JM g D ad w0 A146 45 [(3, vi z144), (2, vi x135), (1, vi a), (0, vr 0 0)] [vi z149]
                    have hz_n148 : 0 ≤ z149 ∧ z149 ≤ 119 := raw_hz_n148
                    clear raw_hz_n148
                    obtain ⟨b1_n148, b2_n148⟩ : A146 0 0 30 = A141 0 0 30 + 1 ∧ z149 = A141 0 0 30 := raw_hi_n148 g_n143
                    clear raw_hi_n148 raw_hw_n148
                    have k0_n148 : A146 0 0 0 = A141 0 0 0 := hE_n148 0 0 0 rfl
                    have k22_n148 : A146 0 0 22 = A141 0 0 22 := hE_n148 0 0 22 rfl
                    have k23_n148 : A146 0 0 23 = A141 0 0 23 := hE_n148 0 0 23 rfl
                    have k24_n148 : A146 0 0 24 = A141 0 0 24 := hE_n148 0 0 24 rfl
                    have k25_n148 : A146 0 0 25 = A141 0 0 25 := hE_n148 0 0 25 rfl
                    have k26_n148 : A146 0 0 26 = A141 0 0 26 := hE_n148 0 0 26 rfl
                    have k27_n148 : A146 0 0 27 = A141 0 0 27 := hE_n148 0 0 27 rfl
                    have k28_n148 : A146 0 0 28 = A141 0 0 28 := hE_n148 0 0 28 rfl
                    have k29_n148 : A146 0 0 29 = A141 0 0 29 := hE_n148 0 0 29 rfl
                    have g_n148 : A146 0 0 31 = 0 := (hE_n148 0 0 31 rfl).trans g_n143
                    have hG_n148 : nG p0.toNat A146 := raw_hG_n148
                    have hK_n148 : nK p0.toNat A141 A146 := raw_hK_n148
                    have pt_n148 : pT A146 := pT_eq (A := A141) pt_n143 (hE_n148 0 0 31 rfl) (hE_n148 0 0 25 rfl) (hE_n148 0 0 24 rfl) (hE_n148 0 0 23 rfl) (hE_n148 0 0 26 rfl)
                    refine m_blk 5 [(1, vi z149), (3, vi z144), (2, vi x135), (0, vr 0 0)] [] C f_q_term_45_2 rfl ?_
                    refine m_loc [(1, vi z149), (0, vr 0 0)] ⟨rfl, rfl, trivial⟩ ?_
                    exact ih A146 z149 hT_n148 hF_n148 (by show 0 ≤ z149 ∧ z149 ≤ 119; omega) (by show A146 0 0 24 ≤ A146 0 0 23 ∧ A146 0 0 23 ≤ A146 0 0 22; omega) pt_n148 (fun _ => ⟨g0, by show z149 < A146 0 0 30; omega, by show A 0 0 24 - A 0 0 30 ≤ A146 0 0 24 - A146 0 0 30; omega⟩) (by show A 0 0 24 ≤ A146 0 0 24 ∧ A 0 0 30 ≤ A146 0 0 30 ∧ A146 0 0 27 = A 0 0 27 ∧ A146 0 0 22 = A 0 0 22 ∧ A146 0 0 0 = p0 ∧ A146 0 0 29 = A 0 0 29 ∧ A146 0 0 28 = A 0 0 28; omega) hG_n148 (nK.trans (A2 := A141) (nK.trans (A2 := A137) (nK.nm (A2 := A2) iK hE_n139) hK_n143 (by show A 0 0 30 ≤ A137 0 0 30; omega)) hK_n148 (by show A 0 0 30 ≤ A141 0 0 30; omega)) (by have hm9 := hm; show (200 - A146 0 0 24) < _; omega)
                  · refine m_blk 42 [(3, vi z144), (2, vi x135), (1, vi a), (0, vr 0 0)] [vi z144, vi a, vi 0, vi x135, vr 0 0] C f_q_term_36_6 rfl ?_
                    refine m_callV C Rm Y [vi x135, vi 0, vi a, vi z144] [] (q_node l D B H0 ad _ hT_n143 p0 x135 0 a z144 (by show A141 0 0 0 = p0 ∧ 0 ≤ p0 ∧ p0 ≤ 5; omega) (fun h9 => absurd ((g_n143 : A141 0 0 31 = 1).symm.trans h9) (by decide)) (by show (-1 ≤ x135 ∧ x135 ≤ 255) ∧ (-1 ≤ 0 ∧ 0 ≤ 255) ∧ (-1 ≤ a ∧ a ≤ 119) ∧ (-1 ≤ z144 ∧ z144 ≤ 119); omega) hG_n143 (fun h9 => absurd ((g_n143 : A141 0 0 31 = 1).symm.trans h9) (by decide))) cl_Mo_218 rfl (by decide) rfl rfl e_q_term_42 rfl rfl rfl ⟨by show _ ≤ (11 + 4 * d : Nat); omega, by show _ ≤ (430 + 200 * d : Nat); omega⟩ ?_
                    rintro v150 A151 ⟨z154, rfl, hT_n153, hE_n153, raw_hz_n153, raw_hw_n153, raw_hi_n153, raw_hm_n153, raw_hG_n153, raw_hK_n153⟩
                    have hF_n153 := hF_n143.trans (hE_n153.sub (nd_em _))
                    show JM g D ad w0 A151 45 [(3, vi z144), (2, vi x135), (1, vi a), (0, vr 0 0)] [vi z154]
                    have hz_n153 : 0 ≤ z154 ∧ z154 ≤ 119 := raw_hz_n153
                    clear raw_hz_n153
                    have ee_n153 := (raw_hw_n153 g_n143).symm
                    subst ee_n153
                    show JM g D ad w0 A141 45 [(3, vi z144), (2, vi x135), (1, vi a), (0, vr 0 0)] [vi z154]
                    refine m_blk 5 [(1, vi z154), (3, vi z144), (2, vi x135), (0, vr 0 0)] [] C f_q_term_45_2 rfl ?_
                    refine m_loc [(1, vi z154), (0, vr 0 0)] ⟨rfl, rfl, trivial⟩ ?_
                    exact ih A141 z154 hT_n143 hF_n143 (by show 0 ≤ z154 ∧ z154 ≤ 119; omega) (by show A141 0 0 24 ≤ A141 0 0 23 ∧ A141 0 0 23 ≤ A141 0 0 22; omega) pt_n143 (fun h9 => absurd ((g_n143 : A141 0 0 31 = 1).symm.trans h9) (by decide)) (by show A 0 0 24 ≤ A141 0 0 24 ∧ A 0 0 30 ≤ A141 0 0 30 ∧ A141 0 0 27 = A 0 0 27 ∧ A141 0 0 22 = A 0 0 22 ∧ A141 0 0 0 = p0 ∧ A141 0 0 29 = A 0 0 29 ∧ A141 0 0 28 = A 0 0 28; omega) hG_n143 (nK.trans (A2 := A137) (nK.nm (A2 := A2) iK hE_n139) hK_n143 (by show A 0 0 30 ≤ A137 0 0 30; omega)) (by have hm9 := hm; show (200 - A141 0 0 24) < _; omega)
                · refine m_blk 33 [(2, vi x135), (1, vi a), (0, vr 0 0)] [vr 0 0] C f_q_term_32_1 rfl ?_
                  refine m_callV C Rm Y [] [] (hq9 l D B H0 ad _ hS hT_n139 p0 (by show A137 0 0 0 = p0 ∧ 0 ≤ p0 ∧ p0 ≤ 5; omega) (by show A137 0 0 24 ≤ A137 0 0 23 ∧ A137 0 0 23 ≤ A137 0 0 22; omega) pt_n139 (fun h9 => absurd ((g_n139 : A137 0 0 31 = 1).symm.trans h9) (by decide)) (nG.nm (A := A2) iG hE_n139) (by show A137 0 0 27 = 4 - (d : Int) ∧ (d : Int) ≤ 4; omega)) cl_Mo_225 rfl (by decide) rfl rfl e_q_term_33 rfl rfl rfl ⟨by show _ ≤ (11 + 4 * d : Nat); omega, by show _ ≤ (430 + 200 * d : Nat); omega⟩ ?_
                  rintro v155 A156 ⟨z159, rfl, hT_n158, hE_n158, raw_hz_n158, raw_hb_n158, raw_hn_n158, raw_hw_n158, raw_hm_n158, raw_hG_n158, raw_hK_n158⟩
                  have hF_n158 := hF_n139.trans (hE_n158.sub (fun _ _ _ h => h))
                  show JM g D ad w0 A156 36 [(2, vi x135), (1, vi a), (0, vr 0 0)] [vi z159]
                  have hz_n158 : 0 ≤ z159 ∧ z159 ≤ 119 := raw_hz_n158
                  clear raw_hz_n158
                  have hb_n158 : A156 0 0 24 ≤ A156 0 0 23 ∧ A156 0 0 23 ≤ A156 0 0 22 := raw_hb_n158
                  clear raw_hb_n158
                  have hm_n158 : A137 0 0 24 ≤ A156 0 0 24 ∧ A137 0 0 30 ≤ A156 0 0 30 ∧ A156 0 0 27 = A137 0 0 27 := raw_hm_n158
                  clear raw_hm_n158
                  have pt_n158 : pT A156 := raw_hn_n158
                  have k0_n158 : A156 0 0 0 = A137 0 0 0 := hE_n158 0 0 0 rfl
                  have k22_n158 : A156 0 0 22 = A137 0 0 22 := hE_n158 0 0 22 rfl
                  have k28_n158 : A156 0 0 28 = A137 0 0 28 := hE_n158 0 0 28 rfl
                  have k29_n158 : A156 0 0 29 = A137 0 0 29 := hE_n158 0 0 29 rfl
                  have hG_n158 : nG p0.toNat A156 := raw_hG_n158
                  have hK_n158 : nK p0.toNat A137 A156 := raw_hK_n158
                  have g_n158 : A156 0 0 31 = 1 := wr_1 (hT_n158 0 0 31) (fun h9 => absurd ((g_n139 : A137 0 0 31 = 1).symm.trans (raw_hw_n158 h9).1) (by decide))
                  refine m_blk 42 [(3, vi z159), (2, vi x135), (1, vi a), (0, vr 0 0)] [vi z159, vi a, vi 0, vi x135, vr 0 0] C f_q_term_36_6 rfl ?_
                  refine m_callV C Rm Y [vi x135, vi 0, vi a, vi z159] [] (q_node l D B H0 ad _ hT_n158 p0 x135 0 a z159 (by show A156 0 0 0 = p0 ∧ 0 ≤ p0 ∧ p0 ≤ 5; omega) (fun h9 => absurd ((g_n158 : A156 0 0 31 = 1).symm.trans h9) (by decide)) (by show (-1 ≤ x135 ∧ x135 ≤ 255) ∧ (-1 ≤ 0 ∧ 0 ≤ 255) ∧ (-1 ≤ a ∧ a ≤ 119) ∧ (-1 ≤ z159 ∧ z159 ≤ 119); omega) hG_n158 (fun h9 => absurd ((g_n158 : A156 0 0 31 = 1).symm.trans h9) (by decide))) cl_Mo_218 rfl (by decide) rfl rfl e_q_term_42 rfl rfl rfl ⟨by show _ ≤ (11 + 4 * d : Nat); omega, by show _ ≤ (430 + 200 * d : Nat); omega⟩ ?_
                  rintro v160 A161 ⟨z164, rfl, hT_n163, hE_n163, raw_hz_n163, raw_hw_n163, raw_hi_n163, raw_hm_n163, raw_hG_n163, raw_hK_n163⟩
                  have hF_n163 := hF_n158.trans (hE_n163.sub (nd_em _))
                  show JM g D ad w0 A161 45 [(3, vi z159), (2, vi x135), (1, vi a), (0, vr 0 0)] [vi z164]
                  have hz_n163 : 0 ≤ z164 ∧ z164 ≤ 119 := raw_hz_n163
                  clear raw_hz_n163
                  have ee_n163 := (raw_hw_n163 g_n158).symm
                  subst ee_n163
                  show JM g D ad w0 A156 45 [(3, vi z159), (2, vi x135), (1, vi a), (0, vr 0 0)] [vi z164]
                  refine m_blk 5 [(1, vi z164), (3, vi z159), (2, vi x135), (0, vr 0 0)] [] C f_q_term_45_2 rfl ?_
                  refine m_loc [(1, vi z164), (0, vr 0 0)] ⟨rfl, rfl, trivial⟩ ?_
                  exact ih A156 z164 hT_n158 hF_n158 (by show 0 ≤ z164 ∧ z164 ≤ 119; omega) (by show A156 0 0 24 ≤ A156 0 0 23 ∧ A156 0 0 23 ≤ A156 0 0 22; omega) pt_n158 (fun h9 => absurd ((g_n158 : A156 0 0 31 = 1).symm.trans h9) (by decide)) (by show A 0 0 24 ≤ A156 0 0 24 ∧ A 0 0 30 ≤ A156 0 0 30 ∧ A156 0 0 27 = A 0 0 27 ∧ A156 0 0 22 = A 0 0 22 ∧ A156 0 0 0 = p0 ∧ A156 0 0 29 = A 0 0 29 ∧ A156 0 0 28 = A 0 0 28; omega) hG_n158 (nK.trans (A2 := A137) (nK.nm (A2 := A2) iK hE_n139) hK_n158 (by show A 0 0 30 ≤ A137 0 0 30; omega)) (by have hm9 := hm; show (200 - A156 0 0 24) < _; omega)
              · subst e_n132
                clear hz_n132
                refine m_if_eq (tgt := 49) C e_q_term_20 (by decide) (by decide) (fun c165 => ?_) (fun c165 => (by omega : False).elim)
                refine m_blk 50 [(1, vi a), (0, vr 0 0)] [vi a] C f_q_term_49_1 rfl ?_
                exact m_iret C Rm E e_q_term_50 ⟨a, rfl, hT2, hE2, (by show 0 ≤ a ∧ a ≤ 119; omega), (by show A2 0 0 24 ≤ A2 0 0 23 ∧ A2 0 0 23 ≤ A2 0 0 22; omega), iT, (fun _ => ⟨g0, (by show a < A2 0 0 30; omega), (by show A 0 0 24 - A 0 0 30 ≤ A2 0 0 24 - A2 0 0 30; omega)⟩), (by show A 0 0 24 ≤ A2 0 0 24 ∧ A 0 0 30 ≤ A2 0 0 30 ∧ A2 0 0 27 = A 0 0 27; omega), iG, iK⟩
          · refine m_blk 8 [(1, vi a), (0, vr 0 0)] [vi 42, vr 0 0] C f_q_term_5_2 rfl ?_
            refine m_callV C Rm Y [vi 42] [] (q_isSign l D B H0 ad _ hT2 42 (by show -2147483648 ≤ 42 ∧ 42 ≤ 2147483647; omega)) cl_Mo_173 rfl (by decide) rfl rfl e_q_term_8 rfl rfl rfl ⟨by show _ ≤ (11 + 4 * d : Nat); omega, by show _ ≤ (430 + 200 * d : Nat); omega⟩ ?_
            rintro v166 A167 ⟨z170, rfl, rfl, raw_hz_n169⟩
            show JM g D ad w0 A2 11 [(1, vi a), (0, vr 0 0)] [vi z170]
            have hz_n169 : z170 = 1 ∧ A2 0 0 31 = 0 ∧ A2 0 0 25 = 4 ∧ A2 0 0 26 = 42 ∨ z170 = 0 ∧ ¬ (A2 0 0 31 = 0 ∧ A2 0 0 25 = 4 ∧ A2 0 0 26 = 42) := raw_hz_n169
            clear raw_hz_n169
            rcases hz_n169 with ⟨e_n169, hz_n169⟩ | ⟨e_n169, hz_n169⟩
            · subst e_n169
              exact (by omega : False).elim
            · subst e_n169
              clear hz_n169
              refine m_if_ne (tgt := 23) C e_q_term_11 (by decide) (by decide) (fun c171 => (by omega : False).elim) (fun c171 => ?_)
              refine m_blk 17 [(1, vi a), (0, vr 0 0)] [vi 37, vr 0 0] C f_q_term_14_2 rfl ?_
              refine m_callV C Rm Y [vi 37] [] (q_isSign l D B H0 ad _ hT2 37 (by show -2147483648 ≤ 37 ∧ 37 ≤ 2147483647; omega)) cl_Mo_173 rfl (by decide) rfl rfl e_q_term_17 rfl rfl rfl ⟨by show _ ≤ (11 + 4 * d : Nat); omega, by show _ ≤ (430 + 200 * d : Nat); omega⟩ ?_
              rintro v172 A173 ⟨z176, rfl, rfl, raw_hz_n175⟩
              show JM g D ad w0 A2 20 [(1, vi a), (0, vr 0 0)] [vi z176]
              have hz_n175 : z176 = 1 ∧ A2 0 0 31 = 0 ∧ A2 0 0 25 = 4 ∧ A2 0 0 26 = 37 ∨ z176 = 0 ∧ ¬ (A2 0 0 31 = 0 ∧ A2 0 0 25 = 4 ∧ A2 0 0 26 = 37) := raw_hz_n175
              clear raw_hz_n175
              rcases hz_n175 with ⟨e_n175, hz_n175⟩ | ⟨e_n175, hz_n175⟩
              · subst e_n175
                exact (by omega : False).elim
              · subst e_n175
                clear hz_n175
                refine m_if_eq (tgt := 49) C e_q_term_20 (by decide) (by decide) (fun c177 => ?_) (fun c177 => (by omega : False).elim)
                refine m_blk 50 [(1, vi a), (0, vr 0 0)] [vi a] C f_q_term_49_1 rfl ?_
                exact m_iret C Rm E e_q_term_50 ⟨a, rfl, hT2, hE2, (by show 0 ≤ a ∧ a ≤ 119; omega), (by show A2 0 0 24 ≤ A2 0 0 23 ∧ A2 0 0 23 ≤ A2 0 0 22; omega), iT, (fun h9 => absurd ((g2 : A2 0 0 31 = 1).symm.trans h9) (by decide)), (by show A 0 0 24 ≤ A2 0 0 24 ∧ A 0 0 30 ≤ A2 0 0 30 ∧ A2 0 0 27 = A 0 0 27; omega), iG, iK⟩
      refine m_loc [(1, vi z5), (0, vr 0 0)] ⟨rfl, rfl, trivial⟩ ?_
      exact hd_5 (Int.toNat ((200 - A2 0 0 24)) + 1) A2 z5 hT_n4 hF_n4 (by show 0 ≤ z5 ∧ z5 ≤ 119; omega) (by show A2 0 0 24 ≤ A2 0 0 23 ∧ A2 0 0 23 ≤ A2 0 0 22; omega) pt_n4 (fun h9 => absurd ((g_n4 : A2 0 0 31 = 1).symm.trans h9) (by decide)) (by show A 0 0 24 ≤ A2 0 0 24 ∧ A 0 0 30 ≤ A2 0 0 30 ∧ A2 0 0 27 = A 0 0 27 ∧ A2 0 0 22 = A 0 0 22 ∧ A2 0 0 0 = p0 ∧ A2 0 0 29 = A 0 0 29 ∧ A2 0 0 28 = A 0 0 28; omega) hG_n4 (nK.trans (A2 := A) nK.rfl' hK_n4 (by show A 0 0 30 ≤ A 0 0 30; omega)) (by show (200 - A2 0 0 24) < _; omega)
  · refine m_blk 1 [(0, vr 0 0)] [vr 0 0] C f_q_term_0_1 rfl ?_
    refine m_callV C Rm Y [] [] (hq9 l D B H0 ad _ hS hT p0 (by show A 0 0 0 = p0 ∧ 0 ≤ p0 ∧ p0 ≤ 5; omega) (by show A 0 0 24 ≤ A 0 0 23 ∧ A 0 0 23 ≤ A 0 0 22; omega) hn (fun h9 => absurd ((g0 : A 0 0 31 = 1).symm.trans h9) (by decide)) hG (by show A 0 0 27 = 4 - (d : Int) ∧ (d : Int) ≤ 4; omega)) cl_Mo_225 rfl (by decide) rfl rfl e_q_term_1 rfl rfl rfl ⟨by show _ ≤ (11 + 4 * d : Nat); omega, by show _ ≤ (430 + 200 * d : Nat); omega⟩ ?_
    rintro v178 A179 ⟨z182, rfl, hT_n181, hE_n181, raw_hz_n181, raw_hb_n181, raw_hn_n181, raw_hw_n181, raw_hm_n181, raw_hG_n181, raw_hK_n181⟩
    have hF_n181 := hE0.trans (hE_n181.sub (fun _ _ _ h => h))
    show JM g D ad w0 A179 4 [(0, vr 0 0)] [vi z182]
    have hz_n181 : 0 ≤ z182 ∧ z182 ≤ 119 := raw_hz_n181
    clear raw_hz_n181
    have hb_n181 : A179 0 0 24 ≤ A179 0 0 23 ∧ A179 0 0 23 ≤ A179 0 0 22 := raw_hb_n181
    clear raw_hb_n181
    have hm_n181 : A 0 0 24 ≤ A179 0 0 24 ∧ A 0 0 30 ≤ A179 0 0 30 ∧ A179 0 0 27 = A 0 0 27 := raw_hm_n181
    clear raw_hm_n181
    have pt_n181 : pT A179 := raw_hn_n181
    have k0_n181 : A179 0 0 0 = A 0 0 0 := hE_n181 0 0 0 rfl
    have k22_n181 : A179 0 0 22 = A 0 0 22 := hE_n181 0 0 22 rfl
    have k28_n181 : A179 0 0 28 = A 0 0 28 := hE_n181 0 0 28 rfl
    have k29_n181 : A179 0 0 29 = A 0 0 29 := hE_n181 0 0 29 rfl
    have hG_n181 : nG p0.toNat A179 := raw_hG_n181
    have hK_n181 : nK p0.toNat A A179 := raw_hK_n181
    have g_n181 : A179 0 0 31 = 1 := wr_1 (hT_n181 0 0 31) (fun h9 => absurd ((g0 : A 0 0 31 = 1).symm.trans (raw_hw_n181 h9).1) (by decide))
    refine m_blk 5 [(1, vi z182), (0, vr 0 0)] [] C f_q_term_4_1 rfl ?_
    have hd_5 : ∀ (N : Nat) (A2 : mA) (a : Int), mTy A2 → mEq (em p0.toNat) A A2 → 0 ≤ a ∧ a ≤ 119 → A2 0 0 24 ≤ A2 0 0 23 ∧ A2 0 0 23 ≤ A2 0 0 22 → pT A2 → pW A A2 a → A 0 0 24 ≤ A2 0 0 24 ∧ A 0 0 30 ≤ A2 0 0 30 ∧ A2 0 0 27 = A 0 0 27 ∧ A2 0 0 22 = A 0 0 22 ∧ A2 0 0 0 = p0 ∧ A2 0 0 29 = A 0 0 29 ∧ A2 0 0 28 = A 0 0 28 → nG p0.toNat A2 → nK p0.toNat A A2 → (200 - A2 0 0 24) < (N : Int) → JM g D ad w0 A2 5 [(1, vi a), (0, vr 0 0)] [] := by
      intro N
      induction N with
      | zero => intro A2 a hT2 hE2 ia ib iT iw im iG iK hm; exact absurd hm (by omega)
      | succ N ih =>
        intro A2 a hT2 hE2 ia ib iT iw im iG iK hm
        rcases (show A2 0 0 31 = 0 ∨ A2 0 0 31 = 1 from by have w8 : 0 ≤ A2 0 0 31 ∧ A2 0 0 31 ≤ 1 := hT2 0 0 31; omega) with g2 | g2
        · have u2 : a < A2 0 0 30 ∧ A 0 0 24 - A 0 0 30 ≤ A2 0 0 24 - A2 0 0 30 := (iw g2).2
          have g0 : A 0 0 31 = 0 := (iw g2).1
          have hl0 := hl g0
          refine m_blk 8 [(1, vi a), (0, vr 0 0)] [vi 42, vr 0 0] C f_q_term_5_2 rfl ?_
          refine m_callV C Rm Y [vi 42] [] (q_isSign l D B H0 ad _ hT2 42 (by show -2147483648 ≤ 42 ∧ 42 ≤ 2147483647; omega)) cl_Mo_173 rfl (by decide) rfl rfl e_q_term_8 rfl rfl rfl ⟨by show _ ≤ (11 + 4 * d : Nat); omega, by show _ ≤ (430 + 200 * d : Nat); omega⟩ ?_
          rintro v183 A184 ⟨z187, rfl, rfl, raw_hz_n186⟩
          show JM g D ad w0 A2 11 [(1, vi a), (0, vr 0 0)] [vi z187]
          have hz_n186 : z187 = 1 ∧ A2 0 0 31 = 0 ∧ A2 0 0 25 = 4 ∧ A2 0 0 26 = 42 ∨ z187 = 0 ∧ ¬ (A2 0 0 31 = 0 ∧ A2 0 0 25 = 4 ∧ A2 0 0 26 = 42) := raw_hz_n186
          clear raw_hz_n186
          rcases hz_n186 with ⟨e_n186, hz_n186⟩ | ⟨e_n186, hz_n186⟩
          · subst e_n186
            have bt_n186 : A2 0 0 24 < A2 0 0 23 := pT_lt (A := A2) iT hz_n186.1 (by show ¬ A2 0 0 25 = 0; omega)
            refine m_if_ne (tgt := 23) C e_q_term_11 (by decide) (by decide) (fun c188 => ?_) (fun c188 => (by omega : False).elim)
            refine m_blk 24 [(1, vi a), (0, vr 0 0)] [vr 0 0] C f_q_term_23_1 rfl ?_
            obtain ⟨x189, hx189⟩ : ∃ x, A2 0 0 26 = x := ⟨_, rfl⟩
            have rx189 : (-1) ≤ x189 ∧ x189 ≤ 255 := mrg hT2 hx189 rfl
            refine m_geti C e_q_term_24 fg_Mo_165 rfl (by decide) rfl x189 hx189 ?_
            refine m_blk 29 [(2, vi x189), (1, vi a), (0, vr 0 0)] [vr 0 0] C f_q_term_27_2 rfl ?_
            refine m_callV C Rm Y [] [] (q_next l D B H0 ad _ hS hT2 (by show A2 0 0 23 ≤ A2 0 0 22; omega)) cl_Mo_176 rfl (by decide) rfl rfl e_q_term_29 rfl rfl rfl ⟨by show _ ≤ (11 + 4 * d : Nat); omega, by show _ ≤ (430 + 200 * d : Nat); omega⟩ ?_
            rintro v190 A191 ⟨rfl, hT_n193, hE_n193, raw_hw_n193, raw_hb_n193⟩
            have hF_n193 := hE2.trans (hE_n193.sub (nm_em _))
            show JM g D ad w0 A191 32 [(2, vi x189), (1, vi a), (0, vr 0 0)] []
            obtain ⟨b1_n193, b2_n193, b3_n193, pt_n193⟩ : A2 0 0 23 ≤ A191 0 0 24 ∧ A191 0 0 24 ≤ A191 0 0 23 ∧ A191 0 0 23 ≤ A191 0 0 22 ∧ pT A191 := raw_hb_n193 g2
            clear raw_hb_n193 raw_hw_n193
            have k0_n193 : A191 0 0 0 = A2 0 0 0 := hE_n193 0 0 0 rfl
            have k22_n193 : A191 0 0 22 = A2 0 0 22 := hE_n193 0 0 22 rfl
            have k27_n193 : A191 0 0 27 = A2 0 0 27 := hE_n193 0 0 27 rfl
            have k28_n193 : A191 0 0 28 = A2 0 0 28 := hE_n193 0 0 28 rfl
            have k29_n193 : A191 0 0 29 = A2 0 0 29 := hE_n193 0 0 29 rfl
            have k30_n193 : A191 0 0 30 = A2 0 0 30 := hE_n193 0 0 30 rfl
            rcases (show A191 0 0 31 = 0 ∨ A191 0 0 31 = 1 from by have w9 := hT_n193 0 0 31; have w8 : 0 ≤ A191 0 0 31 ∧ A191 0 0 31 ≤ 1 := w9; omega) with g_n193 | g_n193
            · refine m_blk 33 [(2, vi x189), (1, vi a), (0, vr 0 0)] [vr 0 0] C f_q_term_32_1 rfl ?_
              refine m_callV C Rm Y [] [] (hq9 l D B H0 ad _ hS hT_n193 p0 (by show A191 0 0 0 = p0 ∧ 0 ≤ p0 ∧ p0 ≤ 5; omega) (by show A191 0 0 24 ≤ A191 0 0 23 ∧ A191 0 0 23 ≤ A191 0 0 22; omega) pt_n193 (fun _ => by show A191 0 0 30 + 3 * A191 0 0 29 ≤ A191 0 0 24; omega) (nG.nm (A := A2) iG hE_n193) (by show A191 0 0 27 = 4 - (d : Int) ∧ (d : Int) ≤ 4; omega)) cl_Mo_225 rfl (by decide) rfl rfl e_q_term_33 rfl rfl rfl ⟨by show _ ≤ (11 + 4 * d : Nat); omega, by show _ ≤ (430 + 200 * d : Nat); omega⟩ ?_
              rintro v194 A195 ⟨z198, rfl, hT_n197, hE_n197, raw_hz_n197, raw_hb_n197, raw_hn_n197, raw_hw_n197, raw_hm_n197, raw_hG_n197, raw_hK_n197⟩
              have hF_n197 := hF_n193.trans (hE_n197.sub (fun _ _ _ h => h))
              show JM g D ad w0 A195 36 [(2, vi x189), (1, vi a), (0, vr 0 0)] [vi z198]
              have hz_n197 : 0 ≤ z198 ∧ z198 ≤ 119 := raw_hz_n197
              clear raw_hz_n197
              have hb_n197 : A195 0 0 24 ≤ A195 0 0 23 ∧ A195 0 0 23 ≤ A195 0 0 22 := raw_hb_n197
              clear raw_hb_n197
              have hm_n197 : A191 0 0 24 ≤ A195 0 0 24 ∧ A191 0 0 30 ≤ A195 0 0 30 ∧ A195 0 0 27 = A191 0 0 27 := raw_hm_n197
              clear raw_hm_n197
              have pt_n197 : pT A195 := raw_hn_n197
              have k0_n197 : A195 0 0 0 = A191 0 0 0 := hE_n197 0 0 0 rfl
              have k22_n197 : A195 0 0 22 = A191 0 0 22 := hE_n197 0 0 22 rfl
              have k28_n197 : A195 0 0 28 = A191 0 0 28 := hE_n197 0 0 28 rfl
              have k29_n197 : A195 0 0 29 = A191 0 0 29 := hE_n197 0 0 29 rfl
              have hG_n197 : nG p0.toNat A195 := raw_hG_n197
              have hK_n197 : nK p0.toNat A191 A195 := raw_hK_n197
              rcases (show A195 0 0 31 = 0 ∨ A195 0 0 31 = 1 from by have w9 := hT_n197 0 0 31; have w8 : 0 ≤ A195 0 0 31 ∧ A195 0 0 31 ≤ 1 := w9; omega) with g_n197 | g_n197
              · have u_n197 : z198 < A195 0 0 30 ∧ A191 0 0 24 - A191 0 0 30 ≤ A195 0 0 24 - A195 0 0 30 := (raw_hw_n197 g_n197).2
                refine m_blk 42 [(3, vi z198), (2, vi x189), (1, vi a), (0, vr 0 0)] [vi z198, vi a, vi 0, vi x189, vr 0 0] C f_q_term_36_6 rfl ?_
                refine m_callV C Rm Y [vi x189, vi 0, vi a, vi z198] [] (q_node l D B H0 ad _ hT_n197 p0 x189 0 a z198 (by show A195 0 0 0 = p0 ∧ 0 ≤ p0 ∧ p0 ≤ 5; omega) (fun _ => by show A195 0 0 30 ≤ 119; omega) (by show (-1 ≤ x189 ∧ x189 ≤ 255) ∧ (-1 ≤ 0 ∧ 0 ≤ 255) ∧ (-1 ≤ a ∧ a ≤ 119) ∧ (-1 ≤ z198 ∧ z198 ≤ 119); omega) hG_n197 (fun _ => by show a < A195 0 0 30 ∧ z198 < A195 0 0 30 ∧ (x189 ≠ 0 → x189 ≠ 1 → 0 ≤ a) ∧ (x189 ≠ 0 → x189 ≠ 1 → x189 ≠ 2 → 0 ≤ z198); omega)) cl_Mo_218 rfl (by decide) rfl rfl e_q_term_42 rfl rfl rfl ⟨by show _ ≤ (11 + 4 * d : Nat); omega, by show _ ≤ (430 + 200 * d : Nat); omega⟩ ?_
                rintro v199 A200 ⟨z203, rfl, hT_n202, hE_n202, raw_hz_n202, raw_hw_n202, raw_hi_n202, raw_hm_n202, raw_hG_n202, raw_hK_n202⟩
                have hF_n202 := hF_n197.trans (hE_n202.sub (nd_em _))
                show JM g D ad w0 A200 45 [(3, vi z198), (2, vi x189), (1, vi a), (0, vr 0 0)] [vi z203]
                have hz_n202 : 0 ≤ z203 ∧ z203 ≤ 119 := raw_hz_n202
                clear raw_hz_n202
                obtain ⟨b1_n202, b2_n202⟩ : A200 0 0 30 = A195 0 0 30 + 1 ∧ z203 = A195 0 0 30 := raw_hi_n202 g_n197
                clear raw_hi_n202 raw_hw_n202
                have k0_n202 : A200 0 0 0 = A195 0 0 0 := hE_n202 0 0 0 rfl
                have k22_n202 : A200 0 0 22 = A195 0 0 22 := hE_n202 0 0 22 rfl
                have k23_n202 : A200 0 0 23 = A195 0 0 23 := hE_n202 0 0 23 rfl
                have k24_n202 : A200 0 0 24 = A195 0 0 24 := hE_n202 0 0 24 rfl
                have k25_n202 : A200 0 0 25 = A195 0 0 25 := hE_n202 0 0 25 rfl
                have k26_n202 : A200 0 0 26 = A195 0 0 26 := hE_n202 0 0 26 rfl
                have k27_n202 : A200 0 0 27 = A195 0 0 27 := hE_n202 0 0 27 rfl
                have k28_n202 : A200 0 0 28 = A195 0 0 28 := hE_n202 0 0 28 rfl
                have k29_n202 : A200 0 0 29 = A195 0 0 29 := hE_n202 0 0 29 rfl
                have g_n202 : A200 0 0 31 = 0 := (hE_n202 0 0 31 rfl).trans g_n197
                have hG_n202 : nG p0.toNat A200 := raw_hG_n202
                have hK_n202 : nK p0.toNat A195 A200 := raw_hK_n202
                have pt_n202 : pT A200 := pT_eq (A := A195) pt_n197 (hE_n202 0 0 31 rfl) (hE_n202 0 0 25 rfl) (hE_n202 0 0 24 rfl) (hE_n202 0 0 23 rfl) (hE_n202 0 0 26 rfl)
                refine m_blk 5 [(1, vi z203), (3, vi z198), (2, vi x189), (0, vr 0 0)] [] C f_q_term_45_2 rfl ?_
                refine m_loc [(1, vi z203), (0, vr 0 0)] ⟨rfl, rfl, trivial⟩ ?_
                exact ih A200 z203 hT_n202 hF_n202 (by show 0 ≤ z203 ∧ z203 ≤ 119; omega) (by show A200 0 0 24 ≤ A200 0 0 23 ∧ A200 0 0 23 ≤ A200 0 0 22; omega) pt_n202 (fun _ => ⟨g0, by show z203 < A200 0 0 30; omega, by show A 0 0 24 - A 0 0 30 ≤ A200 0 0 24 - A200 0 0 30; omega⟩) (by show A 0 0 24 ≤ A200 0 0 24 ∧ A 0 0 30 ≤ A200 0 0 30 ∧ A200 0 0 27 = A 0 0 27 ∧ A200 0 0 22 = A 0 0 22 ∧ A200 0 0 0 = p0 ∧ A200 0 0 29 = A 0 0 29 ∧ A200 0 0 28 = A 0 0 28; omega) hG_n202 (nK.trans (A2 := A195) (nK.trans (A2 := A191) (nK.nm (A2 := A2) iK hE_n193) hK_n197 (by show A 0 0 30 ≤ A191 0 0 30; omega)) hK_n202 (by show A 0 0 30 ≤ A195 0 0 30; omega)) (by have hm9 := hm; show (200 - A200 0 0 24) < _; omega)
              · refine m_blk 42 [(3, vi z198), (2, vi x189), (1, vi a), (0, vr 0 0)] [vi z198, vi a, vi 0, vi x189, vr 0 0] C f_q_term_36_6 rfl ?_
                refine m_callV C Rm Y [vi x189, vi 0, vi a, vi z198] [] (q_node l D B H0 ad _ hT_n197 p0 x189 0 a z198 (by show A195 0 0 0 = p0 ∧ 0 ≤ p0 ∧ p0 ≤ 5; omega) (fun h9 => absurd ((g_n197 : A195 0 0 31 = 1).symm.trans h9) (by decide)) (by show (-1 ≤ x189 ∧ x189 ≤ 255) ∧ (-1 ≤ 0 ∧ 0 ≤ 255) ∧ (-1 ≤ a ∧ a ≤ 119) ∧ (-1 ≤ z198 ∧ z198 ≤ 119); omega) hG_n197 (fun h9 => absurd ((g_n197 : A195 0 0 31 = 1).symm.trans h9) (by decide))) cl_Mo_218 rfl (by decide) rfl rfl e_q_term_42 rfl rfl rfl ⟨by show _ ≤ (11 + 4 * d : Nat); omega, by show _ ≤ (430 + 200 * d : Nat); omega⟩ ?_
                rintro v204 A205 ⟨z208, rfl, hT_n207, hE_n207, raw_hz_n207, raw_hw_n207, raw_hi_n207, raw_hm_n207, raw_hG_n207, raw_hK_n207⟩
                have hF_n207 := hF_n197.trans (hE_n207.sub (nd_em _))
                show JM g D ad w0 A205 45 [(3, vi z198), (2, vi x189), (1, vi a), (0, vr 0 0)] [vi z208]
                have hz_n207 : 0 ≤ z208 ∧ z208 ≤ 119 := raw_hz_n207
                clear raw_hz_n207
                have ee_n207 := (raw_hw_n207 g_n197).symm
                subst ee_n207
                show JM g D ad w0 A195 45 [(3, vi z198), (2, vi x189), (1, vi a), (0, vr 0 0)] [vi z208]
                refine m_blk 5 [(1, vi z208), (3, vi z198), (2, vi x189), (0, vr 0 0)] [] C f_q_term_45_2 rfl ?_
                refine m_loc [(1, vi z208), (0, vr 0 0)] ⟨rfl, rfl, trivial⟩ ?_
                exact ih A195 z208 hT_n197 hF_n197 (by show 0 ≤ z208 ∧ z208 ≤ 119; omega) (by show A195 0 0 24 ≤ A195 0 0 23 ∧ A195 0 0 23 ≤ A195 0 0 22; omega) pt_n197 (fun h9 => absurd ((g_n197 : A195 0 0 31 = 1).symm.trans h9) (by decide)) (by show A 0 0 24 ≤ A195 0 0 24 ∧ A 0 0 30 ≤ A195 0 0 30 ∧ A195 0 0 27 = A 0 0 27 ∧ A195 0 0 22 = A 0 0 22 ∧ A195 0 0 0 = p0 ∧ A195 0 0 29 = A 0 0 29 ∧ A195 0 0 28 = A 0 0 28; omega) hG_n197 (nK.trans (A2 := A191) (nK.nm (A2 := A2) iK hE_n193) hK_n197 (by show A 0 0 30 ≤ A191 0 0 30; omega)) (by have hm9 := hm; show (200 - A195 0 0 24) < _; omega)
            · refine m_blk 33 [(2, vi x189), (1, vi a), (0, vr 0 0)] [vr 0 0] C f_q_term_32_1 rfl ?_
              refine m_callV C Rm Y [] [] (hq9 l D B H0 ad _ hS hT_n193 p0 (by show A191 0 0 0 = p0 ∧ 0 ≤ p0 ∧ p0 ≤ 5; omega) (by show A191 0 0 24 ≤ A191 0 0 23 ∧ A191 0 0 23 ≤ A191 0 0 22; omega) pt_n193 (fun h9 => absurd ((g_n193 : A191 0 0 31 = 1).symm.trans h9) (by decide)) (nG.nm (A := A2) iG hE_n193) (by show A191 0 0 27 = 4 - (d : Int) ∧ (d : Int) ≤ 4; omega)) cl_Mo_225 rfl (by decide) rfl rfl e_q_term_33 rfl rfl rfl ⟨by show _ ≤ (11 + 4 * d : Nat); omega, by show _ ≤ (430 + 200 * d : Nat); omega⟩ ?_
              rintro v209 A210 ⟨z213, rfl, hT_n212, hE_n212, raw_hz_n212, raw_hb_n212, raw_hn_n212, raw_hw_n212, raw_hm_n212, raw_hG_n212, raw_hK_n212⟩
              have hF_n212 := hF_n193.trans (hE_n212.sub (fun _ _ _ h => h))
              show JM g D ad w0 A210 36 [(2, vi x189), (1, vi a), (0, vr 0 0)] [vi z213]
              have hz_n212 : 0 ≤ z213 ∧ z213 ≤ 119 := raw_hz_n212
              clear raw_hz_n212
              have hb_n212 : A210 0 0 24 ≤ A210 0 0 23 ∧ A210 0 0 23 ≤ A210 0 0 22 := raw_hb_n212
              clear raw_hb_n212
              have hm_n212 : A191 0 0 24 ≤ A210 0 0 24 ∧ A191 0 0 30 ≤ A210 0 0 30 ∧ A210 0 0 27 = A191 0 0 27 := raw_hm_n212
              clear raw_hm_n212
              have pt_n212 : pT A210 := raw_hn_n212
              have k0_n212 : A210 0 0 0 = A191 0 0 0 := hE_n212 0 0 0 rfl
              have k22_n212 : A210 0 0 22 = A191 0 0 22 := hE_n212 0 0 22 rfl
              have k28_n212 : A210 0 0 28 = A191 0 0 28 := hE_n212 0 0 28 rfl
              have k29_n212 : A210 0 0 29 = A191 0 0 29 := hE_n212 0 0 29 rfl
              have hG_n212 : nG p0.toNat A210 := raw_hG_n212
              have hK_n212 : nK p0.toNat A191 A210 := raw_hK_n212
              have g_n212 : A210 0 0 31 = 1 := wr_1 (hT_n212 0 0 31) (fun h9 => absurd ((g_n193 : A191 0 0 31 = 1).symm.trans (raw_hw_n212 h9).1) (by decide))
              refine m_blk 42 [(3, vi z213), (2, vi x189), (1, vi a), (0, vr 0 0)] [vi z213, vi a, vi 0, vi x189, vr 0 0] C f_q_term_36_6 rfl ?_
              refine m_callV C Rm Y [vi x189, vi 0, vi a, vi z213] [] (q_node l D B H0 ad _ hT_n212 p0 x189 0 a z213 (by show A210 0 0 0 = p0 ∧ 0 ≤ p0 ∧ p0 ≤ 5; omega) (fun h9 => absurd ((g_n212 : A210 0 0 31 = 1).symm.trans h9) (by decide)) (by show (-1 ≤ x189 ∧ x189 ≤ 255) ∧ (-1 ≤ 0 ∧ 0 ≤ 255) ∧ (-1 ≤ a ∧ a ≤ 119) ∧ (-1 ≤ z213 ∧ z213 ≤ 119); omega) hG_n212 (fun h9 => absurd ((g_n212 : A210 0 0 31 = 1).symm.trans h9) (by decide))) cl_Mo_218 rfl (by decide) rfl rfl e_q_term_42 rfl rfl rfl ⟨by show _ ≤ (11 + 4 * d : Nat); omega, by show _ ≤ (430 + 200 * d : Nat); omega⟩ ?_
              rintro v214 A215 ⟨z218, rfl, hT_n217, hE_n217, raw_hz_n217, raw_hw_n217, raw_hi_n217, raw_hm_n217, raw_hG_n217, raw_hK_n217⟩
              have hF_n217 := hF_n212.trans (hE_n217.sub (nd_em _))
              show JM g D ad w0 A215 45 [(3, vi z213), (2, vi x189), (1, vi a), (0, vr 0 0)] [vi z218]
              have hz_n217 : 0 ≤ z218 ∧ z218 ≤ 119 := raw_hz_n217
              clear raw_hz_n217
              have ee_n217 := (raw_hw_n217 g_n212).symm
              subst ee_n217
              show JM g D ad w0 A210 45 [(3, vi z213), (2, vi x189), (1, vi a), (0, vr 0 0)] [vi z218]
              refine m_blk 5 [(1, vi z218), (3, vi z213), (2, vi x189), (0, vr 0 0)] [] C f_q_term_45_2 rfl ?_
              refine m_loc [(1, vi z218), (0, vr 0 0)] ⟨rfl, rfl, trivial⟩ ?_
              exact ih A210 z218 hT_n212 hF_n212 (by show 0 ≤ z218 ∧ z218 ≤ 119; omega) (by show A210 0 0 24 ≤ A210 0 0 23 ∧ A210 0 0 23 ≤ A210 0 0 22; omega) pt_n212 (fun h9 => absurd ((g_n212 : A210 0 0 31 = 1).symm.trans h9) (by decide)) (by show A 0 0 24 ≤ A210 0 0 24 ∧ A 0 0 30 ≤ A210 0 0 30 ∧ A210 0 0 27 = A 0 0 27 ∧ A210 0 0 22 = A 0 0 22 ∧ A210 0 0 0 = p0 ∧ A210 0 0 29 = A 0 0 29 ∧ A210 0 0 28 = A 0 0 28; omega) hG_n212 (nK.trans (A2 := A191) (nK.nm (A2 := A2) iK hE_n193) hK_n212 (by show A 0 0 30 ≤ A191 0 0 30; omega)) (by have hm9 := hm; show (200 - A210 0 0 24) < _; omega)
          · subst e_n186
            clear hz_n186
            refine m_if_ne (tgt := 23) C e_q_term_11 (by decide) (by decide) (fun c219 => (by omega : False).elim) (fun c219 => ?_)
            refine m_blk 17 [(1, vi a), (0, vr 0 0)] [vi 37, vr 0 0] C f_q_term_14_2 rfl ?_
            refine m_callV C Rm Y [vi 37] [] (q_isSign l D B H0 ad _ hT2 37 (by show -2147483648 ≤ 37 ∧ 37 ≤ 2147483647; omega)) cl_Mo_173 rfl (by decide) rfl rfl e_q_term_17 rfl rfl rfl ⟨by show _ ≤ (11 + 4 * d : Nat); omega, by show _ ≤ (430 + 200 * d : Nat); omega⟩ ?_
            rintro v220 A221 ⟨z224, rfl, rfl, raw_hz_n223⟩
            show JM g D ad w0 A2 20 [(1, vi a), (0, vr 0 0)] [vi z224]
            have hz_n223 : z224 = 1 ∧ A2 0 0 31 = 0 ∧ A2 0 0 25 = 4 ∧ A2 0 0 26 = 37 ∨ z224 = 0 ∧ ¬ (A2 0 0 31 = 0 ∧ A2 0 0 25 = 4 ∧ A2 0 0 26 = 37) := raw_hz_n223
            clear raw_hz_n223
            rcases hz_n223 with ⟨e_n223, hz_n223⟩ | ⟨e_n223, hz_n223⟩
            · subst e_n223
              have bt_n223 : A2 0 0 24 < A2 0 0 23 := pT_lt (A := A2) iT hz_n223.1 (by show ¬ A2 0 0 25 = 0; omega)
              refine m_if_eq (tgt := 49) C e_q_term_20 (by decide) (by decide) (fun c225 => (by omega : False).elim) (fun c225 => ?_)
              refine m_blk 24 [(1, vi a), (0, vr 0 0)] [vr 0 0] C f_q_term_23_1 rfl ?_
              obtain ⟨x226, hx226⟩ : ∃ x, A2 0 0 26 = x := ⟨_, rfl⟩
              have rx226 : (-1) ≤ x226 ∧ x226 ≤ 255 := mrg hT2 hx226 rfl
              refine m_geti C e_q_term_24 fg_Mo_165 rfl (by decide) rfl x226 hx226 ?_
              refine m_blk 29 [(2, vi x226), (1, vi a), (0, vr 0 0)] [vr 0 0] C f_q_term_27_2 rfl ?_
              refine m_callV C Rm Y [] [] (q_next l D B H0 ad _ hS hT2 (by show A2 0 0 23 ≤ A2 0 0 22; omega)) cl_Mo_176 rfl (by decide) rfl rfl e_q_term_29 rfl rfl rfl ⟨by show _ ≤ (11 + 4 * d : Nat); omega, by show _ ≤ (430 + 200 * d : Nat); omega⟩ ?_
              rintro v227 A228 ⟨rfl, hT_n230, hE_n230, raw_hw_n230, raw_hb_n230⟩
              have hF_n230 := hE2.trans (hE_n230.sub (nm_em _))
              show JM g D ad w0 A228 32 [(2, vi x226), (1, vi a), (0, vr 0 0)] []
              obtain ⟨b1_n230, b2_n230, b3_n230, pt_n230⟩ : A2 0 0 23 ≤ A228 0 0 24 ∧ A228 0 0 24 ≤ A228 0 0 23 ∧ A228 0 0 23 ≤ A228 0 0 22 ∧ pT A228 := raw_hb_n230 g2
              clear raw_hb_n230 raw_hw_n230
              have k0_n230 : A228 0 0 0 = A2 0 0 0 := hE_n230 0 0 0 rfl
              have k22_n230 : A228 0 0 22 = A2 0 0 22 := hE_n230 0 0 22 rfl
              have k27_n230 : A228 0 0 27 = A2 0 0 27 := hE_n230 0 0 27 rfl
              have k28_n230 : A228 0 0 28 = A2 0 0 28 := hE_n230 0 0 28 rfl
              have k29_n230 : A228 0 0 29 = A2 0 0 29 := hE_n230 0 0 29 rfl
              have k30_n230 : A228 0 0 30 = A2 0 0 30 := hE_n230 0 0 30 rfl
              rcases (show A228 0 0 31 = 0 ∨ A228 0 0 31 = 1 from by have w9 := hT_n230 0 0 31; have w8 : 0 ≤ A228 0 0 31 ∧ A228 0 0 31 ≤ 1 := w9; omega) with g_n230 | g_n230
              · refine m_blk 33 [(2, vi x226), (1, vi a), (0, vr 0 0)] [vr 0 0] C f_q_term_32_1 rfl ?_
                refine m_callV C Rm Y [] [] (hq9 l D B H0 ad _ hS hT_n230 p0 (by show A228 0 0 0 = p0 ∧ 0 ≤ p0 ∧ p0 ≤ 5; omega) (by show A228 0 0 24 ≤ A228 0 0 23 ∧ A228 0 0 23 ≤ A228 0 0 22; omega) pt_n230 (fun _ => by show A228 0 0 30 + 3 * A228 0 0 29 ≤ A228 0 0 24; omega) (nG.nm (A := A2) iG hE_n230) (by show A228 0 0 27 = 4 - (d : Int) ∧ (d : Int) ≤ 4; omega)) cl_Mo_225 rfl (by decide) rfl rfl e_q_term_33 rfl rfl rfl ⟨by show _ ≤ (11 + 4 * d : Nat); omega, by show _ ≤ (430 + 200 * d : Nat); omega⟩ ?_
                rintro v231 A232 ⟨z235, rfl, hT_n234, hE_n234, raw_hz_n234, raw_hb_n234, raw_hn_n234, raw_hw_n234, raw_hm_n234, raw_hG_n234, raw_hK_n234⟩
                have hF_n234 := hF_n230.trans (hE_n234.sub (fun _ _ _ h => h))
                show JM g D ad w0 A232 36 [(2, vi x226), (1, vi a), (0, vr 0 0)] [vi z235]
                have hz_n234 : 0 ≤ z235 ∧ z235 ≤ 119 := raw_hz_n234
                clear raw_hz_n234
                have hb_n234 : A232 0 0 24 ≤ A232 0 0 23 ∧ A232 0 0 23 ≤ A232 0 0 22 := raw_hb_n234
                clear raw_hb_n234
                have hm_n234 : A228 0 0 24 ≤ A232 0 0 24 ∧ A228 0 0 30 ≤ A232 0 0 30 ∧ A232 0 0 27 = A228 0 0 27 := raw_hm_n234
                clear raw_hm_n234
                have pt_n234 : pT A232 := raw_hn_n234
                have k0_n234 : A232 0 0 0 = A228 0 0 0 := hE_n234 0 0 0 rfl
                have k22_n234 : A232 0 0 22 = A228 0 0 22 := hE_n234 0 0 22 rfl
                have k28_n234 : A232 0 0 28 = A228 0 0 28 := hE_n234 0 0 28 rfl
                have k29_n234 : A232 0 0 29 = A228 0 0 29 := hE_n234 0 0 29 rfl
                have hG_n234 : nG p0.toNat A232 := raw_hG_n234
                have hK_n234 : nK p0.toNat A228 A232 := raw_hK_n234
                rcases (show A232 0 0 31 = 0 ∨ A232 0 0 31 = 1 from by have w9 := hT_n234 0 0 31; have w8 : 0 ≤ A232 0 0 31 ∧ A232 0 0 31 ≤ 1 := w9; omega) with g_n234 | g_n234
                · have u_n234 : z235 < A232 0 0 30 ∧ A228 0 0 24 - A228 0 0 30 ≤ A232 0 0 24 - A232 0 0 30 := (raw_hw_n234 g_n234).2
                  refine m_blk 42 [(3, vi z235), (2, vi x226), (1, vi a), (0, vr 0 0)] [vi z235, vi a, vi 0, vi x226, vr 0 0] C f_q_term_36_6 rfl ?_
                  refine m_callV C Rm Y [vi x226, vi 0, vi a, vi z235] [] (q_node l D B H0 ad _ hT_n234 p0 x226 0 a z235 (by show A232 0 0 0 = p0 ∧ 0 ≤ p0 ∧ p0 ≤ 5; omega) (fun _ => by show A232 0 0 30 ≤ 119; omega) (by show (-1 ≤ x226 ∧ x226 ≤ 255) ∧ (-1 ≤ 0 ∧ 0 ≤ 255) ∧ (-1 ≤ a ∧ a ≤ 119) ∧ (-1 ≤ z235 ∧ z235 ≤ 119); omega) hG_n234 (fun _ => by show a < A232 0 0 30 ∧ z235 < A232 0 0 30 ∧ (x226 ≠ 0 → x226 ≠ 1 → 0 ≤ a) ∧ (x226 ≠ 0 → x226 ≠ 1 → x226 ≠ 2 → 0 ≤ z235); omega)) cl_Mo_218 rfl (by decide) rfl rfl e_q_term_42 rfl rfl rfl ⟨by show _ ≤ (11 + 4 * d : Nat); omega, by show _ ≤ (430 + 200 * d : Nat); omega⟩ ?_
                  rintro v236 A237 ⟨z240, rfl, hT_n239, hE_n239, raw_hz_n239, raw_hw_n239, raw_hi_n239, raw_hm_n239, raw_hG_n239, raw_hK_n239⟩
                  have hF_n239 := hF_n234.trans (hE_n239.sub (nd_em _))
                  show JM g D ad w0 A237 45 [(3, vi z235), (2, vi x226), (1, vi a), (0, vr 0 0)] [vi z240]
                  have hz_n239 : 0 ≤ z240 ∧ z240 ≤ 119 := raw_hz_n239
                  clear raw_hz_n239
                  obtain ⟨b1_n239, b2_n239⟩ : A237 0 0 30 = A232 0 0 30 + 1 ∧ z240 = A232 0 0 30 := raw_hi_n239 g_n234
                  clear raw_hi_n239 raw_hw_n239
                  have k0_n239 : A237 0 0 0 = A232 0 0 0 := hE_n239 0 0 0 rfl
                  have k22_n239 : A237 0 0 22 = A232 0 0 22 := hE_n239 0 0 22 rfl
                  have k23_n239 : A237 0 0 23 = A232 0 0 23 := hE_n239 0 0 23 rfl
                  have k24_n239 : A237 0 0 24 = A232 0 0 24 := hE_n239 0 0 24 rfl
                  have k25_n239 : A237 0 0 25 = A232 0 0 25 := hE_n239 0 0 25 rfl
                  have k26_n239 : A237 0 0 26 = A232 0 0 26 := hE_n239 0 0 26 rfl
                  have k27_n239 : A237 0 0 27 = A232 0 0 27 := hE_n239 0 0 27 rfl
                  have k28_n239 : A237 0 0 28 = A232 0 0 28 := hE_n239 0 0 28 rfl
                  have k29_n239 : A237 0 0 29 = A232 0 0 29 := hE_n239 0 0 29 rfl
                  have g_n239 : A237 0 0 31 = 0 := (hE_n239 0 0 31 rfl).trans g_n234
                  have hG_n239 : nG p0.toNat A237 := raw_hG_n239
                  have hK_n239 : nK p0.toNat A232 A237 := raw_hK_n239
                  have pt_n239 : pT A237 := pT_eq (A := A232) pt_n234 (hE_n239 0 0 31 rfl) (hE_n239 0 0 25 rfl) (hE_n239 0 0 24 rfl) (hE_n239 0 0 23 rfl) (hE_n239 0 0 26 rfl)
                  refine m_blk 5 [(1, vi z240), (3, vi z235), (2, vi x226), (0, vr 0 0)] [] C f_q_term_45_2 rfl ?_
                  refine m_loc [(1, vi z240), (0, vr 0 0)] ⟨rfl, rfl, trivial⟩ ?_
                  exact ih A237 z240 hT_n239 hF_n239 (by show 0 ≤ z240 ∧ z240 ≤ 119; omega) (by show A237 0 0 24 ≤ A237 0 0 23 ∧ A237 0 0 23 ≤ A237 0 0 22; omega) pt_n239 (fun _ => ⟨g0, by show z240 < A237 0 0 30; omega, by show A 0 0 24 - A 0 0 30 ≤ A237 0 0 24 - A237 0 0 30; omega⟩) (by show A 0 0 24 ≤ A237 0 0 24 ∧ A 0 0 30 ≤ A237 0 0 30 ∧ A237 0 0 27 = A 0 0 27 ∧ A237 0 0 22 = A 0 0 22 ∧ A237 0 0 0 = p0 ∧ A237 0 0 29 = A 0 0 29 ∧ A237 0 0 28 = A 0 0 28; omega) hG_n239 (nK.trans (A2 := A232) (nK.trans (A2 := A228) (nK.nm (A2 := A2) iK hE_n230) hK_n234 (by show A 0 0 30 ≤ A228 0 0 30; omega)) hK_n239 (by show A 0 0 30 ≤ A232 0 0 30; omega)) (by have hm9 := hm; show (200 - A237 0 0 24) < _; omega)
                · refine m_blk 42 [(3, vi z235), (2, vi x226), (1, vi a), (0, vr 0 0)] [vi z235, vi a, vi 0, vi x226, vr 0 0] C f_q_term_36_6 rfl ?_
                  refine m_callV C Rm Y [vi x226, vi 0, vi a, vi z235] [] (q_node l D B H0 ad _ hT_n234 p0 x226 0 a z235 (by show A232 0 0 0 = p0 ∧ 0 ≤ p0 ∧ p0 ≤ 5; omega) (fun h9 => absurd ((g_n234 : A232 0 0 31 = 1).symm.trans h9) (by decide)) (by show (-1 ≤ x226 ∧ x226 ≤ 255) ∧ (-1 ≤ 0 ∧ 0 ≤ 255) ∧ (-1 ≤ a ∧ a ≤ 119) ∧ (-1 ≤ z235 ∧ z235 ≤ 119); omega) hG_n234 (fun h9 => absurd ((g_n234 : A232 0 0 31 = 1).symm.trans h9) (by decide))) cl_Mo_218 rfl (by decide) rfl rfl e_q_term_42 rfl rfl rfl ⟨by show _ ≤ (11 + 4 * d : Nat); omega, by show _ ≤ (430 + 200 * d : Nat); omega⟩ ?_
                  rintro v241 A242 ⟨z245, rfl, hT_n244, hE_n244, raw_hz_n244, raw_hw_n244, raw_hi_n244, raw_hm_n244, raw_hG_n244, raw_hK_n244⟩
                  have hF_n244 := hF_n234.trans (hE_n244.sub (nd_em _))
                  show JM g D ad w0 A242 45 [(3, vi z235), (2, vi x226), (1, vi a), (0, vr 0 0)] [vi z245]
                  have hz_n244 : 0 ≤ z245 ∧ z245 ≤ 119 := raw_hz_n244
                  clear raw_hz_n244
                  have ee_n244 := (raw_hw_n244 g_n234).symm
                  subst ee_n244
                  show JM g D ad w0 A232 45 [(3, vi z235), (2, vi x226), (1, vi a), (0, vr 0 0)] [vi z245]
                  refine m_blk 5 [(1, vi z245), (3, vi z235), (2, vi x226), (0, vr 0 0)] [] C f_q_term_45_2 rfl ?_
                  refine m_loc [(1, vi z245), (0, vr 0 0)] ⟨rfl, rfl, trivial⟩ ?_
                  exact ih A232 z245 hT_n234 hF_n234 (by show 0 ≤ z245 ∧ z245 ≤ 119; omega) (by show A232 0 0 24 ≤ A232 0 0 23 ∧ A232 0 0 23 ≤ A232 0 0 22; omega) pt_n234 (fun h9 => absurd ((g_n234 : A232 0 0 31 = 1).symm.trans h9) (by decide)) (by show A 0 0 24 ≤ A232 0 0 24 ∧ A 0 0 30 ≤ A232 0 0 30 ∧ A232 0 0 27 = A 0 0 27 ∧ A232 0 0 22 = A 0 0 22 ∧ A232 0 0 0 = p0 ∧ A232 0 0 29 = A 0 0 29 ∧ A232 0 0 28 = A 0 0 28; omega) hG_n234 (nK.trans (A2 := A228) (nK.nm (A2 := A2) iK hE_n230) hK_n234 (by show A 0 0 30 ≤ A228 0 0 30; omega)) (by have hm9 := hm; show (200 - A232 0 0 24) < _; omega)
              · refine m_blk 33 [(2, vi x226), (1, vi a), (0, vr 0 0)] [vr 0 0] C f_q_term_32_1 rfl ?_
                refine m_callV C Rm Y [] [] (hq9 l D B H0 ad _ hS hT_n230 p0 (by show A228 0 0 0 = p0 ∧ 0 ≤ p0 ∧ p0 ≤ 5; omega) (by show A228 0 0 24 ≤ A228 0 0 23 ∧ A228 0 0 23 ≤ A228 0 0 22; omega) pt_n230 (fun h9 => absurd ((g_n230 : A228 0 0 31 = 1).symm.trans h9) (by decide)) (nG.nm (A := A2) iG hE_n230) (by show A228 0 0 27 = 4 - (d : Int) ∧ (d : Int) ≤ 4; omega)) cl_Mo_225 rfl (by decide) rfl rfl e_q_term_33 rfl rfl rfl ⟨by show _ ≤ (11 + 4 * d : Nat); omega, by show _ ≤ (430 + 200 * d : Nat); omega⟩ ?_
                rintro v246 A247 ⟨z250, rfl, hT_n249, hE_n249, raw_hz_n249, raw_hb_n249, raw_hn_n249, raw_hw_n249, raw_hm_n249, raw_hG_n249, raw_hK_n249⟩
                have hF_n249 := hF_n230.trans (hE_n249.sub (fun _ _ _ h => h))
                show JM g D ad w0 A247 36 [(2, vi x226), (1, vi a), (0, vr 0 0)] [vi z250]
                have hz_n249 : 0 ≤ z250 ∧ z250 ≤ 119 := raw_hz_n249
                clear raw_hz_n249
                have hb_n249 : A247 0 0 24 ≤ A247 0 0 23 ∧ A247 0 0 23 ≤ A247 0 0 22 := raw_hb_n249
                clear raw_hb_n249
                have hm_n249 : A228 0 0 24 ≤ A247 0 0 24 ∧ A228 0 0 30 ≤ A247 0 0 30 ∧ A247 0 0 27 = A228 0 0 27 := raw_hm_n249
                clear raw_hm_n249
                have pt_n249 : pT A247 := raw_hn_n249
                have k0_n249 : A247 0 0 0 = A228 0 0 0 := hE_n249 0 0 0 rfl
                have k22_n249 : A247 0 0 22 = A228 0 0 22 := hE_n249 0 0 22 rfl
                have k28_n249 : A247 0 0 28 = A228 0 0 28 := hE_n249 0 0 28 rfl
                have k29_n249 : A247 0 0 29 = A228 0 0 29 := hE_n249 0 0 29 rfl
                have hG_n249 : nG p0.toNat A247 := raw_hG_n249
                have hK_n249 : nK p0.toNat A228 A247 := raw_hK_n249
                have g_n249 : A247 0 0 31 = 1 := wr_1 (hT_n249 0 0 31) (fun h9 => absurd ((g_n230 : A228 0 0 31 = 1).symm.trans (raw_hw_n249 h9).1) (by decide))
                refine m_blk 42 [(3, vi z250), (2, vi x226), (1, vi a), (0, vr 0 0)] [vi z250, vi a, vi 0, vi x226, vr 0 0] C f_q_term_36_6 rfl ?_
                refine m_callV C Rm Y [vi x226, vi 0, vi a, vi z250] [] (q_node l D B H0 ad _ hT_n249 p0 x226 0 a z250 (by show A247 0 0 0 = p0 ∧ 0 ≤ p0 ∧ p0 ≤ 5; omega) (fun h9 => absurd ((g_n249 : A247 0 0 31 = 1).symm.trans h9) (by decide)) (by show (-1 ≤ x226 ∧ x226 ≤ 255) ∧ (-1 ≤ 0 ∧ 0 ≤ 255) ∧ (-1 ≤ a ∧ a ≤ 119) ∧ (-1 ≤ z250 ∧ z250 ≤ 119); omega) hG_n249 (fun h9 => absurd ((g_n249 : A247 0 0 31 = 1).symm.trans h9) (by decide))) cl_Mo_218 rfl (by decide) rfl rfl e_q_term_42 rfl rfl rfl ⟨by show _ ≤ (11 + 4 * d : Nat); omega, by show _ ≤ (430 + 200 * d : Nat); omega⟩ ?_
                rintro v251 A252 ⟨z255, rfl, hT_n254, hE_n254, raw_hz_n254, raw_hw_n254, raw_hi_n254, raw_hm_n254, raw_hG_n254, raw_hK_n254⟩
                have hF_n254 := hF_n249.trans (hE_n254.sub (nd_em _))
                show JM g D ad w0 A252 45 [(3, vi z250), (2, vi x226), (1, vi a), (0, vr 0 0)] [vi z255]
                have hz_n254 : 0 ≤ z255 ∧ z255 ≤ 119 := raw_hz_n254
                clear raw_hz_n254
                have ee_n254 := (raw_hw_n254 g_n249).symm
                subst ee_n254
                show JM g D ad w0 A247 45 [(3, vi z250), (2, vi x226), (1, vi a), (0, vr 0 0)] [vi z255]
                refine m_blk 5 [(1, vi z255), (3, vi z250), (2, vi x226), (0, vr 0 0)] [] C f_q_term_45_2 rfl ?_
                refine m_loc [(1, vi z255), (0, vr 0 0)] ⟨rfl, rfl, trivial⟩ ?_
                exact ih A247 z255 hT_n249 hF_n249 (by show 0 ≤ z255 ∧ z255 ≤ 119; omega) (by show A247 0 0 24 ≤ A247 0 0 23 ∧ A247 0 0 23 ≤ A247 0 0 22; omega) pt_n249 (fun h9 => absurd ((g_n249 : A247 0 0 31 = 1).symm.trans h9) (by decide)) (by show A 0 0 24 ≤ A247 0 0 24 ∧ A 0 0 30 ≤ A247 0 0 30 ∧ A247 0 0 27 = A 0 0 27 ∧ A247 0 0 22 = A 0 0 22 ∧ A247 0 0 0 = p0 ∧ A247 0 0 29 = A 0 0 29 ∧ A247 0 0 28 = A 0 0 28; omega) hG_n249 (nK.trans (A2 := A228) (nK.nm (A2 := A2) iK hE_n230) hK_n249 (by show A 0 0 30 ≤ A228 0 0 30; omega)) (by have hm9 := hm; show (200 - A247 0 0 24) < _; omega)
            · subst e_n223
              clear hz_n223
              refine m_if_eq (tgt := 49) C e_q_term_20 (by decide) (by decide) (fun c256 => ?_) (fun c256 => (by omega : False).elim)
              refine m_blk 50 [(1, vi a), (0, vr 0 0)] [vi a] C f_q_term_49_1 rfl ?_
              exact m_iret C Rm E e_q_term_50 ⟨a, rfl, hT2, hE2, (by show 0 ≤ a ∧ a ≤ 119; omega), (by show A2 0 0 24 ≤ A2 0 0 23 ∧ A2 0 0 23 ≤ A2 0 0 22; omega), iT, (fun _ => ⟨g0, (by show a < A2 0 0 30; omega), (by show A 0 0 24 - A 0 0 30 ≤ A2 0 0 24 - A2 0 0 30; omega)⟩), (by show A 0 0 24 ≤ A2 0 0 24 ∧ A 0 0 30 ≤ A2 0 0 30 ∧ A2 0 0 27 = A 0 0 27; omega), iG, iK⟩
        · refine m_blk 8 [(1, vi a), (0, vr 0 0)] [vi 42, vr 0 0] C f_q_term_5_2 rfl ?_
          refine m_callV C Rm Y [vi 42] [] (q_isSign l D B H0 ad _ hT2 42 (by show -2147483648 ≤ 42 ∧ 42 ≤ 2147483647; omega)) cl_Mo_173 rfl (by decide) rfl rfl e_q_term_8 rfl rfl rfl ⟨by show _ ≤ (11 + 4 * d : Nat); omega, by show _ ≤ (430 + 200 * d : Nat); omega⟩ ?_
          rintro v257 A258 ⟨z261, rfl, rfl, raw_hz_n260⟩
          show JM g D ad w0 A2 11 [(1, vi a), (0, vr 0 0)] [vi z261]
          have hz_n260 : z261 = 1 ∧ A2 0 0 31 = 0 ∧ A2 0 0 25 = 4 ∧ A2 0 0 26 = 42 ∨ z261 = 0 ∧ ¬ (A2 0 0 31 = 0 ∧ A2 0 0 25 = 4 ∧ A2 0 0 26 = 42) := raw_hz_n260
          clear raw_hz_n260
          rcases hz_n260 with ⟨e_n260, hz_n260⟩ | ⟨e_n260, hz_n260⟩
          · subst e_n260
            exact (by omega : False).elim
          · subst e_n260
            clear hz_n260
            refine m_if_ne (tgt := 23) C e_q_term_11 (by decide) (by decide) (fun c262 => (by omega : False).elim) (fun c262 => ?_)
            refine m_blk 17 [(1, vi a), (0, vr 0 0)] [vi 37, vr 0 0] C f_q_term_14_2 rfl ?_
            refine m_callV C Rm Y [vi 37] [] (q_isSign l D B H0 ad _ hT2 37 (by show -2147483648 ≤ 37 ∧ 37 ≤ 2147483647; omega)) cl_Mo_173 rfl (by decide) rfl rfl e_q_term_17 rfl rfl rfl ⟨by show _ ≤ (11 + 4 * d : Nat); omega, by show _ ≤ (430 + 200 * d : Nat); omega⟩ ?_
            rintro v263 A264 ⟨z267, rfl, rfl, raw_hz_n266⟩
            show JM g D ad w0 A2 20 [(1, vi a), (0, vr 0 0)] [vi z267]
            have hz_n266 : z267 = 1 ∧ A2 0 0 31 = 0 ∧ A2 0 0 25 = 4 ∧ A2 0 0 26 = 37 ∨ z267 = 0 ∧ ¬ (A2 0 0 31 = 0 ∧ A2 0 0 25 = 4 ∧ A2 0 0 26 = 37) := raw_hz_n266
            clear raw_hz_n266
            rcases hz_n266 with ⟨e_n266, hz_n266⟩ | ⟨e_n266, hz_n266⟩
            · subst e_n266
              exact (by omega : False).elim
            · subst e_n266
              clear hz_n266
              refine m_if_eq (tgt := 49) C e_q_term_20 (by decide) (by decide) (fun c268 => ?_) (fun c268 => (by omega : False).elim)
              refine m_blk 50 [(1, vi a), (0, vr 0 0)] [vi a] C f_q_term_49_1 rfl ?_
              exact m_iret C Rm E e_q_term_50 ⟨a, rfl, hT2, hE2, (by show 0 ≤ a ∧ a ≤ 119; omega), (by show A2 0 0 24 ≤ A2 0 0 23 ∧ A2 0 0 23 ≤ A2 0 0 22; omega), iT, (fun h9 => absurd ((g2 : A2 0 0 31 = 1).symm.trans h9) (by decide)), (by show A 0 0 24 ≤ A2 0 0 24 ∧ A 0 0 30 ≤ A2 0 0 30 ∧ A2 0 0 27 = A 0 0 27; omega), iG, iK⟩
    refine m_loc [(1, vi z182), (0, vr 0 0)] ⟨rfl, rfl, trivial⟩ ?_
    exact hd_5 (Int.toNat ((200 - A179 0 0 24)) + 1) A179 z182 hT_n181 hF_n181 (by show 0 ≤ z182 ∧ z182 ≤ 119; omega) (by show A179 0 0 24 ≤ A179 0 0 23 ∧ A179 0 0 23 ≤ A179 0 0 22; omega) pt_n181 (fun h9 => absurd ((g_n181 : A179 0 0 31 = 1).symm.trans h9) (by decide)) (by show A 0 0 24 ≤ A179 0 0 24 ∧ A 0 0 30 ≤ A179 0 0 30 ∧ A179 0 0 27 = A 0 0 27 ∧ A179 0 0 22 = A 0 0 22 ∧ A179 0 0 0 = p0 ∧ A179 0 0 29 = A 0 0 29 ∧ A179 0 0 28 = A 0 0 28; omega) hG_n181 (nK.trans (A2 := A) nK.rfl' hK_n181 (by show A 0 0 30 ≤ A 0 0 30; omega)) (by show (200 - A179 0 0 24) < _; omega)

theorem f_q_sum_0_1 : mblkB b_Mo_sum [(0, .aload_n 0, vi 0)] = true := by decide +kernel
theorem e_q_sum_1 : decode b_Mo_sum 1 = .ok (.invokevirtual 222, 3) := by decide +kernel
theorem f_q_sum_4_1 : mblkB b_Mo_sum [(4, .istore_n 1, vi 0)] = true := by decide +kernel
theorem f_q_sum_5_2 : mblkB b_Mo_sum [(5, .aload_n 0, vi 0), (6, .bipush 43, vi 43)] = true := by decide +kernel
theorem e_q_sum_8 : decode b_Mo_sum 8 = .ok (.invokevirtual 173, 3) := by decide +kernel
theorem e_q_sum_11 : decode b_Mo_sum 11 = .ok (.ifCond .ne 12, 3) := by decide +kernel
theorem f_q_sum_23_1 : mblkB b_Mo_sum [(23, .aload_n 0, vi 0)] = true := by decide +kernel
theorem e_q_sum_24 : decode b_Mo_sum 24 = .ok (.getfield 165, 3) := by decide +kernel
theorem f_q_sum_27_2 : mblkB b_Mo_sum [(27, .istore_n 2, vi 0), (28, .aload_n 0, vi 0)] = true := by decide +kernel
theorem e_q_sum_29 : decode b_Mo_sum 29 = .ok (.invokevirtual 176, 3) := by decide +kernel
theorem f_q_sum_32_1 : mblkB b_Mo_sum [(32, .aload_n 0, vi 0)] = true := by decide +kernel
theorem e_q_sum_33 : decode b_Mo_sum 33 = .ok (.invokevirtual 222, 3) := by decide +kernel
theorem f_q_sum_36_6 : mblkB b_Mo_sum [(36, .istore_n 3, vi 0), (37, .aload_n 0, vi 0), (38, .iload_n 2, vi 0), (39, .iconst 0, vi 0), (40, .iload_n 1, vi 0), (41, .iload_n 3, vi 0)] = true := by decide +kernel
theorem e_q_sum_42 : decode b_Mo_sum 42 = .ok (.invokevirtual 218, 3) := by decide +kernel
theorem f_q_sum_45_2 : mblkB b_Mo_sum [(45, .istore_n 1, vi 0), (46, .goto (-41), vi 5)] = true := by decide +kernel
theorem f_q_sum_14_2 : mblkB b_Mo_sum [(14, .aload_n 0, vi 0), (15, .bipush 45, vi 45)] = true := by decide +kernel
theorem e_q_sum_17 : decode b_Mo_sum 17 = .ok (.invokevirtual 173, 3) := by decide +kernel
theorem e_q_sum_20 : decode b_Mo_sum 20 = .ok (.ifCond .eq 29, 3) := by decide +kernel
theorem f_q_sum_49_1 : mblkB b_Mo_sum [(49, .iload_n 1, vi 0)] = true := by decide +kernel
theorem e_q_sum_50 : decode b_Mo_sum 50 = .ok (.ireturn, 1) := by decide +kernel
set_option maxHeartbeats 40000000 in
set_option maxRecDepth 100000 in
theorem q_sum (d : Nat) (hq9 : S_term d) : S_sum d := by
  intro l D B H0 ad A hS hT p0 hp hb hn hl hG ho
  refine m_met (by decide) rfl (fun g w0 C Rm Y E => ?_)
  have hE0 : mEq (em p0.toNat) A A := mEq.rfl'
  show JM g D ad w0 A 0 [(0, vr 0 0)] []
  have rt : A 0 0 22 ≤ 120 := (hT 0 0 22).2
  have rd9 : 0 ≤ A 0 0 29 ∧ 0 ≤ A 0 0 30 := ⟨(hT 0 0 29).1, (hT 0 0 30).1⟩
  rcases (show A 0 0 31 = 0 ∨ A 0 0 31 = 1 from by have w8 : 0 ≤ A 0 0 31 ∧ A 0 0 31 ≤ 1 := hT 0 0 31; omega) with g0 | g0
  · have hl0 := hl g0
    refine m_blk 1 [(0, vr 0 0)] [vr 0 0] C f_q_sum_0_1 rfl ?_
    refine m_callV C Rm Y [] [] (hq9 l D B H0 ad _ hS hT p0 (by show A 0 0 0 = p0 ∧ 0 ≤ p0 ∧ p0 ≤ 5; omega) (by show A 0 0 24 ≤ A 0 0 23 ∧ A 0 0 23 ≤ A 0 0 22; omega) hn (fun _ => by show A 0 0 30 + 3 * A 0 0 29 ≤ A 0 0 24; omega) hG (by show A 0 0 27 = 4 - (d : Int) ∧ (d : Int) ≤ 4; omega)) cl_Mo_222 rfl (by decide) rfl rfl e_q_sum_1 rfl rfl rfl ⟨by show _ ≤ (12 + 4 * d : Nat); omega, by show _ ≤ (460 + 200 * d : Nat); omega⟩ ?_
    rintro v1 A2 ⟨z5, rfl, hT_n4, hE_n4, raw_hz_n4, raw_hb_n4, raw_hn_n4, raw_hw_n4, raw_hm_n4, raw_hG_n4, raw_hK_n4⟩
    have hF_n4 := hE0.trans (hE_n4.sub (fun _ _ _ h => h))
    show JM g D ad w0 A2 4 [(0, vr 0 0)] [vi z5]
    have hz_n4 : 0 ≤ z5 ∧ z5 ≤ 119 := raw_hz_n4
    clear raw_hz_n4
    have hb_n4 : A2 0 0 24 ≤ A2 0 0 23 ∧ A2 0 0 23 ≤ A2 0 0 22 := raw_hb_n4
    clear raw_hb_n4
    have hm_n4 : A 0 0 24 ≤ A2 0 0 24 ∧ A 0 0 30 ≤ A2 0 0 30 ∧ A2 0 0 27 = A 0 0 27 := raw_hm_n4
    clear raw_hm_n4
    have pt_n4 : pT A2 := raw_hn_n4
    have k0_n4 : A2 0 0 0 = A 0 0 0 := hE_n4 0 0 0 rfl
    have k22_n4 : A2 0 0 22 = A 0 0 22 := hE_n4 0 0 22 rfl
    have k28_n4 : A2 0 0 28 = A 0 0 28 := hE_n4 0 0 28 rfl
    have k29_n4 : A2 0 0 29 = A 0 0 29 := hE_n4 0 0 29 rfl
    have hG_n4 : nG p0.toNat A2 := raw_hG_n4
    have hK_n4 : nK p0.toNat A A2 := raw_hK_n4
    rcases (show A2 0 0 31 = 0 ∨ A2 0 0 31 = 1 from by have w9 := hT_n4 0 0 31; have w8 : 0 ≤ A2 0 0 31 ∧ A2 0 0 31 ≤ 1 := w9; omega) with g_n4 | g_n4
    · have u_n4 : z5 < A2 0 0 30 ∧ A 0 0 24 - A 0 0 30 ≤ A2 0 0 24 - A2 0 0 30 := (raw_hw_n4 g_n4).2
      refine m_blk 5 [(1, vi z5), (0, vr 0 0)] [] C f_q_sum_4_1 rfl ?_
      have hd_5 : ∀ (N : Nat) (A2 : mA) (a : Int), mTy A2 → mEq (em p0.toNat) A A2 → 0 ≤ a ∧ a ≤ 119 → A2 0 0 24 ≤ A2 0 0 23 ∧ A2 0 0 23 ≤ A2 0 0 22 → pT A2 → pW A A2 a → A 0 0 24 ≤ A2 0 0 24 ∧ A 0 0 30 ≤ A2 0 0 30 ∧ A2 0 0 27 = A 0 0 27 ∧ A2 0 0 22 = A 0 0 22 ∧ A2 0 0 0 = p0 ∧ A2 0 0 29 = A 0 0 29 ∧ A2 0 0 28 = A 0 0 28 → nG p0.toNat A2 → nK p0.toNat A A2 → (200 - A2 0 0 24) < (N : Int) → JM g D ad w0 A2 5 [(1, vi a), (0, vr 0 0)] [] := by
        intro N
        induction N with
        | zero => intro A2 a hT2 hE2 ia ib iT iw im iG iK hm; exact absurd hm (by omega)
        | succ N ih =>
          intro A2 a hT2 hE2 ia ib iT iw im iG iK hm
          rcases (show A2 0 0 31 = 0 ∨ A2 0 0 31 = 1 from by have w8 : 0 ≤ A2 0 0 31 ∧ A2 0 0 31 ≤ 1 := hT2 0 0 31; omega) with g2 | g2
          · have u2 : a < A2 0 0 30 ∧ A 0 0 24 - A 0 0 30 ≤ A2 0 0 24 - A2 0 0 30 := (iw g2).2
            have g0 : A 0 0 31 = 0 := (iw g2).1
            have hl0 := hl g0
            refine m_blk 8 [(1, vi a), (0, vr 0 0)] [vi 43, vr 0 0] C f_q_sum_5_2 rfl ?_
            refine m_callV C Rm Y [vi 43] [] (q_isSign l D B H0 ad _ hT2 43 (by show -2147483648 ≤ 43 ∧ 43 ≤ 2147483647; omega)) cl_Mo_173 rfl (by decide) rfl rfl e_q_sum_8 rfl rfl rfl ⟨by show _ ≤ (12 + 4 * d : Nat); omega, by show _ ≤ (460 + 200 * d : Nat); omega⟩ ?_
            rintro v6 A7 ⟨z10, rfl, rfl, raw_hz_n9⟩
            show JM g D ad w0 A2 11 [(1, vi a), (0, vr 0 0)] [vi z10]
            have hz_n9 : z10 = 1 ∧ A2 0 0 31 = 0 ∧ A2 0 0 25 = 4 ∧ A2 0 0 26 = 43 ∨ z10 = 0 ∧ ¬ (A2 0 0 31 = 0 ∧ A2 0 0 25 = 4 ∧ A2 0 0 26 = 43) := raw_hz_n9
            clear raw_hz_n9
            rcases hz_n9 with ⟨e_n9, hz_n9⟩ | ⟨e_n9, hz_n9⟩
            · subst e_n9
              have bt_n9 : A2 0 0 24 < A2 0 0 23 := pT_lt (A := A2) iT hz_n9.1 (by show ¬ A2 0 0 25 = 0; omega)
              refine m_if_ne (tgt := 23) C e_q_sum_11 (by decide) (by decide) (fun c11 => ?_) (fun c11 => (by omega : False).elim)
              refine m_blk 24 [(1, vi a), (0, vr 0 0)] [vr 0 0] C f_q_sum_23_1 rfl ?_
              obtain ⟨x12, hx12⟩ : ∃ x, A2 0 0 26 = x := ⟨_, rfl⟩
              have rx12 : (-1) ≤ x12 ∧ x12 ≤ 255 := mrg hT2 hx12 rfl
              refine m_geti C e_q_sum_24 fg_Mo_165 rfl (by decide) rfl x12 hx12 ?_
              refine m_blk 29 [(2, vi x12), (1, vi a), (0, vr 0 0)] [vr 0 0] C f_q_sum_27_2 rfl ?_
              refine m_callV C Rm Y [] [] (q_next l D B H0 ad _ hS hT2 (by show A2 0 0 23 ≤ A2 0 0 22; omega)) cl_Mo_176 rfl (by decide) rfl rfl e_q_sum_29 rfl rfl rfl ⟨by show _ ≤ (12 + 4 * d : Nat); omega, by show _ ≤ (460 + 200 * d : Nat); omega⟩ ?_
              rintro v13 A14 ⟨rfl, hT_n16, hE_n16, raw_hw_n16, raw_hb_n16⟩
              have hF_n16 := hE2.trans (hE_n16.sub (nm_em _))
              show JM g D ad w0 A14 32 [(2, vi x12), (1, vi a), (0, vr 0 0)] []
              obtain ⟨b1_n16, b2_n16, b3_n16, pt_n16⟩ : A2 0 0 23 ≤ A14 0 0 24 ∧ A14 0 0 24 ≤ A14 0 0 23 ∧ A14 0 0 23 ≤ A14 0 0 22 ∧ pT A14 := raw_hb_n16 g2
              clear raw_hb_n16 raw_hw_n16
              have k0_n16 : A14 0 0 0 = A2 0 0 0 := hE_n16 0 0 0 rfl
              have k22_n16 : A14 0 0 22 = A2 0 0 22 := hE_n16 0 0 22 rfl
              have k27_n16 : A14 0 0 27 = A2 0 0 27 := hE_n16 0 0 27 rfl
              have k28_n16 : A14 0 0 28 = A2 0 0 28 := hE_n16 0 0 28 rfl
              have k29_n16 : A14 0 0 29 = A2 0 0 29 := hE_n16 0 0 29 rfl
              have k30_n16 : A14 0 0 30 = A2 0 0 30 := hE_n16 0 0 30 rfl
              rcases (show A14 0 0 31 = 0 ∨ A14 0 0 31 = 1 from by have w9 := hT_n16 0 0 31; have w8 : 0 ≤ A14 0 0 31 ∧ A14 0 0 31 ≤ 1 := w9; omega) with g_n16 | g_n16
              · refine m_blk 33 [(2, vi x12), (1, vi a), (0, vr 0 0)] [vr 0 0] C f_q_sum_32_1 rfl ?_
                refine m_callV C Rm Y [] [] (hq9 l D B H0 ad _ hS hT_n16 p0 (by show A14 0 0 0 = p0 ∧ 0 ≤ p0 ∧ p0 ≤ 5; omega) (by show A14 0 0 24 ≤ A14 0 0 23 ∧ A14 0 0 23 ≤ A14 0 0 22; omega) pt_n16 (fun _ => by show A14 0 0 30 + 3 * A14 0 0 29 ≤ A14 0 0 24; omega) (nG.nm (A := A2) iG hE_n16) (by show A14 0 0 27 = 4 - (d : Int) ∧ (d : Int) ≤ 4; omega)) cl_Mo_222 rfl (by decide) rfl rfl e_q_sum_33 rfl rfl rfl ⟨by show _ ≤ (12 + 4 * d : Nat); omega, by show _ ≤ (460 + 200 * d : Nat); omega⟩ ?_
                rintro v17 A18 ⟨z21, rfl, hT_n20, hE_n20, raw_hz_n20, raw_hb_n20, raw_hn_n20, raw_hw_n20, raw_hm_n20, raw_hG_n20, raw_hK_n20⟩
                have hF_n20 := hF_n16.trans (hE_n20.sub (fun _ _ _ h => h))
                show JM g D ad w0 A18 36 [(2, vi x12), (1, vi a), (0, vr 0 0)] [vi z21]
                have hz_n20 : 0 ≤ z21 ∧ z21 ≤ 119 := raw_hz_n20
                clear raw_hz_n20
                have hb_n20 : A18 0 0 24 ≤ A18 0 0 23 ∧ A18 0 0 23 ≤ A18 0 0 22 := raw_hb_n20
                clear raw_hb_n20
                have hm_n20 : A14 0 0 24 ≤ A18 0 0 24 ∧ A14 0 0 30 ≤ A18 0 0 30 ∧ A18 0 0 27 = A14 0 0 27 := raw_hm_n20
                clear raw_hm_n20
                have pt_n20 : pT A18 := raw_hn_n20
                have k0_n20 : A18 0 0 0 = A14 0 0 0 := hE_n20 0 0 0 rfl
                have k22_n20 : A18 0 0 22 = A14 0 0 22 := hE_n20 0 0 22 rfl
                have k28_n20 : A18 0 0 28 = A14 0 0 28 := hE_n20 0 0 28 rfl
                have k29_n20 : A18 0 0 29 = A14 0 0 29 := hE_n20 0 0 29 rfl
                have hG_n20 : nG p0.toNat A18 := raw_hG_n20
                have hK_n20 : nK p0.toNat A14 A18 := raw_hK_n20
                rcases (show A18 0 0 31 = 0 ∨ A18 0 0 31 = 1 from by have w9 := hT_n20 0 0 31; have w8 : 0 ≤ A18 0 0 31 ∧ A18 0 0 31 ≤ 1 := w9; omega) with g_n20 | g_n20
                · have u_n20 : z21 < A18 0 0 30 ∧ A14 0 0 24 - A14 0 0 30 ≤ A18 0 0 24 - A18 0 0 30 := (raw_hw_n20 g_n20).2
                  refine m_blk 42 [(3, vi z21), (2, vi x12), (1, vi a), (0, vr 0 0)] [vi z21, vi a, vi 0, vi x12, vr 0 0] C f_q_sum_36_6 rfl ?_
                  refine m_callV C Rm Y [vi x12, vi 0, vi a, vi z21] [] (q_node l D B H0 ad _ hT_n20 p0 x12 0 a z21 (by show A18 0 0 0 = p0 ∧ 0 ≤ p0 ∧ p0 ≤ 5; omega) (fun _ => by show A18 0 0 30 ≤ 119; omega) (by show (-1 ≤ x12 ∧ x12 ≤ 255) ∧ (-1 ≤ 0 ∧ 0 ≤ 255) ∧ (-1 ≤ a ∧ a ≤ 119) ∧ (-1 ≤ z21 ∧ z21 ≤ 119); omega) hG_n20 (fun _ => by show a < A18 0 0 30 ∧ z21 < A18 0 0 30 ∧ (x12 ≠ 0 → x12 ≠ 1 → 0 ≤ a) ∧ (x12 ≠ 0 → x12 ≠ 1 → x12 ≠ 2 → 0 ≤ z21); omega)) cl_Mo_218 rfl (by decide) rfl rfl e_q_sum_42 rfl rfl rfl ⟨by show _ ≤ (12 + 4 * d : Nat); omega, by show _ ≤ (460 + 200 * d : Nat); omega⟩ ?_
                  rintro v22 A23 ⟨z26, rfl, hT_n25, hE_n25, raw_hz_n25, raw_hw_n25, raw_hi_n25, raw_hm_n25, raw_hG_n25, raw_hK_n25⟩
                  have hF_n25 := hF_n20.trans (hE_n25.sub (nd_em _))
                  show JM g D ad w0 A23 45 [(3, vi z21), (2, vi x12), (1, vi a), (0, vr 0 0)] [vi z26]
                  have hz_n25 : 0 ≤ z26 ∧ z26 ≤ 119 := raw_hz_n25
                  clear raw_hz_n25
                  obtain ⟨b1_n25, b2_n25⟩ : A23 0 0 30 = A18 0 0 30 + 1 ∧ z26 = A18 0 0 30 := raw_hi_n25 g_n20
                  clear raw_hi_n25 raw_hw_n25
                  have k0_n25 : A23 0 0 0 = A18 0 0 0 := hE_n25 0 0 0 rfl
                  have k22_n25 : A23 0 0 22 = A18 0 0 22 := hE_n25 0 0 22 rfl
                  have k23_n25 : A23 0 0 23 = A18 0 0 23 := hE_n25 0 0 23 rfl
                  have k24_n25 : A23 0 0 24 = A18 0 0 24 := hE_n25 0 0 24 rfl
                  have k25_n25 : A23 0 0 25 = A18 0 0 25 := hE_n25 0 0 25 rfl
                  have k26_n25 : A23 0 0 26 = A18 0 0 26 := hE_n25 0 0 26 rfl
                  have k27_n25 : A23 0 0 27 = A18 0 0 27 := hE_n25 0 0 27 rfl
                  have k28_n25 : A23 0 0 28 = A18 0 0 28 := hE_n25 0 0 28 rfl
                  have k29_n25 : A23 0 0 29 = A18 0 0 29 := hE_n25 0 0 29 rfl
                  have g_n25 : A23 0 0 31 = 0 := (hE_n25 0 0 31 rfl).trans g_n20
                  have hG_n25 : nG p0.toNat A23 := raw_hG_n25
                  have hK_n25 : nK p0.toNat A18 A23 := raw_hK_n25
                  have pt_n25 : pT A23 := pT_eq (A := A18) pt_n20 (hE_n25 0 0 31 rfl) (hE_n25 0 0 25 rfl) (hE_n25 0 0 24 rfl) (hE_n25 0 0 23 rfl) (hE_n25 0 0 26 rfl)
                  refine m_blk 5 [(1, vi z26), (3, vi z21), (2, vi x12), (0, vr 0 0)] [] C f_q_sum_45_2 rfl ?_
                  refine m_loc [(1, vi z26), (0, vr 0 0)] ⟨rfl, rfl, trivial⟩ ?_
                  exact ih A23 z26 hT_n25 hF_n25 (by show 0 ≤ z26 ∧ z26 ≤ 119; omega) (by show A23 0 0 24 ≤ A23 0 0 23 ∧ A23 0 0 23 ≤ A23 0 0 22; omega) pt_n25 (fun _ => ⟨g0, by show z26 < A23 0 0 30; omega, by show A 0 0 24 - A 0 0 30 ≤ A23 0 0 24 - A23 0 0 30; omega⟩) (by show A 0 0 24 ≤ A23 0 0 24 ∧ A 0 0 30 ≤ A23 0 0 30 ∧ A23 0 0 27 = A 0 0 27 ∧ A23 0 0 22 = A 0 0 22 ∧ A23 0 0 0 = p0 ∧ A23 0 0 29 = A 0 0 29 ∧ A23 0 0 28 = A 0 0 28; omega) hG_n25 (nK.trans (A2 := A18) (nK.trans (A2 := A14) (nK.nm (A2 := A2) iK hE_n16) hK_n20 (by show A 0 0 30 ≤ A14 0 0 30; omega)) hK_n25 (by show A 0 0 30 ≤ A18 0 0 30; omega)) (by have hm9 := hm; show (200 - A23 0 0 24) < _; omega)
                · refine m_blk 42 [(3, vi z21), (2, vi x12), (1, vi a), (0, vr 0 0)] [vi z21, vi a, vi 0, vi x12, vr 0 0] C f_q_sum_36_6 rfl ?_
                  refine m_callV C Rm Y [vi x12, vi 0, vi a, vi z21] [] (q_node l D B H0 ad _ hT_n20 p0 x12 0 a z21 (by show A18 0 0 0 = p0 ∧ 0 ≤ p0 ∧ p0 ≤ 5; omega) (fun h9 => absurd ((g_n20 : A18 0 0 31 = 1).symm.trans h9) (by decide)) (by show (-1 ≤ x12 ∧ x12 ≤ 255) ∧ (-1 ≤ 0 ∧ 0 ≤ 255) ∧ (-1 ≤ a ∧ a ≤ 119) ∧ (-1 ≤ z21 ∧ z21 ≤ 119); omega) hG_n20 (fun h9 => absurd ((g_n20 : A18 0 0 31 = 1).symm.trans h9) (by decide))) cl_Mo_218 rfl (by decide) rfl rfl e_q_sum_42 rfl rfl rfl ⟨by show _ ≤ (12 + 4 * d : Nat); omega, by show _ ≤ (460 + 200 * d : Nat); omega⟩ ?_
                  rintro v27 A28 ⟨z31, rfl, hT_n30, hE_n30, raw_hz_n30, raw_hw_n30, raw_hi_n30, raw_hm_n30, raw_hG_n30, raw_hK_n30⟩
                  have hF_n30 := hF_n20.trans (hE_n30.sub (nd_em _))
                  show JM g D ad w0 A28 45 [(3, vi z21), (2, vi x12), (1, vi a), (0, vr 0 0)] [vi z31]
                  have hz_n30 : 0 ≤ z31 ∧ z31 ≤ 119 := raw_hz_n30
                  clear raw_hz_n30
                  have ee_n30 := (raw_hw_n30 g_n20).symm
                  subst ee_n30
                  show JM g D ad w0 A18 45 [(3, vi z21), (2, vi x12), (1, vi a), (0, vr 0 0)] [vi z31]
                  refine m_blk 5 [(1, vi z31), (3, vi z21), (2, vi x12), (0, vr 0 0)] [] C f_q_sum_45_2 rfl ?_
                  refine m_loc [(1, vi z31), (0, vr 0 0)] ⟨rfl, rfl, trivial⟩ ?_
                  exact ih A18 z31 hT_n20 hF_n20 (by show 0 ≤ z31 ∧ z31 ≤ 119; omega) (by show A18 0 0 24 ≤ A18 0 0 23 ∧ A18 0 0 23 ≤ A18 0 0 22; omega) pt_n20 (fun h9 => absurd ((g_n20 : A18 0 0 31 = 1).symm.trans h9) (by decide)) (by show A 0 0 24 ≤ A18 0 0 24 ∧ A 0 0 30 ≤ A18 0 0 30 ∧ A18 0 0 27 = A 0 0 27 ∧ A18 0 0 22 = A 0 0 22 ∧ A18 0 0 0 = p0 ∧ A18 0 0 29 = A 0 0 29 ∧ A18 0 0 28 = A 0 0 28; omega) hG_n20 (nK.trans (A2 := A14) (nK.nm (A2 := A2) iK hE_n16) hK_n20 (by show A 0 0 30 ≤ A14 0 0 30; omega)) (by have hm9 := hm; show (200 - A18 0 0 24) < _; omega)
              · refine m_blk 33 [(2, vi x12), (1, vi a), (0, vr 0 0)] [vr 0 0] C f_q_sum_32_1 rfl ?_
                refine m_callV C Rm Y [] [] (hq9 l D B H0 ad _ hS hT_n16 p0 (by show A14 0 0 0 = p0 ∧ 0 ≤ p0 ∧ p0 ≤ 5; omega) (by show A14 0 0 24 ≤ A14 0 0 23 ∧ A14 0 0 23 ≤ A14 0 0 22; omega) pt_n16 (fun h9 => absurd ((g_n16 : A14 0 0 31 = 1).symm.trans h9) (by decide)) (nG.nm (A := A2) iG hE_n16) (by show A14 0 0 27 = 4 - (d : Int) ∧ (d : Int) ≤ 4; omega)) cl_Mo_222 rfl (by decide) rfl rfl e_q_sum_33 rfl rfl rfl ⟨by show _ ≤ (12 + 4 * d : Nat); omega, by show _ ≤ (460 + 200 * d : Nat); omega⟩ ?_
                rintro v32 A33 ⟨z36, rfl, hT_n35, hE_n35, raw_hz_n35, raw_hb_n35, raw_hn_n35, raw_hw_n35, raw_hm_n35, raw_hG_n35, raw_hK_n35⟩
                have hF_n35 := hF_n16.trans (hE_n35.sub (fun _ _ _ h => h))
                show JM g D ad w0 A33 36 [(2, vi x12), (1, vi a), (0, vr 0 0)] [vi z36]
                have hz_n35 : 0 ≤ z36 ∧ z36 ≤ 119 := raw_hz_n35
                clear raw_hz_n35
                have hb_n35 : A33 0 0 24 ≤ A33 0 0 23 ∧ A33 0 0 23 ≤ A33 0 0 22 := raw_hb_n35
                clear raw_hb_n35
                have hm_n35 : A14 0 0 24 ≤ A33 0 0 24 ∧ A14 0 0 30 ≤ A33 0 0 30 ∧ A33 0 0 27 = A14 0 0 27 := raw_hm_n35
                clear raw_hm_n35
                have pt_n35 : pT A33 := raw_hn_n35
                have k0_n35 : A33 0 0 0 = A14 0 0 0 := hE_n35 0 0 0 rfl
                have k22_n35 : A33 0 0 22 = A14 0 0 22 := hE_n35 0 0 22 rfl
                have k28_n35 : A33 0 0 28 = A14 0 0 28 := hE_n35 0 0 28 rfl
                have k29_n35 : A33 0 0 29 = A14 0 0 29 := hE_n35 0 0 29 rfl
                have hG_n35 : nG p0.toNat A33 := raw_hG_n35
                have hK_n35 : nK p0.toNat A14 A33 := raw_hK_n35
                have g_n35 : A33 0 0 31 = 1 := wr_1 (hT_n35 0 0 31) (fun h9 => absurd ((g_n16 : A14 0 0 31 = 1).symm.trans (raw_hw_n35 h9).1) (by decide))
                refine m_blk 42 [(3, vi z36), (2, vi x12), (1, vi a), (0, vr 0 0)] [vi z36, vi a, vi 0, vi x12, vr 0 0] C f_q_sum_36_6 rfl ?_
                refine m_callV C Rm Y [vi x12, vi 0, vi a, vi z36] [] (q_node l D B H0 ad _ hT_n35 p0 x12 0 a z36 (by show A33 0 0 0 = p0 ∧ 0 ≤ p0 ∧ p0 ≤ 5; omega) (fun h9 => absurd ((g_n35 : A33 0 0 31 = 1).symm.trans h9) (by decide)) (by show (-1 ≤ x12 ∧ x12 ≤ 255) ∧ (-1 ≤ 0 ∧ 0 ≤ 255) ∧ (-1 ≤ a ∧ a ≤ 119) ∧ (-1 ≤ z36 ∧ z36 ≤ 119); omega) hG_n35 (fun h9 => absurd ((g_n35 : A33 0 0 31 = 1).symm.trans h9) (by decide))) cl_Mo_218 rfl (by decide) rfl rfl e_q_sum_42 rfl rfl rfl ⟨by show _ ≤ (12 + 4 * d : Nat); omega, by show _ ≤ (460 + 200 * d : Nat); omega⟩ ?_
                rintro v37 A38 ⟨z41, rfl, hT_n40, hE_n40, raw_hz_n40, raw_hw_n40, raw_hi_n40, raw_hm_n40, raw_hG_n40, raw_hK_n40⟩
                have hF_n40 := hF_n35.trans (hE_n40.sub (nd_em _))
                show JM g D ad w0 A38 45 [(3, vi z36), (2, vi x12), (1, vi a), (0, vr 0 0)] [vi z41]
                have hz_n40 : 0 ≤ z41 ∧ z41 ≤ 119 := raw_hz_n40
                clear raw_hz_n40
                have ee_n40 := (raw_hw_n40 g_n35).symm
                subst ee_n40
                show JM g D ad w0 A33 45 [(3, vi z36), (2, vi x12), (1, vi a), (0, vr 0 0)] [vi z41]
                refine m_blk 5 [(1, vi z41), (3, vi z36), (2, vi x12), (0, vr 0 0)] [] C f_q_sum_45_2 rfl ?_
                refine m_loc [(1, vi z41), (0, vr 0 0)] ⟨rfl, rfl, trivial⟩ ?_
                exact ih A33 z41 hT_n35 hF_n35 (by show 0 ≤ z41 ∧ z41 ≤ 119; omega) (by show A33 0 0 24 ≤ A33 0 0 23 ∧ A33 0 0 23 ≤ A33 0 0 22; omega) pt_n35 (fun h9 => absurd ((g_n35 : A33 0 0 31 = 1).symm.trans h9) (by decide)) (by show A 0 0 24 ≤ A33 0 0 24 ∧ A 0 0 30 ≤ A33 0 0 30 ∧ A33 0 0 27 = A 0 0 27 ∧ A33 0 0 22 = A 0 0 22 ∧ A33 0 0 0 = p0 ∧ A33 0 0 29 = A 0 0 29 ∧ A33 0 0 28 = A 0 0 28; omega) hG_n35 (nK.trans (A2 := A14) (nK.nm (A2 := A2) iK hE_n16) hK_n35 (by show A 0 0 30 ≤ A14 0 0 30; omega)) (by have hm9 := hm; show (200 - A33 0 0 24) < _; omega)
            · subst e_n9
              clear hz_n9
              refine m_if_ne (tgt := 23) C e_q_sum_11 (by decide) (by decide) (fun c42 => (by omega : False).elim) (fun c42 => ?_)
              refine m_blk 17 [(1, vi a), (0, vr 0 0)] [vi 45, vr 0 0] C f_q_sum_14_2 rfl ?_
              refine m_callV C Rm Y [vi 45] [] (q_isSign l D B H0 ad _ hT2 45 (by show -2147483648 ≤ 45 ∧ 45 ≤ 2147483647; omega)) cl_Mo_173 rfl (by decide) rfl rfl e_q_sum_17 rfl rfl rfl ⟨by show _ ≤ (12 + 4 * d : Nat); omega, by show _ ≤ (460 + 200 * d : Nat); omega⟩ ?_
              rintro v43 A44 ⟨z47, rfl, rfl, raw_hz_n46⟩
              show JM g D ad w0 A2 20 [(1, vi a), (0, vr 0 0)] [vi z47]
              have hz_n46 : z47 = 1 ∧ A2 0 0 31 = 0 ∧ A2 0 0 25 = 4 ∧ A2 0 0 26 = 45 ∨ z47 = 0 ∧ ¬ (A2 0 0 31 = 0 ∧ A2 0 0 25 = 4 ∧ A2 0 0 26 = 45) := raw_hz_n46
              clear raw_hz_n46
              rcases hz_n46 with ⟨e_n46, hz_n46⟩ | ⟨e_n46, hz_n46⟩
              · subst e_n46
                have bt_n46 : A2 0 0 24 < A2 0 0 23 := pT_lt (A := A2) iT hz_n46.1 (by show ¬ A2 0 0 25 = 0; omega)
                refine m_if_eq (tgt := 49) C e_q_sum_20 (by decide) (by decide) (fun c48 => (by omega : False).elim) (fun c48 => ?_)
                refine m_blk 24 [(1, vi a), (0, vr 0 0)] [vr 0 0] C f_q_sum_23_1 rfl ?_
                obtain ⟨x49, hx49⟩ : ∃ x, A2 0 0 26 = x := ⟨_, rfl⟩
                have rx49 : (-1) ≤ x49 ∧ x49 ≤ 255 := mrg hT2 hx49 rfl
                refine m_geti C e_q_sum_24 fg_Mo_165 rfl (by decide) rfl x49 hx49 ?_
                refine m_blk 29 [(2, vi x49), (1, vi a), (0, vr 0 0)] [vr 0 0] C f_q_sum_27_2 rfl ?_
                refine m_callV C Rm Y [] [] (q_next l D B H0 ad _ hS hT2 (by show A2 0 0 23 ≤ A2 0 0 22; omega)) cl_Mo_176 rfl (by decide) rfl rfl e_q_sum_29 rfl rfl rfl ⟨by show _ ≤ (12 + 4 * d : Nat); omega, by show _ ≤ (460 + 200 * d : Nat); omega⟩ ?_
                rintro v50 A51 ⟨rfl, hT_n53, hE_n53, raw_hw_n53, raw_hb_n53⟩
                have hF_n53 := hE2.trans (hE_n53.sub (nm_em _))
                show JM g D ad w0 A51 32 [(2, vi x49), (1, vi a), (0, vr 0 0)] []
                obtain ⟨b1_n53, b2_n53, b3_n53, pt_n53⟩ : A2 0 0 23 ≤ A51 0 0 24 ∧ A51 0 0 24 ≤ A51 0 0 23 ∧ A51 0 0 23 ≤ A51 0 0 22 ∧ pT A51 := raw_hb_n53 g2
                clear raw_hb_n53 raw_hw_n53
                have k0_n53 : A51 0 0 0 = A2 0 0 0 := hE_n53 0 0 0 rfl
                have k22_n53 : A51 0 0 22 = A2 0 0 22 := hE_n53 0 0 22 rfl
                have k27_n53 : A51 0 0 27 = A2 0 0 27 := hE_n53 0 0 27 rfl
                have k28_n53 : A51 0 0 28 = A2 0 0 28 := hE_n53 0 0 28 rfl
                have k29_n53 : A51 0 0 29 = A2 0 0 29 := hE_n53 0 0 29 rfl
                have k30_n53 : A51 0 0 30 = A2 0 0 30 := hE_n53 0 0 30 rfl
                rcases (show A51 0 0 31 = 0 ∨ A51 0 0 31 = 1 from by have w9 := hT_n53 0 0 31; have w8 : 0 ≤ A51 0 0 31 ∧ A51 0 0 31 ≤ 1 := w9; omega) with g_n53 | g_n53
                · refine m_blk 33 [(2, vi x49), (1, vi a), (0, vr 0 0)] [vr 0 0] C f_q_sum_32_1 rfl ?_
                  refine m_callV C Rm Y [] [] (hq9 l D B H0 ad _ hS hT_n53 p0 (by show A51 0 0 0 = p0 ∧ 0 ≤ p0 ∧ p0 ≤ 5; omega) (by show A51 0 0 24 ≤ A51 0 0 23 ∧ A51 0 0 23 ≤ A51 0 0 22; omega) pt_n53 (fun _ => by show A51 0 0 30 + 3 * A51 0 0 29 ≤ A51 0 0 24; omega) (nG.nm (A := A2) iG hE_n53) (by show A51 0 0 27 = 4 - (d : Int) ∧ (d : Int) ≤ 4; omega)) cl_Mo_222 rfl (by decide) rfl rfl e_q_sum_33 rfl rfl rfl ⟨by show _ ≤ (12 + 4 * d : Nat); omega, by show _ ≤ (460 + 200 * d : Nat); omega⟩ ?_
                  rintro v54 A55 ⟨z58, rfl, hT_n57, hE_n57, raw_hz_n57, raw_hb_n57, raw_hn_n57, raw_hw_n57, raw_hm_n57, raw_hG_n57, raw_hK_n57⟩
                  have hF_n57 := hF_n53.trans (hE_n57.sub (fun _ _ _ h => h))
                  show JM g D ad w0 A55 36 [(2, vi x49), (1, vi a), (0, vr 0 0)] [vi z58]
                  have hz_n57 : 0 ≤ z58 ∧ z58 ≤ 119 := raw_hz_n57
                  clear raw_hz_n57
                  have hb_n57 : A55 0 0 24 ≤ A55 0 0 23 ∧ A55 0 0 23 ≤ A55 0 0 22 := raw_hb_n57
                  clear raw_hb_n57
                  have hm_n57 : A51 0 0 24 ≤ A55 0 0 24 ∧ A51 0 0 30 ≤ A55 0 0 30 ∧ A55 0 0 27 = A51 0 0 27 := raw_hm_n57
                  clear raw_hm_n57
                  have pt_n57 : pT A55 := raw_hn_n57
                  have k0_n57 : A55 0 0 0 = A51 0 0 0 := hE_n57 0 0 0 rfl
                  have k22_n57 : A55 0 0 22 = A51 0 0 22 := hE_n57 0 0 22 rfl
                  have k28_n57 : A55 0 0 28 = A51 0 0 28 := hE_n57 0 0 28 rfl
                  have k29_n57 : A55 0 0 29 = A51 0 0 29 := hE_n57 0 0 29 rfl
                  have hG_n57 : nG p0.toNat A55 := raw_hG_n57
                  have hK_n57 : nK p0.toNat A51 A55 := raw_hK_n57
                  rcases (show A55 0 0 31 = 0 ∨ A55 0 0 31 = 1 from by have w9 := hT_n57 0 0 31; have w8 : 0 ≤ A55 0 0 31 ∧ A55 0 0 31 ≤ 1 := w9; omega) with g_n57 | g_n57
                  · have u_n57 : z58 < A55 0 0 30 ∧ A51 0 0 24 - A51 0 0 30 ≤ A55 0 0 24 - A55 0 0 30 := (raw_hw_n57 g_n57).2
                    refine m_blk 42 [(3, vi z58), (2, vi x49), (1, vi a), (0, vr 0 0)] [vi z58, vi a, vi 0, vi x49, vr 0 0] C f_q_sum_36_6 rfl ?_
                    refine m_callV C Rm Y [vi x49, vi 0, vi a, vi z58] [] (q_node l D B H0 ad _ hT_n57 p0 x49 0 a z58 (by show A55 0 0 0 = p0 ∧ 0 ≤ p0 ∧ p0 ≤ 5; omega) (fun _ => by show A55 0 0 30 ≤ 119; omega) (by show (-1 ≤ x49 ∧ x49 ≤ 255) ∧ (-1 ≤ 0 ∧ 0 ≤ 255) ∧ (-1 ≤ a ∧ a ≤ 119) ∧ (-1 ≤ z58 ∧ z58 ≤ 119); omega) hG_n57 (fun _ => by show a < A55 0 0 30 ∧ z58 < A55 0 0 30 ∧ (x49 ≠ 0 → x49 ≠ 1 → 0 ≤ a) ∧ (x49 ≠ 0 → x49 ≠ 1 → x49 ≠ 2 → 0 ≤ z58); omega)) cl_Mo_218 rfl (by decide) rfl rfl e_q_sum_42 rfl rfl rfl ⟨by show _ ≤ (12 + 4 * d : Nat); omega, by show _ ≤ (460 + 200 * d : Nat); omega⟩ ?_
                    rintro v59 A60 ⟨z63, rfl, hT_n62, hE_n62, raw_hz_n62, raw_hw_n62, raw_hi_n62, raw_hm_n62, raw_hG_n62, raw_hK_n62⟩
                    have hF_n62 := hF_n57.trans (hE_n62.sub (nd_em _))
                    show JM g D ad w0 A60 45 [(3, vi z58), (2, vi x49), (1, vi a), (0, vr 0 0)] [vi z63]
                    have hz_n62 : 0 ≤ z63 ∧ z63 ≤ 119 := raw_hz_n62
                    clear raw_hz_n62
                    obtain ⟨b1_n62, b2_n62⟩ : A60 0 0 30 = A55 0 0 30 + 1 ∧ z63 = A55 0 0 30 := raw_hi_n62 g_n57
                    clear raw_hi_n62 raw_hw_n62
                    have k0_n62 : A60 0 0 0 = A55 0 0 0 := hE_n62 0 0 0 rfl
                    have k22_n62 : A60 0 0 22 = A55 0 0 22 := hE_n62 0 0 22 rfl
                    have k23_n62 : A60 0 0 23 = A55 0 0 23 := hE_n62 0 0 23 rfl
                    have k24_n62 : A60 0 0 24 = A55 0 0 24 := hE_n62 0 0 24 rfl
                    have k25_n62 : A60 0 0 25 = A55 0 0 25 := hE_n62 0 0 25 rfl
                    have k26_n62 : A60 0 0 26 = A55 0 0 26 := hE_n62 0 0 26 rfl
                    have k27_n62 : A60 0 0 27 = A55 0 0 27 := hE_n62 0 0 27 rfl
                    have k28_n62 : A60 0 0 28 = A55 0 0 28 := hE_n62 0 0 28 rfl
                    have k29_n62 : A60 0 0 29 = A55 0 0 29 := hE_n62 0 0 29 rfl
                    have g_n62 : A60 0 0 31 = 0 := (hE_n62 0 0 31 rfl).trans g_n57
                    have hG_n62 : nG p0.toNat A60 := raw_hG_n62
                    have hK_n62 : nK p0.toNat A55 A60 := raw_hK_n62
                    have pt_n62 : pT A60 := pT_eq (A := A55) pt_n57 (hE_n62 0 0 31 rfl) (hE_n62 0 0 25 rfl) (hE_n62 0 0 24 rfl) (hE_n62 0 0 23 rfl) (hE_n62 0 0 26 rfl)
                    refine m_blk 5 [(1, vi z63), (3, vi z58), (2, vi x49), (0, vr 0 0)] [] C f_q_sum_45_2 rfl ?_
                    refine m_loc [(1, vi z63), (0, vr 0 0)] ⟨rfl, rfl, trivial⟩ ?_
                    exact ih A60 z63 hT_n62 hF_n62 (by show 0 ≤ z63 ∧ z63 ≤ 119; omega) (by show A60 0 0 24 ≤ A60 0 0 23 ∧ A60 0 0 23 ≤ A60 0 0 22; omega) pt_n62 (fun _ => ⟨g0, by show z63 < A60 0 0 30; omega, by show A 0 0 24 - A 0 0 30 ≤ A60 0 0 24 - A60 0 0 30; omega⟩) (by show A 0 0 24 ≤ A60 0 0 24 ∧ A 0 0 30 ≤ A60 0 0 30 ∧ A60 0 0 27 = A 0 0 27 ∧ A60 0 0 22 = A 0 0 22 ∧ A60 0 0 0 = p0 ∧ A60 0 0 29 = A 0 0 29 ∧ A60 0 0 28 = A 0 0 28; omega) hG_n62 (nK.trans (A2 := A55) (nK.trans (A2 := A51) (nK.nm (A2 := A2) iK hE_n53) hK_n57 (by show A 0 0 30 ≤ A51 0 0 30; omega)) hK_n62 (by show A 0 0 30 ≤ A55 0 0 30; omega)) (by have hm9 := hm; show (200 - A60 0 0 24) < _; omega)
                  · refine m_blk 42 [(3, vi z58), (2, vi x49), (1, vi a), (0, vr 0 0)] [vi z58, vi a, vi 0, vi x49, vr 0 0] C f_q_sum_36_6 rfl ?_
                    refine m_callV C Rm Y [vi x49, vi 0, vi a, vi z58] [] (q_node l D B H0 ad _ hT_n57 p0 x49 0 a z58 (by show A55 0 0 0 = p0 ∧ 0 ≤ p0 ∧ p0 ≤ 5; omega) (fun h9 => absurd ((g_n57 : A55 0 0 31 = 1).symm.trans h9) (by decide)) (by show (-1 ≤ x49 ∧ x49 ≤ 255) ∧ (-1 ≤ 0 ∧ 0 ≤ 255) ∧ (-1 ≤ a ∧ a ≤ 119) ∧ (-1 ≤ z58 ∧ z58 ≤ 119); omega) hG_n57 (fun h9 => absurd ((g_n57 : A55 0 0 31 = 1).symm.trans h9) (by decide))) cl_Mo_218 rfl (by decide) rfl rfl e_q_sum_42 rfl rfl rfl ⟨by show _ ≤ (12 + 4 * d : Nat); omega, by show _ ≤ (460 + 200 * d : Nat); omega⟩ ?_
                    rintro v64 A65 ⟨z68, rfl, hT_n67, hE_n67, raw_hz_n67, raw_hw_n67, raw_hi_n67, raw_hm_n67, raw_hG_n67, raw_hK_n67⟩
                    have hF_n67 := hF_n57.trans (hE_n67.sub (nd_em _))
                    show JM g D ad w0 A65 45 [(3, vi z58), (2, vi x49), (1, vi a), (0, vr 0 0)] [vi z68]
                    have hz_n67 : 0 ≤ z68 ∧ z68 ≤ 119 := raw_hz_n67
                    clear raw_hz_n67
                    have ee_n67 := (raw_hw_n67 g_n57).symm
                    subst ee_n67
                    show JM g D ad w0 A55 45 [(3, vi z58), (2, vi x49), (1, vi a), (0, vr 0 0)] [vi z68]
                    refine m_blk 5 [(1, vi z68), (3, vi z58), (2, vi x49), (0, vr 0 0)] [] C f_q_sum_45_2 rfl ?_
                    refine m_loc [(1, vi z68), (0, vr 0 0)] ⟨rfl, rfl, trivial⟩ ?_
                    exact ih A55 z68 hT_n57 hF_n57 (by show 0 ≤ z68 ∧ z68 ≤ 119; omega) (by show A55 0 0 24 ≤ A55 0 0 23 ∧ A55 0 0 23 ≤ A55 0 0 22; omega) pt_n57 (fun h9 => absurd ((g_n57 : A55 0 0 31 = 1).symm.trans h9) (by decide)) (by show A 0 0 24 ≤ A55 0 0 24 ∧ A 0 0 30 ≤ A55 0 0 30 ∧ A55 0 0 27 = A 0 0 27 ∧ A55 0 0 22 = A 0 0 22 ∧ A55 0 0 0 = p0 ∧ A55 0 0 29 = A 0 0 29 ∧ A55 0 0 28 = A 0 0 28; omega) hG_n57 (nK.trans (A2 := A51) (nK.nm (A2 := A2) iK hE_n53) hK_n57 (by show A 0 0 30 ≤ A51 0 0 30; omega)) (by have hm9 := hm; show (200 - A55 0 0 24) < _; omega)
                · refine m_blk 33 [(2, vi x49), (1, vi a), (0, vr 0 0)] [vr 0 0] C f_q_sum_32_1 rfl ?_
                  refine m_callV C Rm Y [] [] (hq9 l D B H0 ad _ hS hT_n53 p0 (by show A51 0 0 0 = p0 ∧ 0 ≤ p0 ∧ p0 ≤ 5; omega) (by show A51 0 0 24 ≤ A51 0 0 23 ∧ A51 0 0 23 ≤ A51 0 0 22; omega) pt_n53 (fun h9 => absurd ((g_n53 : A51 0 0 31 = 1).symm.trans h9) (by decide)) (nG.nm (A := A2) iG hE_n53) (by show A51 0 0 27 = 4 - (d : Int) ∧ (d : Int) ≤ 4; omega)) cl_Mo_222 rfl (by decide) rfl rfl e_q_sum_33 rfl rfl rfl ⟨by show _ ≤ (12 + 4 * d : Nat); omega, by show _ ≤ (460 + 200 * d : Nat); omega⟩ ?_
                  rintro v69 A70 ⟨z73, rfl, hT_n72, hE_n72, raw_hz_n72, raw_hb_n72, raw_hn_n72, raw_hw_n72, raw_hm_n72, raw_hG_n72, raw_hK_n72⟩
                  have hF_n72 := hF_n53.trans (hE_n72.sub (fun _ _ _ h => h))
                  show JM g D ad w0 A70 36 [(2, vi x49), (1, vi a), (0, vr 0 0)] [vi z73]
                  have hz_n72 : 0 ≤ z73 ∧ z73 ≤ 119 := raw_hz_n72
                  clear raw_hz_n72
                  have hb_n72 : A70 0 0 24 ≤ A70 0 0 23 ∧ A70 0 0 23 ≤ A70 0 0 22 := raw_hb_n72
                  clear raw_hb_n72
                  have hm_n72 : A51 0 0 24 ≤ A70 0 0 24 ∧ A51 0 0 30 ≤ A70 0 0 30 ∧ A70 0 0 27 = A51 0 0 27 := raw_hm_n72
                  clear raw_hm_n72
                  have pt_n72 : pT A70 := raw_hn_n72
                  have k0_n72 : A70 0 0 0 = A51 0 0 0 := hE_n72 0 0 0 rfl
                  have k22_n72 : A70 0 0 22 = A51 0 0 22 := hE_n72 0 0 22 rfl
                  have k28_n72 : A70 0 0 28 = A51 0 0 28 := hE_n72 0 0 28 rfl
                  have k29_n72 : A70 0 0 29 = A51 0 0 29 := hE_n72 0 0 29 rfl
                  have hG_n72 : nG p0.toNat A70 := raw_hG_n72
                  have hK_n72 : nK p0.toNat A51 A70 := raw_hK_n72
                  have g_n72 : A70 0 0 31 = 1 := wr_1 (hT_n72 0 0 31) (fun h9 => absurd ((g_n53 : A51 0 0 31 = 1).symm.trans (raw_hw_n72 h9).1) (by decide))
                  refine m_blk 42 [(3, vi z73), (2, vi x49), (1, vi a), (0, vr 0 0)] [vi z73, vi a, vi 0, vi x49, vr 0 0] C f_q_sum_36_6 rfl ?_
                  refine m_callV C Rm Y [vi x49, vi 0, vi a, vi z73] [] (q_node l D B H0 ad _ hT_n72 p0 x49 0 a z73 (by show A70 0 0 0 = p0 ∧ 0 ≤ p0 ∧ p0 ≤ 5; omega) (fun h9 => absurd ((g_n72 : A70 0 0 31 = 1).symm.trans h9) (by decide)) (by show (-1 ≤ x49 ∧ x49 ≤ 255) ∧ (-1 ≤ 0 ∧ 0 ≤ 255) ∧ (-1 ≤ a ∧ a ≤ 119) ∧ (-1 ≤ z73 ∧ z73 ≤ 119); omega) hG_n72 (fun h9 => absurd ((g_n72 : A70 0 0 31 = 1).symm.trans h9) (by decide))) cl_Mo_218 rfl (by decide) rfl rfl e_q_sum_42 rfl rfl rfl ⟨by show _ ≤ (12 + 4 * d : Nat); omega, by show _ ≤ (460 + 200 * d : Nat); omega⟩ ?_
                  rintro v74 A75 ⟨z78, rfl, hT_n77, hE_n77, raw_hz_n77, raw_hw_n77, raw_hi_n77, raw_hm_n77, raw_hG_n77, raw_hK_n77⟩
                  have hF_n77 := hF_n72.trans (hE_n77.sub (nd_em _))
                  show JM g D ad w0 A75 45 [(3, vi z73), (2, vi x49), (1, vi a), (0, vr 0 0)] [vi z78]
                  have hz_n77 : 0 ≤ z78 ∧ z78 ≤ 119 := raw_hz_n77
                  clear raw_hz_n77
                  have ee_n77 := (raw_hw_n77 g_n72).symm
                  subst ee_n77
                  show JM g D ad w0 A70 45 [(3, vi z73), (2, vi x49), (1, vi a), (0, vr 0 0)] [vi z78]
                  refine m_blk 5 [(1, vi z78), (3, vi z73), (2, vi x49), (0, vr 0 0)] [] C f_q_sum_45_2 rfl ?_
                  refine m_loc [(1, vi z78), (0, vr 0 0)] ⟨rfl, rfl, trivial⟩ ?_
                  exact ih A70 z78 hT_n72 hF_n72 (by show 0 ≤ z78 ∧ z78 ≤ 119; omega) (by show A70 0 0 24 ≤ A70 0 0 23 ∧ A70 0 0 23 ≤ A70 0 0 22; omega) pt_n72 (fun h9 => absurd ((g_n72 : A70 0 0 31 = 1).symm.trans h9) (by decide)) (by show A 0 0 24 ≤ A70 0 0 24 ∧ A 0 0 30 ≤ A70 0 0 30 ∧ A70 0 0 27 = A 0 0 27 ∧ A70 0 0 22 = A 0 0 22 ∧ A70 0 0 0 = p0 ∧ A70 0 0 29 = A 0 0 29 ∧ A70 0 0 28 = A 0 0 28; omega) hG_n72 (nK.trans (A2 := A51) (nK.nm (A2 := A2) iK hE_n53) hK_n72 (by show A 0 0 30 ≤ A51 0 0 30; omega)) (by have hm9 := hm; show (200 - A70 0 0 24) < _; omega)
              · subst e_n46
                clear hz_n46
                refine m_if_eq (tgt := 49) C e_q_sum_20 (by decide) (by decide) (fun c79 => ?_) (fun c79 => (by omega : False).elim)
                refine m_blk 50 [(1, vi a), (0, vr 0 0)] [vi a] C f_q_sum_49_1 rfl ?_
                exact m_iret C Rm E e_q_sum_50 ⟨a, rfl, hT2, hE2, (by show 0 ≤ a ∧ a ≤ 119; omega), (by show A2 0 0 24 ≤ A2 0 0 23 ∧ A2 0 0 23 ≤ A2 0 0 22; omega), iT, (fun _ => ⟨g0, (by show a < A2 0 0 30; omega), (by show A 0 0 24 - A 0 0 30 ≤ A2 0 0 24 - A2 0 0 30; omega)⟩), (by show A 0 0 24 ≤ A2 0 0 24 ∧ A 0 0 30 ≤ A2 0 0 30 ∧ A2 0 0 27 = A 0 0 27; omega), iG, iK⟩
          · refine m_blk 8 [(1, vi a), (0, vr 0 0)] [vi 43, vr 0 0] C f_q_sum_5_2 rfl ?_
            refine m_callV C Rm Y [vi 43] [] (q_isSign l D B H0 ad _ hT2 43 (by show -2147483648 ≤ 43 ∧ 43 ≤ 2147483647; omega)) cl_Mo_173 rfl (by decide) rfl rfl e_q_sum_8 rfl rfl rfl ⟨by show _ ≤ (12 + 4 * d : Nat); omega, by show _ ≤ (460 + 200 * d : Nat); omega⟩ ?_
            rintro v80 A81 ⟨z84, rfl, rfl, raw_hz_n83⟩
            show JM g D ad w0 A2 11 [(1, vi a), (0, vr 0 0)] [vi z84]
            have hz_n83 : z84 = 1 ∧ A2 0 0 31 = 0 ∧ A2 0 0 25 = 4 ∧ A2 0 0 26 = 43 ∨ z84 = 0 ∧ ¬ (A2 0 0 31 = 0 ∧ A2 0 0 25 = 4 ∧ A2 0 0 26 = 43) := raw_hz_n83
            clear raw_hz_n83
            rcases hz_n83 with ⟨e_n83, hz_n83⟩ | ⟨e_n83, hz_n83⟩
            · subst e_n83
              exact (by omega : False).elim
            · subst e_n83
              clear hz_n83
              refine m_if_ne (tgt := 23) C e_q_sum_11 (by decide) (by decide) (fun c85 => (by omega : False).elim) (fun c85 => ?_)
              refine m_blk 17 [(1, vi a), (0, vr 0 0)] [vi 45, vr 0 0] C f_q_sum_14_2 rfl ?_
              refine m_callV C Rm Y [vi 45] [] (q_isSign l D B H0 ad _ hT2 45 (by show -2147483648 ≤ 45 ∧ 45 ≤ 2147483647; omega)) cl_Mo_173 rfl (by decide) rfl rfl e_q_sum_17 rfl rfl rfl ⟨by show _ ≤ (12 + 4 * d : Nat); omega, by show _ ≤ (460 + 200 * d : Nat); omega⟩ ?_
              rintro v86 A87 ⟨z90, rfl, rfl, raw_hz_n89⟩
              show JM g D ad w0 A2 20 [(1, vi a), (0, vr 0 0)] [vi z90]
              have hz_n89 : z90 = 1 ∧ A2 0 0 31 = 0 ∧ A2 0 0 25 = 4 ∧ A2 0 0 26 = 45 ∨ z90 = 0 ∧ ¬ (A2 0 0 31 = 0 ∧ A2 0 0 25 = 4 ∧ A2 0 0 26 = 45) := raw_hz_n89
              clear raw_hz_n89
              rcases hz_n89 with ⟨e_n89, hz_n89⟩ | ⟨e_n89, hz_n89⟩
              · subst e_n89
                exact (by omega : False).elim
              · subst e_n89
                clear hz_n89
                refine m_if_eq (tgt := 49) C e_q_sum_20 (by decide) (by decide) (fun c91 => ?_) (fun c91 => (by omega : False).elim)
                refine m_blk 50 [(1, vi a), (0, vr 0 0)] [vi a] C f_q_sum_49_1 rfl ?_
                exact m_iret C Rm E e_q_sum_50 ⟨a, rfl, hT2, hE2, (by show 0 ≤ a ∧ a ≤ 119; omega), (by show A2 0 0 24 ≤ A2 0 0 23 ∧ A2 0 0 23 ≤ A2 0 0 22; omega), iT, (fun h9 => absurd ((g2 : A2 0 0 31 = 1).symm.trans h9) (by decide)), (by show A 0 0 24 ≤ A2 0 0 24 ∧ A 0 0 30 ≤ A2 0 0 30 ∧ A2 0 0 27 = A 0 0 27; omega), iG, iK⟩
      refine m_loc [(1, vi z5), (0, vr 0 0)] ⟨rfl, rfl, trivial⟩ ?_
      exact hd_5 (Int.toNat ((200 - A2 0 0 24)) + 1) A2 z5 hT_n4 hF_n4 (by show 0 ≤ z5 ∧ z5 ≤ 119; omega) (by show A2 0 0 24 ≤ A2 0 0 23 ∧ A2 0 0 23 ≤ A2 0 0 22; omega) pt_n4 (fun _ => ⟨g0, by show z5 < A2 0 0 30; omega, by show A 0 0 24 - A 0 0 30 ≤ A2 0 0 24 - A2 0 0 30; omega⟩) (by show A 0 0 24 ≤ A2 0 0 24 ∧ A 0 0 30 ≤ A2 0 0 30 ∧ A2 0 0 27 = A 0 0 27 ∧ A2 0 0 22 = A 0 0 22 ∧ A2 0 0 0 = p0 ∧ A2 0 0 29 = A 0 0 29 ∧ A2 0 0 28 = A 0 0 28; omega) hG_n4 (nK.trans (A2 := A) nK.rfl' hK_n4 (by show A 0 0 30 ≤ A 0 0 30; omega)) (by show (200 - A2 0 0 24) < _; omega)
    · refine m_blk 5 [(1, vi z5), (0, vr 0 0)] [] C f_q_sum_4_1 rfl ?_
      have hd_5 : ∀ (N : Nat) (A2 : mA) (a : Int), mTy A2 → mEq (em p0.toNat) A A2 → 0 ≤ a ∧ a ≤ 119 → A2 0 0 24 ≤ A2 0 0 23 ∧ A2 0 0 23 ≤ A2 0 0 22 → pT A2 → pW A A2 a → A 0 0 24 ≤ A2 0 0 24 ∧ A 0 0 30 ≤ A2 0 0 30 ∧ A2 0 0 27 = A 0 0 27 ∧ A2 0 0 22 = A 0 0 22 ∧ A2 0 0 0 = p0 ∧ A2 0 0 29 = A 0 0 29 ∧ A2 0 0 28 = A 0 0 28 → nG p0.toNat A2 → nK p0.toNat A A2 → (200 - A2 0 0 24) < (N : Int) → JM g D ad w0 A2 5 [(1, vi a), (0, vr 0 0)] [] := by
        intro N
        induction N with
        | zero => intro A2 a hT2 hE2 ia ib iT iw im iG iK hm; exact absurd hm (by omega)
        | succ N ih =>
          intro A2 a hT2 hE2 ia ib iT iw im iG iK hm
          rcases (show A2 0 0 31 = 0 ∨ A2 0 0 31 = 1 from by have w8 : 0 ≤ A2 0 0 31 ∧ A2 0 0 31 ≤ 1 := hT2 0 0 31; omega) with g2 | g2
          · have u2 : a < A2 0 0 30 ∧ A 0 0 24 - A 0 0 30 ≤ A2 0 0 24 - A2 0 0 30 := (iw g2).2
            have g0 : A 0 0 31 = 0 := (iw g2).1
            have hl0 := hl g0
            refine m_blk 8 [(1, vi a), (0, vr 0 0)] [vi 43, vr 0 0] C f_q_sum_5_2 rfl ?_
            refine m_callV C Rm Y [vi 43] [] (q_isSign l D B H0 ad _ hT2 43 (by show -2147483648 ≤ 43 ∧ 43 ≤ 2147483647; omega)) cl_Mo_173 rfl (by decide) rfl rfl e_q_sum_8 rfl rfl rfl ⟨by show _ ≤ (12 + 4 * d : Nat); omega, by show _ ≤ (460 + 200 * d : Nat); omega⟩ ?_
            rintro v92 A93 ⟨z96, rfl, rfl, raw_hz_n95⟩
            show JM g D ad w0 A2 11 [(1, vi a), (0, vr 0 0)] [vi z96]
            have hz_n95 : z96 = 1 ∧ A2 0 0 31 = 0 ∧ A2 0 0 25 = 4 ∧ A2 0 0 26 = 43 ∨ z96 = 0 ∧ ¬ (A2 0 0 31 = 0 ∧ A2 0 0 25 = 4 ∧ A2 0 0 26 = 43) := raw_hz_n95
            clear raw_hz_n95
            rcases hz_n95 with ⟨e_n95, hz_n95⟩ | ⟨e_n95, hz_n95⟩
            · subst e_n95
              have bt_n95 : A2 0 0 24 < A2 0 0 23 := pT_lt (A := A2) iT hz_n95.1 (by show ¬ A2 0 0 25 = 0; omega)
              refine m_if_ne (tgt := 23) C e_q_sum_11 (by decide) (by decide) (fun c97 => ?_) (fun c97 => (by omega : False).elim)
              refine m_blk 24 [(1, vi a), (0, vr 0 0)] [vr 0 0] C f_q_sum_23_1 rfl ?_
              obtain ⟨x98, hx98⟩ : ∃ x, A2 0 0 26 = x := ⟨_, rfl⟩
              have rx98 : (-1) ≤ x98 ∧ x98 ≤ 255 := mrg hT2 hx98 rfl
              refine m_geti C e_q_sum_24 fg_Mo_165 rfl (by decide) rfl x98 hx98 ?_
              refine m_blk 29 [(2, vi x98), (1, vi a), (0, vr 0 0)] [vr 0 0] C f_q_sum_27_2 rfl ?_
              refine m_callV C Rm Y [] [] (q_next l D B H0 ad _ hS hT2 (by show A2 0 0 23 ≤ A2 0 0 22; omega)) cl_Mo_176 rfl (by decide) rfl rfl e_q_sum_29 rfl rfl rfl ⟨by show _ ≤ (12 + 4 * d : Nat); omega, by show _ ≤ (460 + 200 * d : Nat); omega⟩ ?_
              rintro v99 A100 ⟨rfl, hT_n102, hE_n102, raw_hw_n102, raw_hb_n102⟩
              have hF_n102 := hE2.trans (hE_n102.sub (nm_em _))
              show JM g D ad w0 A100 32 [(2, vi x98), (1, vi a), (0, vr 0 0)] []
              obtain ⟨b1_n102, b2_n102, b3_n102, pt_n102⟩ : A2 0 0 23 ≤ A100 0 0 24 ∧ A100 0 0 24 ≤ A100 0 0 23 ∧ A100 0 0 23 ≤ A100 0 0 22 ∧ pT A100 := raw_hb_n102 g2
              clear raw_hb_n102 raw_hw_n102
              have k0_n102 : A100 0 0 0 = A2 0 0 0 := hE_n102 0 0 0 rfl
              have k22_n102 : A100 0 0 22 = A2 0 0 22 := hE_n102 0 0 22 rfl
              have k27_n102 : A100 0 0 27 = A2 0 0 27 := hE_n102 0 0 27 rfl
              have k28_n102 : A100 0 0 28 = A2 0 0 28 := hE_n102 0 0 28 rfl
              have k29_n102 : A100 0 0 29 = A2 0 0 29 := hE_n102 0 0 29 rfl
              have k30_n102 : A100 0 0 30 = A2 0 0 30 := hE_n102 0 0 30 rfl
              rcases (show A100 0 0 31 = 0 ∨ A100 0 0 31 = 1 from by have w9 := hT_n102 0 0 31; have w8 : 0 ≤ A100 0 0 31 ∧ A100 0 0 31 ≤ 1 := w9; omega) with g_n102 | g_n102
              · refine m_blk 33 [(2, vi x98), (1, vi a), (0, vr 0 0)] [vr 0 0] C f_q_sum_32_1 rfl ?_
                refine m_callV C Rm Y [] [] (hq9 l D B H0 ad _ hS hT_n102 p0 (by show A100 0 0 0 = p0 ∧ 0 ≤ p0 ∧ p0 ≤ 5; omega) (by show A100 0 0 24 ≤ A100 0 0 23 ∧ A100 0 0 23 ≤ A100 0 0 22; omega) pt_n102 (fun _ => by show A100 0 0 30 + 3 * A100 0 0 29 ≤ A100 0 0 24; omega) (nG.nm (A := A2) iG hE_n102) (by show A100 0 0 27 = 4 - (d : Int) ∧ (d : Int) ≤ 4; omega)) cl_Mo_222 rfl (by decide) rfl rfl e_q_sum_33 rfl rfl rfl ⟨by show _ ≤ (12 + 4 * d : Nat); omega, by show _ ≤ (460 + 200 * d : Nat); omega⟩ ?_
                rintro v103 A104 ⟨z107, rfl, hT_n106, hE_n106, raw_hz_n106, raw_hb_n106, raw_hn_n106, raw_hw_n106, raw_hm_n106, raw_hG_n106, raw_hK_n106⟩
                have hF_n106 := hF_n102.trans (hE_n106.sub (fun _ _ _ h => h))
                show JM g D ad w0 A104 36 [(2, vi x98), (1, vi a), (0, vr 0 0)] [vi z107]
                have hz_n106 : 0 ≤ z107 ∧ z107 ≤ 119 := raw_hz_n106
                clear raw_hz_n106
                have hb_n106 : A104 0 0 24 ≤ A104 0 0 23 ∧ A104 0 0 23 ≤ A104 0 0 22 := raw_hb_n106
                clear raw_hb_n106
                have hm_n106 : A100 0 0 24 ≤ A104 0 0 24 ∧ A100 0 0 30 ≤ A104 0 0 30 ∧ A104 0 0 27 = A100 0 0 27 := raw_hm_n106
                clear raw_hm_n106
                have pt_n106 : pT A104 := raw_hn_n106
                have k0_n106 : A104 0 0 0 = A100 0 0 0 := hE_n106 0 0 0 rfl
                have k22_n106 : A104 0 0 22 = A100 0 0 22 := hE_n106 0 0 22 rfl
                have k28_n106 : A104 0 0 28 = A100 0 0 28 := hE_n106 0 0 28 rfl
                have k29_n106 : A104 0 0 29 = A100 0 0 29 := hE_n106 0 0 29 rfl
                have hG_n106 : nG p0.toNat A104 := raw_hG_n106
                have hK_n106 : nK p0.toNat A100 A104 := raw_hK_n106
                rcases (show A104 0 0 31 = 0 ∨ A104 0 0 31 = 1 from by have w9 := hT_n106 0 0 31; have w8 : 0 ≤ A104 0 0 31 ∧ A104 0 0 31 ≤ 1 := w9; omega) with g_n106 | g_n106
                · have u_n106 : z107 < A104 0 0 30 ∧ A100 0 0 24 - A100 0 0 30 ≤ A104 0 0 24 - A104 0 0 30 := (raw_hw_n106 g_n106).2
                  refine m_blk 42 [(3, vi z107), (2, vi x98), (1, vi a), (0, vr 0 0)] [vi z107, vi a, vi 0, vi x98, vr 0 0] C f_q_sum_36_6 rfl ?_
                  refine m_callV C Rm Y [vi x98, vi 0, vi a, vi z107] [] (q_node l D B H0 ad _ hT_n106 p0 x98 0 a z107 (by show A104 0 0 0 = p0 ∧ 0 ≤ p0 ∧ p0 ≤ 5; omega) (fun _ => by show A104 0 0 30 ≤ 119; omega) (by show (-1 ≤ x98 ∧ x98 ≤ 255) ∧ (-1 ≤ 0 ∧ 0 ≤ 255) ∧ (-1 ≤ a ∧ a ≤ 119) ∧ (-1 ≤ z107 ∧ z107 ≤ 119); omega) hG_n106 (fun _ => by show a < A104 0 0 30 ∧ z107 < A104 0 0 30 ∧ (x98 ≠ 0 → x98 ≠ 1 → 0 ≤ a) ∧ (x98 ≠ 0 → x98 ≠ 1 → x98 ≠ 2 → 0 ≤ z107); omega)) cl_Mo_218 rfl (by decide) rfl rfl e_q_sum_42 rfl rfl rfl ⟨by show _ ≤ (12 + 4 * d : Nat); omega, by show _ ≤ (460 + 200 * d : Nat); omega⟩ ?_
                  rintro v108 A109 ⟨z112, rfl, hT_n111, hE_n111, raw_hz_n111, raw_hw_n111, raw_hi_n111, raw_hm_n111, raw_hG_n111, raw_hK_n111⟩
                  have hF_n111 := hF_n106.trans (hE_n111.sub (nd_em _))
                  show JM g D ad w0 A109 45 [(3, vi z107), (2, vi x98), (1, vi a), (0, vr 0 0)] [vi z112]
                  have hz_n111 : 0 ≤ z112 ∧ z112 ≤ 119 := raw_hz_n111
                  clear raw_hz_n111
                  obtain ⟨b1_n111, b2_n111⟩ : A109 0 0 30 = A104 0 0 30 + 1 ∧ z112 = A104 0 0 30 := raw_hi_n111 g_n106
                  clear raw_hi_n111 raw_hw_n111
                  have k0_n111 : A109 0 0 0 = A104 0 0 0 := hE_n111 0 0 0 rfl
                  have k22_n111 : A109 0 0 22 = A104 0 0 22 := hE_n111 0 0 22 rfl
                  have k23_n111 : A109 0 0 23 = A104 0 0 23 := hE_n111 0 0 23 rfl
                  have k24_n111 : A109 0 0 24 = A104 0 0 24 := hE_n111 0 0 24 rfl
                  have k25_n111 : A109 0 0 25 = A104 0 0 25 := hE_n111 0 0 25 rfl
                  have k26_n111 : A109 0 0 26 = A104 0 0 26 := hE_n111 0 0 26 rfl
                  have k27_n111 : A109 0 0 27 = A104 0 0 27 := hE_n111 0 0 27 rfl
                  have k28_n111 : A109 0 0 28 = A104 0 0 28 := hE_n111 0 0 28 rfl
                  have k29_n111 : A109 0 0 29 = A104 0 0 29 := hE_n111 0 0 29 rfl
                  have g_n111 : A109 0 0 31 = 0 := (hE_n111 0 0 31 rfl).trans g_n106
                  have hG_n111 : nG p0.toNat A109 := raw_hG_n111
                  have hK_n111 : nK p0.toNat A104 A109 := raw_hK_n111
                  have pt_n111 : pT A109 := pT_eq (A := A104) pt_n106 (hE_n111 0 0 31 rfl) (hE_n111 0 0 25 rfl) (hE_n111 0 0 24 rfl) (hE_n111 0 0 23 rfl) (hE_n111 0 0 26 rfl)
                  refine m_blk 5 [(1, vi z112), (3, vi z107), (2, vi x98), (0, vr 0 0)] [] C f_q_sum_45_2 rfl ?_
                  refine m_loc [(1, vi z112), (0, vr 0 0)] ⟨rfl, rfl, trivial⟩ ?_
                  exact ih A109 z112 hT_n111 hF_n111 (by show 0 ≤ z112 ∧ z112 ≤ 119; omega) (by show A109 0 0 24 ≤ A109 0 0 23 ∧ A109 0 0 23 ≤ A109 0 0 22; omega) pt_n111 (fun _ => ⟨g0, by show z112 < A109 0 0 30; omega, by show A 0 0 24 - A 0 0 30 ≤ A109 0 0 24 - A109 0 0 30; omega⟩) (by show A 0 0 24 ≤ A109 0 0 24 ∧ A 0 0 30 ≤ A109 0 0 30 ∧ A109 0 0 27 = A 0 0 27 ∧ A109 0 0 22 = A 0 0 22 ∧ A109 0 0 0 = p0 ∧ A109 0 0 29 = A 0 0 29 ∧ A109 0 0 28 = A 0 0 28; omega) hG_n111 (nK.trans (A2 := A104) (nK.trans (A2 := A100) (nK.nm (A2 := A2) iK hE_n102) hK_n106 (by show A 0 0 30 ≤ A100 0 0 30; omega)) hK_n111 (by show A 0 0 30 ≤ A104 0 0 30; omega)) (by have hm9 := hm; show (200 - A109 0 0 24) < _; omega)
                · refine m_blk 42 [(3, vi z107), (2, vi x98), (1, vi a), (0, vr 0 0)] [vi z107, vi a, vi 0, vi x98, vr 0 0] C f_q_sum_36_6 rfl ?_
                  refine m_callV C Rm Y [vi x98, vi 0, vi a, vi z107] [] (q_node l D B H0 ad _ hT_n106 p0 x98 0 a z107 (by show A104 0 0 0 = p0 ∧ 0 ≤ p0 ∧ p0 ≤ 5; omega) (fun h9 => absurd ((g_n106 : A104 0 0 31 = 1).symm.trans h9) (by decide)) (by show (-1 ≤ x98 ∧ x98 ≤ 255) ∧ (-1 ≤ 0 ∧ 0 ≤ 255) ∧ (-1 ≤ a ∧ a ≤ 119) ∧ (-1 ≤ z107 ∧ z107 ≤ 119); omega) hG_n106 (fun h9 => absurd ((g_n106 : A104 0 0 31 = 1).symm.trans h9) (by decide))) cl_Mo_218 rfl (by decide) rfl rfl e_q_sum_42 rfl rfl rfl ⟨by show _ ≤ (12 + 4 * d : Nat); omega, by show _ ≤ (460 + 200 * d : Nat); omega⟩ ?_
                  rintro v113 A114 ⟨z117, rfl, hT_n116, hE_n116, raw_hz_n116, raw_hw_n116, raw_hi_n116, raw_hm_n116, raw_hG_n116, raw_hK_n116⟩
                  have hF_n116 := hF_n106.trans (hE_n116.sub (nd_em _))
                  show JM g D ad w0 A114 45 [(3, vi z107), (2, vi x98), (1, vi a), (0, vr 0 0)] [vi z117]
                  have hz_n116 : 0 ≤ z117 ∧ z117 ≤ 119 := raw_hz_n116
                  clear raw_hz_n116
                  have ee_n116 := (raw_hw_n116 g_n106).symm
                  subst ee_n116
                  show JM g D ad w0 A104 45 [(3, vi z107), (2, vi x98), (1, vi a), (0, vr 0 0)] [vi z117]
                  refine m_blk 5 [(1, vi z117), (3, vi z107), (2, vi x98), (0, vr 0 0)] [] C f_q_sum_45_2 rfl ?_
                  refine m_loc [(1, vi z117), (0, vr 0 0)] ⟨rfl, rfl, trivial⟩ ?_
                  exact ih A104 z117 hT_n106 hF_n106 (by show 0 ≤ z117 ∧ z117 ≤ 119; omega) (by show A104 0 0 24 ≤ A104 0 0 23 ∧ A104 0 0 23 ≤ A104 0 0 22; omega) pt_n106 (fun h9 => absurd ((g_n106 : A104 0 0 31 = 1).symm.trans h9) (by decide)) (by show A 0 0 24 ≤ A104 0 0 24 ∧ A 0 0 30 ≤ A104 0 0 30 ∧ A104 0 0 27 = A 0 0 27 ∧ A104 0 0 22 = A 0 0 22 ∧ A104 0 0 0 = p0 ∧ A104 0 0 29 = A 0 0 29 ∧ A104 0 0 28 = A 0 0 28; omega) hG_n106 (nK.trans (A2 := A100) (nK.nm (A2 := A2) iK hE_n102) hK_n106 (by show A 0 0 30 ≤ A100 0 0 30; omega)) (by have hm9 := hm; show (200 - A104 0 0 24) < _; omega)
              · refine m_blk 33 [(2, vi x98), (1, vi a), (0, vr 0 0)] [vr 0 0] C f_q_sum_32_1 rfl ?_
                refine m_callV C Rm Y [] [] (hq9 l D B H0 ad _ hS hT_n102 p0 (by show A100 0 0 0 = p0 ∧ 0 ≤ p0 ∧ p0 ≤ 5; omega) (by show A100 0 0 24 ≤ A100 0 0 23 ∧ A100 0 0 23 ≤ A100 0 0 22; omega) pt_n102 (fun h9 => absurd ((g_n102 : A100 0 0 31 = 1).symm.trans h9) (by decide)) (nG.nm (A := A2) iG hE_n102) (by show A100 0 0 27 = 4 - (d : Int) ∧ (d : Int) ≤ 4; omega)) cl_Mo_222 rfl (by decide) rfl rfl e_q_sum_33 rfl rfl rfl ⟨by show _ ≤ (12 + 4 * d : Nat); omega, by show _ ≤ (460 + 200 * d : Nat); omega⟩ ?_
                rintro v118 A119 ⟨z122, rfl, hT_n121, hE_n121, raw_hz_n121, raw_hb_n121, raw_hn_n121, raw_hw_n121, raw_hm_n121, raw_hG_n121, raw_hK_n121⟩
                have hF_n121 := hF_n102.trans (hE_n121.sub (fun _ _ _ h => h))
                show JM g D ad w0 A119 36 [(2, vi x98), (1, vi a), (0, vr 0 0)] [vi z122]
                have hz_n121 : 0 ≤ z122 ∧ z122 ≤ 119 := raw_hz_n121
                clear raw_hz_n121
                have hb_n121 : A119 0 0 24 ≤ A119 0 0 23 ∧ A119 0 0 23 ≤ A119 0 0 22 := raw_hb_n121
                clear raw_hb_n121
                have hm_n121 : A100 0 0 24 ≤ A119 0 0 24 ∧ A100 0 0 30 ≤ A119 0 0 30 ∧ A119 0 0 27 = A100 0 0 27 := raw_hm_n121
                clear raw_hm_n121
                have pt_n121 : pT A119 := raw_hn_n121
                have k0_n121 : A119 0 0 0 = A100 0 0 0 := hE_n121 0 0 0 rfl
                have k22_n121 : A119 0 0 22 = A100 0 0 22 := hE_n121 0 0 22 rfl
                have k28_n121 : A119 0 0 28 = A100 0 0 28 := hE_n121 0 0 28 rfl
                have k29_n121 : A119 0 0 29 = A100 0 0 29 := hE_n121 0 0 29 rfl
                have hG_n121 : nG p0.toNat A119 := raw_hG_n121
                have hK_n121 : nK p0.toNat A100 A119 := raw_hK_n121
                have g_n121 : A119 0 0 31 = 1 := wr_1 (hT_n121 0 0 31) (fun h9 => absurd ((g_n102 : A100 0 0 31 = 1).symm.trans (raw_hw_n121 h9).1) (by decide))
                refine m_blk 42 [(3, vi z122), (2, vi x98), (1, vi a), (0, vr 0 0)] [vi z122, vi a, vi 0, vi x98, vr 0 0] C f_q_sum_36_6 rfl ?_
                refine m_callV C Rm Y [vi x98, vi 0, vi a, vi z122] [] (q_node l D B H0 ad _ hT_n121 p0 x98 0 a z122 (by show A119 0 0 0 = p0 ∧ 0 ≤ p0 ∧ p0 ≤ 5; omega) (fun h9 => absurd ((g_n121 : A119 0 0 31 = 1).symm.trans h9) (by decide)) (by show (-1 ≤ x98 ∧ x98 ≤ 255) ∧ (-1 ≤ 0 ∧ 0 ≤ 255) ∧ (-1 ≤ a ∧ a ≤ 119) ∧ (-1 ≤ z122 ∧ z122 ≤ 119); omega) hG_n121 (fun h9 => absurd ((g_n121 : A119 0 0 31 = 1).symm.trans h9) (by decide))) cl_Mo_218 rfl (by decide) rfl rfl e_q_sum_42 rfl rfl rfl ⟨by show _ ≤ (12 + 4 * d : Nat); omega, by show _ ≤ (460 + 200 * d : Nat); omega⟩ ?_
                rintro v123 A124 ⟨z127, rfl, hT_n126, hE_n126, raw_hz_n126, raw_hw_n126, raw_hi_n126, raw_hm_n126, raw_hG_n126, raw_hK_n126⟩
                have hF_n126 := hF_n121.trans (hE_n126.sub (nd_em _))
                show JM g D ad w0 A124 45 [(3, vi z122), (2, vi x98), (1, vi a), (0, vr 0 0)] [vi z127]
                have hz_n126 : 0 ≤ z127 ∧ z127 ≤ 119 := raw_hz_n126
                clear raw_hz_n126
                have ee_n126 := (raw_hw_n126 g_n121).symm
                subst ee_n126
                show JM g D ad w0 A119 45 [(3, vi z122), (2, vi x98), (1, vi a), (0, vr 0 0)] [vi z127]
                refine m_blk 5 [(1, vi z127), (3, vi z122), (2, vi x98), (0, vr 0 0)] [] C f_q_sum_45_2 rfl ?_
                refine m_loc [(1, vi z127), (0, vr 0 0)] ⟨rfl, rfl, trivial⟩ ?_
                exact ih A119 z127 hT_n121 hF_n121 (by show 0 ≤ z127 ∧ z127 ≤ 119; omega) (by show A119 0 0 24 ≤ A119 0 0 23 ∧ A119 0 0 23 ≤ A119 0 0 22; omega) pt_n121 (fun h9 => absurd ((g_n121 : A119 0 0 31 = 1).symm.trans h9) (by decide)) (by show A 0 0 24 ≤ A119 0 0 24 ∧ A 0 0 30 ≤ A119 0 0 30 ∧ A119 0 0 27 = A 0 0 27 ∧ A119 0 0 22 = A 0 0 22 ∧ A119 0 0 0 = p0 ∧ A119 0 0 29 = A 0 0 29 ∧ A119 0 0 28 = A 0 0 28; omega) hG_n121 (nK.trans (A2 := A100) (nK.nm (A2 := A2) iK hE_n102) hK_n121 (by show A 0 0 30 ≤ A100 0 0 30; omega)) (by have hm9 := hm; show (200 - A119 0 0 24) < _; omega)
            · subst e_n95
              clear hz_n95
              refine m_if_ne (tgt := 23) C e_q_sum_11 (by decide) (by decide) (fun c128 => (by omega : False).elim) (fun c128 => ?_)
              refine m_blk 17 [(1, vi a), (0, vr 0 0)] [vi 45, vr 0 0] C f_q_sum_14_2 rfl ?_
              refine m_callV C Rm Y [vi 45] [] (q_isSign l D B H0 ad _ hT2 45 (by show -2147483648 ≤ 45 ∧ 45 ≤ 2147483647; omega)) cl_Mo_173 rfl (by decide) rfl rfl e_q_sum_17 rfl rfl rfl ⟨by show _ ≤ (12 + 4 * d : Nat); omega, by show _ ≤ (460 + 200 * d : Nat); omega⟩ ?_
              rintro v129 A130 ⟨z133, rfl, rfl, raw_hz_n132⟩
              show JM g D ad w0 A2 20 [(1, vi a), (0, vr 0 0)] [vi z133]
              have hz_n132 : z133 = 1 ∧ A2 0 0 31 = 0 ∧ A2 0 0 25 = 4 ∧ A2 0 0 26 = 45 ∨ z133 = 0 ∧ ¬ (A2 0 0 31 = 0 ∧ A2 0 0 25 = 4 ∧ A2 0 0 26 = 45) := raw_hz_n132
              clear raw_hz_n132
              rcases hz_n132 with ⟨e_n132, hz_n132⟩ | ⟨e_n132, hz_n132⟩
              · subst e_n132
                have bt_n132 : A2 0 0 24 < A2 0 0 23 := pT_lt (A := A2) iT hz_n132.1 (by show ¬ A2 0 0 25 = 0; omega)
                refine m_if_eq (tgt := 49) C e_q_sum_20 (by decide) (by decide) (fun c134 => (by omega : False).elim) (fun c134 => ?_)
                refine m_blk 24 [(1, vi a), (0, vr 0 0)] [vr 0 0] C f_q_sum_23_1 rfl ?_
                obtain ⟨x135, hx135⟩ : ∃ x, A2 0 0 26 = x := ⟨_, rfl⟩
                have rx135 : (-1) ≤ x135 ∧ x135 ≤ 255 := mrg hT2 hx135 rfl
                refine m_geti C e_q_sum_24 fg_Mo_165 rfl (by decide) rfl x135 hx135 ?_
                refine m_blk 29 [(2, vi x135), (1, vi a), (0, vr 0 0)] [vr 0 0] C f_q_sum_27_2 rfl ?_
                refine m_callV C Rm Y [] [] (q_next l D B H0 ad _ hS hT2 (by show A2 0 0 23 ≤ A2 0 0 22; omega)) cl_Mo_176 rfl (by decide) rfl rfl e_q_sum_29 rfl rfl rfl ⟨by show _ ≤ (12 + 4 * d : Nat); omega, by show _ ≤ (460 + 200 * d : Nat); omega⟩ ?_
                rintro v136 A137 ⟨rfl, hT_n139, hE_n139, raw_hw_n139, raw_hb_n139⟩
                have hF_n139 := hE2.trans (hE_n139.sub (nm_em _))
                show JM g D ad w0 A137 32 [(2, vi x135), (1, vi a), (0, vr 0 0)] []
                obtain ⟨b1_n139, b2_n139, b3_n139, pt_n139⟩ : A2 0 0 23 ≤ A137 0 0 24 ∧ A137 0 0 24 ≤ A137 0 0 23 ∧ A137 0 0 23 ≤ A137 0 0 22 ∧ pT A137 := raw_hb_n139 g2
                clear raw_hb_n139 raw_hw_n139
                have k0_n139 : A137 0 0 0 = A2 0 0 0 := hE_n139 0 0 0 rfl
                have k22_n139 : A137 0 0 22 = A2 0 0 22 := hE_n139 0 0 22 rfl
                have k27_n139 : A137 0 0 27 = A2 0 0 27 := hE_n139 0 0 27 rfl
                have k28_n139 : A137 0 0 28 = A2 0 0 28 := hE_n139 0 0 28 rfl
                have k29_n139 : A137 0 0 29 = A2 0 0 29 := hE_n139 0 0 29 rfl
                have k30_n139 : A137 0 0 30 = A2 0 0 30 := hE_n139 0 0 30 rfl
                rcases (show A137 0 0 31 = 0 ∨ A137 0 0 31 = 1 from by have w9 := hT_n139 0 0 31; have w8 : 0 ≤ A137 0 0 31 ∧ A137 0 0 31 ≤ 1 := w9; omega) with g_n139 | g_n139
                · refine m_blk 33 [(2, vi x135), (1, vi a), (0, vr 0 0)] [vr 0 0] C f_q_sum_32_1 rfl ?_
                  refine m_callV C Rm Y [] [] (hq9 l D B H0 ad _ hS hT_n139 p0 (by show A137 0 0 0 = p0 ∧ 0 ≤ p0 ∧ p0 ≤ 5; omega) (by show A137 0 0 24 ≤ A137 0 0 23 ∧ A137 0 0 23 ≤ A137 0 0 22; omega) pt_n139 (fun _ => by show A137 0 0 30 + 3 * A137 0 0 29 ≤ A137 0 0 24; omega) (nG.nm (A := A2) iG hE_n139) (by show A137 0 0 27 = 4 - (d : Int) ∧ (d : Int) ≤ 4; omega)) cl_Mo_222 rfl (by decide) rfl rfl e_q_sum_33 rfl rfl rfl ⟨by show _ ≤ (12 + 4 * d : Nat); omega, by show _ ≤ (460 + 200 * d : Nat); omega⟩ ?_
                  rintro v140 A141 ⟨z144, rfl, hT_n143, hE_n143, raw_hz_n143, raw_hb_n143, raw_hn_n143, raw_hw_n143, raw_hm_n143, raw_hG_n143, raw_hK_n143⟩
                  have hF_n143 := hF_n139.trans (hE_n143.sub (fun _ _ _ h => h))
                  show JM g D ad w0 A141 36 [(2, vi x135), (1, vi a), (0, vr 0 0)] [vi z144]
                  have hz_n143 : 0 ≤ z144 ∧ z144 ≤ 119 := raw_hz_n143
                  clear raw_hz_n143
                  have hb_n143 : A141 0 0 24 ≤ A141 0 0 23 ∧ A141 0 0 23 ≤ A141 0 0 22 := raw_hb_n143
                  clear raw_hb_n143
                  have hm_n143 : A137 0 0 24 ≤ A141 0 0 24 ∧ A137 0 0 30 ≤ A141 0 0 30 ∧ A141 0 0 27 = A137 0 0 27 := raw_hm_n143
                  clear raw_hm_n143
                  have pt_n143 : pT A141 := raw_hn_n143
                  have k0_n143 : A141 0 0 0 = A137 0 0 0 := hE_n143 0 0 0 rfl
                  have k22_n143 : A141 0 0 22 = A137 0 0 22 := hE_n143 0 0 22 rfl
                  have k28_n143 : A141 0 0 28 = A137 0 0 28 := hE_n143 0 0 28 rfl
                  have k29_n143 : A141 0 0 29 = A137 0 0 29 := hE_n143 0 0 29 rfl
                  have hG_n143 : nG p0.toNat A141 := raw_hG_n143
                  have hK_n143 : nK p0.toNat A137 A141 := raw_hK_n143
                  rcases (show A141 0 0 31 = 0 ∨ A141 0 0 31 = 1 from by have w9 := hT_n143 0 0 31; have w8 : 0 ≤ A141 0 0 31 ∧ A141 0 0 31 ≤ 1 := w9; omega) with g_n143 | g_n143
                  · have u_n143 : z144 < A141 0 0 30 ∧ A137 0 0 24 - A137 0 0 30 ≤ A141 0 0 24 - A141 0 0 30 := (raw_hw_n143 g_n143).2
                    refine m_blk 42 [(3, vi z144), (2, vi x135), (1, vi a), (0, vr 0 0)] [vi z144, vi a, vi 0, vi x135, vr 0 0] C f_q_sum_36_6 rfl ?_
                    refine m_callV C Rm Y [vi x135, vi 0, vi a, vi z144] [] (q_node l D B H0 ad _ hT_n143 p0 x135 0 a z144 (by show A141 0 0 0 = p0 ∧ 0 ≤ p0 ∧ p0 ≤ 5; omega) (fun _ => by show A141 0 0 30 ≤ 119; omega) (by show (-1 ≤ x135 ∧ x135 ≤ 255) ∧ (-1 ≤ 0 ∧ 0 ≤ 255) ∧ (-1 ≤ a ∧ a ≤ 119) ∧ (-1 ≤ z144 ∧ z144 ≤ 119); omega) hG_n143 (fun _ => by show a < A141 0 0 30 ∧ z144 < A141 0 0 30 ∧ (x135 ≠ 0 → x135 ≠ 1 → 0 ≤ a) ∧ (x135 ≠ 0 → x135 ≠ 1 → x135 ≠ 2 → 0 ≤ z144); omega)) cl_Mo_218 rfl (by decide) rfl rfl e_q_sum_42 rfl rfl rfl ⟨by show _ ≤ (12 + 4 * d : Nat); omega, by show _ ≤ (460 + 200 * d : Nat); omega⟩ ?_
                    rintro v145 A146 ⟨z149, rfl, hT_n148, hE_n148, raw_hz_n148, raw_hw_n148, raw_hi_n148, raw_hm_n148, raw_hG_n148, raw_hK_n148⟩
                    have hF_n148 := hF_n143.trans (hE_n148.sub (nd_em _))
                    show JM g D ad w0 A146 45 [(3, vi z144), (2, vi x135), (1, vi a), (0, vr 0 0)] [vi z149]
                    have hz_n148 : 0 ≤ z149 ∧ z149 ≤ 119 := raw_hz_n148
                    clear raw_hz_n148
                    obtain ⟨b1_n148, b2_n148⟩ : A146 0 0 30 = A141 0 0 30 + 1 ∧ z149 = A141 0 0 30 := raw_hi_n148 g_n143
                    clear raw_hi_n148 raw_hw_n148
                    have k0_n148 : A146 0 0 0 = A141 0 0 0 := hE_n148 0 0 0 rfl
                    have k22_n148 : A146 0 0 22 = A141 0 0 22 := hE_n148 0 0 22 rfl
                    have k23_n148 : A146 0 0 23 = A141 0 0 23 := hE_n148 0 0 23 rfl
                    have k24_n148 : A146 0 0 24 = A141 0 0 24 := hE_n148 0 0 24 rfl
                    have k25_n148 : A146 0 0 25 = A141 0 0 25 := hE_n148 0 0 25 rfl
                    have k26_n148 : A146 0 0 26 = A141 0 0 26 := hE_n148 0 0 26 rfl
                    have k27_n148 : A146 0 0 27 = A141 0 0 27 := hE_n148 0 0 27 rfl
                    have k28_n148 : A146 0 0 28 = A141 0 0 28 := hE_n148 0 0 28 rfl
                    have k29_n148 : A146 0 0 29 = A141 0 0 29 := hE_n148 0 0 29 rfl
                    have g_n148 : A146 0 0 31 = 0 := (hE_n148 0 0 31 rfl).trans g_n143
                    have hG_n148 : nG p0.toNat A146 := raw_hG_n148
                    have hK_n148 : nK p0.toNat A141 A146 := raw_hK_n148
                    have pt_n148 : pT A146 := pT_eq (A := A141) pt_n143 (hE_n148 0 0 31 rfl) (hE_n148 0 0 25 rfl) (hE_n148 0 0 24 rfl) (hE_n148 0 0 23 rfl) (hE_n148 0 0 26 rfl)
                    refine m_blk 5 [(1, vi z149), (3, vi z144), (2, vi x135), (0, vr 0 0)] [] C f_q_sum_45_2 rfl ?_
                    refine m_loc [(1, vi z149), (0, vr 0 0)] ⟨rfl, rfl, trivial⟩ ?_
                    exact ih A146 z149 hT_n148 hF_n148 (by show 0 ≤ z149 ∧ z149 ≤ 119; omega) (by show A146 0 0 24 ≤ A146 0 0 23 ∧ A146 0 0 23 ≤ A146 0 0 22; omega) pt_n148 (fun _ => ⟨g0, by show z149 < A146 0 0 30; omega, by show A 0 0 24 - A 0 0 30 ≤ A146 0 0 24 - A146 0 0 30; omega⟩) (by show A 0 0 24 ≤ A146 0 0 24 ∧ A 0 0 30 ≤ A146 0 0 30 ∧ A146 0 0 27 = A 0 0 27 ∧ A146 0 0 22 = A 0 0 22 ∧ A146 0 0 0 = p0 ∧ A146 0 0 29 = A 0 0 29 ∧ A146 0 0 28 = A 0 0 28; omega) hG_n148 (nK.trans (A2 := A141) (nK.trans (A2 := A137) (nK.nm (A2 := A2) iK hE_n139) hK_n143 (by show A 0 0 30 ≤ A137 0 0 30; omega)) hK_n148 (by show A 0 0 30 ≤ A141 0 0 30; omega)) (by have hm9 := hm; show (200 - A146 0 0 24) < _; omega)
                  · refine m_blk 42 [(3, vi z144), (2, vi x135), (1, vi a), (0, vr 0 0)] [vi z144, vi a, vi 0, vi x135, vr 0 0] C f_q_sum_36_6 rfl ?_
                    refine m_callV C Rm Y [vi x135, vi 0, vi a, vi z144] [] (q_node l D B H0 ad _ hT_n143 p0 x135 0 a z144 (by show A141 0 0 0 = p0 ∧ 0 ≤ p0 ∧ p0 ≤ 5; omega) (fun h9 => absurd ((g_n143 : A141 0 0 31 = 1).symm.trans h9) (by decide)) (by show (-1 ≤ x135 ∧ x135 ≤ 255) ∧ (-1 ≤ 0 ∧ 0 ≤ 255) ∧ (-1 ≤ a ∧ a ≤ 119) ∧ (-1 ≤ z144 ∧ z144 ≤ 119); omega) hG_n143 (fun h9 => absurd ((g_n143 : A141 0 0 31 = 1).symm.trans h9) (by decide))) cl_Mo_218 rfl (by decide) rfl rfl e_q_sum_42 rfl rfl rfl ⟨by show _ ≤ (12 + 4 * d : Nat); omega, by show _ ≤ (460 + 200 * d : Nat); omega⟩ ?_
                    rintro v150 A151 ⟨z154, rfl, hT_n153, hE_n153, raw_hz_n153, raw_hw_n153, raw_hi_n153, raw_hm_n153, raw_hG_n153, raw_hK_n153⟩
                    have hF_n153 := hF_n143.trans (hE_n153.sub (nd_em _))
                    show JM g D ad w0 A151 45 [(3, vi z144), (2, vi x135), (1, vi a), (0, vr 0 0)] [vi z154]
                    have hz_n153 : 0 ≤ z154 ∧ z154 ≤ 119 := raw_hz_n153
                    clear raw_hz_n153
                    have ee_n153 := (raw_hw_n153 g_n143).symm
                    subst ee_n153
                    show JM g D ad w0 A141 45 [(3, vi z144), (2, vi x135), (1, vi a), (0, vr 0 0)] [vi z154]
                    refine m_blk 5 [(1, vi z154), (3, vi z144), (2, vi x135), (0, vr 0 0)] [] C f_q_sum_45_2 rfl ?_
                    refine m_loc [(1, vi z154), (0, vr 0 0)] ⟨rfl, rfl, trivial⟩ ?_
                    exact ih A141 z154 hT_n143 hF_n143 (by show 0 ≤ z154 ∧ z154 ≤ 119; omega) (by show A141 0 0 24 ≤ A141 0 0 23 ∧ A141 0 0 23 ≤ A141 0 0 22; omega) pt_n143 (fun h9 => absurd ((g_n143 : A141 0 0 31 = 1).symm.trans h9) (by decide)) (by show A 0 0 24 ≤ A141 0 0 24 ∧ A 0 0 30 ≤ A141 0 0 30 ∧ A141 0 0 27 = A 0 0 27 ∧ A141 0 0 22 = A 0 0 22 ∧ A141 0 0 0 = p0 ∧ A141 0 0 29 = A 0 0 29 ∧ A141 0 0 28 = A 0 0 28; omega) hG_n143 (nK.trans (A2 := A137) (nK.nm (A2 := A2) iK hE_n139) hK_n143 (by show A 0 0 30 ≤ A137 0 0 30; omega)) (by have hm9 := hm; show (200 - A141 0 0 24) < _; omega)
                · refine m_blk 33 [(2, vi x135), (1, vi a), (0, vr 0 0)] [vr 0 0] C f_q_sum_32_1 rfl ?_
                  refine m_callV C Rm Y [] [] (hq9 l D B H0 ad _ hS hT_n139 p0 (by show A137 0 0 0 = p0 ∧ 0 ≤ p0 ∧ p0 ≤ 5; omega) (by show A137 0 0 24 ≤ A137 0 0 23 ∧ A137 0 0 23 ≤ A137 0 0 22; omega) pt_n139 (fun h9 => absurd ((g_n139 : A137 0 0 31 = 1).symm.trans h9) (by decide)) (nG.nm (A := A2) iG hE_n139) (by show A137 0 0 27 = 4 - (d : Int) ∧ (d : Int) ≤ 4; omega)) cl_Mo_222 rfl (by decide) rfl rfl e_q_sum_33 rfl rfl rfl ⟨by show _ ≤ (12 + 4 * d : Nat); omega, by show _ ≤ (460 + 200 * d : Nat); omega⟩ ?_
                  rintro v155 A156 ⟨z159, rfl, hT_n158, hE_n158, raw_hz_n158, raw_hb_n158, raw_hn_n158, raw_hw_n158, raw_hm_n158, raw_hG_n158, raw_hK_n158⟩
                  have hF_n158 := hF_n139.trans (hE_n158.sub (fun _ _ _ h => h))
                  show JM g D ad w0 A156 36 [(2, vi x135), (1, vi a), (0, vr 0 0)] [vi z159]
                  have hz_n158 : 0 ≤ z159 ∧ z159 ≤ 119 := raw_hz_n158
                  clear raw_hz_n158
                  have hb_n158 : A156 0 0 24 ≤ A156 0 0 23 ∧ A156 0 0 23 ≤ A156 0 0 22 := raw_hb_n158
                  clear raw_hb_n158
                  have hm_n158 : A137 0 0 24 ≤ A156 0 0 24 ∧ A137 0 0 30 ≤ A156 0 0 30 ∧ A156 0 0 27 = A137 0 0 27 := raw_hm_n158
                  clear raw_hm_n158
                  have pt_n158 : pT A156 := raw_hn_n158
                  have k0_n158 : A156 0 0 0 = A137 0 0 0 := hE_n158 0 0 0 rfl
                  have k22_n158 : A156 0 0 22 = A137 0 0 22 := hE_n158 0 0 22 rfl
                  have k28_n158 : A156 0 0 28 = A137 0 0 28 := hE_n158 0 0 28 rfl
                  have k29_n158 : A156 0 0 29 = A137 0 0 29 := hE_n158 0 0 29 rfl
                  have hG_n158 : nG p0.toNat A156 := raw_hG_n158
                  have hK_n158 : nK p0.toNat A137 A156 := raw_hK_n158
                  have g_n158 : A156 0 0 31 = 1 := wr_1 (hT_n158 0 0 31) (fun h9 => absurd ((g_n139 : A137 0 0 31 = 1).symm.trans (raw_hw_n158 h9).1) (by decide))
                  refine m_blk 42 [(3, vi z159), (2, vi x135), (1, vi a), (0, vr 0 0)] [vi z159, vi a, vi 0, vi x135, vr 0 0] C f_q_sum_36_6 rfl ?_
                  refine m_callV C Rm Y [vi x135, vi 0, vi a, vi z159] [] (q_node l D B H0 ad _ hT_n158 p0 x135 0 a z159 (by show A156 0 0 0 = p0 ∧ 0 ≤ p0 ∧ p0 ≤ 5; omega) (fun h9 => absurd ((g_n158 : A156 0 0 31 = 1).symm.trans h9) (by decide)) (by show (-1 ≤ x135 ∧ x135 ≤ 255) ∧ (-1 ≤ 0 ∧ 0 ≤ 255) ∧ (-1 ≤ a ∧ a ≤ 119) ∧ (-1 ≤ z159 ∧ z159 ≤ 119); omega) hG_n158 (fun h9 => absurd ((g_n158 : A156 0 0 31 = 1).symm.trans h9) (by decide))) cl_Mo_218 rfl (by decide) rfl rfl e_q_sum_42 rfl rfl rfl ⟨by show _ ≤ (12 + 4 * d : Nat); omega, by show _ ≤ (460 + 200 * d : Nat); omega⟩ ?_
                  rintro v160 A161 ⟨z164, rfl, hT_n163, hE_n163, raw_hz_n163, raw_hw_n163, raw_hi_n163, raw_hm_n163, raw_hG_n163, raw_hK_n163⟩
                  have hF_n163 := hF_n158.trans (hE_n163.sub (nd_em _))
                  show JM g D ad w0 A161 45 [(3, vi z159), (2, vi x135), (1, vi a), (0, vr 0 0)] [vi z164]
                  have hz_n163 : 0 ≤ z164 ∧ z164 ≤ 119 := raw_hz_n163
                  clear raw_hz_n163
                  have ee_n163 := (raw_hw_n163 g_n158).symm
                  subst ee_n163
                  show JM g D ad w0 A156 45 [(3, vi z159), (2, vi x135), (1, vi a), (0, vr 0 0)] [vi z164]
                  refine m_blk 5 [(1, vi z164), (3, vi z159), (2, vi x135), (0, vr 0 0)] [] C f_q_sum_45_2 rfl ?_
                  refine m_loc [(1, vi z164), (0, vr 0 0)] ⟨rfl, rfl, trivial⟩ ?_
                  exact ih A156 z164 hT_n158 hF_n158 (by show 0 ≤ z164 ∧ z164 ≤ 119; omega) (by show A156 0 0 24 ≤ A156 0 0 23 ∧ A156 0 0 23 ≤ A156 0 0 22; omega) pt_n158 (fun h9 => absurd ((g_n158 : A156 0 0 31 = 1).symm.trans h9) (by decide)) (by show A 0 0 24 ≤ A156 0 0 24 ∧ A 0 0 30 ≤ A156 0 0 30 ∧ A156 0 0 27 = A 0 0 27 ∧ A156 0 0 22 = A 0 0 22 ∧ A156 0 0 0 = p0 ∧ A156 0 0 29 = A 0 0 29 ∧ A156 0 0 28 = A 0 0 28; omega) hG_n158 (nK.trans (A2 := A137) (nK.nm (A2 := A2) iK hE_n139) hK_n158 (by show A 0 0 30 ≤ A137 0 0 30; omega)) (by have hm9 := hm; show (200 - A156 0 0 24) < _; omega)
              · subst e_n132
                clear hz_n132
                refine m_if_eq (tgt := 49) C e_q_sum_20 (by decide) (by decide) (fun c165 => ?_) (fun c165 => (by omega : False).elim)
                refine m_blk 50 [(1, vi a), (0, vr 0 0)] [vi a] C f_q_sum_49_1 rfl ?_
                exact m_iret C Rm E e_q_sum_50 ⟨a, rfl, hT2, hE2, (by show 0 ≤ a ∧ a ≤ 119; omega), (by show A2 0 0 24 ≤ A2 0 0 23 ∧ A2 0 0 23 ≤ A2 0 0 22; omega), iT, (fun _ => ⟨g0, (by show a < A2 0 0 30; omega), (by show A 0 0 24 - A 0 0 30 ≤ A2 0 0 24 - A2 0 0 30; omega)⟩), (by show A 0 0 24 ≤ A2 0 0 24 ∧ A 0 0 30 ≤ A2 0 0 30 ∧ A2 0 0 27 = A 0 0 27; omega), iG, iK⟩
          · refine m_blk 8 [(1, vi a), (0, vr 0 0)] [vi 43, vr 0 0] C f_q_sum_5_2 rfl ?_
            refine m_callV C Rm Y [vi 43] [] (q_isSign l D B H0 ad _ hT2 43 (by show -2147483648 ≤ 43 ∧ 43 ≤ 2147483647; omega)) cl_Mo_173 rfl (by decide) rfl rfl e_q_sum_8 rfl rfl rfl ⟨by show _ ≤ (12 + 4 * d : Nat); omega, by show _ ≤ (460 + 200 * d : Nat); omega⟩ ?_
            rintro v166 A167 ⟨z170, rfl, rfl, raw_hz_n169⟩
            show JM g D ad w0 A2 11 [(1, vi a), (0, vr 0 0)] [vi z170]
            have hz_n169 : z170 = 1 ∧ A2 0 0 31 = 0 ∧ A2 0 0 25 = 4 ∧ A2 0 0 26 = 43 ∨ z170 = 0 ∧ ¬ (A2 0 0 31 = 0 ∧ A2 0 0 25 = 4 ∧ A2 0 0 26 = 43) := raw_hz_n169
            clear raw_hz_n169
            rcases hz_n169 with ⟨e_n169, hz_n169⟩ | ⟨e_n169, hz_n169⟩
            · subst e_n169
              exact (by omega : False).elim
            · subst e_n169
              clear hz_n169
              refine m_if_ne (tgt := 23) C e_q_sum_11 (by decide) (by decide) (fun c171 => (by omega : False).elim) (fun c171 => ?_)
              refine m_blk 17 [(1, vi a), (0, vr 0 0)] [vi 45, vr 0 0] C f_q_sum_14_2 rfl ?_
              refine m_callV C Rm Y [vi 45] [] (q_isSign l D B H0 ad _ hT2 45 (by show -2147483648 ≤ 45 ∧ 45 ≤ 2147483647; omega)) cl_Mo_173 rfl (by decide) rfl rfl e_q_sum_17 rfl rfl rfl ⟨by show _ ≤ (12 + 4 * d : Nat); omega, by show _ ≤ (460 + 200 * d : Nat); omega⟩ ?_
              rintro v172 A173 ⟨z176, rfl, rfl, raw_hz_n175⟩
              show JM g D ad w0 A2 20 [(1, vi a), (0, vr 0 0)] [vi z176]
              have hz_n175 : z176 = 1 ∧ A2 0 0 31 = 0 ∧ A2 0 0 25 = 4 ∧ A2 0 0 26 = 45 ∨ z176 = 0 ∧ ¬ (A2 0 0 31 = 0 ∧ A2 0 0 25 = 4 ∧ A2 0 0 26 = 45) := raw_hz_n175
              clear raw_hz_n175
              rcases hz_n175 with ⟨e_n175, hz_n175⟩ | ⟨e_n175, hz_n175⟩
              · subst e_n175
                exact (by omega : False).elim
              · subst e_n175
                clear hz_n175
                refine m_if_eq (tgt := 49) C e_q_sum_20 (by decide) (by decide) (fun c177 => ?_) (fun c177 => (by omega : False).elim)
                refine m_blk 50 [(1, vi a), (0, vr 0 0)] [vi a] C f_q_sum_49_1 rfl ?_
                exact m_iret C Rm E e_q_sum_50 ⟨a, rfl, hT2, hE2, (by show 0 ≤ a ∧ a ≤ 119; omega), (by show A2 0 0 24 ≤ A2 0 0 23 ∧ A2 0 0 23 ≤ A2 0 0 22; omega), iT, (fun h9 => absurd ((g2 : A2 0 0 31 = 1).symm.trans h9) (by decide)), (by show A 0 0 24 ≤ A2 0 0 24 ∧ A 0 0 30 ≤ A2 0 0 30 ∧ A2 0 0 27 = A 0 0 27; omega), iG, iK⟩
      refine m_loc [(1, vi z5), (0, vr 0 0)] ⟨rfl, rfl, trivial⟩ ?_
      exact hd_5 (Int.toNat ((200 - A2 0 0 24)) + 1) A2 z5 hT_n4 hF_n4 (by show 0 ≤ z5 ∧ z5 ≤ 119; omega) (by show A2 0 0 24 ≤ A2 0 0 23 ∧ A2 0 0 23 ≤ A2 0 0 22; omega) pt_n4 (fun h9 => absurd ((g_n4 : A2 0 0 31 = 1).symm.trans h9) (by decide)) (by show A 0 0 24 ≤ A2 0 0 24 ∧ A 0 0 30 ≤ A2 0 0 30 ∧ A2 0 0 27 = A 0 0 27 ∧ A2 0 0 22 = A 0 0 22 ∧ A2 0 0 0 = p0 ∧ A2 0 0 29 = A 0 0 29 ∧ A2 0 0 28 = A 0 0 28; omega) hG_n4 (nK.trans (A2 := A) nK.rfl' hK_n4 (by show A 0 0 30 ≤ A 0 0 30; omega)) (by show (200 - A2 0 0 24) < _; omega)
  · refine m_blk 1 [(0, vr 0 0)] [vr 0 0] C f_q_sum_0_1 rfl ?_
    refine m_callV C Rm Y [] [] (hq9 l D B H0 ad _ hS hT p0 (by show A 0 0 0 = p0 ∧ 0 ≤ p0 ∧ p0 ≤ 5; omega) (by show A 0 0 24 ≤ A 0 0 23 ∧ A 0 0 23 ≤ A 0 0 22; omega) hn (fun h9 => absurd ((g0 : A 0 0 31 = 1).symm.trans h9) (by decide)) hG (by show A 0 0 27 = 4 - (d : Int) ∧ (d : Int) ≤ 4; omega)) cl_Mo_222 rfl (by decide) rfl rfl e_q_sum_1 rfl rfl rfl ⟨by show _ ≤ (12 + 4 * d : Nat); omega, by show _ ≤ (460 + 200 * d : Nat); omega⟩ ?_
    rintro v178 A179 ⟨z182, rfl, hT_n181, hE_n181, raw_hz_n181, raw_hb_n181, raw_hn_n181, raw_hw_n181, raw_hm_n181, raw_hG_n181, raw_hK_n181⟩
    have hF_n181 := hE0.trans (hE_n181.sub (fun _ _ _ h => h))
    show JM g D ad w0 A179 4 [(0, vr 0 0)] [vi z182]
    have hz_n181 : 0 ≤ z182 ∧ z182 ≤ 119 := raw_hz_n181
    clear raw_hz_n181
    have hb_n181 : A179 0 0 24 ≤ A179 0 0 23 ∧ A179 0 0 23 ≤ A179 0 0 22 := raw_hb_n181
    clear raw_hb_n181
    have hm_n181 : A 0 0 24 ≤ A179 0 0 24 ∧ A 0 0 30 ≤ A179 0 0 30 ∧ A179 0 0 27 = A 0 0 27 := raw_hm_n181
    clear raw_hm_n181
    have pt_n181 : pT A179 := raw_hn_n181
    have k0_n181 : A179 0 0 0 = A 0 0 0 := hE_n181 0 0 0 rfl
    have k22_n181 : A179 0 0 22 = A 0 0 22 := hE_n181 0 0 22 rfl
    have k28_n181 : A179 0 0 28 = A 0 0 28 := hE_n181 0 0 28 rfl
    have k29_n181 : A179 0 0 29 = A 0 0 29 := hE_n181 0 0 29 rfl
    have hG_n181 : nG p0.toNat A179 := raw_hG_n181
    have hK_n181 : nK p0.toNat A A179 := raw_hK_n181
    have g_n181 : A179 0 0 31 = 1 := wr_1 (hT_n181 0 0 31) (fun h9 => absurd ((g0 : A 0 0 31 = 1).symm.trans (raw_hw_n181 h9).1) (by decide))
    refine m_blk 5 [(1, vi z182), (0, vr 0 0)] [] C f_q_sum_4_1 rfl ?_
    have hd_5 : ∀ (N : Nat) (A2 : mA) (a : Int), mTy A2 → mEq (em p0.toNat) A A2 → 0 ≤ a ∧ a ≤ 119 → A2 0 0 24 ≤ A2 0 0 23 ∧ A2 0 0 23 ≤ A2 0 0 22 → pT A2 → pW A A2 a → A 0 0 24 ≤ A2 0 0 24 ∧ A 0 0 30 ≤ A2 0 0 30 ∧ A2 0 0 27 = A 0 0 27 ∧ A2 0 0 22 = A 0 0 22 ∧ A2 0 0 0 = p0 ∧ A2 0 0 29 = A 0 0 29 ∧ A2 0 0 28 = A 0 0 28 → nG p0.toNat A2 → nK p0.toNat A A2 → (200 - A2 0 0 24) < (N : Int) → JM g D ad w0 A2 5 [(1, vi a), (0, vr 0 0)] [] := by
      intro N
      induction N with
      | zero => intro A2 a hT2 hE2 ia ib iT iw im iG iK hm; exact absurd hm (by omega)
      | succ N ih =>
        intro A2 a hT2 hE2 ia ib iT iw im iG iK hm
        rcases (show A2 0 0 31 = 0 ∨ A2 0 0 31 = 1 from by have w8 : 0 ≤ A2 0 0 31 ∧ A2 0 0 31 ≤ 1 := hT2 0 0 31; omega) with g2 | g2
        · have u2 : a < A2 0 0 30 ∧ A 0 0 24 - A 0 0 30 ≤ A2 0 0 24 - A2 0 0 30 := (iw g2).2
          have g0 : A 0 0 31 = 0 := (iw g2).1
          have hl0 := hl g0
          refine m_blk 8 [(1, vi a), (0, vr 0 0)] [vi 43, vr 0 0] C f_q_sum_5_2 rfl ?_
          refine m_callV C Rm Y [vi 43] [] (q_isSign l D B H0 ad _ hT2 43 (by show -2147483648 ≤ 43 ∧ 43 ≤ 2147483647; omega)) cl_Mo_173 rfl (by decide) rfl rfl e_q_sum_8 rfl rfl rfl ⟨by show _ ≤ (12 + 4 * d : Nat); omega, by show _ ≤ (460 + 200 * d : Nat); omega⟩ ?_
          rintro v183 A184 ⟨z187, rfl, rfl, raw_hz_n186⟩
          show JM g D ad w0 A2 11 [(1, vi a), (0, vr 0 0)] [vi z187]
          have hz_n186 : z187 = 1 ∧ A2 0 0 31 = 0 ∧ A2 0 0 25 = 4 ∧ A2 0 0 26 = 43 ∨ z187 = 0 ∧ ¬ (A2 0 0 31 = 0 ∧ A2 0 0 25 = 4 ∧ A2 0 0 26 = 43) := raw_hz_n186
          clear raw_hz_n186
          rcases hz_n186 with ⟨e_n186, hz_n186⟩ | ⟨e_n186, hz_n186⟩
          · subst e_n186
            have bt_n186 : A2 0 0 24 < A2 0 0 23 := pT_lt (A := A2) iT hz_n186.1 (by show ¬ A2 0 0 25 = 0; omega)
            refine m_if_ne (tgt := 23) C e_q_sum_11 (by decide) (by decide) (fun c188 => ?_) (fun c188 => (by omega : False).elim)
            refine m_blk 24 [(1, vi a), (0, vr 0 0)] [vr 0 0] C f_q_sum_23_1 rfl ?_
            obtain ⟨x189, hx189⟩ : ∃ x, A2 0 0 26 = x := ⟨_, rfl⟩
            have rx189 : (-1) ≤ x189 ∧ x189 ≤ 255 := mrg hT2 hx189 rfl
            refine m_geti C e_q_sum_24 fg_Mo_165 rfl (by decide) rfl x189 hx189 ?_
            refine m_blk 29 [(2, vi x189), (1, vi a), (0, vr 0 0)] [vr 0 0] C f_q_sum_27_2 rfl ?_
            refine m_callV C Rm Y [] [] (q_next l D B H0 ad _ hS hT2 (by show A2 0 0 23 ≤ A2 0 0 22; omega)) cl_Mo_176 rfl (by decide) rfl rfl e_q_sum_29 rfl rfl rfl ⟨by show _ ≤ (12 + 4 * d : Nat); omega, by show _ ≤ (460 + 200 * d : Nat); omega⟩ ?_
            rintro v190 A191 ⟨rfl, hT_n193, hE_n193, raw_hw_n193, raw_hb_n193⟩
            have hF_n193 := hE2.trans (hE_n193.sub (nm_em _))
            show JM g D ad w0 A191 32 [(2, vi x189), (1, vi a), (0, vr 0 0)] []
            obtain ⟨b1_n193, b2_n193, b3_n193, pt_n193⟩ : A2 0 0 23 ≤ A191 0 0 24 ∧ A191 0 0 24 ≤ A191 0 0 23 ∧ A191 0 0 23 ≤ A191 0 0 22 ∧ pT A191 := raw_hb_n193 g2
            clear raw_hb_n193 raw_hw_n193
            have k0_n193 : A191 0 0 0 = A2 0 0 0 := hE_n193 0 0 0 rfl
            have k22_n193 : A191 0 0 22 = A2 0 0 22 := hE_n193 0 0 22 rfl
            have k27_n193 : A191 0 0 27 = A2 0 0 27 := hE_n193 0 0 27 rfl
            have k28_n193 : A191 0 0 28 = A2 0 0 28 := hE_n193 0 0 28 rfl
            have k29_n193 : A191 0 0 29 = A2 0 0 29 := hE_n193 0 0 29 rfl
            have k30_n193 : A191 0 0 30 = A2 0 0 30 := hE_n193 0 0 30 rfl
            rcases (show A191 0 0 31 = 0 ∨ A191 0 0 31 = 1 from by have w9 := hT_n193 0 0 31; have w8 : 0 ≤ A191 0 0 31 ∧ A191 0 0 31 ≤ 1 := w9; omega) with g_n193 | g_n193
            · refine m_blk 33 [(2, vi x189), (1, vi a), (0, vr 0 0)] [vr 0 0] C f_q_sum_32_1 rfl ?_
              refine m_callV C Rm Y [] [] (hq9 l D B H0 ad _ hS hT_n193 p0 (by show A191 0 0 0 = p0 ∧ 0 ≤ p0 ∧ p0 ≤ 5; omega) (by show A191 0 0 24 ≤ A191 0 0 23 ∧ A191 0 0 23 ≤ A191 0 0 22; omega) pt_n193 (fun _ => by show A191 0 0 30 + 3 * A191 0 0 29 ≤ A191 0 0 24; omega) (nG.nm (A := A2) iG hE_n193) (by show A191 0 0 27 = 4 - (d : Int) ∧ (d : Int) ≤ 4; omega)) cl_Mo_222 rfl (by decide) rfl rfl e_q_sum_33 rfl rfl rfl ⟨by show _ ≤ (12 + 4 * d : Nat); omega, by show _ ≤ (460 + 200 * d : Nat); omega⟩ ?_
              rintro v194 A195 ⟨z198, rfl, hT_n197, hE_n197, raw_hz_n197, raw_hb_n197, raw_hn_n197, raw_hw_n197, raw_hm_n197, raw_hG_n197, raw_hK_n197⟩
              have hF_n197 := hF_n193.trans (hE_n197.sub (fun _ _ _ h => h))
              show JM g D ad w0 A195 36 [(2, vi x189), (1, vi a), (0, vr 0 0)] [vi z198]
              have hz_n197 : 0 ≤ z198 ∧ z198 ≤ 119 := raw_hz_n197
              clear raw_hz_n197
              have hb_n197 : A195 0 0 24 ≤ A195 0 0 23 ∧ A195 0 0 23 ≤ A195 0 0 22 := raw_hb_n197
              clear raw_hb_n197
              have hm_n197 : A191 0 0 24 ≤ A195 0 0 24 ∧ A191 0 0 30 ≤ A195 0 0 30 ∧ A195 0 0 27 = A191 0 0 27 := raw_hm_n197
              clear raw_hm_n197
              have pt_n197 : pT A195 := raw_hn_n197
              have k0_n197 : A195 0 0 0 = A191 0 0 0 := hE_n197 0 0 0 rfl
              have k22_n197 : A195 0 0 22 = A191 0 0 22 := hE_n197 0 0 22 rfl
              have k28_n197 : A195 0 0 28 = A191 0 0 28 := hE_n197 0 0 28 rfl
              have k29_n197 : A195 0 0 29 = A191 0 0 29 := hE_n197 0 0 29 rfl
              have hG_n197 : nG p0.toNat A195 := raw_hG_n197
              have hK_n197 : nK p0.toNat A191 A195 := raw_hK_n197
              rcases (show A195 0 0 31 = 0 ∨ A195 0 0 31 = 1 from by have w9 := hT_n197 0 0 31; have w8 : 0 ≤ A195 0 0 31 ∧ A195 0 0 31 ≤ 1 := w9; omega) with g_n197 | g_n197
              · have u_n197 : z198 < A195 0 0 30 ∧ A191 0 0 24 - A191 0 0 30 ≤ A195 0 0 24 - A195 0 0 30 := (raw_hw_n197 g_n197).2
                refine m_blk 42 [(3, vi z198), (2, vi x189), (1, vi a), (0, vr 0 0)] [vi z198, vi a, vi 0, vi x189, vr 0 0] C f_q_sum_36_6 rfl ?_
                refine m_callV C Rm Y [vi x189, vi 0, vi a, vi z198] [] (q_node l D B H0 ad _ hT_n197 p0 x189 0 a z198 (by show A195 0 0 0 = p0 ∧ 0 ≤ p0 ∧ p0 ≤ 5; omega) (fun _ => by show A195 0 0 30 ≤ 119; omega) (by show (-1 ≤ x189 ∧ x189 ≤ 255) ∧ (-1 ≤ 0 ∧ 0 ≤ 255) ∧ (-1 ≤ a ∧ a ≤ 119) ∧ (-1 ≤ z198 ∧ z198 ≤ 119); omega) hG_n197 (fun _ => by show a < A195 0 0 30 ∧ z198 < A195 0 0 30 ∧ (x189 ≠ 0 → x189 ≠ 1 → 0 ≤ a) ∧ (x189 ≠ 0 → x189 ≠ 1 → x189 ≠ 2 → 0 ≤ z198); omega)) cl_Mo_218 rfl (by decide) rfl rfl e_q_sum_42 rfl rfl rfl ⟨by show _ ≤ (12 + 4 * d : Nat); omega, by show _ ≤ (460 + 200 * d : Nat); omega⟩ ?_
                rintro v199 A200 ⟨z203, rfl, hT_n202, hE_n202, raw_hz_n202, raw_hw_n202, raw_hi_n202, raw_hm_n202, raw_hG_n202, raw_hK_n202⟩
                have hF_n202 := hF_n197.trans (hE_n202.sub (nd_em _))
                show JM g D ad w0 A200 45 [(3, vi z198), (2, vi x189), (1, vi a), (0, vr 0 0)] [vi z203]
                have hz_n202 : 0 ≤ z203 ∧ z203 ≤ 119 := raw_hz_n202
                clear raw_hz_n202
                obtain ⟨b1_n202, b2_n202⟩ : A200 0 0 30 = A195 0 0 30 + 1 ∧ z203 = A195 0 0 30 := raw_hi_n202 g_n197
                clear raw_hi_n202 raw_hw_n202
                have k0_n202 : A200 0 0 0 = A195 0 0 0 := hE_n202 0 0 0 rfl
                have k22_n202 : A200 0 0 22 = A195 0 0 22 := hE_n202 0 0 22 rfl
                have k23_n202 : A200 0 0 23 = A195 0 0 23 := hE_n202 0 0 23 rfl
                have k24_n202 : A200 0 0 24 = A195 0 0 24 := hE_n202 0 0 24 rfl
                have k25_n202 : A200 0 0 25 = A195 0 0 25 := hE_n202 0 0 25 rfl
                have k26_n202 : A200 0 0 26 = A195 0 0 26 := hE_n202 0 0 26 rfl
                have k27_n202 : A200 0 0 27 = A195 0 0 27 := hE_n202 0 0 27 rfl
                have k28_n202 : A200 0 0 28 = A195 0 0 28 := hE_n202 0 0 28 rfl
                have k29_n202 : A200 0 0 29 = A195 0 0 29 := hE_n202 0 0 29 rfl
                have g_n202 : A200 0 0 31 = 0 := (hE_n202 0 0 31 rfl).trans g_n197
                have hG_n202 : nG p0.toNat A200 := raw_hG_n202
                have hK_n202 : nK p0.toNat A195 A200 := raw_hK_n202
                have pt_n202 : pT A200 := pT_eq (A := A195) pt_n197 (hE_n202 0 0 31 rfl) (hE_n202 0 0 25 rfl) (hE_n202 0 0 24 rfl) (hE_n202 0 0 23 rfl) (hE_n202 0 0 26 rfl)
                refine m_blk 5 [(1, vi z203), (3, vi z198), (2, vi x189), (0, vr 0 0)] [] C f_q_sum_45_2 rfl ?_
                refine m_loc [(1, vi z203), (0, vr 0 0)] ⟨rfl, rfl, trivial⟩ ?_
                exact ih A200 z203 hT_n202 hF_n202 (by show 0 ≤ z203 ∧ z203 ≤ 119; omega) (by show A200 0 0 24 ≤ A200 0 0 23 ∧ A200 0 0 23 ≤ A200 0 0 22; omega) pt_n202 (fun _ => ⟨g0, by show z203 < A200 0 0 30; omega, by show A 0 0 24 - A 0 0 30 ≤ A200 0 0 24 - A200 0 0 30; omega⟩) (by show A 0 0 24 ≤ A200 0 0 24 ∧ A 0 0 30 ≤ A200 0 0 30 ∧ A200 0 0 27 = A 0 0 27 ∧ A200 0 0 22 = A 0 0 22 ∧ A200 0 0 0 = p0 ∧ A200 0 0 29 = A 0 0 29 ∧ A200 0 0 28 = A 0 0 28; omega) hG_n202 (nK.trans (A2 := A195) (nK.trans (A2 := A191) (nK.nm (A2 := A2) iK hE_n193) hK_n197 (by show A 0 0 30 ≤ A191 0 0 30; omega)) hK_n202 (by show A 0 0 30 ≤ A195 0 0 30; omega)) (by have hm9 := hm; show (200 - A200 0 0 24) < _; omega)
              · refine m_blk 42 [(3, vi z198), (2, vi x189), (1, vi a), (0, vr 0 0)] [vi z198, vi a, vi 0, vi x189, vr 0 0] C f_q_sum_36_6 rfl ?_
                refine m_callV C Rm Y [vi x189, vi 0, vi a, vi z198] [] (q_node l D B H0 ad _ hT_n197 p0 x189 0 a z198 (by show A195 0 0 0 = p0 ∧ 0 ≤ p0 ∧ p0 ≤ 5; omega) (fun h9 => absurd ((g_n197 : A195 0 0 31 = 1).symm.trans h9) (by decide)) (by show (-1 ≤ x189 ∧ x189 ≤ 255) ∧ (-1 ≤ 0 ∧ 0 ≤ 255) ∧ (-1 ≤ a ∧ a ≤ 119) ∧ (-1 ≤ z198 ∧ z198 ≤ 119); omega) hG_n197 (fun h9 => absurd ((g_n197 : A195 0 0 31 = 1).symm.trans h9) (by decide))) cl_Mo_218 rfl (by decide) rfl rfl e_q_sum_42 rfl rfl rfl ⟨by show _ ≤ (12 + 4 * d : Nat); omega, by show _ ≤ (460 + 200 * d : Nat); omega⟩ ?_
                rintro v204 A205 ⟨z208, rfl, hT_n207, hE_n207, raw_hz_n207, raw_hw_n207, raw_hi_n207, raw_hm_n207, raw_hG_n207, raw_hK_n207⟩
                have hF_n207 := hF_n197.trans (hE_n207.sub (nd_em _))
                show JM g D ad w0 A205 45 [(3, vi z198), (2, vi x189), (1, vi a), (0, vr 0 0)] [vi z208]
                have hz_n207 : 0 ≤ z208 ∧ z208 ≤ 119 := raw_hz_n207
                clear raw_hz_n207
                have ee_n207 := (raw_hw_n207 g_n197).symm
                subst ee_n207
                show JM g D ad w0 A195 45 [(3, vi z198), (2, vi x189), (1, vi a), (0, vr 0 0)] [vi z208]
                refine m_blk 5 [(1, vi z208), (3, vi z198), (2, vi x189), (0, vr 0 0)] [] C f_q_sum_45_2 rfl ?_
                refine m_loc [(1, vi z208), (0, vr 0 0)] ⟨rfl, rfl, trivial⟩ ?_
                exact ih A195 z208 hT_n197 hF_n197 (by show 0 ≤ z208 ∧ z208 ≤ 119; omega) (by show A195 0 0 24 ≤ A195 0 0 23 ∧ A195 0 0 23 ≤ A195 0 0 22; omega) pt_n197 (fun h9 => absurd ((g_n197 : A195 0 0 31 = 1).symm.trans h9) (by decide)) (by show A 0 0 24 ≤ A195 0 0 24 ∧ A 0 0 30 ≤ A195 0 0 30 ∧ A195 0 0 27 = A 0 0 27 ∧ A195 0 0 22 = A 0 0 22 ∧ A195 0 0 0 = p0 ∧ A195 0 0 29 = A 0 0 29 ∧ A195 0 0 28 = A 0 0 28; omega) hG_n197 (nK.trans (A2 := A191) (nK.nm (A2 := A2) iK hE_n193) hK_n197 (by show A 0 0 30 ≤ A191 0 0 30; omega)) (by have hm9 := hm; show (200 - A195 0 0 24) < _; omega)
            · refine m_blk 33 [(2, vi x189), (1, vi a), (0, vr 0 0)] [vr 0 0] C f_q_sum_32_1 rfl ?_
              refine m_callV C Rm Y [] [] (hq9 l D B H0 ad _ hS hT_n193 p0 (by show A191 0 0 0 = p0 ∧ 0 ≤ p0 ∧ p0 ≤ 5; omega) (by show A191 0 0 24 ≤ A191 0 0 23 ∧ A191 0 0 23 ≤ A191 0 0 22; omega) pt_n193 (fun h9 => absurd ((g_n193 : A191 0 0 31 = 1).symm.trans h9) (by decide)) (nG.nm (A := A2) iG hE_n193) (by show A191 0 0 27 = 4 - (d : Int) ∧ (d : Int) ≤ 4; omega)) cl_Mo_222 rfl (by decide) rfl rfl e_q_sum_33 rfl rfl rfl ⟨by show _ ≤ (12 + 4 * d : Nat); omega, by show _ ≤ (460 + 200 * d : Nat); omega⟩ ?_
              rintro v209 A210 ⟨z213, rfl, hT_n212, hE_n212, raw_hz_n212, raw_hb_n212, raw_hn_n212, raw_hw_n212, raw_hm_n212, raw_hG_n212, raw_hK_n212⟩
              have hF_n212 := hF_n193.trans (hE_n212.sub (fun _ _ _ h => h))
              show JM g D ad w0 A210 36 [(2, vi x189), (1, vi a), (0, vr 0 0)] [vi z213]
              have hz_n212 : 0 ≤ z213 ∧ z213 ≤ 119 := raw_hz_n212
              clear raw_hz_n212
              have hb_n212 : A210 0 0 24 ≤ A210 0 0 23 ∧ A210 0 0 23 ≤ A210 0 0 22 := raw_hb_n212
              clear raw_hb_n212
              have hm_n212 : A191 0 0 24 ≤ A210 0 0 24 ∧ A191 0 0 30 ≤ A210 0 0 30 ∧ A210 0 0 27 = A191 0 0 27 := raw_hm_n212
              clear raw_hm_n212
              have pt_n212 : pT A210 := raw_hn_n212
              have k0_n212 : A210 0 0 0 = A191 0 0 0 := hE_n212 0 0 0 rfl
              have k22_n212 : A210 0 0 22 = A191 0 0 22 := hE_n212 0 0 22 rfl
              have k28_n212 : A210 0 0 28 = A191 0 0 28 := hE_n212 0 0 28 rfl
              have k29_n212 : A210 0 0 29 = A191 0 0 29 := hE_n212 0 0 29 rfl
              have hG_n212 : nG p0.toNat A210 := raw_hG_n212
              have hK_n212 : nK p0.toNat A191 A210 := raw_hK_n212
              have g_n212 : A210 0 0 31 = 1 := wr_1 (hT_n212 0 0 31) (fun h9 => absurd ((g_n193 : A191 0 0 31 = 1).symm.trans (raw_hw_n212 h9).1) (by decide))
              refine m_blk 42 [(3, vi z213), (2, vi x189), (1, vi a), (0, vr 0 0)] [vi z213, vi a, vi 0, vi x189, vr 0 0] C f_q_sum_36_6 rfl ?_
              refine m_callV C Rm Y [vi x189, vi 0, vi a, vi z213] [] (q_node l D B H0 ad _ hT_n212 p0 x189 0 a z213 (by show A210 0 0 0 = p0 ∧ 0 ≤ p0 ∧ p0 ≤ 5; omega) (fun h9 => absurd ((g_n212 : A210 0 0 31 = 1).symm.trans h9) (by decide)) (by show (-1 ≤ x189 ∧ x189 ≤ 255) ∧ (-1 ≤ 0 ∧ 0 ≤ 255) ∧ (-1 ≤ a ∧ a ≤ 119) ∧ (-1 ≤ z213 ∧ z213 ≤ 119); omega) hG_n212 (fun h9 => absurd ((g_n212 : A210 0 0 31 = 1).symm.trans h9) (by decide))) cl_Mo_218 rfl (by decide) rfl rfl e_q_sum_42 rfl rfl rfl ⟨by show _ ≤ (12 + 4 * d : Nat); omega, by show _ ≤ (460 + 200 * d : Nat); omega⟩ ?_
              rintro v214 A215 ⟨z218, rfl, hT_n217, hE_n217, raw_hz_n217, raw_hw_n217, raw_hi_n217, raw_hm_n217, raw_hG_n217, raw_hK_n217⟩
              have hF_n217 := hF_n212.trans (hE_n217.sub (nd_em _))
              show JM g D ad w0 A215 45 [(3, vi z213), (2, vi x189), (1, vi a), (0, vr 0 0)] [vi z218]
              have hz_n217 : 0 ≤ z218 ∧ z218 ≤ 119 := raw_hz_n217
              clear raw_hz_n217
              have ee_n217 := (raw_hw_n217 g_n212).symm
              subst ee_n217
              show JM g D ad w0 A210 45 [(3, vi z213), (2, vi x189), (1, vi a), (0, vr 0 0)] [vi z218]
              refine m_blk 5 [(1, vi z218), (3, vi z213), (2, vi x189), (0, vr 0 0)] [] C f_q_sum_45_2 rfl ?_
              refine m_loc [(1, vi z218), (0, vr 0 0)] ⟨rfl, rfl, trivial⟩ ?_
              exact ih A210 z218 hT_n212 hF_n212 (by show 0 ≤ z218 ∧ z218 ≤ 119; omega) (by show A210 0 0 24 ≤ A210 0 0 23 ∧ A210 0 0 23 ≤ A210 0 0 22; omega) pt_n212 (fun h9 => absurd ((g_n212 : A210 0 0 31 = 1).symm.trans h9) (by decide)) (by show A 0 0 24 ≤ A210 0 0 24 ∧ A 0 0 30 ≤ A210 0 0 30 ∧ A210 0 0 27 = A 0 0 27 ∧ A210 0 0 22 = A 0 0 22 ∧ A210 0 0 0 = p0 ∧ A210 0 0 29 = A 0 0 29 ∧ A210 0 0 28 = A 0 0 28; omega) hG_n212 (nK.trans (A2 := A191) (nK.nm (A2 := A2) iK hE_n193) hK_n212 (by show A 0 0 30 ≤ A191 0 0 30; omega)) (by have hm9 := hm; show (200 - A210 0 0 24) < _; omega)
          · subst e_n186
            clear hz_n186
            refine m_if_ne (tgt := 23) C e_q_sum_11 (by decide) (by decide) (fun c219 => (by omega : False).elim) (fun c219 => ?_)
            refine m_blk 17 [(1, vi a), (0, vr 0 0)] [vi 45, vr 0 0] C f_q_sum_14_2 rfl ?_
            refine m_callV C Rm Y [vi 45] [] (q_isSign l D B H0 ad _ hT2 45 (by show -2147483648 ≤ 45 ∧ 45 ≤ 2147483647; omega)) cl_Mo_173 rfl (by decide) rfl rfl e_q_sum_17 rfl rfl rfl ⟨by show _ ≤ (12 + 4 * d : Nat); omega, by show _ ≤ (460 + 200 * d : Nat); omega⟩ ?_
            rintro v220 A221 ⟨z224, rfl, rfl, raw_hz_n223⟩
            show JM g D ad w0 A2 20 [(1, vi a), (0, vr 0 0)] [vi z224]
            have hz_n223 : z224 = 1 ∧ A2 0 0 31 = 0 ∧ A2 0 0 25 = 4 ∧ A2 0 0 26 = 45 ∨ z224 = 0 ∧ ¬ (A2 0 0 31 = 0 ∧ A2 0 0 25 = 4 ∧ A2 0 0 26 = 45) := raw_hz_n223
            clear raw_hz_n223
            rcases hz_n223 with ⟨e_n223, hz_n223⟩ | ⟨e_n223, hz_n223⟩
            · subst e_n223
              have bt_n223 : A2 0 0 24 < A2 0 0 23 := pT_lt (A := A2) iT hz_n223.1 (by show ¬ A2 0 0 25 = 0; omega)
              refine m_if_eq (tgt := 49) C e_q_sum_20 (by decide) (by decide) (fun c225 => (by omega : False).elim) (fun c225 => ?_)
              refine m_blk 24 [(1, vi a), (0, vr 0 0)] [vr 0 0] C f_q_sum_23_1 rfl ?_
              obtain ⟨x226, hx226⟩ : ∃ x, A2 0 0 26 = x := ⟨_, rfl⟩
              have rx226 : (-1) ≤ x226 ∧ x226 ≤ 255 := mrg hT2 hx226 rfl
              refine m_geti C e_q_sum_24 fg_Mo_165 rfl (by decide) rfl x226 hx226 ?_
              refine m_blk 29 [(2, vi x226), (1, vi a), (0, vr 0 0)] [vr 0 0] C f_q_sum_27_2 rfl ?_
              refine m_callV C Rm Y [] [] (q_next l D B H0 ad _ hS hT2 (by show A2 0 0 23 ≤ A2 0 0 22; omega)) cl_Mo_176 rfl (by decide) rfl rfl e_q_sum_29 rfl rfl rfl ⟨by show _ ≤ (12 + 4 * d : Nat); omega, by show _ ≤ (460 + 200 * d : Nat); omega⟩ ?_
              rintro v227 A228 ⟨rfl, hT_n230, hE_n230, raw_hw_n230, raw_hb_n230⟩
              have hF_n230 := hE2.trans (hE_n230.sub (nm_em _))
              show JM g D ad w0 A228 32 [(2, vi x226), (1, vi a), (0, vr 0 0)] []
              obtain ⟨b1_n230, b2_n230, b3_n230, pt_n230⟩ : A2 0 0 23 ≤ A228 0 0 24 ∧ A228 0 0 24 ≤ A228 0 0 23 ∧ A228 0 0 23 ≤ A228 0 0 22 ∧ pT A228 := raw_hb_n230 g2
              clear raw_hb_n230 raw_hw_n230
              have k0_n230 : A228 0 0 0 = A2 0 0 0 := hE_n230 0 0 0 rfl
              have k22_n230 : A228 0 0 22 = A2 0 0 22 := hE_n230 0 0 22 rfl
              have k27_n230 : A228 0 0 27 = A2 0 0 27 := hE_n230 0 0 27 rfl
              have k28_n230 : A228 0 0 28 = A2 0 0 28 := hE_n230 0 0 28 rfl
              have k29_n230 : A228 0 0 29 = A2 0 0 29 := hE_n230 0 0 29 rfl
              have k30_n230 : A228 0 0 30 = A2 0 0 30 := hE_n230 0 0 30 rfl
              rcases (show A228 0 0 31 = 0 ∨ A228 0 0 31 = 1 from by have w9 := hT_n230 0 0 31; have w8 : 0 ≤ A228 0 0 31 ∧ A228 0 0 31 ≤ 1 := w9; omega) with g_n230 | g_n230
              · refine m_blk 33 [(2, vi x226), (1, vi a), (0, vr 0 0)] [vr 0 0] C f_q_sum_32_1 rfl ?_
                refine m_callV C Rm Y [] [] (hq9 l D B H0 ad _ hS hT_n230 p0 (by show A228 0 0 0 = p0 ∧ 0 ≤ p0 ∧ p0 ≤ 5; omega) (by show A228 0 0 24 ≤ A228 0 0 23 ∧ A228 0 0 23 ≤ A228 0 0 22; omega) pt_n230 (fun _ => by show A228 0 0 30 + 3 * A228 0 0 29 ≤ A228 0 0 24; omega) (nG.nm (A := A2) iG hE_n230) (by show A228 0 0 27 = 4 - (d : Int) ∧ (d : Int) ≤ 4; omega)) cl_Mo_222 rfl (by decide) rfl rfl e_q_sum_33 rfl rfl rfl ⟨by show _ ≤ (12 + 4 * d : Nat); omega, by show _ ≤ (460 + 200 * d : Nat); omega⟩ ?_
                rintro v231 A232 ⟨z235, rfl, hT_n234, hE_n234, raw_hz_n234, raw_hb_n234, raw_hn_n234, raw_hw_n234, raw_hm_n234, raw_hG_n234, raw_hK_n234⟩
                have hF_n234 := hF_n230.trans (hE_n234.sub (fun _ _ _ h => h))
                show JM g D ad w0 A232 36 [(2, vi x226), (1, vi a), (0, vr 0 0)] [vi z235]
                have hz_n234 : 0 ≤ z235 ∧ z235 ≤ 119 := raw_hz_n234
                clear raw_hz_n234
                have hb_n234 : A232 0 0 24 ≤ A232 0 0 23 ∧ A232 0 0 23 ≤ A232 0 0 22 := raw_hb_n234
                clear raw_hb_n234
                have hm_n234 : A228 0 0 24 ≤ A232 0 0 24 ∧ A228 0 0 30 ≤ A232 0 0 30 ∧ A232 0 0 27 = A228 0 0 27 := raw_hm_n234
                clear raw_hm_n234
                have pt_n234 : pT A232 := raw_hn_n234
                have k0_n234 : A232 0 0 0 = A228 0 0 0 := hE_n234 0 0 0 rfl
                have k22_n234 : A232 0 0 22 = A228 0 0 22 := hE_n234 0 0 22 rfl
                have k28_n234 : A232 0 0 28 = A228 0 0 28 := hE_n234 0 0 28 rfl
                have k29_n234 : A232 0 0 29 = A228 0 0 29 := hE_n234 0 0 29 rfl
                have hG_n234 : nG p0.toNat A232 := raw_hG_n234
                have hK_n234 : nK p0.toNat A228 A232 := raw_hK_n234
                rcases (show A232 0 0 31 = 0 ∨ A232 0 0 31 = 1 from by have w9 := hT_n234 0 0 31; have w8 : 0 ≤ A232 0 0 31 ∧ A232 0 0 31 ≤ 1 := w9; omega) with g_n234 | g_n234
                · have u_n234 : z235 < A232 0 0 30 ∧ A228 0 0 24 - A228 0 0 30 ≤ A232 0 0 24 - A232 0 0 30 := (raw_hw_n234 g_n234).2
                  refine m_blk 42 [(3, vi z235), (2, vi x226), (1, vi a), (0, vr 0 0)] [vi z235, vi a, vi 0, vi x226, vr 0 0] C f_q_sum_36_6 rfl ?_
                  refine m_callV C Rm Y [vi x226, vi 0, vi a, vi z235] [] (q_node l D B H0 ad _ hT_n234 p0 x226 0 a z235 (by show A232 0 0 0 = p0 ∧ 0 ≤ p0 ∧ p0 ≤ 5; omega) (fun _ => by show A232 0 0 30 ≤ 119; omega) (by show (-1 ≤ x226 ∧ x226 ≤ 255) ∧ (-1 ≤ 0 ∧ 0 ≤ 255) ∧ (-1 ≤ a ∧ a ≤ 119) ∧ (-1 ≤ z235 ∧ z235 ≤ 119); omega) hG_n234 (fun _ => by show a < A232 0 0 30 ∧ z235 < A232 0 0 30 ∧ (x226 ≠ 0 → x226 ≠ 1 → 0 ≤ a) ∧ (x226 ≠ 0 → x226 ≠ 1 → x226 ≠ 2 → 0 ≤ z235); omega)) cl_Mo_218 rfl (by decide) rfl rfl e_q_sum_42 rfl rfl rfl ⟨by show _ ≤ (12 + 4 * d : Nat); omega, by show _ ≤ (460 + 200 * d : Nat); omega⟩ ?_
                  rintro v236 A237 ⟨z240, rfl, hT_n239, hE_n239, raw_hz_n239, raw_hw_n239, raw_hi_n239, raw_hm_n239, raw_hG_n239, raw_hK_n239⟩
                  have hF_n239 := hF_n234.trans (hE_n239.sub (nd_em _))
                  show JM g D ad w0 A237 45 [(3, vi z235), (2, vi x226), (1, vi a), (0, vr 0 0)] [vi z240]
                  have hz_n239 : 0 ≤ z240 ∧ z240 ≤ 119 := raw_hz_n239
                  clear raw_hz_n239
                  obtain ⟨b1_n239, b2_n239⟩ : A237 0 0 30 = A232 0 0 30 + 1 ∧ z240 = A232 0 0 30 := raw_hi_n239 g_n234
                  clear raw_hi_n239 raw_hw_n239
                  have k0_n239 : A237 0 0 0 = A232 0 0 0 := hE_n239 0 0 0 rfl
                  have k22_n239 : A237 0 0 22 = A232 0 0 22 := hE_n239 0 0 22 rfl
                  have k23_n239 : A237 0 0 23 = A232 0 0 23 := hE_n239 0 0 23 rfl
                  have k24_n239 : A237 0 0 24 = A232 0 0 24 := hE_n239 0 0 24 rfl
                  have k25_n239 : A237 0 0 25 = A232 0 0 25 := hE_n239 0 0 25 rfl
                  have k26_n239 : A237 0 0 26 = A232 0 0 26 := hE_n239 0 0 26 rfl
                  have k27_n239 : A237 0 0 27 = A232 0 0 27 := hE_n239 0 0 27 rfl
                  have k28_n239 : A237 0 0 28 = A232 0 0 28 := hE_n239 0 0 28 rfl
                  have k29_n239 : A237 0 0 29 = A232 0 0 29 := hE_n239 0 0 29 rfl
                  have g_n239 : A237 0 0 31 = 0 := (hE_n239 0 0 31 rfl).trans g_n234
                  have hG_n239 : nG p0.toNat A237 := raw_hG_n239
                  have hK_n239 : nK p0.toNat A232 A237 := raw_hK_n239
                  have pt_n239 : pT A237 := pT_eq (A := A232) pt_n234 (hE_n239 0 0 31 rfl) (hE_n239 0 0 25 rfl) (hE_n239 0 0 24 rfl) (hE_n239 0 0 23 rfl) (hE_n239 0 0 26 rfl)
                  refine m_blk 5 [(1, vi z240), (3, vi z235), (2, vi x226), (0, vr 0 0)] [] C f_q_sum_45_2 rfl ?_
                  refine m_loc [(1, vi z240), (0, vr 0 0)] ⟨rfl, rfl, trivial⟩ ?_
                  exact ih A237 z240 hT_n239 hF_n239 (by show 0 ≤ z240 ∧ z240 ≤ 119; omega) (by show A237 0 0 24 ≤ A237 0 0 23 ∧ A237 0 0 23 ≤ A237 0 0 22; omega) pt_n239 (fun _ => ⟨g0, by show z240 < A237 0 0 30; omega, by show A 0 0 24 - A 0 0 30 ≤ A237 0 0 24 - A237 0 0 30; omega⟩) (by show A 0 0 24 ≤ A237 0 0 24 ∧ A 0 0 30 ≤ A237 0 0 30 ∧ A237 0 0 27 = A 0 0 27 ∧ A237 0 0 22 = A 0 0 22 ∧ A237 0 0 0 = p0 ∧ A237 0 0 29 = A 0 0 29 ∧ A237 0 0 28 = A 0 0 28; omega) hG_n239 (nK.trans (A2 := A232) (nK.trans (A2 := A228) (nK.nm (A2 := A2) iK hE_n230) hK_n234 (by show A 0 0 30 ≤ A228 0 0 30; omega)) hK_n239 (by show A 0 0 30 ≤ A232 0 0 30; omega)) (by have hm9 := hm; show (200 - A237 0 0 24) < _; omega)
                · refine m_blk 42 [(3, vi z235), (2, vi x226), (1, vi a), (0, vr 0 0)] [vi z235, vi a, vi 0, vi x226, vr 0 0] C f_q_sum_36_6 rfl ?_
                  refine m_callV C Rm Y [vi x226, vi 0, vi a, vi z235] [] (q_node l D B H0 ad _ hT_n234 p0 x226 0 a z235 (by show A232 0 0 0 = p0 ∧ 0 ≤ p0 ∧ p0 ≤ 5; omega) (fun h9 => absurd ((g_n234 : A232 0 0 31 = 1).symm.trans h9) (by decide)) (by show (-1 ≤ x226 ∧ x226 ≤ 255) ∧ (-1 ≤ 0 ∧ 0 ≤ 255) ∧ (-1 ≤ a ∧ a ≤ 119) ∧ (-1 ≤ z235 ∧ z235 ≤ 119); omega) hG_n234 (fun h9 => absurd ((g_n234 : A232 0 0 31 = 1).symm.trans h9) (by decide))) cl_Mo_218 rfl (by decide) rfl rfl e_q_sum_42 rfl rfl rfl ⟨by show _ ≤ (12 + 4 * d : Nat); omega, by show _ ≤ (460 + 200 * d : Nat); omega⟩ ?_
                  rintro v241 A242 ⟨z245, rfl, hT_n244, hE_n244, raw_hz_n244, raw_hw_n244, raw_hi_n244, raw_hm_n244, raw_hG_n244, raw_hK_n244⟩
                  have hF_n244 := hF_n234.trans (hE_n244.sub (nd_em _))
                  show JM g D ad w0 A242 45 [(3, vi z235), (2, vi x226), (1, vi a), (0, vr 0 0)] [vi z245]
                  have hz_n244 : 0 ≤ z245 ∧ z245 ≤ 119 := raw_hz_n244
                  clear raw_hz_n244
                  have ee_n244 := (raw_hw_n244 g_n234).symm
                  subst ee_n244
                  show JM g D ad w0 A232 45 [(3, vi z235), (2, vi x226), (1, vi a), (0, vr 0 0)] [vi z245]
                  refine m_blk 5 [(1, vi z245), (3, vi z235), (2, vi x226), (0, vr 0 0)] [] C f_q_sum_45_2 rfl ?_
                  refine m_loc [(1, vi z245), (0, vr 0 0)] ⟨rfl, rfl, trivial⟩ ?_
                  exact ih A232 z245 hT_n234 hF_n234 (by show 0 ≤ z245 ∧ z245 ≤ 119; omega) (by show A232 0 0 24 ≤ A232 0 0 23 ∧ A232 0 0 23 ≤ A232 0 0 22; omega) pt_n234 (fun h9 => absurd ((g_n234 : A232 0 0 31 = 1).symm.trans h9) (by decide)) (by show A 0 0 24 ≤ A232 0 0 24 ∧ A 0 0 30 ≤ A232 0 0 30 ∧ A232 0 0 27 = A 0 0 27 ∧ A232 0 0 22 = A 0 0 22 ∧ A232 0 0 0 = p0 ∧ A232 0 0 29 = A 0 0 29 ∧ A232 0 0 28 = A 0 0 28; omega) hG_n234 (nK.trans (A2 := A228) (nK.nm (A2 := A2) iK hE_n230) hK_n234 (by show A 0 0 30 ≤ A228 0 0 30; omega)) (by have hm9 := hm; show (200 - A232 0 0 24) < _; omega)
              · refine m_blk 33 [(2, vi x226), (1, vi a), (0, vr 0 0)] [vr 0 0] C f_q_sum_32_1 rfl ?_
                refine m_callV C Rm Y [] [] (hq9 l D B H0 ad _ hS hT_n230 p0 (by show A228 0 0 0 = p0 ∧ 0 ≤ p0 ∧ p0 ≤ 5; omega) (by show A228 0 0 24 ≤ A228 0 0 23 ∧ A228 0 0 23 ≤ A228 0 0 22; omega) pt_n230 (fun h9 => absurd ((g_n230 : A228 0 0 31 = 1).symm.trans h9) (by decide)) (nG.nm (A := A2) iG hE_n230) (by show A228 0 0 27 = 4 - (d : Int) ∧ (d : Int) ≤ 4; omega)) cl_Mo_222 rfl (by decide) rfl rfl e_q_sum_33 rfl rfl rfl ⟨by show _ ≤ (12 + 4 * d : Nat); omega, by show _ ≤ (460 + 200 * d : Nat); omega⟩ ?_
                rintro v246 A247 ⟨z250, rfl, hT_n249, hE_n249, raw_hz_n249, raw_hb_n249, raw_hn_n249, raw_hw_n249, raw_hm_n249, raw_hG_n249, raw_hK_n249⟩
                have hF_n249 := hF_n230.trans (hE_n249.sub (fun _ _ _ h => h))
                show JM g D ad w0 A247 36 [(2, vi x226), (1, vi a), (0, vr 0 0)] [vi z250]
                have hz_n249 : 0 ≤ z250 ∧ z250 ≤ 119 := raw_hz_n249
                clear raw_hz_n249
                have hb_n249 : A247 0 0 24 ≤ A247 0 0 23 ∧ A247 0 0 23 ≤ A247 0 0 22 := raw_hb_n249
                clear raw_hb_n249
                have hm_n249 : A228 0 0 24 ≤ A247 0 0 24 ∧ A228 0 0 30 ≤ A247 0 0 30 ∧ A247 0 0 27 = A228 0 0 27 := raw_hm_n249
                clear raw_hm_n249
                have pt_n249 : pT A247 := raw_hn_n249
                have k0_n249 : A247 0 0 0 = A228 0 0 0 := hE_n249 0 0 0 rfl
                have k22_n249 : A247 0 0 22 = A228 0 0 22 := hE_n249 0 0 22 rfl
                have k28_n249 : A247 0 0 28 = A228 0 0 28 := hE_n249 0 0 28 rfl
                have k29_n249 : A247 0 0 29 = A228 0 0 29 := hE_n249 0 0 29 rfl
                have hG_n249 : nG p0.toNat A247 := raw_hG_n249
                have hK_n249 : nK p0.toNat A228 A247 := raw_hK_n249
                have g_n249 : A247 0 0 31 = 1 := wr_1 (hT_n249 0 0 31) (fun h9 => absurd ((g_n230 : A228 0 0 31 = 1).symm.trans (raw_hw_n249 h9).1) (by decide))
                refine m_blk 42 [(3, vi z250), (2, vi x226), (1, vi a), (0, vr 0 0)] [vi z250, vi a, vi 0, vi x226, vr 0 0] C f_q_sum_36_6 rfl ?_
                refine m_callV C Rm Y [vi x226, vi 0, vi a, vi z250] [] (q_node l D B H0 ad _ hT_n249 p0 x226 0 a z250 (by show A247 0 0 0 = p0 ∧ 0 ≤ p0 ∧ p0 ≤ 5; omega) (fun h9 => absurd ((g_n249 : A247 0 0 31 = 1).symm.trans h9) (by decide)) (by show (-1 ≤ x226 ∧ x226 ≤ 255) ∧ (-1 ≤ 0 ∧ 0 ≤ 255) ∧ (-1 ≤ a ∧ a ≤ 119) ∧ (-1 ≤ z250 ∧ z250 ≤ 119); omega) hG_n249 (fun h9 => absurd ((g_n249 : A247 0 0 31 = 1).symm.trans h9) (by decide))) cl_Mo_218 rfl (by decide) rfl rfl e_q_sum_42 rfl rfl rfl ⟨by show _ ≤ (12 + 4 * d : Nat); omega, by show _ ≤ (460 + 200 * d : Nat); omega⟩ ?_
                rintro v251 A252 ⟨z255, rfl, hT_n254, hE_n254, raw_hz_n254, raw_hw_n254, raw_hi_n254, raw_hm_n254, raw_hG_n254, raw_hK_n254⟩
                have hF_n254 := hF_n249.trans (hE_n254.sub (nd_em _))
                show JM g D ad w0 A252 45 [(3, vi z250), (2, vi x226), (1, vi a), (0, vr 0 0)] [vi z255]
                have hz_n254 : 0 ≤ z255 ∧ z255 ≤ 119 := raw_hz_n254
                clear raw_hz_n254
                have ee_n254 := (raw_hw_n254 g_n249).symm
                subst ee_n254
                show JM g D ad w0 A247 45 [(3, vi z250), (2, vi x226), (1, vi a), (0, vr 0 0)] [vi z255]
                refine m_blk 5 [(1, vi z255), (3, vi z250), (2, vi x226), (0, vr 0 0)] [] C f_q_sum_45_2 rfl ?_
                refine m_loc [(1, vi z255), (0, vr 0 0)] ⟨rfl, rfl, trivial⟩ ?_
                exact ih A247 z255 hT_n249 hF_n249 (by show 0 ≤ z255 ∧ z255 ≤ 119; omega) (by show A247 0 0 24 ≤ A247 0 0 23 ∧ A247 0 0 23 ≤ A247 0 0 22; omega) pt_n249 (fun h9 => absurd ((g_n249 : A247 0 0 31 = 1).symm.trans h9) (by decide)) (by show A 0 0 24 ≤ A247 0 0 24 ∧ A 0 0 30 ≤ A247 0 0 30 ∧ A247 0 0 27 = A 0 0 27 ∧ A247 0 0 22 = A 0 0 22 ∧ A247 0 0 0 = p0 ∧ A247 0 0 29 = A 0 0 29 ∧ A247 0 0 28 = A 0 0 28; omega) hG_n249 (nK.trans (A2 := A228) (nK.nm (A2 := A2) iK hE_n230) hK_n249 (by show A 0 0 30 ≤ A228 0 0 30; omega)) (by have hm9 := hm; show (200 - A247 0 0 24) < _; omega)
            · subst e_n223
              clear hz_n223
              refine m_if_eq (tgt := 49) C e_q_sum_20 (by decide) (by decide) (fun c256 => ?_) (fun c256 => (by omega : False).elim)
              refine m_blk 50 [(1, vi a), (0, vr 0 0)] [vi a] C f_q_sum_49_1 rfl ?_
              exact m_iret C Rm E e_q_sum_50 ⟨a, rfl, hT2, hE2, (by show 0 ≤ a ∧ a ≤ 119; omega), (by show A2 0 0 24 ≤ A2 0 0 23 ∧ A2 0 0 23 ≤ A2 0 0 22; omega), iT, (fun _ => ⟨g0, (by show a < A2 0 0 30; omega), (by show A 0 0 24 - A 0 0 30 ≤ A2 0 0 24 - A2 0 0 30; omega)⟩), (by show A 0 0 24 ≤ A2 0 0 24 ∧ A 0 0 30 ≤ A2 0 0 30 ∧ A2 0 0 27 = A 0 0 27; omega), iG, iK⟩
        · refine m_blk 8 [(1, vi a), (0, vr 0 0)] [vi 43, vr 0 0] C f_q_sum_5_2 rfl ?_
          refine m_callV C Rm Y [vi 43] [] (q_isSign l D B H0 ad _ hT2 43 (by show -2147483648 ≤ 43 ∧ 43 ≤ 2147483647; omega)) cl_Mo_173 rfl (by decide) rfl rfl e_q_sum_8 rfl rfl rfl ⟨by show _ ≤ (12 + 4 * d : Nat); omega, by show _ ≤ (460 + 200 * d : Nat); omega⟩ ?_
          rintro v257 A258 ⟨z261, rfl, rfl, raw_hz_n260⟩
          show JM g D ad w0 A2 11 [(1, vi a), (0, vr 0 0)] [vi z261]
          have hz_n260 : z261 = 1 ∧ A2 0 0 31 = 0 ∧ A2 0 0 25 = 4 ∧ A2 0 0 26 = 43 ∨ z261 = 0 ∧ ¬ (A2 0 0 31 = 0 ∧ A2 0 0 25 = 4 ∧ A2 0 0 26 = 43) := raw_hz_n260
          clear raw_hz_n260
          rcases hz_n260 with ⟨e_n260, hz_n260⟩ | ⟨e_n260, hz_n260⟩
          · subst e_n260
            exact (by omega : False).elim
          · subst e_n260
            clear hz_n260
            refine m_if_ne (tgt := 23) C e_q_sum_11 (by decide) (by decide) (fun c262 => (by omega : False).elim) (fun c262 => ?_)
            refine m_blk 17 [(1, vi a), (0, vr 0 0)] [vi 45, vr 0 0] C f_q_sum_14_2 rfl ?_
            refine m_callV C Rm Y [vi 45] [] (q_isSign l D B H0 ad _ hT2 45 (by show -2147483648 ≤ 45 ∧ 45 ≤ 2147483647; omega)) cl_Mo_173 rfl (by decide) rfl rfl e_q_sum_17 rfl rfl rfl ⟨by show _ ≤ (12 + 4 * d : Nat); omega, by show _ ≤ (460 + 200 * d : Nat); omega⟩ ?_
            rintro v263 A264 ⟨z267, rfl, rfl, raw_hz_n266⟩
            show JM g D ad w0 A2 20 [(1, vi a), (0, vr 0 0)] [vi z267]
            have hz_n266 : z267 = 1 ∧ A2 0 0 31 = 0 ∧ A2 0 0 25 = 4 ∧ A2 0 0 26 = 45 ∨ z267 = 0 ∧ ¬ (A2 0 0 31 = 0 ∧ A2 0 0 25 = 4 ∧ A2 0 0 26 = 45) := raw_hz_n266
            clear raw_hz_n266
            rcases hz_n266 with ⟨e_n266, hz_n266⟩ | ⟨e_n266, hz_n266⟩
            · subst e_n266
              exact (by omega : False).elim
            · subst e_n266
              clear hz_n266
              refine m_if_eq (tgt := 49) C e_q_sum_20 (by decide) (by decide) (fun c268 => ?_) (fun c268 => (by omega : False).elim)
              refine m_blk 50 [(1, vi a), (0, vr 0 0)] [vi a] C f_q_sum_49_1 rfl ?_
              exact m_iret C Rm E e_q_sum_50 ⟨a, rfl, hT2, hE2, (by show 0 ≤ a ∧ a ≤ 119; omega), (by show A2 0 0 24 ≤ A2 0 0 23 ∧ A2 0 0 23 ≤ A2 0 0 22; omega), iT, (fun h9 => absurd ((g2 : A2 0 0 31 = 1).symm.trans h9) (by decide)), (by show A 0 0 24 ≤ A2 0 0 24 ∧ A 0 0 30 ≤ A2 0 0 30 ∧ A2 0 0 27 = A 0 0 27; omega), iG, iK⟩
    refine m_loc [(1, vi z182), (0, vr 0 0)] ⟨rfl, rfl, trivial⟩ ?_
    exact hd_5 (Int.toNat ((200 - A179 0 0 24)) + 1) A179 z182 hT_n181 hF_n181 (by show 0 ≤ z182 ∧ z182 ≤ 119; omega) (by show A179 0 0 24 ≤ A179 0 0 23 ∧ A179 0 0 23 ≤ A179 0 0 22; omega) pt_n181 (fun h9 => absurd ((g_n181 : A179 0 0 31 = 1).symm.trans h9) (by decide)) (by show A 0 0 24 ≤ A179 0 0 24 ∧ A 0 0 30 ≤ A179 0 0 30 ∧ A179 0 0 27 = A 0 0 27 ∧ A179 0 0 22 = A 0 0 22 ∧ A179 0 0 0 = p0 ∧ A179 0 0 29 = A 0 0 29 ∧ A179 0 0 28 = A 0 0 28; omega) hG_n181 (nK.trans (A2 := A) nK.rfl' hK_n181 (by show A 0 0 30 ≤ A 0 0 30; omega)) (by show (200 - A179 0 0 24) < _; omega)

theorem f_q_expression_0_1 : mblkB b_Mo_expression [(0, .aload_n 0, vi 0)] = true := by decide +kernel
theorem e_q_expression_1 : decode b_Mo_expression 1 = .ok (.invokevirtual 215, 3) := by decide +kernel
theorem f_q_expression_4_3 : mblkB b_Mo_expression [(4, .istore_n 1, vi 0), (5, .aload_n 0, vi 0), (6, .bipush 60, vi 60)] = true := by decide +kernel
theorem e_q_expression_8 : decode b_Mo_expression 8 = .ok (.invokevirtual 173, 3) := by decide +kernel
theorem e_q_expression_11 : decode b_Mo_expression 11 = .ok (.ifCond .ne 14, 3) := by decide +kernel
theorem f_q_expression_25_1 : mblkB b_Mo_expression [(25, .aload_n 0, vi 0)] = true := by decide +kernel
theorem e_q_expression_26 : decode b_Mo_expression 26 = .ok (.getfield 165, 3) := by decide +kernel
theorem f_q_expression_29_2 : mblkB b_Mo_expression [(29, .istore_n 2, vi 0), (30, .aload_n 0, vi 0)] = true := by decide +kernel
theorem e_q_expression_31 : decode b_Mo_expression 31 = .ok (.invokevirtual 176, 3) := by decide +kernel
theorem f_q_expression_34_1 : mblkB b_Mo_expression [(34, .aload_n 0, vi 0)] = true := by decide +kernel
theorem e_q_expression_35 : decode b_Mo_expression 35 = .ok (.invokevirtual 215, 3) := by decide +kernel
theorem f_q_expression_38_6 : mblkB b_Mo_expression [(38, .istore_n 3, vi 0), (39, .aload_n 0, vi 0), (40, .iload_n 2, vi 0), (41, .iconst 0, vi 0), (42, .iload_n 1, vi 0), (43, .iload_n 3, vi 0)] = true := by decide +kernel
theorem e_q_expression_44 : decode b_Mo_expression 44 = .ok (.invokevirtual 218, 3) := by decide +kernel
theorem e_q_expression_47 : decode b_Mo_expression 47 = .ok (.ireturn, 1) := by decide +kernel
theorem f_q_expression_14_2 : mblkB b_Mo_expression [(14, .aload_n 0, vi 0), (15, .bipush 61, vi 61)] = true := by decide +kernel
theorem e_q_expression_17 : decode b_Mo_expression 17 = .ok (.invokevirtual 173, 3) := by decide +kernel
theorem e_q_expression_20 : decode b_Mo_expression 20 = .ok (.ifCond .ne 5, 3) := by decide +kernel
theorem f_q_expression_23_1 : mblkB b_Mo_expression [(23, .iload_n 1, vi 0)] = true := by decide +kernel
theorem e_q_expression_24 : decode b_Mo_expression 24 = .ok (.ireturn, 1) := by decide +kernel
set_option maxHeartbeats 40000000 in
set_option maxRecDepth 100000 in
theorem q_expression (d : Nat) (hq9 : S_sum d) : S_expression d := by
  intro l D B H0 ad A hS hT p0 hp hb hn hl hG ho
  refine m_met (by decide) rfl (fun g w0 C Rm Y E => ?_)
  have hE0 : mEq (em p0.toNat) A A := mEq.rfl'
  show JM g D ad w0 A 0 [(0, vr 0 0)] []
  have rt : A 0 0 22 ≤ 120 := (hT 0 0 22).2
  have rd9 : 0 ≤ A 0 0 29 ∧ 0 ≤ A 0 0 30 := ⟨(hT 0 0 29).1, (hT 0 0 30).1⟩
  rcases (show A 0 0 31 = 0 ∨ A 0 0 31 = 1 from by have w8 : 0 ≤ A 0 0 31 ∧ A 0 0 31 ≤ 1 := hT 0 0 31; omega) with g0 | g0
  · have hl0 := hl g0
    refine m_blk 1 [(0, vr 0 0)] [vr 0 0] C f_q_expression_0_1 rfl ?_
    refine m_callV C Rm Y [] [] (hq9 l D B H0 ad _ hS hT p0 (by show A 0 0 0 = p0 ∧ 0 ≤ p0 ∧ p0 ≤ 5; omega) (by show A 0 0 24 ≤ A 0 0 23 ∧ A 0 0 23 ≤ A 0 0 22; omega) hn (fun _ => by show A 0 0 30 + 3 * A 0 0 29 ≤ A 0 0 24; omega) hG (by show A 0 0 27 = 4 - (d : Int) ∧ (d : Int) ≤ 4; omega)) cl_Mo_215 rfl (by decide) rfl rfl e_q_expression_1 rfl rfl rfl ⟨by show _ ≤ (13 + 4 * d : Nat); omega, by show _ ≤ (490 + 200 * d : Nat); omega⟩ ?_
    rintro v1 A2 ⟨z5, rfl, hT_n4, hE_n4, raw_hz_n4, raw_hb_n4, raw_hn_n4, raw_hw_n4, raw_hm_n4, raw_hG_n4, raw_hK_n4⟩
    have hF_n4 := hE0.trans (hE_n4.sub (fun _ _ _ h => h))
    show JM g D ad w0 A2 4 [(0, vr 0 0)] [vi z5]
    have hz_n4 : 0 ≤ z5 ∧ z5 ≤ 119 := raw_hz_n4
    clear raw_hz_n4
    have hb_n4 : A2 0 0 24 ≤ A2 0 0 23 ∧ A2 0 0 23 ≤ A2 0 0 22 := raw_hb_n4
    clear raw_hb_n4
    have hm_n4 : A 0 0 24 ≤ A2 0 0 24 ∧ A 0 0 30 ≤ A2 0 0 30 ∧ A2 0 0 27 = A 0 0 27 := raw_hm_n4
    clear raw_hm_n4
    have pt_n4 : pT A2 := raw_hn_n4
    have k0_n4 : A2 0 0 0 = A 0 0 0 := hE_n4 0 0 0 rfl
    have k22_n4 : A2 0 0 22 = A 0 0 22 := hE_n4 0 0 22 rfl
    have k28_n4 : A2 0 0 28 = A 0 0 28 := hE_n4 0 0 28 rfl
    have k29_n4 : A2 0 0 29 = A 0 0 29 := hE_n4 0 0 29 rfl
    have hG_n4 : nG p0.toNat A2 := raw_hG_n4
    have hK_n4 : nK p0.toNat A A2 := raw_hK_n4
    rcases (show A2 0 0 31 = 0 ∨ A2 0 0 31 = 1 from by have w9 := hT_n4 0 0 31; have w8 : 0 ≤ A2 0 0 31 ∧ A2 0 0 31 ≤ 1 := w9; omega) with g_n4 | g_n4
    · have u_n4 : z5 < A2 0 0 30 ∧ A 0 0 24 - A 0 0 30 ≤ A2 0 0 24 - A2 0 0 30 := (raw_hw_n4 g_n4).2
      refine m_blk 8 [(1, vi z5), (0, vr 0 0)] [vi 60, vr 0 0] C f_q_expression_4_3 rfl ?_
      refine m_callV C Rm Y [vi 60] [] (q_isSign l D B H0 ad _ hT_n4 60 (by show -2147483648 ≤ 60 ∧ 60 ≤ 2147483647; omega)) cl_Mo_173 rfl (by decide) rfl rfl e_q_expression_8 rfl rfl rfl ⟨by show _ ≤ (13 + 4 * d : Nat); omega, by show _ ≤ (490 + 200 * d : Nat); omega⟩ ?_
      rintro v6 A7 ⟨z10, rfl, rfl, raw_hz_n9⟩
      show JM g D ad w0 A2 11 [(1, vi z5), (0, vr 0 0)] [vi z10]
      have hz_n9 : z10 = 1 ∧ A2 0 0 31 = 0 ∧ A2 0 0 25 = 4 ∧ A2 0 0 26 = 60 ∨ z10 = 0 ∧ ¬ (A2 0 0 31 = 0 ∧ A2 0 0 25 = 4 ∧ A2 0 0 26 = 60) := raw_hz_n9
      clear raw_hz_n9
      rcases hz_n9 with ⟨e_n9, hz_n9⟩ | ⟨e_n9, hz_n9⟩
      · subst e_n9
        have bt_n9 : A2 0 0 24 < A2 0 0 23 := pT_lt (A := A2) pt_n4 hz_n9.1 (by show ¬ A2 0 0 25 = 0; omega)
        refine m_if_ne (tgt := 25) C e_q_expression_11 (by decide) (by decide) (fun c11 => ?_) (fun c11 => (by omega : False).elim)
        refine m_blk 26 [(1, vi z5), (0, vr 0 0)] [vr 0 0] C f_q_expression_25_1 rfl ?_
        obtain ⟨x12, hx12⟩ : ∃ x, A2 0 0 26 = x := ⟨_, rfl⟩
        have rx12 : (-1) ≤ x12 ∧ x12 ≤ 255 := mrg hT_n4 hx12 rfl
        refine m_geti C e_q_expression_26 fg_Mo_165 rfl (by decide) rfl x12 hx12 ?_
        refine m_blk 31 [(2, vi x12), (1, vi z5), (0, vr 0 0)] [vr 0 0] C f_q_expression_29_2 rfl ?_
        refine m_callV C Rm Y [] [] (q_next l D B H0 ad _ hS hT_n4 (by show A2 0 0 23 ≤ A2 0 0 22; omega)) cl_Mo_176 rfl (by decide) rfl rfl e_q_expression_31 rfl rfl rfl ⟨by show _ ≤ (13 + 4 * d : Nat); omega, by show _ ≤ (490 + 200 * d : Nat); omega⟩ ?_
        rintro v13 A14 ⟨rfl, hT_n16, hE_n16, raw_hw_n16, raw_hb_n16⟩
        have hF_n16 := hF_n4.trans (hE_n16.sub (nm_em _))
        show JM g D ad w0 A14 34 [(2, vi x12), (1, vi z5), (0, vr 0 0)] []
        obtain ⟨b1_n16, b2_n16, b3_n16, pt_n16⟩ : A2 0 0 23 ≤ A14 0 0 24 ∧ A14 0 0 24 ≤ A14 0 0 23 ∧ A14 0 0 23 ≤ A14 0 0 22 ∧ pT A14 := raw_hb_n16 g_n4
        clear raw_hb_n16 raw_hw_n16
        have k0_n16 : A14 0 0 0 = A2 0 0 0 := hE_n16 0 0 0 rfl
        have k22_n16 : A14 0 0 22 = A2 0 0 22 := hE_n16 0 0 22 rfl
        have k27_n16 : A14 0 0 27 = A2 0 0 27 := hE_n16 0 0 27 rfl
        have k28_n16 : A14 0 0 28 = A2 0 0 28 := hE_n16 0 0 28 rfl
        have k29_n16 : A14 0 0 29 = A2 0 0 29 := hE_n16 0 0 29 rfl
        have k30_n16 : A14 0 0 30 = A2 0 0 30 := hE_n16 0 0 30 rfl
        rcases (show A14 0 0 31 = 0 ∨ A14 0 0 31 = 1 from by have w9 := hT_n16 0 0 31; have w8 : 0 ≤ A14 0 0 31 ∧ A14 0 0 31 ≤ 1 := w9; omega) with g_n16 | g_n16
        · refine m_blk 35 [(2, vi x12), (1, vi z5), (0, vr 0 0)] [vr 0 0] C f_q_expression_34_1 rfl ?_
          refine m_callV C Rm Y [] [] (hq9 l D B H0 ad _ hS hT_n16 p0 (by show A14 0 0 0 = p0 ∧ 0 ≤ p0 ∧ p0 ≤ 5; omega) (by show A14 0 0 24 ≤ A14 0 0 23 ∧ A14 0 0 23 ≤ A14 0 0 22; omega) pt_n16 (fun _ => by show A14 0 0 30 + 3 * A14 0 0 29 ≤ A14 0 0 24; omega) (nG.nm (A := A2) hG_n4 hE_n16) (by show A14 0 0 27 = 4 - (d : Int) ∧ (d : Int) ≤ 4; omega)) cl_Mo_215 rfl (by decide) rfl rfl e_q_expression_35 rfl rfl rfl ⟨by show _ ≤ (13 + 4 * d : Nat); omega, by show _ ≤ (490 + 200 * d : Nat); omega⟩ ?_
          rintro v17 A18 ⟨z21, rfl, hT_n20, hE_n20, raw_hz_n20, raw_hb_n20, raw_hn_n20, raw_hw_n20, raw_hm_n20, raw_hG_n20, raw_hK_n20⟩
          have hF_n20 := hF_n16.trans (hE_n20.sub (fun _ _ _ h => h))
          show JM g D ad w0 A18 38 [(2, vi x12), (1, vi z5), (0, vr 0 0)] [vi z21]
          have hz_n20 : 0 ≤ z21 ∧ z21 ≤ 119 := raw_hz_n20
          clear raw_hz_n20
          have hb_n20 : A18 0 0 24 ≤ A18 0 0 23 ∧ A18 0 0 23 ≤ A18 0 0 22 := raw_hb_n20
          clear raw_hb_n20
          have hm_n20 : A14 0 0 24 ≤ A18 0 0 24 ∧ A14 0 0 30 ≤ A18 0 0 30 ∧ A18 0 0 27 = A14 0 0 27 := raw_hm_n20
          clear raw_hm_n20
          have pt_n20 : pT A18 := raw_hn_n20
          have k0_n20 : A18 0 0 0 = A14 0 0 0 := hE_n20 0 0 0 rfl
          have k22_n20 : A18 0 0 22 = A14 0 0 22 := hE_n20 0 0 22 rfl
          have k28_n20 : A18 0 0 28 = A14 0 0 28 := hE_n20 0 0 28 rfl
          have k29_n20 : A18 0 0 29 = A14 0 0 29 := hE_n20 0 0 29 rfl
          have hG_n20 : nG p0.toNat A18 := raw_hG_n20
          have hK_n20 : nK p0.toNat A14 A18 := raw_hK_n20
          rcases (show A18 0 0 31 = 0 ∨ A18 0 0 31 = 1 from by have w9 := hT_n20 0 0 31; have w8 : 0 ≤ A18 0 0 31 ∧ A18 0 0 31 ≤ 1 := w9; omega) with g_n20 | g_n20
          · have u_n20 : z21 < A18 0 0 30 ∧ A14 0 0 24 - A14 0 0 30 ≤ A18 0 0 24 - A18 0 0 30 := (raw_hw_n20 g_n20).2
            refine m_blk 44 [(3, vi z21), (2, vi x12), (1, vi z5), (0, vr 0 0)] [vi z21, vi z5, vi 0, vi x12, vr 0 0] C f_q_expression_38_6 rfl ?_
            refine m_callV C Rm Y [vi x12, vi 0, vi z5, vi z21] [] (q_node l D B H0 ad _ hT_n20 p0 x12 0 z5 z21 (by show A18 0 0 0 = p0 ∧ 0 ≤ p0 ∧ p0 ≤ 5; omega) (fun _ => by show A18 0 0 30 ≤ 119; omega) (by show (-1 ≤ x12 ∧ x12 ≤ 255) ∧ (-1 ≤ 0 ∧ 0 ≤ 255) ∧ (-1 ≤ z5 ∧ z5 ≤ 119) ∧ (-1 ≤ z21 ∧ z21 ≤ 119); omega) hG_n20 (fun _ => by show z5 < A18 0 0 30 ∧ z21 < A18 0 0 30 ∧ (x12 ≠ 0 → x12 ≠ 1 → 0 ≤ z5) ∧ (x12 ≠ 0 → x12 ≠ 1 → x12 ≠ 2 → 0 ≤ z21); omega)) cl_Mo_218 rfl (by decide) rfl rfl e_q_expression_44 rfl rfl rfl ⟨by show _ ≤ (13 + 4 * d : Nat); omega, by show _ ≤ (490 + 200 * d : Nat); omega⟩ ?_
            rintro v22 A23 ⟨z26, rfl, hT_n25, hE_n25, raw_hz_n25, raw_hw_n25, raw_hi_n25, raw_hm_n25, raw_hG_n25, raw_hK_n25⟩
            have hF_n25 := hF_n20.trans (hE_n25.sub (nd_em _))
            show JM g D ad w0 A23 47 [(3, vi z21), (2, vi x12), (1, vi z5), (0, vr 0 0)] [vi z26]
            have hz_n25 : 0 ≤ z26 ∧ z26 ≤ 119 := raw_hz_n25
            clear raw_hz_n25
            obtain ⟨b1_n25, b2_n25⟩ : A23 0 0 30 = A18 0 0 30 + 1 ∧ z26 = A18 0 0 30 := raw_hi_n25 g_n20
            clear raw_hi_n25 raw_hw_n25
            have k0_n25 : A23 0 0 0 = A18 0 0 0 := hE_n25 0 0 0 rfl
            have k22_n25 : A23 0 0 22 = A18 0 0 22 := hE_n25 0 0 22 rfl
            have k23_n25 : A23 0 0 23 = A18 0 0 23 := hE_n25 0 0 23 rfl
            have k24_n25 : A23 0 0 24 = A18 0 0 24 := hE_n25 0 0 24 rfl
            have k25_n25 : A23 0 0 25 = A18 0 0 25 := hE_n25 0 0 25 rfl
            have k26_n25 : A23 0 0 26 = A18 0 0 26 := hE_n25 0 0 26 rfl
            have k27_n25 : A23 0 0 27 = A18 0 0 27 := hE_n25 0 0 27 rfl
            have k28_n25 : A23 0 0 28 = A18 0 0 28 := hE_n25 0 0 28 rfl
            have k29_n25 : A23 0 0 29 = A18 0 0 29 := hE_n25 0 0 29 rfl
            have g_n25 : A23 0 0 31 = 0 := (hE_n25 0 0 31 rfl).trans g_n20
            have hG_n25 : nG p0.toNat A23 := raw_hG_n25
            have hK_n25 : nK p0.toNat A18 A23 := raw_hK_n25
            have pt_n25 : pT A23 := pT_eq (A := A18) pt_n20 (hE_n25 0 0 31 rfl) (hE_n25 0 0 25 rfl) (hE_n25 0 0 24 rfl) (hE_n25 0 0 23 rfl) (hE_n25 0 0 26 rfl)
            exact m_iret C Rm E e_q_expression_47 ⟨z26, rfl, hT_n25, hF_n25, (by show 0 ≤ z26 ∧ z26 ≤ 119; omega), (by show A23 0 0 24 ≤ A23 0 0 23 ∧ A23 0 0 23 ≤ A23 0 0 22; omega), pt_n25, (fun _ => ⟨g0, (by show z26 < A23 0 0 30; omega), (by show A 0 0 24 - A 0 0 30 ≤ A23 0 0 24 - A23 0 0 30; omega)⟩), (by show A 0 0 24 ≤ A23 0 0 24 ∧ A 0 0 30 ≤ A23 0 0 30 ∧ A23 0 0 27 = A 0 0 27; omega), hG_n25, (nK.trans (A2 := A18) (nK.trans (A2 := A14) (nK.nm (A2 := A2) (nK.trans (A2 := A) nK.rfl' hK_n4 (by show A 0 0 30 ≤ A 0 0 30; omega)) hE_n16) hK_n20 (by show A 0 0 30 ≤ A14 0 0 30; omega)) hK_n25 (by show A 0 0 30 ≤ A18 0 0 30; omega))⟩
          · refine m_blk 44 [(3, vi z21), (2, vi x12), (1, vi z5), (0, vr 0 0)] [vi z21, vi z5, vi 0, vi x12, vr 0 0] C f_q_expression_38_6 rfl ?_
            refine m_callV C Rm Y [vi x12, vi 0, vi z5, vi z21] [] (q_node l D B H0 ad _ hT_n20 p0 x12 0 z5 z21 (by show A18 0 0 0 = p0 ∧ 0 ≤ p0 ∧ p0 ≤ 5; omega) (fun h9 => absurd ((g_n20 : A18 0 0 31 = 1).symm.trans h9) (by decide)) (by show (-1 ≤ x12 ∧ x12 ≤ 255) ∧ (-1 ≤ 0 ∧ 0 ≤ 255) ∧ (-1 ≤ z5 ∧ z5 ≤ 119) ∧ (-1 ≤ z21 ∧ z21 ≤ 119); omega) hG_n20 (fun h9 => absurd ((g_n20 : A18 0 0 31 = 1).symm.trans h9) (by decide))) cl_Mo_218 rfl (by decide) rfl rfl e_q_expression_44 rfl rfl rfl ⟨by show _ ≤ (13 + 4 * d : Nat); omega, by show _ ≤ (490 + 200 * d : Nat); omega⟩ ?_
            rintro v27 A28 ⟨z31, rfl, hT_n30, hE_n30, raw_hz_n30, raw_hw_n30, raw_hi_n30, raw_hm_n30, raw_hG_n30, raw_hK_n30⟩
            have hF_n30 := hF_n20.trans (hE_n30.sub (nd_em _))
            show JM g D ad w0 A28 47 [(3, vi z21), (2, vi x12), (1, vi z5), (0, vr 0 0)] [vi z31]
            have hz_n30 : 0 ≤ z31 ∧ z31 ≤ 119 := raw_hz_n30
            clear raw_hz_n30
            have ee_n30 := (raw_hw_n30 g_n20).symm
            subst ee_n30
            show JM g D ad w0 A18 47 [(3, vi z21), (2, vi x12), (1, vi z5), (0, vr 0 0)] [vi z31]
            exact m_iret C Rm E e_q_expression_47 ⟨z31, rfl, hT_n20, hF_n20, (by show 0 ≤ z31 ∧ z31 ≤ 119; omega), (by show A18 0 0 24 ≤ A18 0 0 23 ∧ A18 0 0 23 ≤ A18 0 0 22; omega), pt_n20, (fun h9 => absurd ((g_n20 : A18 0 0 31 = 1).symm.trans h9) (by decide)), (by show A 0 0 24 ≤ A18 0 0 24 ∧ A 0 0 30 ≤ A18 0 0 30 ∧ A18 0 0 27 = A 0 0 27; omega), hG_n20, (nK.trans (A2 := A14) (nK.nm (A2 := A2) (nK.trans (A2 := A) nK.rfl' hK_n4 (by show A 0 0 30 ≤ A 0 0 30; omega)) hE_n16) hK_n20 (by show A 0 0 30 ≤ A14 0 0 30; omega))⟩
        · refine m_blk 35 [(2, vi x12), (1, vi z5), (0, vr 0 0)] [vr 0 0] C f_q_expression_34_1 rfl ?_
          refine m_callV C Rm Y [] [] (hq9 l D B H0 ad _ hS hT_n16 p0 (by show A14 0 0 0 = p0 ∧ 0 ≤ p0 ∧ p0 ≤ 5; omega) (by show A14 0 0 24 ≤ A14 0 0 23 ∧ A14 0 0 23 ≤ A14 0 0 22; omega) pt_n16 (fun h9 => absurd ((g_n16 : A14 0 0 31 = 1).symm.trans h9) (by decide)) (nG.nm (A := A2) hG_n4 hE_n16) (by show A14 0 0 27 = 4 - (d : Int) ∧ (d : Int) ≤ 4; omega)) cl_Mo_215 rfl (by decide) rfl rfl e_q_expression_35 rfl rfl rfl ⟨by show _ ≤ (13 + 4 * d : Nat); omega, by show _ ≤ (490 + 200 * d : Nat); omega⟩ ?_
          rintro v32 A33 ⟨z36, rfl, hT_n35, hE_n35, raw_hz_n35, raw_hb_n35, raw_hn_n35, raw_hw_n35, raw_hm_n35, raw_hG_n35, raw_hK_n35⟩
          have hF_n35 := hF_n16.trans (hE_n35.sub (fun _ _ _ h => h))
          show JM g D ad w0 A33 38 [(2, vi x12), (1, vi z5), (0, vr 0 0)] [vi z36]
          have hz_n35 : 0 ≤ z36 ∧ z36 ≤ 119 := raw_hz_n35
          clear raw_hz_n35
          have hb_n35 : A33 0 0 24 ≤ A33 0 0 23 ∧ A33 0 0 23 ≤ A33 0 0 22 := raw_hb_n35
          clear raw_hb_n35
          have hm_n35 : A14 0 0 24 ≤ A33 0 0 24 ∧ A14 0 0 30 ≤ A33 0 0 30 ∧ A33 0 0 27 = A14 0 0 27 := raw_hm_n35
          clear raw_hm_n35
          have pt_n35 : pT A33 := raw_hn_n35
          have k0_n35 : A33 0 0 0 = A14 0 0 0 := hE_n35 0 0 0 rfl
          have k22_n35 : A33 0 0 22 = A14 0 0 22 := hE_n35 0 0 22 rfl
          have k28_n35 : A33 0 0 28 = A14 0 0 28 := hE_n35 0 0 28 rfl
          have k29_n35 : A33 0 0 29 = A14 0 0 29 := hE_n35 0 0 29 rfl
          have hG_n35 : nG p0.toNat A33 := raw_hG_n35
          have hK_n35 : nK p0.toNat A14 A33 := raw_hK_n35
          have g_n35 : A33 0 0 31 = 1 := wr_1 (hT_n35 0 0 31) (fun h9 => absurd ((g_n16 : A14 0 0 31 = 1).symm.trans (raw_hw_n35 h9).1) (by decide))
          refine m_blk 44 [(3, vi z36), (2, vi x12), (1, vi z5), (0, vr 0 0)] [vi z36, vi z5, vi 0, vi x12, vr 0 0] C f_q_expression_38_6 rfl ?_
          refine m_callV C Rm Y [vi x12, vi 0, vi z5, vi z36] [] (q_node l D B H0 ad _ hT_n35 p0 x12 0 z5 z36 (by show A33 0 0 0 = p0 ∧ 0 ≤ p0 ∧ p0 ≤ 5; omega) (fun h9 => absurd ((g_n35 : A33 0 0 31 = 1).symm.trans h9) (by decide)) (by show (-1 ≤ x12 ∧ x12 ≤ 255) ∧ (-1 ≤ 0 ∧ 0 ≤ 255) ∧ (-1 ≤ z5 ∧ z5 ≤ 119) ∧ (-1 ≤ z36 ∧ z36 ≤ 119); omega) hG_n35 (fun h9 => absurd ((g_n35 : A33 0 0 31 = 1).symm.trans h9) (by decide))) cl_Mo_218 rfl (by decide) rfl rfl e_q_expression_44 rfl rfl rfl ⟨by show _ ≤ (13 + 4 * d : Nat); omega, by show _ ≤ (490 + 200 * d : Nat); omega⟩ ?_
          rintro v37 A38 ⟨z41, rfl, hT_n40, hE_n40, raw_hz_n40, raw_hw_n40, raw_hi_n40, raw_hm_n40, raw_hG_n40, raw_hK_n40⟩
          have hF_n40 := hF_n35.trans (hE_n40.sub (nd_em _))
          show JM g D ad w0 A38 47 [(3, vi z36), (2, vi x12), (1, vi z5), (0, vr 0 0)] [vi z41]
          have hz_n40 : 0 ≤ z41 ∧ z41 ≤ 119 := raw_hz_n40
          clear raw_hz_n40
          have ee_n40 := (raw_hw_n40 g_n35).symm
          subst ee_n40
          show JM g D ad w0 A33 47 [(3, vi z36), (2, vi x12), (1, vi z5), (0, vr 0 0)] [vi z41]
          exact m_iret C Rm E e_q_expression_47 ⟨z41, rfl, hT_n35, hF_n35, (by show 0 ≤ z41 ∧ z41 ≤ 119; omega), (by show A33 0 0 24 ≤ A33 0 0 23 ∧ A33 0 0 23 ≤ A33 0 0 22; omega), pt_n35, (fun h9 => absurd ((g_n35 : A33 0 0 31 = 1).symm.trans h9) (by decide)), (by show A 0 0 24 ≤ A33 0 0 24 ∧ A 0 0 30 ≤ A33 0 0 30 ∧ A33 0 0 27 = A 0 0 27; omega), hG_n35, (nK.trans (A2 := A14) (nK.nm (A2 := A2) (nK.trans (A2 := A) nK.rfl' hK_n4 (by show A 0 0 30 ≤ A 0 0 30; omega)) hE_n16) hK_n35 (by show A 0 0 30 ≤ A14 0 0 30; omega))⟩
      · subst e_n9
        clear hz_n9
        refine m_if_ne (tgt := 25) C e_q_expression_11 (by decide) (by decide) (fun c42 => (by omega : False).elim) (fun c42 => ?_)
        refine m_blk 17 [(1, vi z5), (0, vr 0 0)] [vi 61, vr 0 0] C f_q_expression_14_2 rfl ?_
        refine m_callV C Rm Y [vi 61] [] (q_isSign l D B H0 ad _ hT_n4 61 (by show -2147483648 ≤ 61 ∧ 61 ≤ 2147483647; omega)) cl_Mo_173 rfl (by decide) rfl rfl e_q_expression_17 rfl rfl rfl ⟨by show _ ≤ (13 + 4 * d : Nat); omega, by show _ ≤ (490 + 200 * d : Nat); omega⟩ ?_
        rintro v43 A44 ⟨z47, rfl, rfl, raw_hz_n46⟩
        show JM g D ad w0 A2 20 [(1, vi z5), (0, vr 0 0)] [vi z47]
        have hz_n46 : z47 = 1 ∧ A2 0 0 31 = 0 ∧ A2 0 0 25 = 4 ∧ A2 0 0 26 = 61 ∨ z47 = 0 ∧ ¬ (A2 0 0 31 = 0 ∧ A2 0 0 25 = 4 ∧ A2 0 0 26 = 61) := raw_hz_n46
        clear raw_hz_n46
        rcases hz_n46 with ⟨e_n46, hz_n46⟩ | ⟨e_n46, hz_n46⟩
        · subst e_n46
          have bt_n46 : A2 0 0 24 < A2 0 0 23 := pT_lt (A := A2) pt_n4 hz_n46.1 (by show ¬ A2 0 0 25 = 0; omega)
          refine m_if_ne (tgt := 25) C e_q_expression_20 (by decide) (by decide) (fun c48 => ?_) (fun c48 => (by omega : False).elim)
          refine m_blk 26 [(1, vi z5), (0, vr 0 0)] [vr 0 0] C f_q_expression_25_1 rfl ?_
          obtain ⟨x49, hx49⟩ : ∃ x, A2 0 0 26 = x := ⟨_, rfl⟩
          have rx49 : (-1) ≤ x49 ∧ x49 ≤ 255 := mrg hT_n4 hx49 rfl
          refine m_geti C e_q_expression_26 fg_Mo_165 rfl (by decide) rfl x49 hx49 ?_
          refine m_blk 31 [(2, vi x49), (1, vi z5), (0, vr 0 0)] [vr 0 0] C f_q_expression_29_2 rfl ?_
          refine m_callV C Rm Y [] [] (q_next l D B H0 ad _ hS hT_n4 (by show A2 0 0 23 ≤ A2 0 0 22; omega)) cl_Mo_176 rfl (by decide) rfl rfl e_q_expression_31 rfl rfl rfl ⟨by show _ ≤ (13 + 4 * d : Nat); omega, by show _ ≤ (490 + 200 * d : Nat); omega⟩ ?_
          rintro v50 A51 ⟨rfl, hT_n53, hE_n53, raw_hw_n53, raw_hb_n53⟩
          have hF_n53 := hF_n4.trans (hE_n53.sub (nm_em _))
          show JM g D ad w0 A51 34 [(2, vi x49), (1, vi z5), (0, vr 0 0)] []
          obtain ⟨b1_n53, b2_n53, b3_n53, pt_n53⟩ : A2 0 0 23 ≤ A51 0 0 24 ∧ A51 0 0 24 ≤ A51 0 0 23 ∧ A51 0 0 23 ≤ A51 0 0 22 ∧ pT A51 := raw_hb_n53 g_n4
          clear raw_hb_n53 raw_hw_n53
          have k0_n53 : A51 0 0 0 = A2 0 0 0 := hE_n53 0 0 0 rfl
          have k22_n53 : A51 0 0 22 = A2 0 0 22 := hE_n53 0 0 22 rfl
          have k27_n53 : A51 0 0 27 = A2 0 0 27 := hE_n53 0 0 27 rfl
          have k28_n53 : A51 0 0 28 = A2 0 0 28 := hE_n53 0 0 28 rfl
          have k29_n53 : A51 0 0 29 = A2 0 0 29 := hE_n53 0 0 29 rfl
          have k30_n53 : A51 0 0 30 = A2 0 0 30 := hE_n53 0 0 30 rfl
          rcases (show A51 0 0 31 = 0 ∨ A51 0 0 31 = 1 from by have w9 := hT_n53 0 0 31; have w8 : 0 ≤ A51 0 0 31 ∧ A51 0 0 31 ≤ 1 := w9; omega) with g_n53 | g_n53
          · refine m_blk 35 [(2, vi x49), (1, vi z5), (0, vr 0 0)] [vr 0 0] C f_q_expression_34_1 rfl ?_
            refine m_callV C Rm Y [] [] (hq9 l D B H0 ad _ hS hT_n53 p0 (by show A51 0 0 0 = p0 ∧ 0 ≤ p0 ∧ p0 ≤ 5; omega) (by show A51 0 0 24 ≤ A51 0 0 23 ∧ A51 0 0 23 ≤ A51 0 0 22; omega) pt_n53 (fun _ => by show A51 0 0 30 + 3 * A51 0 0 29 ≤ A51 0 0 24; omega) (nG.nm (A := A2) hG_n4 hE_n53) (by show A51 0 0 27 = 4 - (d : Int) ∧ (d : Int) ≤ 4; omega)) cl_Mo_215 rfl (by decide) rfl rfl e_q_expression_35 rfl rfl rfl ⟨by show _ ≤ (13 + 4 * d : Nat); omega, by show _ ≤ (490 + 200 * d : Nat); omega⟩ ?_
            rintro v54 A55 ⟨z58, rfl, hT_n57, hE_n57, raw_hz_n57, raw_hb_n57, raw_hn_n57, raw_hw_n57, raw_hm_n57, raw_hG_n57, raw_hK_n57⟩
            have hF_n57 := hF_n53.trans (hE_n57.sub (fun _ _ _ h => h))
            show JM g D ad w0 A55 38 [(2, vi x49), (1, vi z5), (0, vr 0 0)] [vi z58]
            have hz_n57 : 0 ≤ z58 ∧ z58 ≤ 119 := raw_hz_n57
            clear raw_hz_n57
            have hb_n57 : A55 0 0 24 ≤ A55 0 0 23 ∧ A55 0 0 23 ≤ A55 0 0 22 := raw_hb_n57
            clear raw_hb_n57
            have hm_n57 : A51 0 0 24 ≤ A55 0 0 24 ∧ A51 0 0 30 ≤ A55 0 0 30 ∧ A55 0 0 27 = A51 0 0 27 := raw_hm_n57
            clear raw_hm_n57
            have pt_n57 : pT A55 := raw_hn_n57
            have k0_n57 : A55 0 0 0 = A51 0 0 0 := hE_n57 0 0 0 rfl
            have k22_n57 : A55 0 0 22 = A51 0 0 22 := hE_n57 0 0 22 rfl
            have k28_n57 : A55 0 0 28 = A51 0 0 28 := hE_n57 0 0 28 rfl
            have k29_n57 : A55 0 0 29 = A51 0 0 29 := hE_n57 0 0 29 rfl
            have hG_n57 : nG p0.toNat A55 := raw_hG_n57
            have hK_n57 : nK p0.toNat A51 A55 := raw_hK_n57
            rcases (show A55 0 0 31 = 0 ∨ A55 0 0 31 = 1 from by have w9 := hT_n57 0 0 31; have w8 : 0 ≤ A55 0 0 31 ∧ A55 0 0 31 ≤ 1 := w9; omega) with g_n57 | g_n57
            · have u_n57 : z58 < A55 0 0 30 ∧ A51 0 0 24 - A51 0 0 30 ≤ A55 0 0 24 - A55 0 0 30 := (raw_hw_n57 g_n57).2
              refine m_blk 44 [(3, vi z58), (2, vi x49), (1, vi z5), (0, vr 0 0)] [vi z58, vi z5, vi 0, vi x49, vr 0 0] C f_q_expression_38_6 rfl ?_
              refine m_callV C Rm Y [vi x49, vi 0, vi z5, vi z58] [] (q_node l D B H0 ad _ hT_n57 p0 x49 0 z5 z58 (by show A55 0 0 0 = p0 ∧ 0 ≤ p0 ∧ p0 ≤ 5; omega) (fun _ => by show A55 0 0 30 ≤ 119; omega) (by show (-1 ≤ x49 ∧ x49 ≤ 255) ∧ (-1 ≤ 0 ∧ 0 ≤ 255) ∧ (-1 ≤ z5 ∧ z5 ≤ 119) ∧ (-1 ≤ z58 ∧ z58 ≤ 119); omega) hG_n57 (fun _ => by show z5 < A55 0 0 30 ∧ z58 < A55 0 0 30 ∧ (x49 ≠ 0 → x49 ≠ 1 → 0 ≤ z5) ∧ (x49 ≠ 0 → x49 ≠ 1 → x49 ≠ 2 → 0 ≤ z58); omega)) cl_Mo_218 rfl (by decide) rfl rfl e_q_expression_44 rfl rfl rfl ⟨by show _ ≤ (13 + 4 * d : Nat); omega, by show _ ≤ (490 + 200 * d : Nat); omega⟩ ?_
              rintro v59 A60 ⟨z63, rfl, hT_n62, hE_n62, raw_hz_n62, raw_hw_n62, raw_hi_n62, raw_hm_n62, raw_hG_n62, raw_hK_n62⟩
              have hF_n62 := hF_n57.trans (hE_n62.sub (nd_em _))
              show JM g D ad w0 A60 47 [(3, vi z58), (2, vi x49), (1, vi z5), (0, vr 0 0)] [vi z63]
              have hz_n62 : 0 ≤ z63 ∧ z63 ≤ 119 := raw_hz_n62
              clear raw_hz_n62
              obtain ⟨b1_n62, b2_n62⟩ : A60 0 0 30 = A55 0 0 30 + 1 ∧ z63 = A55 0 0 30 := raw_hi_n62 g_n57
              clear raw_hi_n62 raw_hw_n62
              have k0_n62 : A60 0 0 0 = A55 0 0 0 := hE_n62 0 0 0 rfl
              have k22_n62 : A60 0 0 22 = A55 0 0 22 := hE_n62 0 0 22 rfl
              have k23_n62 : A60 0 0 23 = A55 0 0 23 := hE_n62 0 0 23 rfl
              have k24_n62 : A60 0 0 24 = A55 0 0 24 := hE_n62 0 0 24 rfl
              have k25_n62 : A60 0 0 25 = A55 0 0 25 := hE_n62 0 0 25 rfl
              have k26_n62 : A60 0 0 26 = A55 0 0 26 := hE_n62 0 0 26 rfl
              have k27_n62 : A60 0 0 27 = A55 0 0 27 := hE_n62 0 0 27 rfl
              have k28_n62 : A60 0 0 28 = A55 0 0 28 := hE_n62 0 0 28 rfl
              have k29_n62 : A60 0 0 29 = A55 0 0 29 := hE_n62 0 0 29 rfl
              have g_n62 : A60 0 0 31 = 0 := (hE_n62 0 0 31 rfl).trans g_n57
              have hG_n62 : nG p0.toNat A60 := raw_hG_n62
              have hK_n62 : nK p0.toNat A55 A60 := raw_hK_n62
              have pt_n62 : pT A60 := pT_eq (A := A55) pt_n57 (hE_n62 0 0 31 rfl) (hE_n62 0 0 25 rfl) (hE_n62 0 0 24 rfl) (hE_n62 0 0 23 rfl) (hE_n62 0 0 26 rfl)
              exact m_iret C Rm E e_q_expression_47 ⟨z63, rfl, hT_n62, hF_n62, (by show 0 ≤ z63 ∧ z63 ≤ 119; omega), (by show A60 0 0 24 ≤ A60 0 0 23 ∧ A60 0 0 23 ≤ A60 0 0 22; omega), pt_n62, (fun _ => ⟨g0, (by show z63 < A60 0 0 30; omega), (by show A 0 0 24 - A 0 0 30 ≤ A60 0 0 24 - A60 0 0 30; omega)⟩), (by show A 0 0 24 ≤ A60 0 0 24 ∧ A 0 0 30 ≤ A60 0 0 30 ∧ A60 0 0 27 = A 0 0 27; omega), hG_n62, (nK.trans (A2 := A55) (nK.trans (A2 := A51) (nK.nm (A2 := A2) (nK.trans (A2 := A) nK.rfl' hK_n4 (by show A 0 0 30 ≤ A 0 0 30; omega)) hE_n53) hK_n57 (by show A 0 0 30 ≤ A51 0 0 30; omega)) hK_n62 (by show A 0 0 30 ≤ A55 0 0 30; omega))⟩
            · refine m_blk 44 [(3, vi z58), (2, vi x49), (1, vi z5), (0, vr 0 0)] [vi z58, vi z5, vi 0, vi x49, vr 0 0] C f_q_expression_38_6 rfl ?_
              refine m_callV C Rm Y [vi x49, vi 0, vi z5, vi z58] [] (q_node l D B H0 ad _ hT_n57 p0 x49 0 z5 z58 (by show A55 0 0 0 = p0 ∧ 0 ≤ p0 ∧ p0 ≤ 5; omega) (fun h9 => absurd ((g_n57 : A55 0 0 31 = 1).symm.trans h9) (by decide)) (by show (-1 ≤ x49 ∧ x49 ≤ 255) ∧ (-1 ≤ 0 ∧ 0 ≤ 255) ∧ (-1 ≤ z5 ∧ z5 ≤ 119) ∧ (-1 ≤ z58 ∧ z58 ≤ 119); omega) hG_n57 (fun h9 => absurd ((g_n57 : A55 0 0 31 = 1).symm.trans h9) (by decide))) cl_Mo_218 rfl (by decide) rfl rfl e_q_expression_44 rfl rfl rfl ⟨by show _ ≤ (13 + 4 * d : Nat); omega, by show _ ≤ (490 + 200 * d : Nat); omega⟩ ?_
              rintro v64 A65 ⟨z68, rfl, hT_n67, hE_n67, raw_hz_n67, raw_hw_n67, raw_hi_n67, raw_hm_n67, raw_hG_n67, raw_hK_n67⟩
              have hF_n67 := hF_n57.trans (hE_n67.sub (nd_em _))
              show JM g D ad w0 A65 47 [(3, vi z58), (2, vi x49), (1, vi z5), (0, vr 0 0)] [vi z68]
              have hz_n67 : 0 ≤ z68 ∧ z68 ≤ 119 := raw_hz_n67
              clear raw_hz_n67
              have ee_n67 := (raw_hw_n67 g_n57).symm
              subst ee_n67
              show JM g D ad w0 A55 47 [(3, vi z58), (2, vi x49), (1, vi z5), (0, vr 0 0)] [vi z68]
              exact m_iret C Rm E e_q_expression_47 ⟨z68, rfl, hT_n57, hF_n57, (by show 0 ≤ z68 ∧ z68 ≤ 119; omega), (by show A55 0 0 24 ≤ A55 0 0 23 ∧ A55 0 0 23 ≤ A55 0 0 22; omega), pt_n57, (fun h9 => absurd ((g_n57 : A55 0 0 31 = 1).symm.trans h9) (by decide)), (by show A 0 0 24 ≤ A55 0 0 24 ∧ A 0 0 30 ≤ A55 0 0 30 ∧ A55 0 0 27 = A 0 0 27; omega), hG_n57, (nK.trans (A2 := A51) (nK.nm (A2 := A2) (nK.trans (A2 := A) nK.rfl' hK_n4 (by show A 0 0 30 ≤ A 0 0 30; omega)) hE_n53) hK_n57 (by show A 0 0 30 ≤ A51 0 0 30; omega))⟩
          · refine m_blk 35 [(2, vi x49), (1, vi z5), (0, vr 0 0)] [vr 0 0] C f_q_expression_34_1 rfl ?_
            refine m_callV C Rm Y [] [] (hq9 l D B H0 ad _ hS hT_n53 p0 (by show A51 0 0 0 = p0 ∧ 0 ≤ p0 ∧ p0 ≤ 5; omega) (by show A51 0 0 24 ≤ A51 0 0 23 ∧ A51 0 0 23 ≤ A51 0 0 22; omega) pt_n53 (fun h9 => absurd ((g_n53 : A51 0 0 31 = 1).symm.trans h9) (by decide)) (nG.nm (A := A2) hG_n4 hE_n53) (by show A51 0 0 27 = 4 - (d : Int) ∧ (d : Int) ≤ 4; omega)) cl_Mo_215 rfl (by decide) rfl rfl e_q_expression_35 rfl rfl rfl ⟨by show _ ≤ (13 + 4 * d : Nat); omega, by show _ ≤ (490 + 200 * d : Nat); omega⟩ ?_
            rintro v69 A70 ⟨z73, rfl, hT_n72, hE_n72, raw_hz_n72, raw_hb_n72, raw_hn_n72, raw_hw_n72, raw_hm_n72, raw_hG_n72, raw_hK_n72⟩
            have hF_n72 := hF_n53.trans (hE_n72.sub (fun _ _ _ h => h))
            show JM g D ad w0 A70 38 [(2, vi x49), (1, vi z5), (0, vr 0 0)] [vi z73]
            have hz_n72 : 0 ≤ z73 ∧ z73 ≤ 119 := raw_hz_n72
            clear raw_hz_n72
            have hb_n72 : A70 0 0 24 ≤ A70 0 0 23 ∧ A70 0 0 23 ≤ A70 0 0 22 := raw_hb_n72
            clear raw_hb_n72
            have hm_n72 : A51 0 0 24 ≤ A70 0 0 24 ∧ A51 0 0 30 ≤ A70 0 0 30 ∧ A70 0 0 27 = A51 0 0 27 := raw_hm_n72
            clear raw_hm_n72
            have pt_n72 : pT A70 := raw_hn_n72
            have k0_n72 : A70 0 0 0 = A51 0 0 0 := hE_n72 0 0 0 rfl
            have k22_n72 : A70 0 0 22 = A51 0 0 22 := hE_n72 0 0 22 rfl
            have k28_n72 : A70 0 0 28 = A51 0 0 28 := hE_n72 0 0 28 rfl
            have k29_n72 : A70 0 0 29 = A51 0 0 29 := hE_n72 0 0 29 rfl
            have hG_n72 : nG p0.toNat A70 := raw_hG_n72
            have hK_n72 : nK p0.toNat A51 A70 := raw_hK_n72
            have g_n72 : A70 0 0 31 = 1 := wr_1 (hT_n72 0 0 31) (fun h9 => absurd ((g_n53 : A51 0 0 31 = 1).symm.trans (raw_hw_n72 h9).1) (by decide))
            refine m_blk 44 [(3, vi z73), (2, vi x49), (1, vi z5), (0, vr 0 0)] [vi z73, vi z5, vi 0, vi x49, vr 0 0] C f_q_expression_38_6 rfl ?_
            refine m_callV C Rm Y [vi x49, vi 0, vi z5, vi z73] [] (q_node l D B H0 ad _ hT_n72 p0 x49 0 z5 z73 (by show A70 0 0 0 = p0 ∧ 0 ≤ p0 ∧ p0 ≤ 5; omega) (fun h9 => absurd ((g_n72 : A70 0 0 31 = 1).symm.trans h9) (by decide)) (by show (-1 ≤ x49 ∧ x49 ≤ 255) ∧ (-1 ≤ 0 ∧ 0 ≤ 255) ∧ (-1 ≤ z5 ∧ z5 ≤ 119) ∧ (-1 ≤ z73 ∧ z73 ≤ 119); omega) hG_n72 (fun h9 => absurd ((g_n72 : A70 0 0 31 = 1).symm.trans h9) (by decide))) cl_Mo_218 rfl (by decide) rfl rfl e_q_expression_44 rfl rfl rfl ⟨by show _ ≤ (13 + 4 * d : Nat); omega, by show _ ≤ (490 + 200 * d : Nat); omega⟩ ?_
            rintro v74 A75 ⟨z78, rfl, hT_n77, hE_n77, raw_hz_n77, raw_hw_n77, raw_hi_n77, raw_hm_n77, raw_hG_n77, raw_hK_n77⟩
            have hF_n77 := hF_n72.trans (hE_n77.sub (nd_em _))
            show JM g D ad w0 A75 47 [(3, vi z73), (2, vi x49), (1, vi z5), (0, vr 0 0)] [vi z78]
            have hz_n77 : 0 ≤ z78 ∧ z78 ≤ 119 := raw_hz_n77
            clear raw_hz_n77
            have ee_n77 := (raw_hw_n77 g_n72).symm
            subst ee_n77
            show JM g D ad w0 A70 47 [(3, vi z73), (2, vi x49), (1, vi z5), (0, vr 0 0)] [vi z78]
            exact m_iret C Rm E e_q_expression_47 ⟨z78, rfl, hT_n72, hF_n72, (by show 0 ≤ z78 ∧ z78 ≤ 119; omega), (by show A70 0 0 24 ≤ A70 0 0 23 ∧ A70 0 0 23 ≤ A70 0 0 22; omega), pt_n72, (fun h9 => absurd ((g_n72 : A70 0 0 31 = 1).symm.trans h9) (by decide)), (by show A 0 0 24 ≤ A70 0 0 24 ∧ A 0 0 30 ≤ A70 0 0 30 ∧ A70 0 0 27 = A 0 0 27; omega), hG_n72, (nK.trans (A2 := A51) (nK.nm (A2 := A2) (nK.trans (A2 := A) nK.rfl' hK_n4 (by show A 0 0 30 ≤ A 0 0 30; omega)) hE_n53) hK_n72 (by show A 0 0 30 ≤ A51 0 0 30; omega))⟩
        · subst e_n46
          clear hz_n46
          refine m_if_ne (tgt := 25) C e_q_expression_20 (by decide) (by decide) (fun c79 => (by omega : False).elim) (fun c79 => ?_)
          refine m_blk 24 [(1, vi z5), (0, vr 0 0)] [vi z5] C f_q_expression_23_1 rfl ?_
          exact m_iret C Rm E e_q_expression_24 ⟨z5, rfl, hT_n4, hF_n4, (by show 0 ≤ z5 ∧ z5 ≤ 119; omega), (by show A2 0 0 24 ≤ A2 0 0 23 ∧ A2 0 0 23 ≤ A2 0 0 22; omega), pt_n4, (fun _ => ⟨g0, (by show z5 < A2 0 0 30; omega), (by show A 0 0 24 - A 0 0 30 ≤ A2 0 0 24 - A2 0 0 30; omega)⟩), (by show A 0 0 24 ≤ A2 0 0 24 ∧ A 0 0 30 ≤ A2 0 0 30 ∧ A2 0 0 27 = A 0 0 27; omega), hG_n4, (nK.trans (A2 := A) nK.rfl' hK_n4 (by show A 0 0 30 ≤ A 0 0 30; omega))⟩
    · refine m_blk 8 [(1, vi z5), (0, vr 0 0)] [vi 60, vr 0 0] C f_q_expression_4_3 rfl ?_
      refine m_callV C Rm Y [vi 60] [] (q_isSign l D B H0 ad _ hT_n4 60 (by show -2147483648 ≤ 60 ∧ 60 ≤ 2147483647; omega)) cl_Mo_173 rfl (by decide) rfl rfl e_q_expression_8 rfl rfl rfl ⟨by show _ ≤ (13 + 4 * d : Nat); omega, by show _ ≤ (490 + 200 * d : Nat); omega⟩ ?_
      rintro v80 A81 ⟨z84, rfl, rfl, raw_hz_n83⟩
      show JM g D ad w0 A2 11 [(1, vi z5), (0, vr 0 0)] [vi z84]
      have hz_n83 : z84 = 1 ∧ A2 0 0 31 = 0 ∧ A2 0 0 25 = 4 ∧ A2 0 0 26 = 60 ∨ z84 = 0 ∧ ¬ (A2 0 0 31 = 0 ∧ A2 0 0 25 = 4 ∧ A2 0 0 26 = 60) := raw_hz_n83
      clear raw_hz_n83
      rcases hz_n83 with ⟨e_n83, hz_n83⟩ | ⟨e_n83, hz_n83⟩
      · subst e_n83
        exact (by omega : False).elim
      · subst e_n83
        clear hz_n83
        refine m_if_ne (tgt := 25) C e_q_expression_11 (by decide) (by decide) (fun c85 => (by omega : False).elim) (fun c85 => ?_)
        refine m_blk 17 [(1, vi z5), (0, vr 0 0)] [vi 61, vr 0 0] C f_q_expression_14_2 rfl ?_
        refine m_callV C Rm Y [vi 61] [] (q_isSign l D B H0 ad _ hT_n4 61 (by show -2147483648 ≤ 61 ∧ 61 ≤ 2147483647; omega)) cl_Mo_173 rfl (by decide) rfl rfl e_q_expression_17 rfl rfl rfl ⟨by show _ ≤ (13 + 4 * d : Nat); omega, by show _ ≤ (490 + 200 * d : Nat); omega⟩ ?_
        rintro v86 A87 ⟨z90, rfl, rfl, raw_hz_n89⟩
        show JM g D ad w0 A2 20 [(1, vi z5), (0, vr 0 0)] [vi z90]
        have hz_n89 : z90 = 1 ∧ A2 0 0 31 = 0 ∧ A2 0 0 25 = 4 ∧ A2 0 0 26 = 61 ∨ z90 = 0 ∧ ¬ (A2 0 0 31 = 0 ∧ A2 0 0 25 = 4 ∧ A2 0 0 26 = 61) := raw_hz_n89
        clear raw_hz_n89
        rcases hz_n89 with ⟨e_n89, hz_n89⟩ | ⟨e_n89, hz_n89⟩
        · subst e_n89
          exact (by omega : False).elim
        · subst e_n89
          clear hz_n89
          refine m_if_ne (tgt := 25) C e_q_expression_20 (by decide) (by decide) (fun c91 => (by omega : False).elim) (fun c91 => ?_)
          refine m_blk 24 [(1, vi z5), (0, vr 0 0)] [vi z5] C f_q_expression_23_1 rfl ?_
          exact m_iret C Rm E e_q_expression_24 ⟨z5, rfl, hT_n4, hF_n4, (by show 0 ≤ z5 ∧ z5 ≤ 119; omega), (by show A2 0 0 24 ≤ A2 0 0 23 ∧ A2 0 0 23 ≤ A2 0 0 22; omega), pt_n4, (fun h9 => absurd ((g_n4 : A2 0 0 31 = 1).symm.trans h9) (by decide)), (by show A 0 0 24 ≤ A2 0 0 24 ∧ A 0 0 30 ≤ A2 0 0 30 ∧ A2 0 0 27 = A 0 0 27; omega), hG_n4, (nK.trans (A2 := A) nK.rfl' hK_n4 (by show A 0 0 30 ≤ A 0 0 30; omega))⟩
  · refine m_blk 1 [(0, vr 0 0)] [vr 0 0] C f_q_expression_0_1 rfl ?_
    refine m_callV C Rm Y [] [] (hq9 l D B H0 ad _ hS hT p0 (by show A 0 0 0 = p0 ∧ 0 ≤ p0 ∧ p0 ≤ 5; omega) (by show A 0 0 24 ≤ A 0 0 23 ∧ A 0 0 23 ≤ A 0 0 22; omega) hn (fun h9 => absurd ((g0 : A 0 0 31 = 1).symm.trans h9) (by decide)) hG (by show A 0 0 27 = 4 - (d : Int) ∧ (d : Int) ≤ 4; omega)) cl_Mo_215 rfl (by decide) rfl rfl e_q_expression_1 rfl rfl rfl ⟨by show _ ≤ (13 + 4 * d : Nat); omega, by show _ ≤ (490 + 200 * d : Nat); omega⟩ ?_
    rintro v92 A93 ⟨z96, rfl, hT_n95, hE_n95, raw_hz_n95, raw_hb_n95, raw_hn_n95, raw_hw_n95, raw_hm_n95, raw_hG_n95, raw_hK_n95⟩
    have hF_n95 := hE0.trans (hE_n95.sub (fun _ _ _ h => h))
    show JM g D ad w0 A93 4 [(0, vr 0 0)] [vi z96]
    have hz_n95 : 0 ≤ z96 ∧ z96 ≤ 119 := raw_hz_n95
    clear raw_hz_n95
    have hb_n95 : A93 0 0 24 ≤ A93 0 0 23 ∧ A93 0 0 23 ≤ A93 0 0 22 := raw_hb_n95
    clear raw_hb_n95
    have hm_n95 : A 0 0 24 ≤ A93 0 0 24 ∧ A 0 0 30 ≤ A93 0 0 30 ∧ A93 0 0 27 = A 0 0 27 := raw_hm_n95
    clear raw_hm_n95
    have pt_n95 : pT A93 := raw_hn_n95
    have k0_n95 : A93 0 0 0 = A 0 0 0 := hE_n95 0 0 0 rfl
    have k22_n95 : A93 0 0 22 = A 0 0 22 := hE_n95 0 0 22 rfl
    have k28_n95 : A93 0 0 28 = A 0 0 28 := hE_n95 0 0 28 rfl
    have k29_n95 : A93 0 0 29 = A 0 0 29 := hE_n95 0 0 29 rfl
    have hG_n95 : nG p0.toNat A93 := raw_hG_n95
    have hK_n95 : nK p0.toNat A A93 := raw_hK_n95
    have g_n95 : A93 0 0 31 = 1 := wr_1 (hT_n95 0 0 31) (fun h9 => absurd ((g0 : A 0 0 31 = 1).symm.trans (raw_hw_n95 h9).1) (by decide))
    refine m_blk 8 [(1, vi z96), (0, vr 0 0)] [vi 60, vr 0 0] C f_q_expression_4_3 rfl ?_
    refine m_callV C Rm Y [vi 60] [] (q_isSign l D B H0 ad _ hT_n95 60 (by show -2147483648 ≤ 60 ∧ 60 ≤ 2147483647; omega)) cl_Mo_173 rfl (by decide) rfl rfl e_q_expression_8 rfl rfl rfl ⟨by show _ ≤ (13 + 4 * d : Nat); omega, by show _ ≤ (490 + 200 * d : Nat); omega⟩ ?_
    rintro v97 A98 ⟨z101, rfl, rfl, raw_hz_n100⟩
    show JM g D ad w0 A93 11 [(1, vi z96), (0, vr 0 0)] [vi z101]
    have hz_n100 : z101 = 1 ∧ A93 0 0 31 = 0 ∧ A93 0 0 25 = 4 ∧ A93 0 0 26 = 60 ∨ z101 = 0 ∧ ¬ (A93 0 0 31 = 0 ∧ A93 0 0 25 = 4 ∧ A93 0 0 26 = 60) := raw_hz_n100
    clear raw_hz_n100
    rcases hz_n100 with ⟨e_n100, hz_n100⟩ | ⟨e_n100, hz_n100⟩
    · subst e_n100
      exact (by omega : False).elim
    · subst e_n100
      clear hz_n100
      refine m_if_ne (tgt := 25) C e_q_expression_11 (by decide) (by decide) (fun c102 => (by omega : False).elim) (fun c102 => ?_)
      refine m_blk 17 [(1, vi z96), (0, vr 0 0)] [vi 61, vr 0 0] C f_q_expression_14_2 rfl ?_
      refine m_callV C Rm Y [vi 61] [] (q_isSign l D B H0 ad _ hT_n95 61 (by show -2147483648 ≤ 61 ∧ 61 ≤ 2147483647; omega)) cl_Mo_173 rfl (by decide) rfl rfl e_q_expression_17 rfl rfl rfl ⟨by show _ ≤ (13 + 4 * d : Nat); omega, by show _ ≤ (490 + 200 * d : Nat); omega⟩ ?_
      rintro v103 A104 ⟨z107, rfl, rfl, raw_hz_n106⟩
      show JM g D ad w0 A93 20 [(1, vi z96), (0, vr 0 0)] [vi z107]
      have hz_n106 : z107 = 1 ∧ A93 0 0 31 = 0 ∧ A93 0 0 25 = 4 ∧ A93 0 0 26 = 61 ∨ z107 = 0 ∧ ¬ (A93 0 0 31 = 0 ∧ A93 0 0 25 = 4 ∧ A93 0 0 26 = 61) := raw_hz_n106
      clear raw_hz_n106
      rcases hz_n106 with ⟨e_n106, hz_n106⟩ | ⟨e_n106, hz_n106⟩
      · subst e_n106
        exact (by omega : False).elim
      · subst e_n106
        clear hz_n106
        refine m_if_ne (tgt := 25) C e_q_expression_20 (by decide) (by decide) (fun c108 => (by omega : False).elim) (fun c108 => ?_)
        refine m_blk 24 [(1, vi z96), (0, vr 0 0)] [vi z96] C f_q_expression_23_1 rfl ?_
        exact m_iret C Rm E e_q_expression_24 ⟨z96, rfl, hT_n95, hF_n95, (by show 0 ≤ z96 ∧ z96 ≤ 119; omega), (by show A93 0 0 24 ≤ A93 0 0 23 ∧ A93 0 0 23 ≤ A93 0 0 22; omega), pt_n95, (fun h9 => absurd ((g_n95 : A93 0 0 31 = 1).symm.trans h9) (by decide)), (by show A 0 0 24 ≤ A93 0 0 24 ∧ A 0 0 30 ≤ A93 0 0 30 ∧ A93 0 0 27 = A 0 0 27; omega), hG_n95, (nK.trans (A2 := A) nK.rfl' hK_n95 (by show A 0 0 30 ≤ A 0 0 30; omega))⟩

theorem q_E : ∀ d : Nat, S_one d ∧ S_expression d := fun d => by
  induction d with
  | zero =>
    have h1 : S_one 0 := q_one 0 (fun d1 h => absurd h (by omega))
    exact ⟨h1, q_expression 0 (q_sum 0 (q_term 0 h1))⟩
  | succ d ih =>
    have h1 : S_one (d + 1) := q_one (d + 1) (fun d1 h => by
      have : d1 = d := by omega
      rw [this]
      exact ih)
    exact ⟨h1, q_expression (d + 1) (q_sum (d + 1) (q_term (d + 1) h1))⟩
