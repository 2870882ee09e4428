/-! the reference: loops over blocks (own work, by program) -/
def S_loop (n : Nat) : Prop := ∀ (l : Launch) (D : va_G) (B : Nat) (H0 : Heap) (ad : mAd) (A : mA) (hT : mTy A) (u : Int) (T : Int) (N : Int) (M : Int) (Ln : Int) (dep : Nat → Int) (p : Int) (i : Int) (ki : Nat) (w : Int) (hp : 0 ≤ p ∧ p ≤ 5) (hK : pK A p.toNat N M Ln dep) (ha : aOk A p) (hi : 0 ≤ i ∧ i < N ∧ 20 * p + 16 - i ≤ (n : Int)) (hu : A 0 0 33 = u ∧ 0 ≤ u ∧ u + (19 * p + 22 - 4 * dep i.toNat) ≤ 200) (hk : (ki : Int) < u) (hO : oG A ki T) (hT9 : 0 ≤ T ∧ T ≤ 1125899906842624) (hw : -2147483648 ≤ w ∧ w ≤ 2147483647) (hS : mS A) (hkd : A 34 p.toNat i.toNat = 4) , mMet l D B H0 ad y_Mo_loop b_Mo_loop 11 (some (.object "ChanceStepsModel$Odds")) (201 + 6 * n) (5530 + 150 * n) [vr 0 0, vi p, vi i, vr 1 ki, vi w] A (fun v9 A9 => ∃ z : Nat, v9 = some (vr 1 z) ∧ mTy A9 ∧ mEq (rm u.toNat) A A9 ∧ (u ≤ (z : Int) ∧ (z : Int) < A9 0 0 33) ∧ (u + 1 ≤ A9 0 0 33 ∧ A9 0 0 33 ≤ u + 1 + 4 * (5 - dep i.toNat)) ∧ (oG A9 z T) ∧ (mS A9))
theorem f_q_loop_0_1 : mblkB b_Mo_loop [(0, .aload_n 0, vi 0)] = true := by decide +kernel
theorem e_q_loop_1 : decode b_Mo_loop 1 = .ok (.invokevirtual 275, 3) := by decide +kernel
theorem f_q_loop_4_3 : mblkB b_Mo_loop [(4, .astore 5, vi 0), (6, .aload 5, vi 0), (8, .aload_n 3, vi 0)] = true := by decide +kernel
theorem e_q_loop_9 : decode b_Mo_loop 9 = .ok (.invokevirtual 293, 3) := by decide +kernel
theorem f_q_loop_12_1 : mblkB b_Mo_loop [(12, .aload_n 0, vi 0)] = true := by decide +kernel
theorem e_q_loop_13 : decode b_Mo_loop 13 = .ok (.getfield 269, 3) := by decide +kernel
theorem f_q_loop_16_2 : mblkB b_Mo_loop [(16, .istore 6, vi 0), (18, .aload_n 0, vi 0)] = true := by decide +kernel
theorem e_q_loop_19 : decode b_Mo_loop 19 = .ok (.getfield 27, 3) := by decide +kernel
theorem f_q_loop_22_1 : mblkB b_Mo_loop [(22, .iload_n 1, vi 0)] = true := by decide +kernel
theorem e_q_loop_23 : decode b_Mo_loop 23 = .ok (.aaload, 1) := by decide +kernel
theorem f_q_loop_24_1 : mblkB b_Mo_loop [(24, .iload_n 2, vi 0)] = true := by decide +kernel
theorem e_q_loop_25 : decode b_Mo_loop 25 = .ok (.iaload, 1) := by decide +kernel
theorem f_q_loop_26_3 : mblkB b_Mo_loop [(26, .istore 7, vi 0), (28, .iconst 0, vi 0), (29, .istore 8, vi 0)] = true := by decide +kernel
theorem f_q_loop_31_2 : mblkB b_Mo_loop [(31, .iload 8, vi 0), (33, .iload 7, vi 0)] = true := by decide +kernel
theorem e_q_loop_35 : decode b_Mo_loop 35 = .ok (.if_icmp .ge 96, 3) := by decide +kernel
theorem f_q_loop_131_1 : mblkB b_Mo_loop [(131, .aload 5, vi 0)] = true := by decide +kernel
theorem e_q_loop_133 : decode b_Mo_loop 133 = .ok (.areturn, 1) := by decide +kernel
theorem f_q_loop_38_1 : mblkB b_Mo_loop [(38, .aload_n 0, vi 0)] = true := by decide +kernel
theorem e_q_loop_39 : decode b_Mo_loop 39 = .ok (.getfield 297, 3) := by decide +kernel
theorem e_q_loop_42 : decode b_Mo_loop 42 = .ok (.ifCond .ne 89, 3) := by decide +kernel
theorem f_q_loop_45_6 : mblkB b_Mo_loop [(45, .iload 4, vi 0), (47, .istore 9, vi 0), (49, .iload 8, vi 0), (51, .iconst 1, vi 1), (52, .iadd, vi 0), (53, .istore 10, vi 0)] = true := by decide +kernel
theorem f_q_loop_55_2 : mblkB b_Mo_loop [(55, .iload 10, vi 0), (57, .iload 7, vi 0)] = true := by decide +kernel
theorem e_q_loop_59 : decode b_Mo_loop 59 = .ok (.if_icmp .ge 35, 3) := by decide +kernel
theorem f_q_loop_94_7 : mblkB b_Mo_loop [(94, .aload 5, vi 0), (96, .aload_n 0, vi 0), (97, .iload_n 1, vi 0), (98, .iload_n 2, vi 0), (99, .iconst 1, vi 1), (100, .iadd, vi 0), (101, .aload_n 0, vi 0)] = true := by decide +kernel
theorem e_q_loop_102 : decode b_Mo_loop 102 = .ok (.getfield 30, 3) := by decide +kernel
theorem f_q_loop_105_1 : mblkB b_Mo_loop [(105, .iload_n 1, vi 0)] = true := by decide +kernel
theorem e_q_loop_106 : decode b_Mo_loop 106 = .ok (.aaload, 1) := by decide +kernel
theorem f_q_loop_107_1 : mblkB b_Mo_loop [(107, .iload_n 2, vi 0)] = true := by decide +kernel
theorem e_q_loop_108 : decode b_Mo_loop 108 = .ok (.iaload, 1) := by decide +kernel
theorem f_q_loop_109_2 : mblkB b_Mo_loop [(109, .aload 5, vi 0), (111, .iload 9, vi 0)] = true := by decide +kernel
theorem e_q_loop_113 : decode b_Mo_loop 113 = .ok (.invokevirtual 336, 3) := by decide +kernel
theorem e_q_loop_116 : decode b_Mo_loop 116 = .ok (.invokevirtual 293, 3) := by decide +kernel
theorem f_q_loop_119_2 : mblkB b_Mo_loop [(119, .aload_n 0, vi 0), (120, .iload 6, vi 0)] = true := by decide +kernel
theorem e_q_loop_122 : decode b_Mo_loop 122 = .ok (.putfield 269, 3) := by decide +kernel
theorem f_q_loop_125_2 : mblkB b_Mo_loop [(125, .iinc 8 1, vi 1), (128, .goto (-97), vi 31)] = true := by decide +kernel
theorem f_q_loop_62_2 : mblkB b_Mo_loop [(62, .iload 4, vi 0), (64, .iconst (-1), vi (-1))] = true := by decide +kernel
theorem e_q_loop_65 : decode b_Mo_loop 65 = .ok (.if_icmp .eq 29, 3) := by decide +kernel
theorem f_q_loop_68_6 : mblkB b_Mo_loop [(68, .aload_n 0, vi 0), (69, .iload_n 1, vi 0), (70, .iload_n 2, vi 0), (71, .iconst 1, vi 1), (72, .iadd, vi 0), (73, .aload_n 0, vi 0)] = true := by decide +kernel
theorem e_q_loop_74 : decode b_Mo_loop 74 = .ok (.getfield 30, 3) := by decide +kernel
theorem f_q_loop_77_1 : mblkB b_Mo_loop [(77, .iload_n 1, vi 0)] = true := by decide +kernel
theorem e_q_loop_78 : decode b_Mo_loop 78 = .ok (.aaload, 1) := by decide +kernel
theorem f_q_loop_79_1 : mblkB b_Mo_loop [(79, .iload_n 2, vi 0)] = true := by decide +kernel
theorem e_q_loop_80 : decode b_Mo_loop 80 = .ok (.iaload, 1) := by decide +kernel
theorem f_q_loop_81_1 : mblkB b_Mo_loop [(81, .iload 9, vi 0)] = true := by decide +kernel
theorem e_q_loop_83 : decode b_Mo_loop 83 = .ok (.invokevirtual 300, 3) := by decide +kernel
theorem f_q_loop_86_3 : mblkB b_Mo_loop [(86, .istore 9, vi 0), (88, .iinc 10 1, vi 1), (91, .goto (-36), vi 55)] = true := by decide +kernel
set_option maxHeartbeats 40000000 in
set_option maxRecDepth 100000 in
theorem q_loop (n : Nat) (hq9 : S_make n) : S_loop n := by
  intro l D B H0 ad A hT u T N M Ln dep p i ki w hp hK ha hi hu hk hO hT9 hw hS hkd
  refine m_met (by decide) rfl (fun g w0 C Rm Y E => ?_)
  have hE0 : mEq (rm u.toNat) A A := mEq.rfl'
  show JM g D ad w0 A 0 [(0, vr 0 0), (1, vi p), (2, vi i), (3, vr 1 ki), (4, vi w)] []
  have hr9 := hK.rng
  have hs9 := hK.at (i := i) (by omega) (by omega)
  have he9 := hs9.en
  have hp9 := hs9.dp
  refine m_blk 1 [(0, vr 0 0), (1, vi p), (2, vi i), (3, vr 1 ki), (4, vi w)] [vr 0 0] C f_q_loop_0_1 rfl ?_
  refine m_callV C Rm Y [] [] (q_taken l D B H0 ad _ hT u (by show A 0 0 33 = u ∧ 0 ≤ u ∧ u ≤ 199; omega)) cl_Mo_275 rfl (by decide) rfl rfl e_q_loop_1 rfl rfl rfl ⟨by show _ ≤ (201 + 6 * n : Nat); omega, by show _ ≤ (5530 + 150 * n : Nat); omega⟩ ?_
  rintro v1 A2 ⟨z5, rfl, hT_n4, hE_n4, raw_hz_n4, raw_hu_n4, raw_hm_n4⟩
  have hF_n4 := hE0.trans (hE_n4.sub (tk_rm (by omega)))
  have hz_n4 : (z5 : Int) = u := raw_hz_n4
  clear raw_hz_n4
  have hu_n4 : A2 0 0 33 = u + 1 := raw_hu_n4
  clear raw_hu_n4
  have hm_n4 : A2 1 z5 2 = 0 := raw_hm_n4
  clear raw_hm_n4
  show JM g D ad w0 A2 4 [(0, vr 0 0), (1, vi p), (2, vi i), (3, vr 1 ki), (4, vi w)] [vr 1 z5]
  have ms_n4 : mS A2 := hS.tkk hE_n4
  have lv6 : oG A2 ki T := hO.tkk hE_n4 (by omega)
  have ku_n4 : A2 0 0 33 = u + 1 := hu_n4
  refine m_blk 9 [(5, vr 1 z5), (0, vr 0 0), (1, vi p), (2, vi i), (3, vr 1 ki), (4, vi w)] [vr 1 ki, vr 1 z5] C f_q_loop_4_3 rfl ?_
  refine m_callV C Rm Y [vr 1 ki] [] (q_becomes l D B H0 ad _ hT_n4 z5 T ki (by show z5 < 200 ∧ ki < 200; omega) lv6) cl_Mo_293 rfl (by omega) rfl rfl e_q_loop_9 rfl rfl rfl ⟨by show _ ≤ (201 + 6 * n : Nat); omega, by show _ ≤ (5530 + 150 * n : Nat); omega⟩ ?_
  rintro v7 A8 ⟨rfl, hT_n10, hE_n10, raw_hO_n10⟩
  have hF_n10 := hF_n4.trans (hE_n10.sub (cm_rm (by omega)))
  have hO_n10 : oG A8 z5 T := raw_hO_n10
  clear raw_hO_n10
  show JM g D ad w0 A8 12 [(5, vr 1 z5), (0, vr 0 0), (1, vi p), (2, vi i), (3, vr 1 ki), (4, vi w)] []
  have ms_n10 : mS A8 := ms_n4.cmk hE_n10
  have ku_n10 : A8 0 0 33 = u + 1 := (hE_n10 0 0 33 rfl).trans ku_n4
  refine m_blk 13 [(5, vr 1 z5), (0, vr 0 0), (1, vi p), (2, vi i), (3, vr 1 ki), (4, vi w)] [vr 0 0] C f_q_loop_12_1 rfl ?_
  refine m_geti C e_q_loop_13 fg_Mo_269 rfl (by decide) rfl (u + 1) ku_n10 ?_
  refine m_blk 19 [(6, vi (u + 1)), (5, vr 1 z5), (0, vr 0 0), (1, vi p), (2, vi i), (3, vr 1 ki), (4, vi w)] [vr 0 0] C f_q_loop_16_2 rfl ?_
  refine m_getr C e_q_loop_19 fg_Mo_27 rfl (by decide) rfl ?_
  refine m_blk 23 [(6, vi (u + 1)), (5, vr 1 z5), (0, vr 0 0), (1, vi p), (2, vi i), (3, vr 1 ki), (4, vi w)] [vi p, vr 16 0] C f_q_loop_22_1 rfl ?_
  refine m_aald C p.toNat e_q_loop_23 rfl rfl rfl (by decide) (by decide) (by omega) (by show p < ((6 : Nat) : Int); omega) (mz _ _) ?_
  refine m_blk 25 [(6, vi (u + 1)), (5, vr 1 z5), (0, vr 0 0), (1, vi p), (2, vi i), (3, vr 1 ki), (4, vi w)] [vi i, vr 36 p.toNat] C f_q_loop_24_1 rfl ?_
  obtain ⟨x11, hx11⟩ : ∃ x, A8 36 p.toNat i.toNat = x := ⟨_, rfl⟩
  have rx11 : (-1) ≤ x11 ∧ x11 ≤ 9 := mrg hT_n10 hx11 rfl
  refine m_iald C e_q_loop_25 rfl (by omega) (by decide) (by omega) (by show i < ((16 : Nat) : Int); omega) x11 hx11 ?_
  refine m_blk 31 [(8, vi 0), (7, vi x11), (6, vi (u + 1)), (5, vr 1 z5), (0, vr 0 0), (1, vi p), (2, vi i), (3, vr 1 ki), (4, vi w)] [] C f_q_loop_26_3 rfl ?_
  have hd_31 : ∀ (NZ : Nat) (A2 : mA) (t : Int), mTy A2 → mEq (rm u.toNat) A A2 → oG A2 z5 T → 0 ≤ t ∧ t ≤ 10 → A2 0 0 33 = u + 1 → mS A2 → (40 - t) < (NZ : Int) → JM g D ad w0 A2 31 [(8, vi t), (7, vi x11), (6, vi (u + 1)), (5, vr 1 z5), (0, vr 0 0), (1, vi p), (2, vi i), (4, vi w)] [] := by
    intro NZ
    induction NZ with
    | zero => intro A2 t hT2 hE2 hO2 ht2 hu2 hS2 hm31; exact absurd hm31 (by omega)
    | succ NZ ih31 =>
      intro A2 t hT2 hE2 hO2 ht2 hu2 hS2 hm31
      have e37 : A2 37 p.toNat i.toNat = A 37 p.toNat i.toNat := hE2 37 p.toNat i.toNat (rm_far (by decide) (by decide) _)
      refine m_blk 35 [(8, vi t), (7, vi x11), (6, vi (u + 1)), (5, vr 1 z5), (0, vr 0 0), (1, vi p), (2, vi i), (4, vi w)] [vi x11, vi t] C f_q_loop_31_2 rfl ?_
      refine m_icmp_ge (tgt := 131) C e_q_loop_35 (by decide) (by omega) (by omega) (fun c12 => ?_) (fun c12 => ?_)
      · refine m_blk 133 [(8, vi t), (7, vi x11), (6, vi (u + 1)), (5, vr 1 z5), (0, vr 0 0), (1, vi p), (2, vi i), (4, vi w)] [vr 1 z5] C f_q_loop_131_1 rfl ?_
        exact m_aret C Rm E e_q_loop_133 ⟨z5, rfl, hT2, hE2, (by show u ≤ (z5 : Int) ∧ (z5 : Int) < A2 0 0 33; omega), (by show u + 1 ≤ A2 0 0 33 ∧ A2 0 0 33 ≤ u + 1 + 4 * (5 - dep i.toNat); omega), hO2, hS2⟩
      · refine m_blk 39 [(8, vi t), (7, vi x11), (6, vi (u + 1)), (5, vr 1 z5), (0, vr 0 0), (1, vi p), (2, vi i), (4, vi w)] [vr 0 0] C f_q_loop_38_1 rfl ?_
        obtain ⟨x13, hx13⟩ : ∃ x, A2 0 0 34 = x := ⟨_, rfl⟩
        have rx13 : 0 ≤ x13 ∧ x13 ≤ 1 := mrg hT2 hx13 rfl
        refine m_geti C e_q_loop_39 fg_Mo_297 rfl (by decide) rfl x13 hx13 ?_
        refine m_if_ne (tgt := 131) C e_q_loop_42 (by decide) (by omega) (fun c14 => ?_) (fun c14 => ?_)
        · refine m_blk 133 [(8, vi t), (7, vi x11), (6, vi (u + 1)), (5, vr 1 z5), (0, vr 0 0), (1, vi p), (2, vi i), (4, vi w)] [vr 1 z5] C f_q_loop_131_1 rfl ?_
          exact m_aret C Rm E e_q_loop_133 ⟨z5, rfl, hT2, hE2, (by show u ≤ (z5 : Int) ∧ (z5 : Int) < A2 0 0 33; omega), (by show u + 1 ≤ A2 0 0 33 ∧ A2 0 0 33 ≤ u + 1 + 4 * (5 - dep i.toNat); omega), hO2, hS2⟩
        · refine m_blk 55 [(10, vi (t + 1)), (9, vi w), (8, vi t), (7, vi x11), (6, vi (u + 1)), (5, vr 1 z5), (0, vr 0 0), (1, vi p), (2, vi i), (4, vi w)] [] C f_q_loop_45_6 rfl ?_
          have hd_55 : ∀ (NZ : Nat) (k : Int) (w2 : Int), 0 ≤ k ∧ k ≤ 20 → -2147483648 ≤ w2 ∧ w2 ≤ 2147483647 → (40 - k) < (NZ : Int) → JM g D ad w0 A2 55 [(10, vi k), (9, vi w2), (8, vi t), (7, vi x11), (6, vi (u + 1)), (5, vr 1 z5), (0, vr 0 0), (1, vi p), (2, vi i), (4, vi w)] [] := by
            intro NZ
            induction NZ with
            | zero => intro k w2 hk2 hw2 hm55; exact absurd hm55 (by omega)
            | succ NZ ih55 =>
              intro k w2 hk2 hw2 hm55
              refine m_blk 59 [(10, vi k), (9, vi w2), (8, vi t), (7, vi x11), (6, vi (u + 1)), (5, vr 1 z5), (0, vr 0 0), (1, vi p), (2, vi i), (4, vi w)] [vi x11, vi k] C f_q_loop_55_2 rfl ?_
              refine m_icmp_ge (tgt := 94) C e_q_loop_59 (by decide) (by omega) (by omega) (fun c15 => ?_) (fun c15 => ?_)
              · refine m_blk 102 [(10, vi k), (9, vi w2), (8, vi t), (7, vi x11), (6, vi (u + 1)), (5, vr 1 z5), (0, vr 0 0), (1, vi p), (2, vi i), (4, vi w)] [vr 0 0, vi (i + 1), vi p, vr 0 0, vr 1 z5] C f_q_loop_94_7 rfl ?_
                refine m_getr C e_q_loop_102 fg_Mo_30 rfl (by decide) rfl ?_
                refine m_blk 106 [(10, vi k), (9, vi w2), (8, vi t), (7, vi x11), (6, vi (u + 1)), (5, vr 1 z5), (0, vr 0 0), (1, vi p), (2, vi i), (4, vi w)] [vi p, vr 17 0, vi (i + 1), vi p, vr 0 0, vr 1 z5] C f_q_loop_105_1 rfl ?_
                refine m_aald C p.toNat e_q_loop_106 rfl rfl rfl (by decide) (by decide) (by omega) (by show p < ((6 : Nat) : Int); omega) (mz _ _) ?_
                refine m_blk 108 [(10, vi k), (9, vi w2), (8, vi t), (7, vi x11), (6, vi (u + 1)), (5, vr 1 z5), (0, vr 0 0), (1, vi p), (2, vi i), (4, vi w)] [vi i, vr 37 p.toNat, vi (i + 1), vi p, vr 0 0, vr 1 z5] C f_q_loop_107_1 rfl ?_
                obtain ⟨x16, hx16⟩ : ∃ x, A2 37 p.toNat i.toNat = x := ⟨_, rfl⟩
                have rx16 : 0 ≤ x16 ∧ x16 ≤ 16 := mrg hT2 hx16 rfl
                refine m_iald C e_q_loop_108 rfl (by omega) (by decide) (by omega) (by show i < ((16 : Nat) : Int); omega) x16 hx16 ?_
                refine m_blk 113 [(10, vi k), (9, vi w2), (8, vi t), (7, vi x11), (6, vi (u + 1)), (5, vr 1 z5), (0, vr 0 0), (1, vi p), (2, vi i), (4, vi w)] [vi w2, vr 1 z5, vi x16, vi (i + 1), vi p, vr 0 0, vr 1 z5] C f_q_loop_109_2 rfl ?_
                refine m_callV C Rm Y [vi p, vi (i + 1), vi x16, vr 1 z5, vi w2] [vr 1 z5] (hq9 l D B H0 ad _ hT2 (u + 1) T N M Ln dep (dep i.toNat + 1) p (i + 1) x16 z5 w2 (by show 0 ≤ p ∧ p ≤ 5; omega) (hK.rmk hE2) (ha.rmk hE2) (by show 0 ≤ (i + 1) ∧ (i + 1) ≤ 16 ∧ 0 ≤ x16 ∧ x16 ≤ N ∧ 20 * p + 17 - (i + 1) ≤ (n : Int); omega) (hs9.dQ (Or.inr hkd) (by omega) (by omega)) (by show A2 0 0 33 = (u + 1) ∧ 0 ≤ (u + 1) ∧ (u + 1) + (19 * p + 23 - 4 * (dep i.toNat + 1)) ≤ 200 ∧ 0 ≤ (dep i.toNat + 1) ∧ (dep i.toNat + 1) ≤ 5; omega) (by show (z5 : Int) < (u + 1); omega) hO2 (by show 0 ≤ T ∧ T ≤ 1125899906842624; omega) (by show -2147483648 ≤ w2 ∧ w2 ≤ 2147483647; omega) hS2) cl_Mo_336 rfl (by decide) rfl rfl e_q_loop_113 rfl rfl rfl ⟨by show _ ≤ (201 + 6 * n : Nat); omega, by show _ ≤ (5530 + 150 * n : Nat); omega⟩ ?_
                rintro v17 A18 ⟨z21, rfl, hT_n20, hE_n20, raw_hz_n20, raw_hu_n20, raw_hx_n20, raw_hO_n20, raw_hS_n20⟩
                have hF_n20 := hE2.trans (hE_n20.sub (rm_rm (by omega)))
                have hz_n20 : (z21 : Int) = (u + 1) := raw_hz_n20
                clear raw_hz_n20
                have hu_n20 : (u + 1) + 1 ≤ A18 0 0 33 ∧ A18 0 0 33 ≤ (u + 1) + 2 + 4 * (5 - (dep i.toNat + 1)) := raw_hu_n20
                clear raw_hu_n20
                have hx_n20 : xQ A18 ((u + 1) + 1) := raw_hx_n20
                clear raw_hx_n20
                have hO_n20 : oG A18 z21 T := raw_hO_n20
                clear raw_hO_n20
                have hS_n20 : mS A18 := raw_hS_n20
                clear raw_hS_n20
                show JM g D ad w0 A18 116 [(10, vi k), (9, vi w2), (8, vi t), (7, vi x11), (6, vi (u + 1)), (5, vr 1 z5), (0, vr 0 0), (1, vi p), (2, vi i), (4, vi w)] [vr 1 z21, vr 1 z5]
                refine m_callV C Rm Y [vr 1 z21] [] (q_becomes l D B H0 ad _ hT_n20 z5 T z21 (by show z5 < 200 ∧ z21 < 200; omega) hO_n20) cl_Mo_293 rfl (by omega) rfl rfl e_q_loop_116 rfl rfl rfl ⟨by show _ ≤ (201 + 6 * n : Nat); omega, by show _ ≤ (5530 + 150 * n : Nat); omega⟩ ?_
                rintro v22 A23 ⟨rfl, hT_n25, hE_n25, raw_hO_n25⟩
                have hF_n25 := hF_n20.trans (hE_n25.sub (cm_rm (by omega)))
                have hO_n25 : oG A23 z5 T := raw_hO_n25
                clear raw_hO_n25
                show JM g D ad w0 A23 119 [(10, vi k), (9, vi w2), (8, vi t), (7, vi x11), (6, vi (u + 1)), (5, vr 1 z5), (0, vr 0 0), (1, vi p), (2, vi i), (4, vi w)] []
                have ms_n25 : mS A23 := hS_n20.cmk hE_n25
                refine m_blk 122 [(10, vi k), (9, vi w2), (8, vi t), (7, vi x11), (6, vi (u + 1)), (5, vr 1 z5), (0, vr 0 0), (1, vi p), (2, vi i), (4, vi w)] [vi (u + 1), vr 0 0] C f_q_loop_119_2 rfl ?_
                refine m_puti C e_q_loop_122 fp_Mo_269 rfl (by decide) rfl ?_
                have t26 : mTy (mu A23 0 0 33 (u + 1)) := hT_n25.mu (by show 0 ≤ (u + 1) ∧ (u + 1) ≤ 200; omega)
                have q27 := hF_n25.mu (f := 0) (k := 0) (j := 33) (z := (u + 1)) (by simp [rm])
                refine m_blk 31 [(8, vi (t + 1)), (10, vi k), (9, vi w2), (7, vi x11), (6, vi (u + 1)), (5, vr 1 z5), (0, vr 0 0), (1, vi p), (2, vi i), (4, vi w)] [] C f_q_loop_125_2 rfl ?_
                refine m_loc [(8, vi (t + 1)), (7, vi x11), (6, vi (u + 1)), (5, vr 1 z5), (0, vr 0 0), (1, vi p), (2, vi i), (4, vi w)] ⟨rfl, rfl, rfl, rfl, rfl, rfl, rfl, rfl, trivial⟩ ?_
                exact ih31 (mu A23 0 0 33 (u + 1)) (t + 1) t26 q27 (hO_n25.muf (by decide) (by decide)) (by show 0 ≤ (t + 1) ∧ (t + 1) ≤ 10; omega) (by show (u + 1) = u + 1; omega) (ms_n25.muf (by decide)) (by show (40 - (t + 1)) < _; omega)
              · refine m_blk 65 [(10, vi k), (9, vi w2), (8, vi t), (7, vi x11), (6, vi (u + 1)), (5, vr 1 z5), (0, vr 0 0), (1, vi p), (2, vi i), (4, vi w)] [vi (-1), vi w] C f_q_loop_62_2 rfl ?_
                refine m_icmp_eq (tgt := 94) C e_q_loop_65 (by decide) (by omega) (by decide) (fun c28 => ?_) (fun c28 => ?_)
                · refine m_blk 102 [(10, vi k), (9, vi w2), (8, vi t), (7, vi x11), (6, vi (u + 1)), (5, vr 1 z5), (0, vr 0 0), (1, vi p), (2, vi i), (4, vi w)] [vr 0 0, vi (i + 1), vi p, vr 0 0, vr 1 z5] C f_q_loop_94_7 rfl ?_
                  refine m_getr C e_q_loop_102 fg_Mo_30 rfl (by decide) rfl ?_
                  refine m_blk 106 [(10, vi k), (9, vi w2), (8, vi t), (7, vi x11), (6, vi (u + 1)), (5, vr 1 z5), (0, vr 0 0), (1, vi p), (2, vi i), (4, vi w)] [vi p, vr 17 0, vi (i + 1), vi p, vr 0 0, vr 1 z5] C f_q_loop_105_1 rfl ?_
                  refine m_aald C p.toNat e_q_loop_106 rfl rfl rfl (by decide) (by decide) (by omega) (by show p < ((6 : Nat) : Int); omega) (mz _ _) ?_
                  refine m_blk 108 [(10, vi k), (9, vi w2), (8, vi t), (7, vi x11), (6, vi (u + 1)), (5, vr 1 z5), (0, vr 0 0), (1, vi p), (2, vi i), (4, vi w)] [vi i, vr 37 p.toNat, vi (i + 1), vi p, vr 0 0, vr 1 z5] C f_q_loop_107_1 rfl ?_
                  obtain ⟨x29, hx29⟩ : ∃ x, A2 37 p.toNat i.toNat = x := ⟨_, rfl⟩
                  have rx29 : 0 ≤ x29 ∧ x29 ≤ 16 := mrg hT2 hx29 rfl
                  refine m_iald C e_q_loop_108 rfl (by omega) (by decide) (by omega) (by show i < ((16 : Nat) : Int); omega) x29 hx29 ?_
                  refine m_blk 113 [(10, vi k), (9, vi w2), (8, vi t), (7, vi x11), (6, vi (u + 1)), (5, vr 1 z5), (0, vr 0 0), (1, vi p), (2, vi i), (4, vi w)] [vi w2, vr 1 z5, vi x29, vi (i + 1), vi p, vr 0 0, vr 1 z5] C f_q_loop_109_2 rfl ?_
                  refine m_callV C Rm Y [vi p, vi (i + 1), vi x29, vr 1 z5, vi w2] [vr 1 z5] (hq9 l D B H0 ad _ hT2 (u + 1) T N M Ln dep (dep i.toNat + 1) p (i + 1) x29 z5 w2 (by show 0 ≤ p ∧ p ≤ 5; omega) (hK.rmk hE2) (ha.rmk hE2) (by show 0 ≤ (i + 1) ∧ (i + 1) ≤ 16 ∧ 0 ≤ x29 ∧ x29 ≤ N ∧ 20 * p + 17 - (i + 1) ≤ (n : Int); omega) (hs9.dQ (Or.inr hkd) (by omega) (by omega)) (by show A2 0 0 33 = (u + 1) ∧ 0 ≤ (u + 1) ∧ (u + 1) + (19 * p + 23 - 4 * (dep i.toNat + 1)) ≤ 200 ∧ 0 ≤ (dep i.toNat + 1) ∧ (dep i.toNat + 1) ≤ 5; omega) (by show (z5 : Int) < (u + 1); omega) hO2 (by show 0 ≤ T ∧ T ≤ 1125899906842624; omega) (by show -2147483648 ≤ w2 ∧ w2 ≤ 2147483647; omega) hS2) cl_Mo_336 rfl (by decide) rfl rfl e_q_loop_113 rfl rfl rfl ⟨by show _ ≤ (201 + 6 * n : Nat); omega, by show _ ≤ (5530 + 150 * n : Nat); omega⟩ ?_
                  rintro v30 A31 ⟨z34, rfl, hT_n33, hE_n33, raw_hz_n33, raw_hu_n33, raw_hx_n33, raw_hO_n33, raw_hS_n33⟩
                  have hF_n33 := hE2.trans (hE_n33.sub (rm_rm (by omega)))
                  have hz_n33 : (z34 : Int) = (u + 1) := raw_hz_n33
                  clear raw_hz_n33
                  have hu_n33 : (u + 1) + 1 ≤ A31 0 0 33 ∧ A31 0 0 33 ≤ (u + 1) + 2 + 4 * (5 - (dep i.toNat + 1)) := raw_hu_n33
                  clear raw_hu_n33
                  have hx_n33 : xQ A31 ((u + 1) + 1) := raw_hx_n33
                  clear raw_hx_n33
                  have hO_n33 : oG A31 z34 T := raw_hO_n33
                  clear raw_hO_n33
                  have hS_n33 : mS A31 := raw_hS_n33
                  clear raw_hS_n33
                  show JM g D ad w0 A31 116 [(10, vi k), (9, vi w2), (8, vi t), (7, vi x11), (6, vi (u + 1)), (5, vr 1 z5), (0, vr 0 0), (1, vi p), (2, vi i), (4, vi w)] [vr 1 z34, vr 1 z5]
                  refine m_callV C Rm Y [vr 1 z34] [] (q_becomes l D B H0 ad _ hT_n33 z5 T z34 (by show z5 < 200 ∧ z34 < 200; omega) hO_n33) cl_Mo_293 rfl (by omega) rfl rfl e_q_loop_116 rfl rfl rfl ⟨by show _ ≤ (201 + 6 * n : Nat); omega, by show _ ≤ (5530 + 150 * n : Nat); omega⟩ ?_
                  rintro v35 A36 ⟨rfl, hT_n38, hE_n38, raw_hO_n38⟩
                  have hF_n38 := hF_n33.trans (hE_n38.sub (cm_rm (by omega)))
                  have hO_n38 : oG A36 z5 T := raw_hO_n38
                  clear raw_hO_n38
                  show JM g D ad w0 A36 119 [(10, vi k), (9, vi w2), (8, vi t), (7, vi x11), (6, vi (u + 1)), (5, vr 1 z5), (0, vr 0 0), (1, vi p), (2, vi i), (4, vi w)] []
                  have ms_n38 : mS A36 := hS_n33.cmk hE_n38
                  refine m_blk 122 [(10, vi k), (9, vi w2), (8, vi t), (7, vi x11), (6, vi (u + 1)), (5, vr 1 z5), (0, vr 0 0), (1, vi p), (2, vi i), (4, vi w)] [vi (u + 1), vr 0 0] C f_q_loop_119_2 rfl ?_
                  refine m_puti C e_q_loop_122 fp_Mo_269 rfl (by decide) rfl ?_
                  have t39 : mTy (mu A36 0 0 33 (u + 1)) := hT_n38.mu (by show 0 ≤ (u + 1) ∧ (u + 1) ≤ 200; omega)
                  have q40 := hF_n38.mu (f := 0) (k := 0) (j := 33) (z := (u + 1)) (by simp [rm])
                  refine m_blk 31 [(8, vi (t + 1)), (10, vi k), (9, vi w2), (7, vi x11), (6, vi (u + 1)), (5, vr 1 z5), (0, vr 0 0), (1, vi p), (2, vi i), (4, vi w)] [] C f_q_loop_125_2 rfl ?_
                  refine m_loc [(8, vi (t + 1)), (7, vi x11), (6, vi (u + 1)), (5, vr 1 z5), (0, vr 0 0), (1, vi p), (2, vi i), (4, vi w)] ⟨rfl, rfl, rfl, rfl, rfl, rfl, rfl, rfl, trivial⟩ ?_
                  exact ih31 (mu A36 0 0 33 (u + 1)) (t + 1) t39 q40 (hO_n38.muf (by decide) (by decide)) (by show 0 ≤ (t + 1) ∧ (t + 1) ≤ 10; omega) (by show (u + 1) = u + 1; omega) (ms_n38.muf (by decide)) (by show (40 - (t + 1)) < _; omega)
                · refine m_blk 74 [(10, vi k), (9, vi w2), (8, vi t), (7, vi x11), (6, vi (u + 1)), (5, vr 1 z5), (0, vr 0 0), (1, vi p), (2, vi i), (4, vi w)] [vr 0 0, vi (i + 1), vi p, vr 0 0] C f_q_loop_68_6 rfl ?_
                  refine m_getr C e_q_loop_74 fg_Mo_30 rfl (by decide) rfl ?_
                  refine m_blk 78 [(10, vi k), (9, vi w2), (8, vi t), (7, vi x11), (6, vi (u + 1)), (5, vr 1 z5), (0, vr 0 0), (1, vi p), (2, vi i), (4, vi w)] [vi p, vr 17 0, vi (i + 1), vi p, vr 0 0] C f_q_loop_77_1 rfl ?_
                  refine m_aald C p.toNat e_q_loop_78 rfl rfl rfl (by decide) (by decide) (by omega) (by show p < ((6 : Nat) : Int); omega) (mz _ _) ?_
                  refine m_blk 80 [(10, vi k), (9, vi w2), (8, vi t), (7, vi x11), (6, vi (u + 1)), (5, vr 1 z5), (0, vr 0 0), (1, vi p), (2, vi i), (4, vi w)] [vi i, vr 37 p.toNat, vi (i + 1), vi p, vr 0 0] C f_q_loop_79_1 rfl ?_
                  obtain ⟨x41, hx41⟩ : ∃ x, A2 37 p.toNat i.toNat = x := ⟨_, rfl⟩
                  have rx41 : 0 ≤ x41 ∧ x41 ≤ 16 := mrg hT2 hx41 rfl
                  refine m_iald C e_q_loop_80 rfl (by omega) (by decide) (by omega) (by show i < ((16 : Nat) : Int); omega) x41 hx41 ?_
                  refine m_blk 83 [(10, vi k), (9, vi w2), (8, vi t), (7, vi x11), (6, vi (u + 1)), (5, vr 1 z5), (0, vr 0 0), (1, vi p), (2, vi i), (4, vi w)] [vi w2, vi x41, vi (i + 1), vi p, vr 0 0] C f_q_loop_81_1 rfl ?_
                  refine m_callV C Rm Y [vi p, vi (i + 1), vi x41, vi w2] [] ((q_needed_ 17).1 l D B H0 ad _ hT2 N M Ln dep p (i + 1) x41 w2 (by show 0 ≤ p ∧ p ≤ 5; omega) (hK.rmk hE2) (ha.rmk hE2) (by show 0 ≤ (i + 1) ∧ (i + 1) ≤ 16 ∧ 0 ≤ x41 ∧ x41 ≤ N ∧ 17 - (i + 1) ≤ ((17 : Nat) : Int); omega) (by show -2147483648 ≤ w2 ∧ w2 ≤ 2147483647; omega)) cl_Mo_300 rfl (by decide) rfl rfl e_q_loop_83 rfl rfl rfl ⟨by show _ ≤ (201 + 6 * n : Nat); omega, by show _ ≤ (5530 + 150 * n : Nat); omega⟩ ?_
                  rintro v42 A43 ⟨z46, rfl, rfl, raw_hz_n45⟩
                  have hz_n45 : -2147483648 ≤ z46 ∧ z46 ≤ 2147483647 := raw_hz_n45
                  clear raw_hz_n45
                  show JM g D ad w0 A2 86 [(10, vi k), (9, vi w2), (8, vi t), (7, vi x11), (6, vi (u + 1)), (5, vr 1 z5), (0, vr 0 0), (1, vi p), (2, vi i), (4, vi w)] [vi z46]
                  refine m_blk 55 [(10, vi (k + 1)), (9, vi z46), (8, vi t), (7, vi x11), (6, vi (u + 1)), (5, vr 1 z5), (0, vr 0 0), (1, vi p), (2, vi i), (4, vi w)] [] C f_q_loop_86_3 rfl ?_
                  refine m_loc [(10, vi (k + 1)), (9, vi z46), (8, vi t), (7, vi x11), (6, vi (u + 1)), (5, vr 1 z5), (0, vr 0 0), (1, vi p), (2, vi i), (4, vi w)] ⟨rfl, rfl, rfl, rfl, rfl, rfl, rfl, rfl, rfl, rfl, trivial⟩ ?_
                  exact ih55 (k + 1) z46 (by show 0 ≤ (k + 1) ∧ (k + 1) ≤ 20; omega) (by show -2147483648 ≤ z46 ∧ z46 ≤ 2147483647; omega) (by show (40 - (k + 1)) < _; omega)
          refine m_loc [(10, vi (t + 1)), (9, vi w), (8, vi t), (7, vi x11), (6, vi (u + 1)), (5, vr 1 z5), (0, vr 0 0), (1, vi p), (2, vi i), (4, vi w)] ⟨rfl, rfl, rfl, rfl, rfl, rfl, rfl, rfl, rfl, rfl, trivial⟩ ?_
          exact hd_55 (Int.toNat ((40 - (t + 1))) + 1) (t + 1) w (by show 0 ≤ (t + 1) ∧ (t + 1) ≤ 20; omega) (by show -2147483648 ≤ w ∧ w ≤ 2147483647; omega) (by show (40 - (t + 1)) < _; omega)
  refine m_loc [(8, vi 0), (7, vi x11), (6, vi (u + 1)), (5, vr 1 z5), (0, vr 0 0), (1, vi p), (2, vi i), (4, vi w)] ⟨rfl, rfl, rfl, rfl, rfl, rfl, rfl, rfl, trivial⟩ ?_
  exact hd_31 (Int.toNat ((40 - 0)) + 1) A8 0 hT_n10 hF_n10 hO_n10 (by show 0 ≤ 0 ∧ 0 ≤ 10; omega) (by show A8 0 0 33 = u + 1; omega) ms_n10 (by show (40 - 0) < _; omega)
