/-! the reference: hundredths, otherwise (own work, by program) -/
theorem e_q_hundredths_0 : decode b_Mo_hundredths 0 = .ok (.ldc2_w 412, 3) := by decide +kernel
theorem f_q_hundredths_3_3 : mblkB b_Mo_hundredths [(3, .aload_n 0, vi 0), (4, .iload_n 1, vi 0), (5, .iload_n 2, vi 0)] = true := by decide +kernel
theorem e_q_hundredths_6 : decode b_Mo_hundredths 6 = .ok (.invokestatic 384, 3) := by decide +kernel
theorem f_q_hundredths_9_2 : mblkB b_Mo_hundredths [(9, .lmul, vi 0), (10, .aload_n 0, vi 0)] = true := by decide +kernel
theorem e_q_hundredths_11 : decode b_Mo_hundredths 11 = .ok (.invokevirtual 372, 3) := by decide +kernel
theorem e_q_hundredths_14 : decode b_Mo_hundredths 14 = .ok (.ldiv, 1) := by decide +kernel
theorem f_q_hundredths_15_1 : mblkB b_Mo_hundredths [(15, .l2i, vi 0)] = true := by decide +kernel
theorem e_q_hundredths_16 : decode b_Mo_hundredths 16 = .ok (.ireturn, 1) := by decide +kernel
set_option maxHeartbeats 40000000 in
set_option maxRecDepth 100000 in
theorem q_hundredths (l : Launch) (D : va_G) (B : Nat) (H0 : Heap) (ad : mAd) (A : mA) (hT : mTy A) (T : Int) (ki : Nat) (n : Int) (v : Int) (hk : ki < 200) (hO : oG A ki T) (hT9 : 0 ≤ T ∧ T ≤ 1125899906842624) (hn : -1 ≤ n ∧ n ≤ 2147483647) (hv : -2147483648 ≤ v ∧ v ≤ 2147483647) (h1 : 1 ≤ A 1 ki 2)  : mMet l D B H0 ad y_Mo_hundredths b_Mo_hundredths 3 (some .int) 3 160 [vr 1 ki, vi n, vi v] A (fun v9 A9 => ∃ z : Int, v9 = some (vi z) ∧ A = A9 ∧ (-2147483648 ≤ z ∧ z ≤ 2147483647)) := by
  refine m_met (by decide) rfl (fun g w0 C Rm Y E => ?_)
  show JM g D ad w0 A 0 [(0, vr 1 ki), (1, vi n), (2, vi v)] []
  refine m_ldc2 C 100 e_q_hundredths_0 ld_Mo_412 (by decide) ?_
  refine m_blk 6 [(0, vr 1 ki), (1, vi n), (2, vi v)] [vi v, vi n, vr 1 ki, vl 100] C f_q_hundredths_3_3 rfl ?_
  refine m_callS C Rm Y [vr 1 ki, vi n, vi v] [vl 100] (q_weightOf l D B H0 ad _ hT T ki n v (by show ki < 200; omega) hO (by show 0 ≤ T ∧ T ≤ 1125899906842624; omega) (by show -1 ≤ n ∧ n ≤ 2147483647; omega) (by show -2147483648 ≤ v ∧ v ≤ 2147483647; omega)) cl_Mo_384 e_q_hundredths_6 rfl rfl rfl ⟨by decide, by decide⟩ ?_
  rintro v1 A2 ⟨z5, rfl, rfl, raw_hz_n4⟩
  have hz_n4 : 0 ≤ z5 ∧ z5 ≤ T := raw_hz_n4
  clear raw_hz_n4
  show JM g D ad w0 A 9 [(0, vr 1 ki), (1, vi n), (2, vi v)] [vl z5, vl 100]
  refine m_blk 11 [(0, vr 1 ki), (1, vi n), (2, vi v)] [vr 1 ki, vl (100 * z5)] C f_q_hundredths_9_2 rfl ?_
  refine m_callV C Rm Y [] [vl (100 * z5)] (q_all l D B H0 ad _ hT ki T (by show ki < 200; omega) hO (by show T ≤ 1125899906842624; omega)) cl_Mo_372 rfl (by omega) rfl rfl e_q_hundredths_11 rfl rfl rfl ⟨by decide, by decide⟩ ?_
  rintro v6 A7 ⟨z10, rfl, rfl, raw_hz_n9⟩
  have hz_n9 : z10 = ws (A 4 ki) 0 (Int.toNat (A 1 ki 2)) ∧ 0 ≤ z10 ∧ z10 ≤ T ∧ A 1 ki 2 ≤ z10 := raw_hz_n9
  clear raw_hz_n9
  show JM g D ad w0 A 14 [(0, vr 1 ki), (1, vi n), (2, vi v)] [vl z10, vl (100 * z5)]
  refine m_ldiv C e_q_hundredths_14 (by omega) (by omega) (by omega) ?_
  refine m_blk 16 [(0, vr 1 ki), (1, vi n), (2, vi v)] [vi (Int.tdiv (100 * z5) z10)] C f_q_hundredths_15_1 rfl ?_
  refine m_nrm (fun y11 hy11 => ?_)
  exact m_iret C Rm E e_q_hundredths_16 ⟨y11, rfl, rfl, (by show -2147483648 ≤ y11 ∧ y11 ≤ 2147483647; omega)⟩

theorem f_q_otherwise_0_2 : mblkB b_Mo_otherwise [(0, .iconst 0, vi 0), (1, .istore 4, vi 0)] = true := by decide +kernel
theorem f_q_otherwise_3_2 : mblkB b_Mo_otherwise [(3, .iload 4, vi 0), (5, .aload_n 0, vi 0)] = true := by decide +kernel
theorem e_q_otherwise_6 : decode b_Mo_otherwise 6 = .ok (.getfield 95, 3) := by decide +kernel
theorem f_q_otherwise_9_1 : mblkB b_Mo_otherwise [(9, .iload_n 1, vi 0)] = true := by decide +kernel
theorem e_q_otherwise_10 : decode b_Mo_otherwise 10 = .ok (.iaload, 1) := by decide +kernel
theorem e_q_otherwise_11 : decode b_Mo_otherwise 11 = .ok (.if_icmp .ge 31, 3) := by decide +kernel
theorem f_q_otherwise_42_1 : mblkB b_Mo_otherwise [(42, .iconst (-1), vi (-1))] = true := by decide +kernel
theorem e_q_otherwise_43 : decode b_Mo_otherwise 43 = .ok (.ireturn, 1) := by decide +kernel
theorem f_q_otherwise_14_3 : mblkB b_Mo_otherwise [(14, .aload_n 2, vi 0), (15, .iload_n 3, vi 0), (16, .iload 4, vi 0)] = true := by decide +kernel
theorem e_q_otherwise_18 : decode b_Mo_otherwise 18 = .ok (.invokestatic 414, 3) := by decide +kernel
theorem f_q_otherwise_21_1 : mblkB b_Mo_otherwise [(21, .aload_n 0, vi 0)] = true := by decide +kernel
theorem e_q_otherwise_22 : decode b_Mo_otherwise 22 = .ok (.getfield 98, 3) := by decide +kernel
theorem f_q_otherwise_25_1 : mblkB b_Mo_otherwise [(25, .iload_n 1, vi 0)] = true := by decide +kernel
theorem e_q_otherwise_26 : decode b_Mo_otherwise 26 = .ok (.aaload, 1) := by decide +kernel
theorem f_q_otherwise_27_1 : mblkB b_Mo_otherwise [(27, .iload 4, vi 0)] = true := by decide +kernel
theorem e_q_otherwise_29 : decode b_Mo_otherwise 29 = .ok (.iaload, 1) := by decide +kernel
theorem e_q_otherwise_30 : decode b_Mo_otherwise 30 = .ok (.if_icmp .eq 6, 3) := by decide +kernel
theorem f_q_otherwise_36_2 : mblkB b_Mo_otherwise [(36, .iinc 4 1, vi 1), (39, .goto (-36), vi 3)] = true := by decide +kernel
theorem f_q_otherwise_33_1 : mblkB b_Mo_otherwise [(33, .iload 4, vi 0)] = true := by decide +kernel
theorem e_q_otherwise_35 : decode b_Mo_otherwise 35 = .ok (.ireturn, 1) := by decide +kernel
set_option maxHeartbeats 40000000 in
set_option maxRecDepth 100000 in
theorem q_otherwise (l : Launch) (D : va_G) (B : Nat) (H0 : Heap) (ad : mAd) (A : mA) (hT : mTy A) (T : Int) (s : Int) (ki : Nat) (n : Int) (hs : 0 ≤ s ∧ s ≤ 3) (hk : ki < 200) (hO : oG A ki T) (hT9 : 0 ≤ T ∧ T ≤ 1125899906842624) (hn : -1 ≤ n ∧ n ≤ 2147483647) (h1 : 1 ≤ A 1 ki 2)  : mMet l D B H0 ad y_Mo_otherwise b_Mo_otherwise 5 (some .int) 4 200 [vr 0 0, vi s, vr 1 ki, vi n] A (fun v9 A9 => ∃ z : Int, v9 = some (vi z) ∧ A = A9 ∧ (-1 ≤ z ∧ z ≤ 40)) := by
  refine m_met (by decide) rfl (fun g w0 C Rm Y E => ?_)
  show JM g D ad w0 A 0 [(0, vr 0 0), (1, vi s), (2, vr 1 ki), (3, vi n)] []
  refine m_blk 3 [(4, vi 0), (0, vr 0 0), (1, vi s), (2, vr 1 ki), (3, vi n)] [] C f_q_otherwise_0_2 rfl ?_
  have hd_3 : ∀ (NZ : Nat) (k : Int), 0 ≤ k ∧ k ≤ 40 → (50 - k) < (NZ : Int) → JM g D ad w0 A 3 [(4, vi k), (0, vr 0 0), (1, vi s), (2, vr 1 ki), (3, vi n)] [] := by
    intro NZ
    induction NZ with
    | zero => intro k hk2 hm3; exact absurd hm3 (by omega)
    | succ NZ ih3 =>
      intro k hk2 hm3
      refine m_blk 6 [(4, vi k), (0, vr 0 0), (1, vi s), (2, vr 1 ki), (3, vi n)] [vr 0 0, vi k] C f_q_otherwise_3_2 rfl ?_
      refine m_getr C e_q_otherwise_6 fg_Mo_95 rfl (by decide) rfl ?_
      refine m_blk 10 [(4, vi k), (0, vr 0 0), (1, vi s), (2, vr 1 ki), (3, vi n)] [vi s, vr 12 0, vi k] C f_q_otherwise_9_1 rfl ?_
      obtain ⟨x1, hx1⟩ : ∃ x, A 12 0 s.toNat = x := ⟨_, rfl⟩
      have rx1 : 0 ≤ x1 ∧ x1 ≤ 40 := mrg hT hx1 rfl
      refine m_iald C e_q_otherwise_10 rfl (by decide) (by decide) (by omega) (by show s < ((4 : Nat) : Int); omega) x1 hx1 ?_
      refine m_icmp_ge (tgt := 42) C e_q_otherwise_11 (by decide) (by omega) (by omega) (fun c2 => ?_) (fun c2 => ?_)
      · refine m_blk 43 [(4, vi k), (0, vr 0 0), (1, vi s), (2, vr 1 ki), (3, vi n)] [vi (-1)] C f_q_otherwise_42_1 rfl ?_
        exact m_iret C Rm E e_q_otherwise_43 ⟨(-1), rfl, rfl, (by show -1 ≤ (-1) ∧ (-1) ≤ 40; omega)⟩
      · refine m_blk 18 [(4, vi k), (0, vr 0 0), (1, vi s), (2, vr 1 ki), (3, vi n)] [vi k, vi n, vr 1 ki] C f_q_otherwise_14_3 rfl ?_
        refine m_callS C Rm Y [vr 1 ki, vi n, vi k] [] (q_hundredths l D B H0 ad _ hT T ki n k (by show ki < 200; omega) hO (by show 0 ≤ T ∧ T ≤ 1125899906842624; omega) (by show -1 ≤ n ∧ n ≤ 2147483647; omega) (by show -2147483648 ≤ k ∧ k ≤ 2147483647; omega) (by show 1 ≤ A 1 ki 2; omega)) cl_Mo_414 e_q_otherwise_18 rfl rfl rfl ⟨by decide, by decide⟩ ?_
        rintro v3 A4 ⟨z7, rfl, rfl, raw_hz_n6⟩
        have hz_n6 : -2147483648 ≤ z7 ∧ z7 ≤ 2147483647 := raw_hz_n6
        clear raw_hz_n6
        show JM g D ad w0 A 21 [(4, vi k), (0, vr 0 0), (1, vi s), (2, vr 1 ki), (3, vi n)] [vi z7]
        refine m_blk 22 [(4, vi k), (0, vr 0 0), (1, vi s), (2, vr 1 ki), (3, vi n)] [vr 0 0, vi z7] C f_q_otherwise_21_1 rfl ?_
        refine m_getr C e_q_otherwise_22 fg_Mo_98 rfl (by decide) rfl ?_
        refine m_blk 26 [(4, vi k), (0, vr 0 0), (1, vi s), (2, vr 1 ki), (3, vi n)] [vi s, vr 29 0, vi z7] C f_q_otherwise_25_1 rfl ?_
        refine m_aald C s.toNat e_q_otherwise_26 rfl rfl rfl (by decide) (by decide) (by omega) (by show s < ((4 : Nat) : Int); omega) (mz _ _) ?_
        refine m_blk 29 [(4, vi k), (0, vr 0 0), (1, vi s), (2, vr 1 ki), (3, vi n)] [vi k, vr 49 s.toNat, vi z7] C f_q_otherwise_27_1 rfl ?_
        obtain ⟨x8, hx8⟩ : ∃ x, A 49 s.toNat k.toNat = x := ⟨_, rfl⟩
        have rx8 : (-2147483648) ≤ x8 ∧ x8 ≤ 2147483647 := mrg hT hx8 rfl
        refine m_iald C e_q_otherwise_29 rfl (by omega) (by decide) (by omega) (by show k < ((40 : Nat) : Int); omega) x8 hx8 ?_
        refine m_icmp_eq (tgt := 36) C e_q_otherwise_30 (by decide) (by omega) (by omega) (fun c9 => ?_) (fun c9 => ?_)
        · refine m_blk 3 [(4, vi (k + 1)), (0, vr 0 0), (1, vi s), (2, vr 1 ki), (3, vi n)] [] C f_q_otherwise_36_2 rfl ?_
          refine m_loc [(4, vi (k + 1)), (0, vr 0 0), (1, vi s), (2, vr 1 ki), (3, vi n)] ⟨rfl, rfl, rfl, rfl, rfl, trivial⟩ ?_
          exact ih3 (k + 1) (by show 0 ≤ (k + 1) ∧ (k + 1) ≤ 40; omega) (by show (50 - (k + 1)) < _; omega)
        · refine m_blk 35 [(4, vi k), (0, vr 0 0), (1, vi s), (2, vr 1 ki), (3, vi n)] [vi k] C f_q_otherwise_33_1 rfl ?_
          exact m_iret C Rm E e_q_otherwise_35 ⟨k, rfl, rfl, (by show -1 ≤ k ∧ k ≤ 40; omega)⟩
  refine m_loc [(4, vi 0), (0, vr 0 0), (1, vi s), (2, vr 1 ki), (3, vi n)] ⟨rfl, rfl, rfl, rfl, rfl, trivial⟩ ?_
  exact hd_3 (Int.toNat ((50 - 0)) + 1) 0 (by show 0 ≤ 0 ∧ 0 ≤ 40; omega) (by show (50 - 0) < _; omega)
