/-! the reference: film, tells (own work, by program) -/
theorem f_q_film_0_1 : mblkB b_Mo_film [(0, .iload_n 1, vi 0)] = true := by decide +kernel
theorem e_q_film_1 : decode b_Mo_film 1 = .ok (.invokestatic 422, 3) := by decide +kernel
theorem e_q_film_4 : decode b_Mo_film 4 = .ok (.ifCond .eq 18, 3) := by decide +kernel
theorem f_q_film_7_2 : mblkB b_Mo_film [(7, .aload_n 0, vi 0), (8, .iload_n 2, vi 0)] = true := by decide +kernel
theorem e_q_film_9 : decode b_Mo_film 9 = .ok (.invokevirtual 364, 3) := by decide +kernel
theorem e_q_film_12 : decode b_Mo_film 12 = .ok (.ifCond .eq 10, 3) := by decide +kernel
theorem f_q_film_15_1 : mblkB b_Mo_film [(15, .iload_n 3, vi 0)] = true := by decide +kernel
theorem e_q_film_16 : decode b_Mo_film 16 = .ok (.invokestatic 254, 3) := by decide +kernel
theorem e_q_film_19 : decode b_Mo_film 19 = .ok (.ifCond .ne 6, 3) := by decide +kernel
theorem f_q_film_25_3 : mblkB b_Mo_film [(25, .aload_n 0, vi 0), (26, .iload_n 2, vi 0), (27, .iconst (-1), vi (-1))] = true := by decide +kernel
theorem e_q_film_28 : decode b_Mo_film 28 = .ok (.invokevirtual 367, 3) := by decide +kernel
theorem f_q_film_31_3 : mblkB b_Mo_film [(31, .astore 4, vi 0), (33, .aload_n 0, vi 0), (34, .aload 4, vi 0)] = true := by decide +kernel
theorem e_q_film_36 : decode b_Mo_film 36 = .ok (.invokevirtual 380, 3) := by decide +kernel
theorem f_q_film_39_2 : mblkB b_Mo_film [(39, .istore 5, vi 0), (41, .iload 5, vi 0)] = true := by decide +kernel
theorem e_q_film_43 : decode b_Mo_film 43 = .ok (.ifCond .eq 6, 3) := by decide +kernel
theorem f_q_film_49_1 : mblkB b_Mo_film [(49, .aload_n 0, vi 0)] = true := by decide +kernel
theorem e_q_film_50 : decode b_Mo_film 50 = .ok (.getfield 92, 3) := by decide +kernel
theorem f_q_film_53_2 : mblkB b_Mo_film [(53, .iload_n 1, vi 0), (54, .iconst 0, vi 0)] = true := by decide +kernel
theorem e_q_film_55 : decode b_Mo_film 55 = .ok (.iastore, 1) := by decide +kernel
theorem f_q_film_56_1 : mblkB b_Mo_film [(56, .aload_n 0, vi 0)] = true := by decide +kernel
theorem e_q_film_57 : decode b_Mo_film 57 = .ok (.getfield 95, 3) := by decide +kernel
theorem f_q_film_60_2 : mblkB b_Mo_film [(60, .iload_n 1, vi 0), (61, .bipush 10, vi 10)] = true := by decide +kernel
theorem e_q_film_63 : decode b_Mo_film 63 = .ok (.iastore, 1) := by decide +kernel
theorem f_q_film_64_2 : mblkB b_Mo_film [(64, .iconst 0, vi 0), (65, .istore 6, vi 0)] = true := by decide +kernel
theorem f_q_film_67_2 : mblkB b_Mo_film [(67, .iload 6, vi 0), (69, .bipush 10, vi 10)] = true := by decide +kernel
theorem e_q_film_71 : decode b_Mo_film 71 = .ok (.if_icmp .ge 26, 3) := by decide +kernel
theorem f_q_film_97_1 : mblkB b_Mo_film [(97, .bipush 10, vi 10)] = true := by decide +kernel
theorem e_q_film_99 : decode b_Mo_film 99 = .ok (.ireturn, 1) := by decide +kernel
theorem f_q_film_74_1 : mblkB b_Mo_film [(74, .aload_n 0, vi 0)] = true := by decide +kernel
theorem e_q_film_75 : decode b_Mo_film 75 = .ok (.getfield 98, 3) := by decide +kernel
theorem f_q_film_78_1 : mblkB b_Mo_film [(78, .iload_n 1, vi 0)] = true := by decide +kernel
theorem e_q_film_79 : decode b_Mo_film 79 = .ok (.aaload, 1) := by decide +kernel
theorem f_q_film_80_4 : mblkB b_Mo_film [(80, .iload 6, vi 0), (82, .aload 4, vi 0), (84, .iload_n 3, vi 0), (85, .iload 6, vi 0)] = true := by decide +kernel
theorem e_q_film_87 : decode b_Mo_film 87 = .ok (.invokestatic 414, 3) := by decide +kernel
theorem e_q_film_90 : decode b_Mo_film 90 = .ok (.iastore, 1) := by decide +kernel
theorem f_q_film_91_2 : mblkB b_Mo_film [(91, .iinc 6 1, vi 1), (94, .goto (-27), vi 67)] = true := by decide +kernel
theorem f_q_film_46_1 : mblkB b_Mo_film [(46, .iload 5, vi 0)] = true := by decide +kernel
theorem e_q_film_48 : decode b_Mo_film 48 = .ok (.ireturn, 1) := by decide +kernel
theorem f_q_film_22_1 : mblkB b_Mo_film [(22, .bipush (-2), vi (-2))] = true := by decide +kernel
theorem e_q_film_24 : decode b_Mo_film 24 = .ok (.ireturn, 1) := by decide +kernel
set_option maxHeartbeats 40000000 in
set_option maxRecDepth 100000 in
theorem q_film (l : Launch) (D : va_G) (B : Nat) (H0 : Heap) (ad : mAd) (A : mA) (hT : mTy A)  (s : Int) (p : Int) (n : Int) (hsr : -2147483648 ≤ s ∧ s ≤ 2147483647) (hpr : -2147483648 ≤ p ∧ p ≤ 2147483647) (hnr : -2147483648 ≤ n ∧ n ≤ 2147483647) (hI : mI A)  : mMet l D B H0 ad y_Mo_film b_Mo_film 7 (some .int) 912 23600 [vr 0 0, vi s, vi p, vi n] A (fun v9 A9 => ∃ z : Int, v9 = some (vi z) ∧ mTy A9 ∧ mEq flm A A9 ∧ (-2147483648 ≤ z ∧ z ≤ 2147483647) ∧ (mI A9)) := by
  refine m_met (by decide) rfl (fun g w0 C Rm Y E => ?_)
  have hE0 : mEq flm A A := mEq.rfl'
  show JM g D ad w0 A 0 [(0, vr 0 0), (1, vi s), (2, vi p), (3, vi n)] []
  have r0 : 0 ≤ A 0 0 0 ∧ A 0 0 0 ≤ 6 := hT 0 0 0
  refine m_blk 1 [(0, vr 0 0), (1, vi s), (2, vi p), (3, vi n)] [vi s] C f_q_film_0_1 rfl ?_
  refine m_callS C Rm Y [vi s] [] (q_isSheet l D B H0 ad _ s (by show -2147483648 ≤ s ∧ s ≤ 2147483647; omega)) cl_Mo_422 e_q_film_1 rfl rfl rfl ⟨by decide, by decide⟩ ?_
  rintro v1 A2 ⟨z5, rfl, rfl, raw_hz_n4⟩
  show JM g D ad w0 A 4 [(0, vr 0 0), (1, vi s), (2, vi p), (3, vi n)] [vi z5]
  have hz_n4 : z5 = 1 ∧ 0 ≤ s ∧ s ≤ 3 ∨ z5 = 0 ∧ ¬ (0 ≤ s ∧ s ≤ 3) := raw_hz_n4
  clear raw_hz_n4
  rcases hz_n4 with ⟨e_n4, hz_n4⟩ | ⟨e_n4, hz_n4⟩
  · subst e_n4
    refine m_if_eq (tgt := 22) C e_q_film_4 (by decide) (by decide) (fun c6 => (by omega : False).elim) (fun c6 => ?_)
    refine m_blk 9 [(0, vr 0 0), (1, vi s), (2, vi p), (3, vi n)] [vi p, vr 0 0] C f_q_film_7_2 rfl ?_
    refine m_callV C Rm Y [vi p] [] (q_isProgram l D B H0 ad _ hT p (by show -2147483648 ≤ p ∧ p ≤ 2147483647; omega)) cl_Mo_364 rfl (by decide) rfl rfl e_q_film_9 rfl rfl rfl ⟨by decide, by decide⟩ ?_
    rintro v7 A8 ⟨z11, rfl, rfl, raw_hz_n10⟩
    show JM g D ad w0 A 12 [(0, vr 0 0), (1, vi s), (2, vi p), (3, vi n)] [vi z11]
    have hz_n10 : z11 = 1 ∧ 0 ≤ p ∧ p < A 0 0 0 ∨ z11 = 0 ∧ ¬ (0 ≤ p ∧ p < A 0 0 0) := raw_hz_n10
    clear raw_hz_n10
    rcases hz_n10 with ⟨e_n10, hz_n10⟩ | ⟨e_n10, hz_n10⟩
    · subst e_n10
      refine m_if_eq (tgt := 22) C e_q_film_12 (by decide) (by decide) (fun c12 => (by omega : False).elim) (fun c12 => ?_)
      refine m_blk 16 [(0, vr 0 0), (1, vi s), (2, vi p), (3, vi n)] [vi n] C f_q_film_15_1 rfl ?_
      refine m_callS C Rm Y [vi n] [] (q_isName l D B H0 ad _ n (by show -2147483648 ≤ n ∧ n ≤ 2147483647; omega)) cl_Mo_254 e_q_film_16 rfl rfl rfl ⟨by decide, by decide⟩ ?_
      rintro v13 A14 ⟨z17, rfl, rfl, raw_hz_n16⟩
      show JM g D ad w0 A 19 [(0, vr 0 0), (1, vi s), (2, vi p), (3, vi n)] [vi z17]
      have hz_n16 : z17 = 1 ∧ 0 ≤ n ∧ n ≤ 5 ∨ z17 = 0 ∧ ¬ (0 ≤ n ∧ n ≤ 5) := raw_hz_n16
      clear raw_hz_n16
      rcases hz_n16 with ⟨e_n16, hz_n16⟩ | ⟨e_n16, hz_n16⟩
      · subst e_n16
        refine m_if_ne (tgt := 25) C e_q_film_19 (by decide) (by decide) (fun c18 => ?_) (fun c18 => (by omega : False).elim)
        refine m_blk 28 [(0, vr 0 0), (1, vi s), (2, vi p), (3, vi n)] [vi (-1), vi p, vr 0 0] C f_q_film_25_3 rfl ?_
        refine m_callV C Rm Y [vi p, vi (-1)] [] (q_odds l D B H0 ad _ hT p (-1) (by show 0 ≤ p ∧ p ≤ 5; omega) ((hI.ok (by omega)).rmk (show mEq (rm 0) A A from mEq.rfl')) (by show -2147483648 ≤ (-1) ∧ (-1) ≤ 2147483647; omega) hI.2.2) cl_Mo_367 rfl (by decide) rfl rfl e_q_film_28 rfl rfl rfl ⟨by decide, by decide⟩ ?_
        rintro v19 A20 ⟨z23, rfl, hT_n22, hE_n22, raw_hz_n22, raw_hu_n22, raw_hO_n22, raw_hS_n22⟩
        have hF_n22 := hE0.trans (hE_n22.sub (rm_fl))
        have hz_n22 : 0 ≤ (z23 : Int) ∧ (z23 : Int) < A20 0 0 33 := raw_hz_n22
        clear raw_hz_n22
        have hu_n22 : A20 0 0 33 ≤ 24 := raw_hu_n22
        clear raw_hu_n22
        have hO_n22 : oG A20 z23 1125899906842624 := raw_hO_n22
        clear raw_hO_n22
        have hS_n22 : mS A20 := raw_hS_n22
        clear raw_hS_n22
        show JM g D ad w0 A20 31 [(0, vr 0 0), (1, vi s), (2, vi p), (3, vi n)] [vr 1 z23]
        have mi_n22 : mI A20 := hI.rm0 hE_n22 hS_n22
        refine m_blk 36 [(4, vr 1 z23), (0, vr 0 0), (1, vi s), (2, vi p), (3, vi n)] [vr 1 z23, vr 0 0] C f_q_film_31_3 rfl ?_
        refine m_callV C Rm Y [vr 1 z23] [] (q_against l D B H0 ad _ hT_n22 z23 (by show z23 < 200; omega)) cl_Mo_380 rfl (by decide) rfl rfl e_q_film_36 rfl rfl rfl ⟨by decide, by decide⟩ ?_
        rintro v24 A25 ⟨z28, rfl, rfl, raw_hz_n27, raw_hn_n27⟩
        have hz_n27 : -7 ≤ z28 ∧ z28 ≤ 0 := raw_hz_n27
        clear raw_hz_n27
        have hn_n27 : nQ A20 z23 z28 := raw_hn_n27
        clear raw_hn_n27
        show JM g D ad w0 A20 39 [(4, vr 1 z23), (0, vr 0 0), (1, vi s), (2, vi p), (3, vi n)] [vi z28]
        refine m_blk 43 [(5, vi z28), (4, vr 1 z23), (0, vr 0 0), (1, vi s), (2, vi p), (3, vi n)] [vi z28] C f_q_film_39_2 rfl ?_
        refine m_if_eq (tgt := 49) C e_q_film_43 (by decide) (by omega) (fun c29 => ?_) (fun c29 => ?_)
        · have n1 := hn_n27 (by omega)
          refine m_blk 50 [(5, vi z28), (4, vr 1 z23), (0, vr 0 0), (1, vi s), (2, vi p), (3, vi n)] [vr 0 0] C f_q_film_49_1 rfl ?_
          refine m_getr C e_q_film_50 fg_Mo_92 rfl (by decide) rfl ?_
          refine m_blk 55 [(5, vi z28), (4, vr 1 z23), (0, vr 0 0), (1, vi s), (2, vi p), (3, vi n)] [vi 0, vi s, vr 11 0] C f_q_film_53_2 rfl ?_
          refine m_iast C e_q_film_55 rfl (by decide) (by decide) (by omega) (by show s < ((4 : Nat) : Int); omega) ?_
          have t30 : mTy (mu A20 11 0 s.toNat 0) := hT_n22.mu (by show (-1) ≤ 0 ∧ 0 ≤ 1; omega)
          have q31 := hF_n22.mu (f := 11) (k := 0) (j := s.toNat) (z := 0) (by simp [flm])
          refine m_blk 57 [(5, vi z28), (4, vr 1 z23), (0, vr 0 0), (1, vi s), (2, vi p), (3, vi n)] [vr 0 0] C f_q_film_56_1 rfl ?_
          refine m_getr C e_q_film_57 fg_Mo_95 rfl (by decide) rfl ?_
          refine m_blk 63 [(5, vi z28), (4, vr 1 z23), (0, vr 0 0), (1, vi s), (2, vi p), (3, vi n)] [vi 10, vi s, vr 12 0] C f_q_film_60_2 rfl ?_
          refine m_iast C e_q_film_63 rfl (by decide) (by decide) (by omega) (by show s < ((4 : Nat) : Int); omega) ?_
          have t32 : mTy (mu (mu A20 11 0 s.toNat 0) 12 0 s.toNat 10) := t30.mu (by show 0 ≤ 10 ∧ 10 ≤ 40; omega)
          have q33 := q31.mu (f := 12) (k := 0) (j := s.toNat) (z := 10) (by simp [flm])
          refine m_blk 67 [(6, vi 0), (5, vi z28), (4, vr 1 z23), (0, vr 0 0), (1, vi s), (2, vi p), (3, vi n)] [] C f_q_film_64_2 rfl ?_
          have hd_67 : ∀ (NZ : Nat) (A2 : mA) (v : Int), mTy A2 → mEq flm A A2 → mI A2 → oG A2 z23 1125899906842624 → 1 ≤ A2 1 z23 2 → 0 ≤ v ∧ v ≤ 10 → (40 - v) < (NZ : Int) → JM g D ad w0 A2 67 [(6, vi v), (4, vr 1 z23), (0, vr 0 0), (1, vi s), (2, vi p), (3, vi n)] [] := by
            intro NZ
            induction NZ with
            | zero => intro A2 v hT2 hE2 hI2 hO2 hm2 hv2 hm67; exact absurd hm67 (by omega)
            | succ NZ ih67 =>
              intro A2 v hT2 hE2 hI2 hO2 hm2 hv2 hm67
              refine m_blk 71 [(6, vi v), (4, vr 1 z23), (0, vr 0 0), (1, vi s), (2, vi p), (3, vi n)] [vi 10, vi v] C f_q_film_67_2 rfl ?_
              refine m_icmp_ge (tgt := 97) C e_q_film_71 (by decide) (by omega) (by decide) (fun c34 => ?_) (fun c34 => ?_)
              · refine m_blk 99 [(6, vi v), (4, vr 1 z23), (0, vr 0 0), (1, vi s), (2, vi p), (3, vi n)] [vi 10] C f_q_film_97_1 rfl ?_
                exact m_iret C Rm E e_q_film_99 ⟨10, rfl, hT2, hE2, (by show -2147483648 ≤ 10 ∧ 10 ≤ 2147483647; omega), hI2⟩
              · refine m_blk 75 [(6, vi v), (4, vr 1 z23), (0, vr 0 0), (1, vi s), (2, vi p), (3, vi n)] [vr 0 0] C f_q_film_74_1 rfl ?_
                refine m_getr C e_q_film_75 fg_Mo_98 rfl (by decide) rfl ?_
                refine m_blk 79 [(6, vi v), (4, vr 1 z23), (0, vr 0 0), (1, vi s), (2, vi p), (3, vi n)] [vi s, vr 29 0] C f_q_film_78_1 rfl ?_
                refine m_aald C s.toNat e_q_film_79 rfl rfl rfl (by decide) (by decide) (by omega) (by show s < ((4 : Nat) : Int); omega) (mz _ _) ?_
                refine m_blk 87 [(6, vi v), (4, vr 1 z23), (0, vr 0 0), (1, vi s), (2, vi p), (3, vi n)] [vi v, vi n, vr 1 z23, vi v, vr 49 s.toNat] C f_q_film_80_4 rfl ?_
                refine m_callS C Rm Y [vr 1 z23, vi n, vi v] [vi v, vr 49 s.toNat] (q_hundredths l D B H0 ad _ hT2 1125899906842624 z23 n v (by show z23 < 200; omega) hO2 (by show 0 ≤ 1125899906842624 ∧ 1125899906842624 ≤ 1125899906842624; omega) (by show -1 ≤ n ∧ n ≤ 2147483647; omega) (by show -2147483648 ≤ v ∧ v ≤ 2147483647; omega) hm2) cl_Mo_414 e_q_film_87 rfl rfl rfl ⟨by decide, by decide⟩ ?_
                rintro v35 A36 ⟨z39, rfl, rfl, raw_hz_n38⟩
                have hz_n38 : -2147483648 ≤ z39 ∧ z39 ≤ 2147483647 := raw_hz_n38
                clear raw_hz_n38
                show JM g D ad w0 A2 90 [(6, vi v), (4, vr 1 z23), (0, vr 0 0), (1, vi s), (2, vi p), (3, vi n)] [vi z39, vi v, vr 49 s.toNat]
                refine m_iast C e_q_film_90 rfl (by omega) (by decide) (by omega) (by show v < ((40 : Nat) : Int); omega) ?_
                have t40 : mTy (mu A2 49 s.toNat v.toNat z39) := hT2.mu (by show (-2147483648) ≤ z39 ∧ z39 ≤ 2147483647; omega)
                have q41 := hE2.mu (f := 49) (k := s.toNat) (j := v.toNat) (z := z39) (by simp [flm])
                refine m_blk 67 [(6, vi (v + 1)), (4, vr 1 z23), (0, vr 0 0), (1, vi s), (2, vi p), (3, vi n)] [] C f_q_film_91_2 rfl ?_
                refine m_loc [(6, vi (v + 1)), (4, vr 1 z23), (0, vr 0 0), (1, vi s), (2, vi p), (3, vi n)] ⟨rfl, rfl, rfl, rfl, rfl, rfl, trivial⟩ ?_
                exact ih67 (mu A2 49 s.toNat v.toNat z39) (v + 1) t40 q41 (hI2.w49 (by omega)) (hO2.muf (by decide) (by decide)) hm2 (by show 0 ≤ (v + 1) ∧ (v + 1) ≤ 10; omega) (by show (40 - (v + 1)) < _; omega)
          refine m_loc [(6, vi 0), (4, vr 1 z23), (0, vr 0 0), (1, vi s), (2, vi p), (3, vi n)] ⟨rfl, rfl, rfl, rfl, rfl, rfl, trivial⟩ ?_
          exact hd_67 (Int.toNat ((40 - 0)) + 1) (mu (mu A20 11 0 s.toNat 0) 12 0 s.toNat 10) 0 t32 q33 ((mi_n22.w49 (by omega)).w49 (by omega)) ((hO_n22.muf (by decide) (by decide)).muf (by decide) (by decide)) n1 (by show 0 ≤ 0 ∧ 0 ≤ 10; omega) (by show (40 - 0) < _; omega)
        · refine m_blk 48 [(5, vi z28), (4, vr 1 z23), (0, vr 0 0), (1, vi s), (2, vi p), (3, vi n)] [vi z28] C f_q_film_46_1 rfl ?_
          exact m_iret C Rm E e_q_film_48 ⟨z28, rfl, hT_n22, hF_n22, (by show -2147483648 ≤ z28 ∧ z28 ≤ 2147483647; omega), mi_n22⟩
      · subst e_n16
        clear hz_n16
        refine m_if_ne (tgt := 25) C e_q_film_19 (by decide) (by decide) (fun c42 => (by omega : False).elim) (fun c42 => ?_)
        refine m_blk 24 [(0, vr 0 0), (1, vi s), (2, vi p), (3, vi n)] [vi (-2)] C f_q_film_22_1 rfl ?_
        exact m_iret C Rm E e_q_film_24 ⟨(-2), rfl, hT, hE0, (by show -2147483648 ≤ (-2) ∧ (-2) ≤ 2147483647; omega), (hI.rm0 mEq.rfl' hI.2.2)⟩
    · subst e_n10
      clear hz_n10
      refine m_if_eq (tgt := 22) C e_q_film_12 (by decide) (by decide) (fun c43 => ?_) (fun c43 => (by omega : False).elim)
      refine m_blk 24 [(0, vr 0 0), (1, vi s), (2, vi p), (3, vi n)] [vi (-2)] C f_q_film_22_1 rfl ?_
      exact m_iret C Rm E e_q_film_24 ⟨(-2), rfl, hT, hE0, (by show -2147483648 ≤ (-2) ∧ (-2) ≤ 2147483647; omega), (hI.rm0 mEq.rfl' hI.2.2)⟩
  · subst e_n4
    clear hz_n4
    refine m_if_eq (tgt := 22) C e_q_film_4 (by decide) (by decide) (fun c44 => ?_) (fun c44 => (by omega : False).elim)
    refine m_blk 24 [(0, vr 0 0), (1, vi s), (2, vi p), (3, vi n)] [vi (-2)] C f_q_film_22_1 rfl ?_
    exact m_iret C Rm E e_q_film_24 ⟨(-2), rfl, hT, hE0, (by show -2147483648 ≤ (-2) ∧ (-2) ≤ 2147483647; omega), (hI.rm0 mEq.rfl' hI.2.2)⟩

theorem f_q_tells_0_1 : mblkB b_Mo_tells [(0, .iload_n 1, vi 0)] = true := by decide +kernel
theorem e_q_tells_1 : decode b_Mo_tells 1 = .ok (.invokestatic 422, 3) := by decide +kernel
theorem e_q_tells_4 : decode b_Mo_tells 4 = .ok (.ifCond .eq 28, 3) := by decide +kernel
theorem f_q_tells_7_2 : mblkB b_Mo_tells [(7, .aload_n 0, vi 0), (8, .iload_n 2, vi 0)] = true := by decide +kernel
theorem e_q_tells_9 : decode b_Mo_tells 9 = .ok (.invokevirtual 364, 3) := by decide +kernel
theorem e_q_tells_12 : decode b_Mo_tells 12 = .ok (.ifCond .eq 20, 3) := by decide +kernel
theorem f_q_tells_15_1 : mblkB b_Mo_tells [(15, .iload_n 3, vi 0)] = true := by decide +kernel
theorem e_q_tells_16 : decode b_Mo_tells 16 = .ok (.invokestatic 254, 3) := by decide +kernel
theorem e_q_tells_19 : decode b_Mo_tells 19 = .ok (.ifCond .eq 13, 3) := by decide +kernel
theorem f_q_tells_22_3 : mblkB b_Mo_tells [(22, .iload 4, vi 0), (24, .iconst 0, vi 0), (25, .iconst 3, vi 3)] = true := by decide +kernel
theorem e_q_tells_26 : decode b_Mo_tells 26 = .ok (.invokestatic 108, 3) := by decide +kernel
theorem e_q_tells_29 : decode b_Mo_tells 29 = .ok (.ifCond .ne 6, 3) := by decide +kernel
theorem f_q_tells_35_3 : mblkB b_Mo_tells [(35, .aload_n 0, vi 0), (36, .iload_n 2, vi 0), (37, .iconst (-1), vi (-1))] = true := by decide +kernel
theorem e_q_tells_38 : decode b_Mo_tells 38 = .ok (.invokevirtual 367, 3) := by decide +kernel
theorem f_q_tells_41_3 : mblkB b_Mo_tells [(41, .astore 5, vi 0), (43, .aload_n 0, vi 0), (44, .aload 5, vi 0)] = true := by decide +kernel
theorem e_q_tells_46 : decode b_Mo_tells 46 = .ok (.invokevirtual 380, 3) := by decide +kernel
theorem f_q_tells_49_2 : mblkB b_Mo_tells [(49, .istore 6, vi 0), (51, .iload 6, vi 0)] = true := by decide +kernel
theorem e_q_tells_53 : decode b_Mo_tells 53 = .ok (.ifCond .eq 6, 3) := by decide +kernel
theorem f_q_tells_59_1 : mblkB b_Mo_tells [(59, .aload_n 0, vi 0)] = true := by decide +kernel
theorem e_q_tells_60 : decode b_Mo_tells 60 = .ok (.getfield 92, 3) := by decide +kernel
theorem f_q_tells_63_1 : mblkB b_Mo_tells [(63, .iload_n 1, vi 0)] = true := by decide +kernel
theorem e_q_tells_64 : decode b_Mo_tells 64 = .ok (.iaload, 1) := by decide +kernel
theorem e_q_tells_65 : decode b_Mo_tells 65 = .ok (.ifCond .ge 6, 3) := by decide +kernel
theorem f_q_tells_71_1 : mblkB b_Mo_tells [(71, .aload_n 0, vi 0)] = true := by decide +kernel
theorem e_q_tells_72 : decode b_Mo_tells 72 = .ok (.getfield 95, 3) := by decide +kernel
theorem f_q_tells_75_1 : mblkB b_Mo_tells [(75, .iload_n 1, vi 0)] = true := by decide +kernel
theorem e_q_tells_76 : decode b_Mo_tells 76 = .ok (.iaload, 1) := by decide +kernel
theorem f_q_tells_77_1 : mblkB b_Mo_tells [(77, .bipush 10, vi 10)] = true := by decide +kernel
theorem e_q_tells_79 : decode b_Mo_tells 79 = .ok (.if_icmp .le 6, 3) := by decide +kernel
theorem f_q_tells_85_1 : mblkB b_Mo_tells [(85, .iload 4, vi 0)] = true := by decide +kernel
theorem e_q_tells_87 : decode b_Mo_tells 87 = .ok (.ifCond .ne 12, 3) := by decide +kernel
theorem f_q_tells_99_4 : mblkB b_Mo_tells [(99, .iconst 0, vi 0), (100, .istore 7, vi 0), (102, .iconst 0, vi 0), (103, .istore 8, vi 0)] = true := by decide +kernel
theorem f_q_tells_105_2 : mblkB b_Mo_tells [(105, .iload 4, vi 0), (107, .iconst 1, vi 1)] = true := by decide +kernel
theorem e_q_tells_108 : decode b_Mo_tells 108 = .ok (.if_icmp .ne 38, 3) := by decide +kernel
theorem f_q_tells_111_2 : mblkB b_Mo_tells [(111, .iload 8, vi 0), (113, .aload_n 0, vi 0)] = true := by decide +kernel
theorem e_q_tells_114 : decode b_Mo_tells 114 = .ok (.getfield 105, 3) := by decide +kernel
theorem e_q_tells_117 : decode b_Mo_tells 117 = .ok (.if_icmp .ge 29, 3) := by decide +kernel
theorem f_q_tells_146_2 : mblkB b_Mo_tells [(146, .iconst 0, vi 0), (147, .istore 8, vi 0)] = true := by decide +kernel
theorem f_q_tells_149_2 : mblkB b_Mo_tells [(149, .iload 4, vi 0), (151, .iconst 2, vi 2)] = true := by decide +kernel
theorem e_q_tells_152 : decode b_Mo_tells 152 = .ok (.if_icmp .ne 38, 3) := by decide +kernel
theorem f_q_tells_190_1 : mblkB b_Mo_tells [(190, .aload_n 0, vi 0)] = true := by decide +kernel
theorem e_q_tells_191 : decode b_Mo_tells 191 = .ok (.getfield 60, 3) := by decide +kernel
theorem f_q_tells_194_1 : mblkB b_Mo_tells [(194, .iconst 0, vi 0)] = true := by decide +kernel
theorem e_q_tells_195 : decode b_Mo_tells 195 = .ok (.iaload, 1) := by decide +kernel
theorem f_q_tells_196_3 : mblkB b_Mo_tells [(196, .istore 8, vi 0), (198, .iconst 0, vi 0), (199, .istore 9, vi 0)] = true := by decide +kernel
theorem f_q_tells_201_2 : mblkB b_Mo_tells [(201, .iload 4, vi 0), (203, .iconst 3, vi 3)] = true := by decide +kernel
theorem e_q_tells_204 : decode b_Mo_tells 204 = .ok (.if_icmp .ne 43, 3) := by decide +kernel
theorem f_q_tells_247_1 : mblkB b_Mo_tells [(247, .aload_n 0, vi 0)] = true := by decide +kernel
theorem e_q_tells_248 : decode b_Mo_tells 248 = .ok (.getfield 60, 3) := by decide +kernel
theorem f_q_tells_251_2 : mblkB b_Mo_tells [(251, .iconst 0, vi 0), (252, .iload 8, vi 0)] = true := by decide +kernel
theorem e_q_tells_254 : decode b_Mo_tells 254 = .ok (.iastore, 1) := by decide +kernel
theorem f_q_tells_255_1 : mblkB b_Mo_tells [(255, .iload 7, vi 0)] = true := by decide +kernel
theorem e_q_tells_257 : decode b_Mo_tells 257 = .ok (.ireturn, 1) := by decide +kernel
theorem f_q_tells_120_4 : mblkB b_Mo_tells [(120, .aload_n 0, vi 0), (121, .iload_n 1, vi 0), (122, .iload 8, vi 0), (124, .iload_n 3, vi 0)] = true := by decide +kernel
theorem e_q_tells_125 : decode b_Mo_tells 125 = .ok (.invokevirtual 425, 3) := by decide +kernel
theorem e_q_tells_128 : decode b_Mo_tells 128 = .ok (.ifCond .eq 12, 3) := by decide +kernel
theorem f_q_tells_140_2 : mblkB b_Mo_tells [(140, .iinc 8 1, vi 1), (143, .goto (-38), vi 105)] = true := by decide +kernel
theorem f_q_tells_131_5 : mblkB b_Mo_tells [(131, .iload 7, vi 0), (133, .iconst 1, vi 1), (134, .iload 8, vi 0), (136, .ishl, vi 0), (137, .ior, vi 0)] = true := by decide +kernel
theorem f_q_tells_138_3 : mblkB b_Mo_tells [(138, .istore 7, vi 0), (140, .iinc 8 1, vi 1), (143, .goto (-38), vi 105)] = true := by decide +kernel
theorem f_q_tells_155_2 : mblkB b_Mo_tells [(155, .iload 8, vi 0), (157, .bipush 6, vi 6)] = true := by decide +kernel
theorem e_q_tells_159 : decode b_Mo_tells 159 = .ok (.if_icmp .ge 31, 3) := by decide +kernel
theorem f_q_tells_162_4 : mblkB b_Mo_tells [(162, .aload_n 0, vi 0), (163, .iload_n 1, vi 0), (164, .aload 5, vi 0), (166, .iload 8, vi 0)] = true := by decide +kernel
theorem e_q_tells_168 : decode b_Mo_tells 168 = .ok (.invokevirtual 418, 3) := by decide +kernel
theorem f_q_tells_171_1 : mblkB b_Mo_tells [(171, .iconst (-1), vi (-1))] = true := by decide +kernel
theorem e_q_tells_172 : decode b_Mo_tells 172 = .ok (.if_icmp .ne 12, 3) := by decide +kernel
theorem f_q_tells_184_2 : mblkB b_Mo_tells [(184, .iinc 8 1, vi 1), (187, .goto (-38), vi 149)] = true := by decide +kernel
theorem f_q_tells_175_5 : mblkB b_Mo_tells [(175, .iload 7, vi 0), (177, .iconst 1, vi 1), (178, .iload 8, vi 0), (180, .ishl, vi 0), (181, .ior, vi 0)] = true := by decide +kernel
theorem f_q_tells_182_3 : mblkB b_Mo_tells [(182, .istore 7, vi 0), (184, .iinc 8 1, vi 1), (187, .goto (-38), vi 149)] = true := by decide +kernel
theorem f_q_tells_207_2 : mblkB b_Mo_tells [(207, .iload 9, vi 0), (209, .bipush 10, vi 10)] = true := by decide +kernel
theorem e_q_tells_211 : decode b_Mo_tells 211 = .ok (.if_icmp .ge 36, 3) := by decide +kernel
theorem f_q_tells_214_1 : mblkB b_Mo_tells [(214, .aload_n 0, vi 0)] = true := by decide +kernel
theorem e_q_tells_215 : decode b_Mo_tells 215 = .ok (.getfield 60, 3) := by decide +kernel
theorem f_q_tells_218_2 : mblkB b_Mo_tells [(218, .iconst 0, vi 0), (219, .iload 9, vi 0)] = true := by decide +kernel
theorem e_q_tells_221 : decode b_Mo_tells 221 = .ok (.iastore, 1) := by decide +kernel
theorem f_q_tells_222_4 : mblkB b_Mo_tells [(222, .aload_n 0, vi 0), (223, .iload_n 1, vi 0), (224, .iload_n 2, vi 0), (225, .iload_n 3, vi 0)] = true := by decide +kernel
theorem e_q_tells_226 : decode b_Mo_tells 226 = .ok (.invokevirtual 425, 3) := by decide +kernel
theorem e_q_tells_229 : decode b_Mo_tells 229 = .ok (.ifCond .eq 12, 3) := by decide +kernel
theorem f_q_tells_241_2 : mblkB b_Mo_tells [(241, .iinc 9 1, vi 1), (244, .goto (-43), vi 201)] = true := by decide +kernel
theorem f_q_tells_232_5 : mblkB b_Mo_tells [(232, .iload 7, vi 0), (234, .iconst 1, vi 1), (235, .iload 9, vi 0), (237, .ishl, vi 0), (238, .ior, vi 0)] = true := by decide +kernel
theorem f_q_tells_239_3 : mblkB b_Mo_tells [(239, .istore 7, vi 0), (241, .iinc 9 1, vi 1), (244, .goto (-43), vi 201)] = true := by decide +kernel
theorem f_q_tells_90_4 : mblkB b_Mo_tells [(90, .aload_n 0, vi 0), (91, .iload_n 1, vi 0), (92, .aload 5, vi 0), (94, .iload_n 3, vi 0)] = true := by decide +kernel
theorem e_q_tells_95 : decode b_Mo_tells 95 = .ok (.invokevirtual 418, 3) := by decide +kernel
theorem e_q_tells_98 : decode b_Mo_tells 98 = .ok (.ireturn, 1) := by decide +kernel
theorem f_q_tells_82_1 : mblkB b_Mo_tells [(82, .bipush (-2), vi (-2))] = true := by decide +kernel
theorem e_q_tells_84 : decode b_Mo_tells 84 = .ok (.ireturn, 1) := by decide +kernel
theorem f_q_tells_68_1 : mblkB b_Mo_tells [(68, .bipush (-11), vi (-11))] = true := by decide +kernel
theorem e_q_tells_70 : decode b_Mo_tells 70 = .ok (.ireturn, 1) := by decide +kernel
theorem f_q_tells_56_1 : mblkB b_Mo_tells [(56, .iload 6, vi 0)] = true := by decide +kernel
theorem e_q_tells_58 : decode b_Mo_tells 58 = .ok (.ireturn, 1) := by decide +kernel
theorem f_q_tells_32_1 : mblkB b_Mo_tells [(32, .bipush (-2), vi (-2))] = true := by decide +kernel
theorem e_q_tells_34 : decode b_Mo_tells 34 = .ok (.ireturn, 1) := by decide +kernel
set_option maxHeartbeats 40000000 in
set_option maxRecDepth 100000 in
theorem q_tells (l : Launch) (D : va_G) (B : Nat) (H0 : Heap) (ad : mAd) (A : mA) (hT : mTy A)  (s : Int) (p : Int) (n : Int) (w : Int) (hsr : -2147483648 ≤ s ∧ s ≤ 2147483647) (hpr : -2147483648 ≤ p ∧ p ≤ 2147483647) (hnr : -2147483648 ≤ n ∧ n ≤ 2147483647) (hwr : -2147483648 ≤ w ∧ w ≤ 2147483647) (hI : mI A)  : mMet l D B H0 ad y_Mo_tells b_Mo_tells 10 (some .int) 912 23600 [vr 0 0, vi s, vi p, vi n, vi w] A (fun v9 A9 => ∃ z : Int, v9 = some (vi z) ∧ mTy A9 ∧ mEq tm A A9 ∧ (-2147483648 ≤ z ∧ z ≤ 2147483647) ∧ (mI A9) ∧ (A9 8 0 0 = A 8 0 0)) := by
  refine m_met (by decide) rfl (fun g w0 C Rm Y E => ?_)
  have hE0 : mEq tm A A := mEq.rfl'
  show JM g D ad w0 A 0 [(0, vr 0 0), (1, vi s), (2, vi p), (3, vi n), (4, vi w)] []
  have r0 : 0 ≤ A 0 0 0 ∧ A 0 0 0 ≤ 6 := hT 0 0 0
  refine m_blk 1 [(0, vr 0 0), (1, vi s), (2, vi p), (3, vi n), (4, vi w)] [vi s] C f_q_tells_0_1 rfl ?_
  refine m_callS C Rm Y [vi s] [] (q_isSheet l D B H0 ad _ s (by show -2147483648 ≤ s ∧ s ≤ 2147483647; omega)) cl_Mo_422 e_q_tells_1 rfl rfl rfl ⟨by decide, by decide⟩ ?_
  rintro v1 A2 ⟨z5, rfl, rfl, raw_hz_n4⟩
  show JM g D ad w0 A 4 [(0, vr 0 0), (1, vi s), (2, vi p), (3, vi n), (4, vi w)] [vi z5]
  have hz_n4 : z5 = 1 ∧ 0 ≤ s ∧ s ≤ 3 ∨ z5 = 0 ∧ ¬ (0 ≤ s ∧ s ≤ 3) := raw_hz_n4
  clear raw_hz_n4
  rcases hz_n4 with ⟨e_n4, hz_n4⟩ | ⟨e_n4, hz_n4⟩
  · subst e_n4
    refine m_if_eq (tgt := 32) C e_q_tells_4 (by decide) (by decide) (fun c6 => (by omega : False).elim) (fun c6 => ?_)
    refine m_blk 9 [(0, vr 0 0), (1, vi s), (2, vi p), (3, vi n), (4, vi w)] [vi p, vr 0 0] C f_q_tells_7_2 rfl ?_
    refine m_callV C Rm Y [vi p] [] (q_isProgram l D B H0 ad _ hT p (by show -2147483648 ≤ p ∧ p ≤ 2147483647; omega)) cl_Mo_364 rfl (by decide) rfl rfl e_q_tells_9 rfl rfl rfl ⟨by decide, by decide⟩ ?_
    rintro v7 A8 ⟨z11, rfl, rfl, raw_hz_n10⟩
    show JM g D ad w0 A 12 [(0, vr 0 0), (1, vi s), (2, vi p), (3, vi n), (4, vi w)] [vi z11]
    have hz_n10 : z11 = 1 ∧ 0 ≤ p ∧ p < A 0 0 0 ∨ z11 = 0 ∧ ¬ (0 ≤ p ∧ p < A 0 0 0) := raw_hz_n10
    clear raw_hz_n10
    rcases hz_n10 with ⟨e_n10, hz_n10⟩ | ⟨e_n10, hz_n10⟩
    · subst e_n10
      refine m_if_eq (tgt := 32) C e_q_tells_12 (by decide) (by decide) (fun c12 => (by omega : False).elim) (fun c12 => ?_)
      refine m_blk 16 [(0, vr 0 0), (1, vi s), (2, vi p), (3, vi n), (4, vi w)] [vi n] C f_q_tells_15_1 rfl ?_
      refine m_callS C Rm Y [vi n] [] (q_isName l D B H0 ad _ n (by show -2147483648 ≤ n ∧ n ≤ 2147483647; omega)) cl_Mo_254 e_q_tells_16 rfl rfl rfl ⟨by decide, by decide⟩ ?_
      rintro v13 A14 ⟨z17, rfl, rfl, raw_hz_n16⟩
      show JM g D ad w0 A 19 [(0, vr 0 0), (1, vi s), (2, vi p), (3, vi n), (4, vi w)] [vi z17]
      have hz_n16 : z17 = 1 ∧ 0 ≤ n ∧ n ≤ 5 ∨ z17 = 0 ∧ ¬ (0 ≤ n ∧ n ≤ 5) := raw_hz_n16
      clear raw_hz_n16
      rcases hz_n16 with ⟨e_n16, hz_n16⟩ | ⟨e_n16, hz_n16⟩
      · subst e_n16
        refine m_if_eq (tgt := 32) C e_q_tells_19 (by decide) (by decide) (fun c18 => (by omega : False).elim) (fun c18 => ?_)
        refine m_blk 26 [(0, vr 0 0), (1, vi s), (2, vi p), (3, vi n), (4, vi w)] [vi 3, vi 0, vi w] C f_q_tells_22_3 rfl ?_
        refine m_callS C Rm Y [vi w, vi 0, vi 3] [] (q_in l D B H0 ad _ w 0 3 (by show -2147483648 ≤ w ∧ w ≤ 2147483647; omega) (by show -2147483648 ≤ 0 ∧ 0 ≤ 2147483647; omega) (by show -2147483648 ≤ 3 ∧ 3 ≤ 2147483647; omega)) cl_Mo_108 e_q_tells_26 rfl rfl rfl ⟨by decide, by decide⟩ ?_
        rintro v19 A20 ⟨z23, rfl, rfl, raw_hz_n22⟩
        show JM g D ad w0 A 29 [(0, vr 0 0), (1, vi s), (2, vi p), (3, vi n), (4, vi w)] [vi z23]
        have hz_n22 : z23 = 1 ∧ 0 ≤ w ∧ w ≤ 3 ∨ z23 = 0 ∧ ¬ (0 ≤ w ∧ w ≤ 3) := raw_hz_n22
        clear raw_hz_n22
        rcases hz_n22 with ⟨e_n22, hz_n22⟩ | ⟨e_n22, hz_n22⟩
        · subst e_n22
          refine m_if_ne (tgt := 35) C e_q_tells_29 (by decide) (by decide) (fun c24 => ?_) (fun c24 => (by omega : False).elim)
          refine m_blk 38 [(0, vr 0 0), (1, vi s), (2, vi p), (3, vi n), (4, vi w)] [vi (-1), vi p, vr 0 0] C f_q_tells_35_3 rfl ?_
          refine m_callV C Rm Y [vi p, vi (-1)] [] (q_odds l D B H0 ad _ hT p (-1) (by show 0 ≤ p ∧ p ≤ 5; omega) ((hI.ok (by omega)).rmk (show mEq (rm 0) A A from mEq.rfl')) (by show -2147483648 ≤ (-1) ∧ (-1) ≤ 2147483647; omega) hI.2.2) cl_Mo_367 rfl (by decide) rfl rfl e_q_tells_38 rfl rfl rfl ⟨by decide, by decide⟩ ?_
          rintro v25 A26 ⟨z29, rfl, hT_n28, hE_n28, raw_hz_n28, raw_hu_n28, raw_hO_n28, raw_hS_n28⟩
          have hF_n28 := hE0.trans (hE_n28.sub (rm_tm))
          have hz_n28 : 0 ≤ (z29 : Int) ∧ (z29 : Int) < A26 0 0 33 := raw_hz_n28
          clear raw_hz_n28
          have hu_n28 : A26 0 0 33 ≤ 24 := raw_hu_n28
          clear raw_hu_n28
          have hO_n28 : oG A26 z29 1125899906842624 := raw_hO_n28
          clear raw_hO_n28
          have hS_n28 : mS A26 := raw_hS_n28
          clear raw_hS_n28
          show JM g D ad w0 A26 41 [(0, vr 0 0), (1, vi s), (2, vi p), (3, vi n), (4, vi w)] [vr 1 z29]
          have mi_n28 : mI A26 := hI.rm0 hE_n28 hS_n28
          have st_n28 : A26 8 0 0 = A 8 0 0 := hE_n28 8 0 0 rfl
          refine m_blk 46 [(5, vr 1 z29), (0, vr 0 0), (1, vi s), (2, vi p), (3, vi n), (4, vi w)] [vr 1 z29, vr 0 0] C f_q_tells_41_3 rfl ?_
          refine m_callV C Rm Y [vr 1 z29] [] (q_against l D B H0 ad _ hT_n28 z29 (by show z29 < 200; omega)) cl_Mo_380 rfl (by decide) rfl rfl e_q_tells_46 rfl rfl rfl ⟨by decide, by decide⟩ ?_
          rintro v30 A31 ⟨z34, rfl, rfl, raw_hz_n33, raw_hn_n33⟩
          have hz_n33 : -7 ≤ z34 ∧ z34 ≤ 0 := raw_hz_n33
          clear raw_hz_n33
          have hn_n33 : nQ A26 z29 z34 := raw_hn_n33
          clear raw_hn_n33
          show JM g D ad w0 A26 49 [(5, vr 1 z29), (0, vr 0 0), (1, vi s), (2, vi p), (3, vi n), (4, vi w)] [vi z34]
          refine m_blk 53 [(6, vi z34), (5, vr 1 z29), (0, vr 0 0), (1, vi s), (2, vi p), (3, vi n), (4, vi w)] [vi z34] C f_q_tells_49_2 rfl ?_
          refine m_if_eq (tgt := 59) C e_q_tells_53 (by decide) (by omega) (fun c35 => ?_) (fun c35 => ?_)
          · refine m_blk 60 [(6, vi z34), (5, vr 1 z29), (0, vr 0 0), (1, vi s), (2, vi p), (3, vi n), (4, vi w)] [vr 0 0] C f_q_tells_59_1 rfl ?_
            refine m_getr C e_q_tells_60 fg_Mo_92 rfl (by decide) rfl ?_
            refine m_blk 64 [(6, vi z34), (5, vr 1 z29), (0, vr 0 0), (1, vi s), (2, vi p), (3, vi n), (4, vi w)] [vi s, vr 11 0] C f_q_tells_63_1 rfl ?_
            obtain ⟨x36, hx36⟩ : ∃ x, A26 11 0 s.toNat = x := ⟨_, rfl⟩
            have rx36 : (-1) ≤ x36 ∧ x36 ≤ 1 := mrg hT_n28 hx36 rfl
            refine m_iald C e_q_tells_64 rfl (by decide) (by decide) (by omega) (by show s < ((4 : Nat) : Int); omega) x36 hx36 ?_
            refine m_if_ge (tgt := 71) C e_q_tells_65 (by decide) (by omega) (fun c37 => ?_) (fun c37 => ?_)
            · refine m_blk 72 [(6, vi z34), (5, vr 1 z29), (0, vr 0 0), (1, vi s), (2, vi p), (3, vi n), (4, vi w)] [vr 0 0] C f_q_tells_71_1 rfl ?_
              refine m_getr C e_q_tells_72 fg_Mo_95 rfl (by decide) rfl ?_
              refine m_blk 76 [(6, vi z34), (5, vr 1 z29), (0, vr 0 0), (1, vi s), (2, vi p), (3, vi n), (4, vi w)] [vi s, vr 12 0] C f_q_tells_75_1 rfl ?_
              obtain ⟨x38, hx38⟩ : ∃ x, A26 12 0 s.toNat = x := ⟨_, rfl⟩
              have rx38 : 0 ≤ x38 ∧ x38 ≤ 40 := mrg hT_n28 hx38 rfl
              refine m_iald C e_q_tells_76 rfl (by decide) (by decide) (by omega) (by show s < ((4 : Nat) : Int); omega) x38 hx38 ?_
              refine m_blk 79 [(6, vi z34), (5, vr 1 z29), (0, vr 0 0), (1, vi s), (2, vi p), (3, vi n), (4, vi w)] [vi 10, vi x38] C f_q_tells_77_1 rfl ?_
              refine m_icmp_le (tgt := 85) C e_q_tells_79 (by decide) (by omega) (by decide) (fun c39 => ?_) (fun c39 => ?_)
              · have n1 := hn_n33 (by omega)
                refine m_blk 87 [(6, vi z34), (5, vr 1 z29), (0, vr 0 0), (1, vi s), (2, vi p), (3, vi n), (4, vi w)] [vi w] C f_q_tells_85_1 rfl ?_
                refine m_if_ne (tgt := 99) C e_q_tells_87 (by decide) (by omega) (fun c40 => ?_) (fun c40 => ?_)
                · rcases (show w = 1 ∨ w = 2 ∨ w = 3 from by omega) with wq | wq | wq
                  · refine m_blk 105 [(8, vi 0), (7, vi 0), (6, vi z34), (5, vr 1 z29), (0, vr 0 0), (1, vi s), (2, vi p), (3, vi n), (4, vi w)] [] C f_q_tells_99_4 rfl ?_
                    have hd_105 : ∀ (NZ : Nat) (A2 : mA) (k : Int) (t9 : Int), mTy A2 → mEq tm A A2 → mI A2 → A2 8 0 0 = A 8 0 0 → 0 ≤ k ∧ k ≤ 6 → -2147483648 ≤ t9 ∧ t9 ≤ 2147483647 → (40 - k) < (NZ : Int) → JM g D ad w0 A2 105 [(8, vi k), (7, vi t9), (5, vr 1 z29), (0, vr 0 0), (1, vi s), (2, vi p), (3, vi n), (4, vi w)] [] := by
                      intro NZ
                      induction NZ with
                      | zero => intro A2 k t9 hT2 hE2 hI2 hs2 hk2 ht2 hm105; exact absurd hm105 (by omega)
                      | succ NZ ih105 =>
                        intro A2 k t9 hT2 hE2 hI2 hs2 hk2 ht2 hm105
                        have e0 : A2 0 0 0 = A 0 0 0 := hE2 0 0 0 rfl
                        refine m_blk 108 [(8, vi k), (7, vi t9), (5, vr 1 z29), (0, vr 0 0), (1, vi s), (2, vi p), (3, vi n), (4, vi w)] [vi 1, vi w] C f_q_tells_105_2 rfl ?_
                        refine m_icmp_ne (tgt := 146) C e_q_tells_108 (by decide) (by omega) (by decide) (fun c41 => (by omega : False).elim) (fun c41 => ?_)
                        refine m_blk 114 [(8, vi k), (7, vi t9), (5, vr 1 z29), (0, vr 0 0), (1, vi s), (2, vi p), (3, vi n), (4, vi w)] [vr 0 0, vi k] C f_q_tells_111_2 rfl ?_
                        obtain ⟨x42, hx42⟩ : ∃ x, A2 0 0 0 = x := ⟨_, rfl⟩
                        have rx42 : 0 ≤ x42 ∧ x42 ≤ 6 := mrg hT2 hx42 rfl
                        refine m_geti C e_q_tells_114 fg_Mo_105 rfl (by decide) rfl x42 hx42 ?_
                        refine m_icmp_ge (tgt := 146) C e_q_tells_117 (by decide) (by omega) (by omega) (fun c43 => ?_) (fun c43 => ?_)
                        · refine m_blk 149 [(8, vi 0), (7, vi t9), (5, vr 1 z29), (0, vr 0 0), (1, vi s), (2, vi p), (3, vi n), (4, vi w)] [] C f_q_tells_146_2 rfl ?_
                          refine m_blk 152 [(8, vi 0), (7, vi t9), (5, vr 1 z29), (0, vr 0 0), (1, vi s), (2, vi p), (3, vi n), (4, vi w)] [vi 2, vi w] C f_q_tells_149_2 rfl ?_
                          refine m_icmp_ne (tgt := 190) C e_q_tells_152 (by decide) (by omega) (by decide) (fun c44 => ?_) (fun c44 => (by omega : False).elim)
                          refine m_blk 191 [(8, vi 0), (7, vi t9), (5, vr 1 z29), (0, vr 0 0), (1, vi s), (2, vi p), (3, vi n), (4, vi w)] [vr 0 0] C f_q_tells_190_1 rfl ?_
                          refine m_getr C e_q_tells_191 fg_Mo_60 rfl (by decide) rfl ?_
                          refine m_blk 195 [(8, vi 0), (7, vi t9), (5, vr 1 z29), (0, vr 0 0), (1, vi s), (2, vi p), (3, vi n), (4, vi w)] [vi 0, vr 8 0] C f_q_tells_194_1 rfl ?_
                          obtain ⟨x45, hx45⟩ : ∃ x, A2 8 0 0 = x := ⟨_, rfl⟩
                          have rx45 : 0 ≤ x45 ∧ x45 ≤ 9 := mrg hT2 hx45 rfl
                          refine m_iald C e_q_tells_195 rfl (by decide) (by decide) (by decide) (by decide) x45 hx45 ?_
                          refine m_blk 201 [(9, vi 0), (8, vi x45), (7, vi t9), (5, vr 1 z29), (0, vr 0 0), (1, vi s), (2, vi p), (3, vi n), (4, vi w)] [] C f_q_tells_196_3 rfl ?_
                          refine m_blk 204 [(9, vi 0), (8, vi x45), (7, vi t9), (5, vr 1 z29), (0, vr 0 0), (1, vi s), (2, vi p), (3, vi n), (4, vi w)] [vi 3, vi w] C f_q_tells_201_2 rfl ?_
                          refine m_icmp_ne (tgt := 247) C e_q_tells_204 (by decide) (by omega) (by decide) (fun c46 => ?_) (fun c46 => (by omega : False).elim)
                          refine m_blk 248 [(9, vi 0), (8, vi x45), (7, vi t9), (5, vr 1 z29), (0, vr 0 0), (1, vi s), (2, vi p), (3, vi n), (4, vi w)] [vr 0 0] C f_q_tells_247_1 rfl ?_
                          refine m_getr C e_q_tells_248 fg_Mo_60 rfl (by decide) rfl ?_
                          refine m_blk 254 [(9, vi 0), (8, vi x45), (7, vi t9), (5, vr 1 z29), (0, vr 0 0), (1, vi s), (2, vi p), (3, vi n), (4, vi w)] [vi x45, vi 0, vr 8 0] C f_q_tells_251_2 rfl ?_
                          refine m_iast C e_q_tells_254 rfl (by decide) (by decide) (by decide) (by decide) ?_
                          have t47 : mTy (mu A2 8 0 0 x45) := hT2.mu (by show 0 ≤ x45 ∧ x45 ≤ 9; omega)
                          have q48 := hE2.mu (f := 8) (k := 0) (j := 0) (z := x45) (by simp [tm])
                          refine m_blk 257 [(9, vi 0), (8, vi x45), (7, vi t9), (5, vr 1 z29), (0, vr 0 0), (1, vi s), (2, vi p), (3, vi n), (4, vi w)] [vi t9] C f_q_tells_255_1 rfl ?_
                          exact m_iret C Rm E e_q_tells_257 ⟨t9, rfl, t47, q48, (by show -2147483648 ≤ t9 ∧ t9 ≤ 2147483647; omega), (hI2.w49 (by omega)), (by show x45 = A 8 0 0; omega)⟩
                        · refine m_blk 125 [(8, vi k), (7, vi t9), (5, vr 1 z29), (0, vr 0 0), (1, vi s), (2, vi p), (3, vi n), (4, vi w)] [vi n, vi k, vi s, vr 0 0] C f_q_tells_120_4 rfl ?_
                          refine m_callV C Rm Y [vi s, vi k, vi n] [] (q_isSo l D B H0 ad _ hT2 s k n (by show 0 ≤ s ∧ s ≤ 3; omega) (by show 0 ≤ k ∧ k < A2 0 0 0; omega) (by show -1 ≤ n ∧ n ≤ 2147483647; omega) hI2) cl_Mo_425 rfl (by decide) rfl rfl e_q_tells_125 rfl rfl rfl ⟨by decide, by decide⟩ ?_
                          rintro v49 A50 ⟨z53, rfl, hT_n52, hE_n52, raw_hz_n52, raw_hI_n52⟩
                          have hF_n52 := hE2.trans (hE_n52.sub (rm_tm))
                          have hz_n52 : z53 = 0 ∨ z53 = 1 := raw_hz_n52
                          clear raw_hz_n52
                          have hI_n52 : mI A50 := raw_hI_n52
                          clear raw_hI_n52
                          show JM g D ad w0 A50 128 [(8, vi k), (7, vi t9), (5, vr 1 z29), (0, vr 0 0), (1, vi s), (2, vi p), (3, vi n), (4, vi w)] [vi z53]
                          have st_n52 : A50 8 0 0 = A2 8 0 0 := hE_n52 8 0 0 rfl
                          refine m_if_eq (tgt := 140) C e_q_tells_128 (by decide) (by omega) (fun c54 => ?_) (fun c54 => ?_)
                          · refine m_blk 105 [(8, vi (k + 1)), (7, vi t9), (5, vr 1 z29), (0, vr 0 0), (1, vi s), (2, vi p), (3, vi n), (4, vi w)] [] C f_q_tells_140_2 rfl ?_
                            refine m_loc [(8, vi (k + 1)), (7, vi t9), (5, vr 1 z29), (0, vr 0 0), (1, vi s), (2, vi p), (3, vi n), (4, vi w)] ⟨rfl, rfl, rfl, rfl, rfl, rfl, rfl, rfl, trivial⟩ ?_
                            exact ih105 A50 (k + 1) t9 hT_n52 hF_n52 hI_n52 (by show A50 8 0 0 = A 8 0 0; omega) (by show 0 ≤ (k + 1) ∧ (k + 1) ≤ 6; omega) (by show -2147483648 ≤ t9 ∧ t9 ≤ 2147483647; omega) (by show (40 - (k + 1)) < _; omega)
                          · refine m_blk 138 [(8, vi k), (7, vi t9), (5, vr 1 z29), (0, vr 0 0), (1, vi s), (2, vi p), (3, vi n), (4, vi w)] [vi (iOr t9 (iShl 1 k))] C f_q_tells_131_5 rfl ?_
                            refine m_nrm (fun y55 hy55 => ?_)
                            refine m_blk 105 [(8, vi (k + 1)), (7, vi y55), (5, vr 1 z29), (0, vr 0 0), (1, vi s), (2, vi p), (3, vi n), (4, vi w)] [] C f_q_tells_138_3 rfl ?_
                            refine m_loc [(8, vi (k + 1)), (7, vi y55), (5, vr 1 z29), (0, vr 0 0), (1, vi s), (2, vi p), (3, vi n), (4, vi w)] ⟨rfl, rfl, rfl, rfl, rfl, rfl, rfl, rfl, trivial⟩ ?_
                            exact ih105 A50 (k + 1) y55 hT_n52 hF_n52 hI_n52 (by show A50 8 0 0 = A 8 0 0; omega) (by show 0 ≤ (k + 1) ∧ (k + 1) ≤ 6; omega) (by show -2147483648 ≤ y55 ∧ y55 ≤ 2147483647; omega) (by show (40 - (k + 1)) < _; omega)
                    refine m_loc [(8, vi 0), (7, vi 0), (5, vr 1 z29), (0, vr 0 0), (1, vi s), (2, vi p), (3, vi n), (4, vi w)] ⟨rfl, rfl, rfl, rfl, rfl, rfl, rfl, rfl, trivial⟩ ?_
                    exact hd_105 (Int.toNat ((40 - 0)) + 1) A26 0 0 hT_n28 hF_n28 mi_n28 (by show A26 8 0 0 = A 8 0 0; omega) (by show 0 ≤ 0 ∧ 0 ≤ 6; omega) (by show -2147483648 ≤ 0 ∧ 0 ≤ 2147483647; omega) (by show (40 - 0) < _; omega)
                  · refine m_blk 105 [(8, vi 0), (7, vi 0), (6, vi z34), (5, vr 1 z29), (0, vr 0 0), (1, vi s), (2, vi p), (3, vi n), (4, vi w)] [] C f_q_tells_99_4 rfl ?_
                    refine m_blk 108 [(8, vi 0), (7, vi 0), (6, vi z34), (5, vr 1 z29), (0, vr 0 0), (1, vi s), (2, vi p), (3, vi n), (4, vi w)] [vi 1, vi w] C f_q_tells_105_2 rfl ?_
                    refine m_icmp_ne (tgt := 146) C e_q_tells_108 (by decide) (by omega) (by decide) (fun c56 => ?_) (fun c56 => (by omega : False).elim)
                    refine m_blk 149 [(8, vi 0), (7, vi 0), (6, vi z34), (5, vr 1 z29), (0, vr 0 0), (1, vi s), (2, vi p), (3, vi n), (4, vi w)] [] C f_q_tells_146_2 rfl ?_
                    have hd_149 : ∀ (NZ : Nat) (k : Int) (t9 : Int), 0 ≤ k ∧ k ≤ 6 → -2147483648 ≤ t9 ∧ t9 ≤ 2147483647 → (40 - k) < (NZ : Int) → JM g D ad w0 A26 149 [(8, vi k), (7, vi t9), (5, vr 1 z29), (0, vr 0 0), (1, vi s), (2, vi p), (3, vi n), (4, vi w)] [] := by
                      intro NZ
                      induction NZ with
                      | zero => intro k t9 hk2 ht2 hm149; exact absurd hm149 (by omega)
                      | succ NZ ih149 =>
                        intro k t9 hk2 ht2 hm149
                        refine m_blk 152 [(8, vi k), (7, vi t9), (5, vr 1 z29), (0, vr 0 0), (1, vi s), (2, vi p), (3, vi n), (4, vi w)] [vi 2, vi w] C f_q_tells_149_2 rfl ?_
                        refine m_icmp_ne (tgt := 190) C e_q_tells_152 (by decide) (by omega) (by decide) (fun c57 => (by omega : False).elim) (fun c57 => ?_)
                        refine m_blk 159 [(8, vi k), (7, vi t9), (5, vr 1 z29), (0, vr 0 0), (1, vi s), (2, vi p), (3, vi n), (4, vi w)] [vi 6, vi k] C f_q_tells_155_2 rfl ?_
                        refine m_icmp_ge (tgt := 190) C e_q_tells_159 (by decide) (by omega) (by decide) (fun c58 => ?_) (fun c58 => ?_)
                        · refine m_blk 191 [(8, vi k), (7, vi t9), (5, vr 1 z29), (0, vr 0 0), (1, vi s), (2, vi p), (3, vi n), (4, vi w)] [vr 0 0] C f_q_tells_190_1 rfl ?_
                          refine m_getr C e_q_tells_191 fg_Mo_60 rfl (by decide) rfl ?_
                          refine m_blk 195 [(8, vi k), (7, vi t9), (5, vr 1 z29), (0, vr 0 0), (1, vi s), (2, vi p), (3, vi n), (4, vi w)] [vi 0, vr 8 0] C f_q_tells_194_1 rfl ?_
                          obtain ⟨x59, hx59⟩ : ∃ x, A26 8 0 0 = x := ⟨_, rfl⟩
                          have rx59 : 0 ≤ x59 ∧ x59 ≤ 9 := mrg hT_n28 hx59 rfl
                          refine m_iald C e_q_tells_195 rfl (by decide) (by decide) (by decide) (by decide) x59 hx59 ?_
                          refine m_blk 201 [(9, vi 0), (8, vi x59), (7, vi t9), (5, vr 1 z29), (0, vr 0 0), (1, vi s), (2, vi p), (3, vi n), (4, vi w)] [] C f_q_tells_196_3 rfl ?_
                          refine m_blk 204 [(9, vi 0), (8, vi x59), (7, vi t9), (5, vr 1 z29), (0, vr 0 0), (1, vi s), (2, vi p), (3, vi n), (4, vi w)] [vi 3, vi w] C f_q_tells_201_2 rfl ?_
                          refine m_icmp_ne (tgt := 247) C e_q_tells_204 (by decide) (by omega) (by decide) (fun c60 => ?_) (fun c60 => (by omega : False).elim)
                          refine m_blk 248 [(9, vi 0), (8, vi x59), (7, vi t9), (5, vr 1 z29), (0, vr 0 0), (1, vi s), (2, vi p), (3, vi n), (4, vi w)] [vr 0 0] C f_q_tells_247_1 rfl ?_
                          refine m_getr C e_q_tells_248 fg_Mo_60 rfl (by decide) rfl ?_
                          refine m_blk 254 [(9, vi 0), (8, vi x59), (7, vi t9), (5, vr 1 z29), (0, vr 0 0), (1, vi s), (2, vi p), (3, vi n), (4, vi w)] [vi x59, vi 0, vr 8 0] C f_q_tells_251_2 rfl ?_
                          refine m_iast C e_q_tells_254 rfl (by decide) (by decide) (by decide) (by decide) ?_
                          have t61 : mTy (mu A26 8 0 0 x59) := hT_n28.mu (by show 0 ≤ x59 ∧ x59 ≤ 9; omega)
                          have q62 := hF_n28.mu (f := 8) (k := 0) (j := 0) (z := x59) (by simp [tm])
                          refine m_blk 257 [(9, vi 0), (8, vi x59), (7, vi t9), (5, vr 1 z29), (0, vr 0 0), (1, vi s), (2, vi p), (3, vi n), (4, vi w)] [vi t9] C f_q_tells_255_1 rfl ?_
                          exact m_iret C Rm E e_q_tells_257 ⟨t9, rfl, t61, q62, (by show -2147483648 ≤ t9 ∧ t9 ≤ 2147483647; omega), (mi_n28.w49 (by omega)), (by show x59 = A 8 0 0; omega)⟩
                        · refine m_blk 168 [(8, vi k), (7, vi t9), (5, vr 1 z29), (0, vr 0 0), (1, vi s), (2, vi p), (3, vi n), (4, vi w)] [vi k, vr 1 z29, vi s, vr 0 0] C f_q_tells_162_4 rfl ?_
                          refine m_callV C Rm Y [vi s, vr 1 z29, vi k] [] (q_otherwise l D B H0 ad _ hT_n28 1125899906842624 s z29 k (by show 0 ≤ s ∧ s ≤ 3; omega) (by show z29 < 200; omega) hO_n28 (by show 0 ≤ 1125899906842624 ∧ 1125899906842624 ≤ 1125899906842624; omega) (by show -1 ≤ k ∧ k ≤ 2147483647; omega) n1) cl_Mo_418 rfl (by decide) rfl rfl e_q_tells_168 rfl rfl rfl ⟨by decide, by decide⟩ ?_
                          rintro v63 A64 ⟨z67, rfl, rfl, raw_hz_n66⟩
                          have hz_n66 : -1 ≤ z67 ∧ z67 ≤ 40 := raw_hz_n66
                          clear raw_hz_n66
                          show JM g D ad w0 A26 171 [(8, vi k), (7, vi t9), (5, vr 1 z29), (0, vr 0 0), (1, vi s), (2, vi p), (3, vi n), (4, vi w)] [vi z67]
                          refine m_blk 172 [(8, vi k), (7, vi t9), (5, vr 1 z29), (0, vr 0 0), (1, vi s), (2, vi p), (3, vi n), (4, vi w)] [vi (-1), vi z67] C f_q_tells_171_1 rfl ?_
                          refine m_icmp_ne (tgt := 184) C e_q_tells_172 (by decide) (by omega) (by decide) (fun c68 => ?_) (fun c68 => ?_)
                          · refine m_blk 149 [(8, vi (k + 1)), (7, vi t9), (5, vr 1 z29), (0, vr 0 0), (1, vi s), (2, vi p), (3, vi n), (4, vi w)] [] C f_q_tells_184_2 rfl ?_
                            refine m_loc [(8, vi (k + 1)), (7, vi t9), (5, vr 1 z29), (0, vr 0 0), (1, vi s), (2, vi p), (3, vi n), (4, vi w)] ⟨rfl, rfl, rfl, rfl, rfl, rfl, rfl, rfl, trivial⟩ ?_
                            exact ih149 (k + 1) t9 (by show 0 ≤ (k + 1) ∧ (k + 1) ≤ 6; omega) (by show -2147483648 ≤ t9 ∧ t9 ≤ 2147483647; omega) (by show (40 - (k + 1)) < _; omega)
                          · refine m_blk 182 [(8, vi k), (7, vi t9), (5, vr 1 z29), (0, vr 0 0), (1, vi s), (2, vi p), (3, vi n), (4, vi w)] [vi (iOr t9 (iShl 1 k))] C f_q_tells_175_5 rfl ?_
                            refine m_nrm (fun y69 hy69 => ?_)
                            refine m_blk 149 [(8, vi (k + 1)), (7, vi y69), (5, vr 1 z29), (0, vr 0 0), (1, vi s), (2, vi p), (3, vi n), (4, vi w)] [] C f_q_tells_182_3 rfl ?_
                            refine m_loc [(8, vi (k + 1)), (7, vi y69), (5, vr 1 z29), (0, vr 0 0), (1, vi s), (2, vi p), (3, vi n), (4, vi w)] ⟨rfl, rfl, rfl, rfl, rfl, rfl, rfl, rfl, trivial⟩ ?_
                            exact ih149 (k + 1) y69 (by show 0 ≤ (k + 1) ∧ (k + 1) ≤ 6; omega) (by show -2147483648 ≤ y69 ∧ y69 ≤ 2147483647; omega) (by show (40 - (k + 1)) < _; omega)
                    refine m_loc [(8, vi 0), (7, vi 0), (5, vr 1 z29), (0, vr 0 0), (1, vi s), (2, vi p), (3, vi n), (4, vi w)] ⟨rfl, rfl, rfl, rfl, rfl, rfl, rfl, rfl, trivial⟩ ?_
                    exact hd_149 (Int.toNat ((40 - 0)) + 1) 0 0 (by show 0 ≤ 0 ∧ 0 ≤ 6; omega) (by show -2147483648 ≤ 0 ∧ 0 ≤ 2147483647; omega) (by show (40 - 0) < _; omega)
                  · refine m_blk 105 [(8, vi 0), (7, vi 0), (6, vi z34), (5, vr 1 z29), (0, vr 0 0), (1, vi s), (2, vi p), (3, vi n), (4, vi w)] [] C f_q_tells_99_4 rfl ?_
                    refine m_blk 108 [(8, vi 0), (7, vi 0), (6, vi z34), (5, vr 1 z29), (0, vr 0 0), (1, vi s), (2, vi p), (3, vi n), (4, vi w)] [vi 1, vi w] C f_q_tells_105_2 rfl ?_
                    refine m_icmp_ne (tgt := 146) C e_q_tells_108 (by decide) (by omega) (by decide) (fun c70 => ?_) (fun c70 => (by omega : False).elim)
                    refine m_blk 149 [(8, vi 0), (7, vi 0), (6, vi z34), (5, vr 1 z29), (0, vr 0 0), (1, vi s), (2, vi p), (3, vi n), (4, vi w)] [] C f_q_tells_146_2 rfl ?_
                    refine m_blk 152 [(8, vi 0), (7, vi 0), (6, vi z34), (5, vr 1 z29), (0, vr 0 0), (1, vi s), (2, vi p), (3, vi n), (4, vi w)] [vi 2, vi w] C f_q_tells_149_2 rfl ?_
                    refine m_icmp_ne (tgt := 190) C e_q_tells_152 (by decide) (by omega) (by decide) (fun c71 => ?_) (fun c71 => (by omega : False).elim)
                    refine m_blk 191 [(8, vi 0), (7, vi 0), (6, vi z34), (5, vr 1 z29), (0, vr 0 0), (1, vi s), (2, vi p), (3, vi n), (4, vi w)] [vr 0 0] C f_q_tells_190_1 rfl ?_
                    refine m_getr C e_q_tells_191 fg_Mo_60 rfl (by decide) rfl ?_
                    refine m_blk 195 [(8, vi 0), (7, vi 0), (6, vi z34), (5, vr 1 z29), (0, vr 0 0), (1, vi s), (2, vi p), (3, vi n), (4, vi w)] [vi 0, vr 8 0] C f_q_tells_194_1 rfl ?_
                    obtain ⟨x72, hx72⟩ : ∃ x, A26 8 0 0 = x := ⟨_, rfl⟩
                    have rx72 : 0 ≤ x72 ∧ x72 ≤ 9 := mrg hT_n28 hx72 rfl
                    refine m_iald C e_q_tells_195 rfl (by decide) (by decide) (by decide) (by decide) x72 hx72 ?_
                    refine m_blk 201 [(9, vi 0), (8, vi x72), (7, vi 0), (6, vi z34), (5, vr 1 z29), (0, vr 0 0), (1, vi s), (2, vi p), (3, vi n), (4, vi w)] [] C f_q_tells_196_3 rfl ?_
                    have hd_201 : ∀ (NZ : Nat) (A2 : mA) (k : Int) (t9 : Int), mTy A2 → mEq tm A A2 → mI A2 → 0 ≤ k ∧ k ≤ 10 → -2147483648 ≤ t9 ∧ t9 ≤ 2147483647 → (40 - k) < (NZ : Int) → JM g D ad w0 A2 201 [(9, vi k), (7, vi t9), (8, vi x72), (5, vr 1 z29), (0, vr 0 0), (1, vi s), (2, vi p), (3, vi n), (4, vi w)] [] := by
                      intro NZ
                      induction NZ with
                      | zero => intro A2 k t9 hT2 hE2 hI2 hk2 ht2 hm201; exact absurd hm201 (by omega)
                      | succ NZ ih201 =>
                        intro A2 k t9 hT2 hE2 hI2 hk2 ht2 hm201
                        have e0 : A2 0 0 0 = A 0 0 0 := hE2 0 0 0 rfl
                        refine m_blk 204 [(9, vi k), (7, vi t9), (8, vi x72), (5, vr 1 z29), (0, vr 0 0), (1, vi s), (2, vi p), (3, vi n), (4, vi w)] [vi 3, vi w] C f_q_tells_201_2 rfl ?_
                        refine m_icmp_ne (tgt := 247) C e_q_tells_204 (by decide) (by omega) (by decide) (fun c73 => (by omega : False).elim) (fun c73 => ?_)
                        refine m_blk 211 [(9, vi k), (7, vi t9), (8, vi x72), (5, vr 1 z29), (0, vr 0 0), (1, vi s), (2, vi p), (3, vi n), (4, vi w)] [vi 10, vi k] C f_q_tells_207_2 rfl ?_
                        refine m_icmp_ge (tgt := 247) C e_q_tells_211 (by decide) (by omega) (by decide) (fun c74 => ?_) (fun c74 => ?_)
                        · refine m_blk 248 [(9, vi k), (7, vi t9), (8, vi x72), (5, vr 1 z29), (0, vr 0 0), (1, vi s), (2, vi p), (3, vi n), (4, vi w)] [vr 0 0] C f_q_tells_247_1 rfl ?_
                          refine m_getr C e_q_tells_248 fg_Mo_60 rfl (by decide) rfl ?_
                          refine m_blk 254 [(9, vi k), (7, vi t9), (8, vi x72), (5, vr 1 z29), (0, vr 0 0), (1, vi s), (2, vi p), (3, vi n), (4, vi w)] [vi x72, vi 0, vr 8 0] C f_q_tells_251_2 rfl ?_
                          refine m_iast C e_q_tells_254 rfl (by decide) (by decide) (by decide) (by decide) ?_
                          have t75 : mTy (mu A2 8 0 0 x72) := hT2.mu (by show 0 ≤ x72 ∧ x72 ≤ 9; omega)
                          have q76 := hE2.mu (f := 8) (k := 0) (j := 0) (z := x72) (by simp [tm])
                          refine m_blk 257 [(9, vi k), (7, vi t9), (8, vi x72), (5, vr 1 z29), (0, vr 0 0), (1, vi s), (2, vi p), (3, vi n), (4, vi w)] [vi t9] C f_q_tells_255_1 rfl ?_
                          exact m_iret C Rm E e_q_tells_257 ⟨t9, rfl, t75, q76, (by show -2147483648 ≤ t9 ∧ t9 ≤ 2147483647; omega), (hI2.w49 (by omega)), (by show x72 = A 8 0 0; omega)⟩
                        · refine m_blk 215 [(9, vi k), (7, vi t9), (8, vi x72), (5, vr 1 z29), (0, vr 0 0), (1, vi s), (2, vi p), (3, vi n), (4, vi w)] [vr 0 0] C f_q_tells_214_1 rfl ?_
                          refine m_getr C e_q_tells_215 fg_Mo_60 rfl (by decide) rfl ?_
                          refine m_blk 221 [(9, vi k), (7, vi t9), (8, vi x72), (5, vr 1 z29), (0, vr 0 0), (1, vi s), (2, vi p), (3, vi n), (4, vi w)] [vi k, vi 0, vr 8 0] C f_q_tells_218_2 rfl ?_
                          refine m_iast C e_q_tells_221 rfl (by decide) (by decide) (by decide) (by decide) ?_
                          have t77 : mTy (mu A2 8 0 0 k) := hT2.mu (by show 0 ≤ k ∧ k ≤ 9; omega)
                          have q78 := hE2.mu (f := 8) (k := 0) (j := 0) (z := k) (by simp [tm])
                          refine m_blk 226 [(9, vi k), (7, vi t9), (8, vi x72), (5, vr 1 z29), (0, vr 0 0), (1, vi s), (2, vi p), (3, vi n), (4, vi w)] [vi n, vi p, vi s, vr 0 0] C f_q_tells_222_4 rfl ?_
                          refine m_callV C Rm Y [vi s, vi p, vi n] [] (q_isSo l D B H0 ad _ t77 s p n (by show 0 ≤ s ∧ s ≤ 3; omega) (by show 0 ≤ p ∧ p < A2 0 0 0; omega) (by show -1 ≤ n ∧ n ≤ 2147483647; omega) (hI2.w49 (by omega))) cl_Mo_425 rfl (by decide) rfl rfl e_q_tells_226 rfl rfl rfl ⟨by decide, by decide⟩ ?_
                          rintro v79 A80 ⟨z83, rfl, hT_n82, hE_n82, raw_hz_n82, raw_hI_n82⟩
                          have hF_n82 := q78.trans (hE_n82.sub (rm_tm))
                          have hz_n82 : z83 = 0 ∨ z83 = 1 := raw_hz_n82
                          clear raw_hz_n82
                          have hI_n82 : mI A80 := raw_hI_n82
                          clear raw_hI_n82
                          show JM g D ad w0 A80 229 [(9, vi k), (7, vi t9), (8, vi x72), (5, vr 1 z29), (0, vr 0 0), (1, vi s), (2, vi p), (3, vi n), (4, vi w)] [vi z83]
                          refine m_if_eq (tgt := 241) C e_q_tells_229 (by decide) (by omega) (fun c84 => ?_) (fun c84 => ?_)
                          · refine m_blk 201 [(9, vi (k + 1)), (7, vi t9), (8, vi x72), (5, vr 1 z29), (0, vr 0 0), (1, vi s), (2, vi p), (3, vi n), (4, vi w)] [] C f_q_tells_241_2 rfl ?_
                            refine m_loc [(9, vi (k + 1)), (7, vi t9), (8, vi x72), (5, vr 1 z29), (0, vr 0 0), (1, vi s), (2, vi p), (3, vi n), (4, vi w)] ⟨rfl, rfl, rfl, rfl, rfl, rfl, rfl, rfl, rfl, trivial⟩ ?_
                            exact ih201 A80 (k + 1) t9 hT_n82 hF_n82 hI_n82 (by show 0 ≤ (k + 1) ∧ (k + 1) ≤ 10; omega) (by show -2147483648 ≤ t9 ∧ t9 ≤ 2147483647; omega) (by show (40 - (k + 1)) < _; omega)
                          · refine m_blk 239 [(9, vi k), (7, vi t9), (8, vi x72), (5, vr 1 z29), (0, vr 0 0), (1, vi s), (2, vi p), (3, vi n), (4, vi w)] [vi (iOr t9 (iShl 1 k))] C f_q_tells_232_5 rfl ?_
                            refine m_nrm (fun y85 hy85 => ?_)
                            refine m_blk 201 [(9, vi (k + 1)), (7, vi y85), (8, vi x72), (5, vr 1 z29), (0, vr 0 0), (1, vi s), (2, vi p), (3, vi n), (4, vi w)] [] C f_q_tells_239_3 rfl ?_
                            refine m_loc [(9, vi (k + 1)), (7, vi y85), (8, vi x72), (5, vr 1 z29), (0, vr 0 0), (1, vi s), (2, vi p), (3, vi n), (4, vi w)] ⟨rfl, rfl, rfl, rfl, rfl, rfl, rfl, rfl, rfl, trivial⟩ ?_
                            exact ih201 A80 (k + 1) y85 hT_n82 hF_n82 hI_n82 (by show 0 ≤ (k + 1) ∧ (k + 1) ≤ 10; omega) (by show -2147483648 ≤ y85 ∧ y85 ≤ 2147483647; omega) (by show (40 - (k + 1)) < _; omega)
                    refine m_loc [(9, vi 0), (7, vi 0), (8, vi x72), (5, vr 1 z29), (0, vr 0 0), (1, vi s), (2, vi p), (3, vi n), (4, vi w)] ⟨rfl, rfl, rfl, rfl, rfl, rfl, rfl, rfl, rfl, trivial⟩ ?_
                    exact hd_201 (Int.toNat ((40 - 0)) + 1) A26 0 0 hT_n28 hF_n28 mi_n28 (by show 0 ≤ 0 ∧ 0 ≤ 10; omega) (by show -2147483648 ≤ 0 ∧ 0 ≤ 2147483647; omega) (by show (40 - 0) < _; omega)
                · refine m_blk 95 [(6, vi z34), (5, vr 1 z29), (0, vr 0 0), (1, vi s), (2, vi p), (3, vi n), (4, vi w)] [vi n, vr 1 z29, vi s, vr 0 0] C f_q_tells_90_4 rfl ?_
                  refine m_callV C Rm Y [vi s, vr 1 z29, vi n] [] (q_otherwise l D B H0 ad _ hT_n28 1125899906842624 s z29 n (by show 0 ≤ s ∧ s ≤ 3; omega) (by show z29 < 200; omega) hO_n28 (by show 0 ≤ 1125899906842624 ∧ 1125899906842624 ≤ 1125899906842624; omega) (by show -1 ≤ n ∧ n ≤ 2147483647; omega) n1) cl_Mo_418 rfl (by decide) rfl rfl e_q_tells_95 rfl rfl rfl ⟨by decide, by decide⟩ ?_
                  rintro v86 A87 ⟨z90, rfl, rfl, raw_hz_n89⟩
                  have hz_n89 : -1 ≤ z90 ∧ z90 ≤ 40 := raw_hz_n89
                  clear raw_hz_n89
                  show JM g D ad w0 A26 98 [(6, vi z34), (5, vr 1 z29), (0, vr 0 0), (1, vi s), (2, vi p), (3, vi n), (4, vi w)] [vi z90]
                  exact m_iret C Rm E e_q_tells_98 ⟨z90, rfl, hT_n28, hF_n28, (by show -2147483648 ≤ z90 ∧ z90 ≤ 2147483647; omega), mi_n28, (by show A26 8 0 0 = A 8 0 0; omega)⟩
              · refine m_blk 84 [(6, vi z34), (5, vr 1 z29), (0, vr 0 0), (1, vi s), (2, vi p), (3, vi n), (4, vi w)] [vi (-2)] C f_q_tells_82_1 rfl ?_
                exact m_iret C Rm E e_q_tells_84 ⟨(-2), rfl, hT_n28, hF_n28, (by show -2147483648 ≤ (-2) ∧ (-2) ≤ 2147483647; omega), mi_n28, (by show A26 8 0 0 = A 8 0 0; omega)⟩
            · refine m_blk 70 [(6, vi z34), (5, vr 1 z29), (0, vr 0 0), (1, vi s), (2, vi p), (3, vi n), (4, vi w)] [vi (-11)] C f_q_tells_68_1 rfl ?_
              exact m_iret C Rm E e_q_tells_70 ⟨(-11), rfl, hT_n28, hF_n28, (by show -2147483648 ≤ (-11) ∧ (-11) ≤ 2147483647; omega), mi_n28, (by show A26 8 0 0 = A 8 0 0; omega)⟩
          · refine m_blk 58 [(6, vi z34), (5, vr 1 z29), (0, vr 0 0), (1, vi s), (2, vi p), (3, vi n), (4, vi w)] [vi z34] C f_q_tells_56_1 rfl ?_
            exact m_iret C Rm E e_q_tells_58 ⟨z34, rfl, hT_n28, hF_n28, (by show -2147483648 ≤ z34 ∧ z34 ≤ 2147483647; omega), mi_n28, (by show A26 8 0 0 = A 8 0 0; omega)⟩
        · subst e_n22
          clear hz_n22
          refine m_if_ne (tgt := 35) C e_q_tells_29 (by decide) (by decide) (fun c91 => (by omega : False).elim) (fun c91 => ?_)
          refine m_blk 34 [(0, vr 0 0), (1, vi s), (2, vi p), (3, vi n), (4, vi w)] [vi (-2)] C f_q_tells_32_1 rfl ?_
          exact m_iret C Rm E e_q_tells_34 ⟨(-2), rfl, hT, hE0, (by show -2147483648 ≤ (-2) ∧ (-2) ≤ 2147483647; omega), (hI.rm0 mEq.rfl' hI.2.2), (by show A 8 0 0 = A 8 0 0; omega)⟩
      · subst e_n16
        clear hz_n16
        refine m_if_eq (tgt := 32) C e_q_tells_19 (by decide) (by decide) (fun c92 => ?_) (fun c92 => (by omega : False).elim)
        refine m_blk 34 [(0, vr 0 0), (1, vi s), (2, vi p), (3, vi n), (4, vi w)] [vi (-2)] C f_q_tells_32_1 rfl ?_
        exact m_iret C Rm E e_q_tells_34 ⟨(-2), rfl, hT, hE0, (by show -2147483648 ≤ (-2) ∧ (-2) ≤ 2147483647; omega), (hI.rm0 mEq.rfl' hI.2.2), (by show A 8 0 0 = A 8 0 0; omega)⟩
    · subst e_n10
      clear hz_n10
      refine m_if_eq (tgt := 32) C e_q_tells_12 (by decide) (by decide) (fun c93 => ?_) (fun c93 => (by omega : False).elim)
      refine m_blk 34 [(0, vr 0 0), (1, vi s), (2, vi p), (3, vi n), (4, vi w)] [vi (-2)] C f_q_tells_32_1 rfl ?_
      exact m_iret C Rm E e_q_tells_34 ⟨(-2), rfl, hT, hE0, (by show -2147483648 ≤ (-2) ∧ (-2) ≤ 2147483647; omega), (hI.rm0 mEq.rfl' hI.2.2), (by show A 8 0 0 = A 8 0 0; omega)⟩
  · subst e_n4
    clear hz_n4
    refine m_if_eq (tgt := 32) C e_q_tells_4 (by decide) (by decide) (fun c94 => ?_) (fun c94 => (by omega : False).elim)
    refine m_blk 34 [(0, vr 0 0), (1, vi s), (2, vi p), (3, vi n), (4, vi w)] [vi (-2)] C f_q_tells_32_1 rfl ?_
    exact m_iret C Rm E e_q_tells_34 ⟨(-2), rfl, hT, hE0, (by show -2147483648 ≤ (-2) ∧ (-2) ≤ 2147483647; omega), (hI.rm0 mEq.rfl' hI.2.2), (by show A 8 0 0 = A 8 0 0; omega)⟩
