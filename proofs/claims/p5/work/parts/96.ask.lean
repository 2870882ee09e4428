/-! the reference: questions on odds (own work, by program) -/
def nQ (A : mA) (k : Nat) (z : Int) : Prop := z = 0 → 1 ≤ A 1 k 2
theorem f_q_weightOf_0_4 : mblkB b_Mo_weightOf [(0, .lconst 0, vl 0), (1, .lstore_n 3, vi 0), (2, .iconst 0, vi 0), (3, .istore 5, vi 0)] = true := by decide +kernel
theorem f_q_weightOf_5_2 : mblkB b_Mo_weightOf [(5, .iload 5, vi 0), (7, .aload_n 0, vi 0)] = true := by decide +kernel
theorem e_q_weightOf_8 : decode b_Mo_weightOf 8 = .ok (.getfield 272, 3) := by decide +kernel
theorem e_q_weightOf_11 : decode b_Mo_weightOf 11 = .ok (.if_icmp .ge 34, 3) := by decide +kernel
theorem f_q_weightOf_45_1 : mblkB b_Mo_weightOf [(45, .lload_n 3, vi 0)] = true := by decide +kernel
theorem e_q_weightOf_46 : decode b_Mo_weightOf 46 = .ok (.lreturn, 1) := by decide +kernel
theorem f_q_weightOf_14_1 : mblkB b_Mo_weightOf [(14, .aload_n 0, vi 0)] = true := by decide +kernel
theorem e_q_weightOf_15 : decode b_Mo_weightOf 15 = .ok (.getfield 279, 3) := by decide +kernel
theorem f_q_weightOf_18_1 : mblkB b_Mo_weightOf [(18, .iload 5, vi 0)] = true := by decide +kernel
theorem e_q_weightOf_20 : decode b_Mo_weightOf 20 = .ok (.iaload, 1) := by decide +kernel
theorem f_q_weightOf_21_1 : mblkB b_Mo_weightOf [(21, .iload_n 1, vi 0)] = true := by decide +kernel
theorem e_q_weightOf_22 : decode b_Mo_weightOf 22 = .ok (.invokestatic 260, 3) := by decide +kernel
theorem f_q_weightOf_25_1 : mblkB b_Mo_weightOf [(25, .iload_n 2, vi 0)] = true := by decide +kernel
theorem e_q_weightOf_26 : decode b_Mo_weightOf 26 = .ok (.if_icmp .ne 13, 3) := by decide +kernel
theorem f_q_weightOf_39_2 : mblkB b_Mo_weightOf [(39, .iinc 5 1, vi 1), (42, .goto (-37), vi 5)] = true := by decide +kernel
theorem f_q_weightOf_29_2 : mblkB b_Mo_weightOf [(29, .lload_n 3, vi 0), (30, .aload_n 0, vi 0)] = true := by decide +kernel
theorem e_q_weightOf_31 : decode b_Mo_weightOf 31 = .ok (.getfield 285, 3) := by decide +kernel
theorem f_q_weightOf_34_1 : mblkB b_Mo_weightOf [(34, .iload 5, vi 0)] = true := by decide +kernel
theorem e_q_weightOf_36 : decode b_Mo_weightOf 36 = .ok (.laload, 1) := by decide +kernel
theorem f_q_weightOf_37_4 : mblkB b_Mo_weightOf [(37, .ladd, vi 0), (38, .lstore_n 3, vi 0), (39, .iinc 5 1, vi 1), (42, .goto (-37), vi 5)] = true := by decide +kernel
set_option maxHeartbeats 40000000 in
set_option maxRecDepth 100000 in
theorem q_weightOf (l : Launch) (D : va_G) (B : Nat) (H0 : Heap) (ad : mAd) (A : mA) (hT : mTy A) (T : Int) (ki : Nat) (n : Int) (v : Int) (hk : ki < 200) (hO : oG A ki T) (hT9 : 0 ≤ T ∧ T ≤ 1125899906842624) (hn : -1 ≤ n ∧ n ≤ 2147483647) (hv : -2147483648 ≤ v ∧ v ≤ 2147483647)  : mMet l D B H0 ad y_Mo_weightOf b_Mo_weightOf 6 (some .long) 2 120 [vr 1 ki, vi n, vi v] A (fun v9 A9 => ∃ z : Int, v9 = some (vl z) ∧ A = A9 ∧ (0 ≤ z ∧ z ≤ T)) := by
  refine m_met (by decide) rfl (fun g w0 C Rm Y E => ?_)
  show JM g D ad w0 A 0 [(0, vr 1 ki), (1, vi n), (2, vi v)] []
  have rk9 : 0 ≤ A 1 ki 2 ∧ A 1 ki 2 ≤ 301 := hT 1 ki 2
  obtain ⟨SJ, hSJ⟩ : ∃ f : Int → Int, ∀ j, f j = ws (A 4 ki) 0 (Int.toNat j) := ⟨_, fun _ => rfl⟩
  have t19 := (hO.tot rk9.1).2
  have z1 : SJ 0 = 0 := by rw [hSJ]; rfl
  refine m_blk 5 [(5, vi 0), (3, vl 0), (0, vr 1 ki), (1, vi n), (2, vi v)] [] C f_q_weightOf_0_4 rfl ?_
  have hd_5 : ∀ (NZ : Nat) (j : Int) (s : Int), 0 ≤ j ∧ j ≤ A 1 ki 2 → 0 ≤ s ∧ s ≤ SJ j → (400 - j) < (NZ : Int) → JM g D ad w0 A 5 [(5, vi j), (3, vl s), (0, vr 1 ki), (1, vi n), (2, vi v)] [] := by
    intro NZ
    induction NZ with
    | zero => intro j s hj hs hm5; exact absurd hm5 (by omega)
    | succ NZ ih5 =>
      intro j s hj hs hm5
      refine m_blk 8 [(5, vi j), (3, vl s), (0, vr 1 ki), (1, vi n), (2, vi v)] [vr 1 ki, vi j] C f_q_weightOf_5_2 rfl ?_
      obtain ⟨x1, hx1⟩ : ∃ x, A 1 ki 2 = x := ⟨_, rfl⟩
      have rx1 : 0 ≤ x1 ∧ x1 ≤ 301 := mrg hT hx1 rfl
      refine m_getiN C e_q_weightOf_8 fg_Mo_272 rfl (by omega) rfl x1 hx1 ?_
      refine m_icmp_ge (tgt := 45) C e_q_weightOf_11 (by decide) (by omega) (by omega) (fun c2 => ?_) (fun c2 => ?_)
      · refine m_blk 46 [(5, vi j), (3, vl s), (0, vr 1 ki), (1, vi n), (2, vi v)] [vl s] C f_q_weightOf_45_1 rfl ?_
        exact m_lret C Rm E e_q_weightOf_46 ⟨s, rfl, rfl, (by have e9 : j = A 1 ki 2 := (by omega); rw [hSJ, e9] at hs; omega)⟩
      · have pz9 : 0 ≤ SJ j ∧ SJ j ≤ SJ (j + 1) := by
          have h9 := hO.part (j := j) (by omega) (by omega)
          rw [hSJ, hSJ]
          omega
        refine m_blk 15 [(5, vi j), (3, vl s), (0, vr 1 ki), (1, vi n), (2, vi v)] [vr 1 ki] C f_q_weightOf_14_1 rfl ?_
        refine m_getrN C e_q_weightOf_15 fg_Mo_279 rfl (by omega) rfl ?_
        refine m_blk 20 [(5, vi j), (3, vl s), (0, vr 1 ki), (1, vi n), (2, vi v)] [vi j, vr 3 ki] C f_q_weightOf_18_1 rfl ?_
        obtain ⟨x3, hx3⟩ : ∃ x, A 3 ki j.toNat = x := ⟨_, rfl⟩
        have rx3 : 0 ≤ x3 ∧ x3 ≤ 9999999 := mrg hT hx3 rfl
        refine m_iald C e_q_weightOf_20 rfl (by omega) (by decide) (by omega) (by show j < ((301 : Nat) : Int); omega) x3 hx3 ?_
        refine m_blk 22 [(5, vi j), (3, vl s), (0, vr 1 ki), (1, vi n), (2, vi v)] [vi n, vi x3] C f_q_weightOf_21_1 rfl ?_
        refine m_callS C Rm Y [vi x3, vi n] [] (q_valueOf l D B H0 ad _ x3 n (by show 0 ≤ x3 ∧ x3 ≤ 2147483647; omega) (by show -1 ≤ n ∧ n ≤ 2147483647; omega)) cl_Mo_260 e_q_weightOf_22 rfl rfl rfl ⟨by decide, by decide⟩ ?_
        rintro v4 A5 ⟨z8, rfl, rfl, raw_hz_n7⟩
        have hz_n7 : z8 = dg x3 n ∧ 0 ≤ z8 ∧ z8 ≤ 9 := raw_hz_n7
        clear raw_hz_n7
        show JM g D ad w0 A 25 [(5, vi j), (3, vl s), (0, vr 1 ki), (1, vi n), (2, vi v)] [vi z8]
        refine m_blk 26 [(5, vi j), (3, vl s), (0, vr 1 ki), (1, vi n), (2, vi v)] [vi v, vi z8] C f_q_weightOf_25_1 rfl ?_
        refine m_icmp_ne (tgt := 39) C e_q_weightOf_26 (by decide) (by omega) (by omega) (fun c9 => ?_) (fun c9 => ?_)
        · refine m_blk 5 [(5, vi (j + 1)), (3, vl s), (0, vr 1 ki), (1, vi n), (2, vi v)] [] C f_q_weightOf_39_2 rfl ?_
          refine m_loc [(5, vi (j + 1)), (3, vl s), (0, vr 1 ki), (1, vi n), (2, vi v)] ⟨rfl, rfl, rfl, rfl, rfl, trivial⟩ ?_
          exact ih5 (j + 1) s (by show 0 ≤ (j + 1) ∧ (j + 1) ≤ A 1 ki 2; omega) (by show 0 ≤ s ∧ s ≤ SJ (j + 1); omega) (by show (400 - (j + 1)) < _; omega)
        · refine m_blk 31 [(5, vi j), (3, vl s), (0, vr 1 ki), (1, vi n), (2, vi v)] [vr 1 ki, vl s] C f_q_weightOf_29_2 rfl ?_
          refine m_getrN C e_q_weightOf_31 fg_Mo_285 rfl (by omega) rfl ?_
          refine m_blk 36 [(5, vi j), (3, vl s), (0, vr 1 ki), (1, vi n), (2, vi v)] [vi j, vr 4 ki, vl s] C f_q_weightOf_34_1 rfl ?_
          obtain ⟨x10, hx10⟩ : ∃ x, A 4 ki j.toNat = x := ⟨_, rfl⟩
          have rx10 : (-9223372036854775808) ≤ x10 ∧ x10 ≤ 9223372036854775807 := mrg hT hx10 rfl
          have pw9 : 0 ≤ SJ j ∧ 1 ≤ A 4 ki (Int.toNat j) ∧ SJ j + A 4 ki (Int.toNat j) ≤ T ∧ SJ (j + 1) = SJ j + A 4 ki (Int.toNat j) := by rw [hSJ, hSJ]; exact hO.part (j := j) (by omega) (by omega)
          rw [hx10] at pw9
          refine m_lald C e_q_weightOf_36 rfl (by omega) (by decide) (by omega) (by show j < ((301 : Nat) : Int); omega) x10 hx10 ?_
          refine m_blk 5 [(5, vi (j + 1)), (3, vl (s + x10)), (0, vr 1 ki), (1, vi n), (2, vi v)] [] C f_q_weightOf_37_4 rfl ?_
          refine m_loc [(5, vi (j + 1)), (3, vl (s + x10)), (0, vr 1 ki), (1, vi n), (2, vi v)] ⟨rfl, rfl, rfl, rfl, rfl, trivial⟩ ?_
          exact ih5 (j + 1) (s + x10) (by show 0 ≤ (j + 1) ∧ (j + 1) ≤ A 1 ki 2; omega) (by show 0 ≤ (s + x10) ∧ (s + x10) ≤ SJ (j + 1); omega) (by show (400 - (j + 1)) < _; omega)
  refine m_loc [(5, vi 0), (3, vl 0), (0, vr 1 ki), (1, vi n), (2, vi v)] ⟨rfl, rfl, rfl, rfl, rfl, trivial⟩ ?_
  exact hd_5 (Int.toNat ((400 - 0)) + 1) 0 0 (by show 0 ≤ 0 ∧ 0 ≤ A 1 ki 2; omega) (by show 0 ≤ 0 ∧ 0 ≤ SJ 0; omega) (by show (400 - 0) < _; omega)

theorem f_q_both_0_4 : mblkB b_Mo_both [(0, .lconst 0, vl 0), (1, .lstore 5, vi 0), (3, .iconst 0, vi 0), (4, .istore 7, vi 0)] = true := by decide +kernel
theorem f_q_both_6_2 : mblkB b_Mo_both [(6, .iload 7, vi 0), (8, .aload_n 0, vi 0)] = true := by decide +kernel
theorem e_q_both_9 : decode b_Mo_both 9 = .ok (.getfield 272, 3) := by decide +kernel
theorem e_q_both_12 : decode b_Mo_both 12 = .ok (.if_icmp .ge 52, 3) := by decide +kernel
theorem f_q_both_64_1 : mblkB b_Mo_both [(64, .lload 5, vi 0)] = true := by decide +kernel
theorem e_q_both_66 : decode b_Mo_both 66 = .ok (.lreturn, 1) := by decide +kernel
theorem f_q_both_15_1 : mblkB b_Mo_both [(15, .aload_n 0, vi 0)] = true := by decide +kernel
theorem e_q_both_16 : decode b_Mo_both 16 = .ok (.getfield 279, 3) := by decide +kernel
theorem f_q_both_19_1 : mblkB b_Mo_both [(19, .iload 7, vi 0)] = true := by decide +kernel
theorem e_q_both_21 : decode b_Mo_both 21 = .ok (.iaload, 1) := by decide +kernel
theorem f_q_both_22_1 : mblkB b_Mo_both [(22, .iload_n 1, vi 0)] = true := by decide +kernel
theorem e_q_both_23 : decode b_Mo_both 23 = .ok (.invokestatic 260, 3) := by decide +kernel
theorem f_q_both_26_1 : mblkB b_Mo_both [(26, .iload_n 2, vi 0)] = true := by decide +kernel
theorem e_q_both_27 : decode b_Mo_both 27 = .ok (.if_icmp .ne 31, 3) := by decide +kernel
theorem f_q_both_58_2 : mblkB b_Mo_both [(58, .iinc 7 1, vi 1), (61, .goto (-55), vi 6)] = true := by decide +kernel
theorem f_q_both_30_1 : mblkB b_Mo_both [(30, .aload_n 0, vi 0)] = true := by decide +kernel
theorem e_q_both_31 : decode b_Mo_both 31 = .ok (.getfield 279, 3) := by decide +kernel
theorem f_q_both_34_1 : mblkB b_Mo_both [(34, .iload 7, vi 0)] = true := by decide +kernel
theorem e_q_both_36 : decode b_Mo_both 36 = .ok (.iaload, 1) := by decide +kernel
theorem f_q_both_37_1 : mblkB b_Mo_both [(37, .iload_n 3, vi 0)] = true := by decide +kernel
theorem e_q_both_38 : decode b_Mo_both 38 = .ok (.invokestatic 260, 3) := by decide +kernel
theorem f_q_both_41_1 : mblkB b_Mo_both [(41, .iload 4, vi 0)] = true := by decide +kernel
theorem e_q_both_43 : decode b_Mo_both 43 = .ok (.if_icmp .ne 15, 3) := by decide +kernel
theorem f_q_both_46_2 : mblkB b_Mo_both [(46, .lload 5, vi 0), (48, .aload_n 0, vi 0)] = true := by decide +kernel
theorem e_q_both_49 : decode b_Mo_both 49 = .ok (.getfield 285, 3) := by decide +kernel
theorem f_q_both_52_1 : mblkB b_Mo_both [(52, .iload 7, vi 0)] = true := by decide +kernel
theorem e_q_both_54 : decode b_Mo_both 54 = .ok (.laload, 1) := by decide +kernel
theorem f_q_both_55_4 : mblkB b_Mo_both [(55, .ladd, vi 0), (56, .lstore 5, vi 0), (58, .iinc 7 1, vi 1), (61, .goto (-55), vi 6)] = true := by decide +kernel
set_option maxHeartbeats 40000000 in
set_option maxRecDepth 100000 in
theorem q_both (l : Launch) (D : va_G) (B : Nat) (H0 : Heap) (ad : mAd) (A : mA) (hT : mTy A) (T : Int) (ki : Nat) (n : Int) (v : Int) (m : Int) (x : Int) (hk : ki < 200) (hO : oG A ki T) (hT9 : 0 ≤ T ∧ T ≤ 1125899906842624) (hn : -1 ≤ n ∧ n ≤ 2147483647) (hv : -2147483648 ≤ v ∧ v ≤ 2147483647) (hm : -1 ≤ m ∧ m ≤ 2147483647) (hx : -2147483648 ≤ x ∧ x ≤ 2147483647)  : mMet l D B H0 ad y_Mo_both b_Mo_both 8 (some .long) 2 120 [vr 1 ki, vi n, vi v, vi m, vi x] A (fun v9 A9 => ∃ z : Int, v9 = some (vl z) ∧ A = A9 ∧ (0 ≤ z ∧ z ≤ T)) := by
  refine m_met (by decide) rfl (fun g w0 C Rm Y E => ?_)
  show JM g D ad w0 A 0 [(0, vr 1 ki), (1, vi n), (2, vi v), (3, vi m), (4, vi x)] []
  have rk9 : 0 ≤ A 1 ki 2 ∧ A 1 ki 2 ≤ 301 := hT 1 ki 2
  obtain ⟨SJ, hSJ⟩ : ∃ f : Int → Int, ∀ j, f j = ws (A 4 ki) 0 (Int.toNat j) := ⟨_, fun _ => rfl⟩
  have t19 := (hO.tot rk9.1).2
  have z1 : SJ 0 = 0 := by rw [hSJ]; rfl
  refine m_blk 6 [(7, vi 0), (5, vl 0), (0, vr 1 ki), (1, vi n), (2, vi v), (3, vi m), (4, vi x)] [] C f_q_both_0_4 rfl ?_
  have hd_6 : ∀ (NZ : Nat) (j : Int) (s : Int), 0 ≤ j ∧ j ≤ A 1 ki 2 → 0 ≤ s ∧ s ≤ SJ j → (400 - j) < (NZ : Int) → JM g D ad w0 A 6 [(7, vi j), (5, vl s), (0, vr 1 ki), (1, vi n), (2, vi v), (3, vi m), (4, vi x)] [] := by
    intro NZ
    induction NZ with
    | zero => intro j s hj hs hm6; exact absurd hm6 (by omega)
    | succ NZ ih6 =>
      intro j s hj hs hm6
      refine m_blk 9 [(7, vi j), (5, vl s), (0, vr 1 ki), (1, vi n), (2, vi v), (3, vi m), (4, vi x)] [vr 1 ki, vi j] C f_q_both_6_2 rfl ?_
      obtain ⟨x1, hx1⟩ : ∃ x, A 1 ki 2 = x := ⟨_, rfl⟩
      have rx1 : 0 ≤ x1 ∧ x1 ≤ 301 := mrg hT hx1 rfl
      refine m_getiN C e_q_both_9 fg_Mo_272 rfl (by omega) rfl x1 hx1 ?_
      refine m_icmp_ge (tgt := 64) C e_q_both_12 (by decide) (by omega) (by omega) (fun c2 => ?_) (fun c2 => ?_)
      · refine m_blk 66 [(7, vi j), (5, vl s), (0, vr 1 ki), (1, vi n), (2, vi v), (3, vi m), (4, vi x)] [vl s] C f_q_both_64_1 rfl ?_
        exact m_lret C Rm E e_q_both_66 ⟨s, rfl, rfl, (by have e9 : j = A 1 ki 2 := (by omega); rw [hSJ, e9] at hs; omega)⟩
      · have pz9 : 0 ≤ SJ j ∧ SJ j ≤ SJ (j + 1) := by
          have h9 := hO.part (j := j) (by omega) (by omega)
          rw [hSJ, hSJ]
          omega
        refine m_blk 16 [(7, vi j), (5, vl s), (0, vr 1 ki), (1, vi n), (2, vi v), (3, vi m), (4, vi x)] [vr 1 ki] C f_q_both_15_1 rfl ?_
        refine m_getrN C e_q_both_16 fg_Mo_279 rfl (by omega) rfl ?_
        refine m_blk 21 [(7, vi j), (5, vl s), (0, vr 1 ki), (1, vi n), (2, vi v), (3, vi m), (4, vi x)] [vi j, vr 3 ki] C f_q_both_19_1 rfl ?_
        obtain ⟨x3, hx3⟩ : ∃ x, A 3 ki j.toNat = x := ⟨_, rfl⟩
        have rx3 : 0 ≤ x3 ∧ x3 ≤ 9999999 := mrg hT hx3 rfl
        refine m_iald C e_q_both_21 rfl (by omega) (by decide) (by omega) (by show j < ((301 : Nat) : Int); omega) x3 hx3 ?_
        refine m_blk 23 [(7, vi j), (5, vl s), (0, vr 1 ki), (1, vi n), (2, vi v), (3, vi m), (4, vi x)] [vi n, vi x3] C f_q_both_22_1 rfl ?_
        refine m_callS C Rm Y [vi x3, vi n] [] (q_valueOf l D B H0 ad _ x3 n (by show 0 ≤ x3 ∧ x3 ≤ 2147483647; omega) (by show -1 ≤ n ∧ n ≤ 2147483647; omega)) cl_Mo_260 e_q_both_23 rfl rfl rfl ⟨by decide, by decide⟩ ?_
        rintro v4 A5 ⟨z8, rfl, rfl, raw_hz_n7⟩
        have hz_n7 : z8 = dg x3 n ∧ 0 ≤ z8 ∧ z8 ≤ 9 := raw_hz_n7
        clear raw_hz_n7
        show JM g D ad w0 A 26 [(7, vi j), (5, vl s), (0, vr 1 ki), (1, vi n), (2, vi v), (3, vi m), (4, vi x)] [vi z8]
        refine m_blk 27 [(7, vi j), (5, vl s), (0, vr 1 ki), (1, vi n), (2, vi v), (3, vi m), (4, vi x)] [vi v, vi z8] C f_q_both_26_1 rfl ?_
        refine m_icmp_ne (tgt := 58) C e_q_both_27 (by decide) (by omega) (by omega) (fun c9 => ?_) (fun c9 => ?_)
        · refine m_blk 6 [(7, vi (j + 1)), (5, vl s), (0, vr 1 ki), (1, vi n), (2, vi v), (3, vi m), (4, vi x)] [] C f_q_both_58_2 rfl ?_
          refine m_loc [(7, vi (j + 1)), (5, vl s), (0, vr 1 ki), (1, vi n), (2, vi v), (3, vi m), (4, vi x)] ⟨rfl, rfl, rfl, rfl, rfl, rfl, rfl, trivial⟩ ?_
          exact ih6 (j + 1) s (by show 0 ≤ (j + 1) ∧ (j + 1) ≤ A 1 ki 2; omega) (by show 0 ≤ s ∧ s ≤ SJ (j + 1); omega) (by show (400 - (j + 1)) < _; omega)
        · refine m_blk 31 [(7, vi j), (5, vl s), (0, vr 1 ki), (1, vi n), (2, vi v), (3, vi m), (4, vi x)] [vr 1 ki] C f_q_both_30_1 rfl ?_
          refine m_getrN C e_q_both_31 fg_Mo_279 rfl (by omega) rfl ?_
          refine m_blk 36 [(7, vi j), (5, vl s), (0, vr 1 ki), (1, vi n), (2, vi v), (3, vi m), (4, vi x)] [vi j, vr 3 ki] C f_q_both_34_1 rfl ?_
          refine m_iald C e_q_both_36 rfl (by omega) (by decide) (by omega) (by show j < ((301 : Nat) : Int); omega) x3 hx3 ?_
          refine m_blk 38 [(7, vi j), (5, vl s), (0, vr 1 ki), (1, vi n), (2, vi v), (3, vi m), (4, vi x)] [vi m, vi x3] C f_q_both_37_1 rfl ?_
          refine m_callS C Rm Y [vi x3, vi m] [] (q_valueOf l D B H0 ad _ x3 m (by show 0 ≤ x3 ∧ x3 ≤ 2147483647; omega) (by show -1 ≤ m ∧ m ≤ 2147483647; omega)) cl_Mo_260 e_q_both_38 rfl rfl rfl ⟨by decide, by decide⟩ ?_
          rintro v10 A11 ⟨z14, rfl, rfl, raw_hz_n13⟩
          have hz_n13 : z14 = dg x3 m ∧ 0 ≤ z14 ∧ z14 ≤ 9 := raw_hz_n13
          clear raw_hz_n13
          show JM g D ad w0 A 41 [(7, vi j), (5, vl s), (0, vr 1 ki), (1, vi n), (2, vi v), (3, vi m), (4, vi x)] [vi z14]
          refine m_blk 43 [(7, vi j), (5, vl s), (0, vr 1 ki), (1, vi n), (2, vi v), (3, vi m), (4, vi x)] [vi x, vi z14] C f_q_both_41_1 rfl ?_
          refine m_icmp_ne (tgt := 58) C e_q_both_43 (by decide) (by omega) (by omega) (fun c15 => ?_) (fun c15 => ?_)
          · refine m_blk 6 [(7, vi (j + 1)), (5, vl s), (0, vr 1 ki), (1, vi n), (2, vi v), (3, vi m), (4, vi x)] [] C f_q_both_58_2 rfl ?_
            refine m_loc [(7, vi (j + 1)), (5, vl s), (0, vr 1 ki), (1, vi n), (2, vi v), (3, vi m), (4, vi x)] ⟨rfl, rfl, rfl, rfl, rfl, rfl, rfl, trivial⟩ ?_
            exact ih6 (j + 1) s (by show 0 ≤ (j + 1) ∧ (j + 1) ≤ A 1 ki 2; omega) (by show 0 ≤ s ∧ s ≤ SJ (j + 1); omega) (by show (400 - (j + 1)) < _; omega)
          · refine m_blk 49 [(7, vi j), (5, vl s), (0, vr 1 ki), (1, vi n), (2, vi v), (3, vi m), (4, vi x)] [vr 1 ki, vl s] C f_q_both_46_2 rfl ?_
            refine m_getrN C e_q_both_49 fg_Mo_285 rfl (by omega) rfl ?_
            refine m_blk 54 [(7, vi j), (5, vl s), (0, vr 1 ki), (1, vi n), (2, vi v), (3, vi m), (4, vi x)] [vi j, vr 4 ki, vl s] C f_q_both_52_1 rfl ?_
            obtain ⟨x16, hx16⟩ : ∃ x, A 4 ki j.toNat = x := ⟨_, rfl⟩
            have rx16 : (-9223372036854775808) ≤ x16 ∧ x16 ≤ 9223372036854775807 := mrg hT hx16 rfl
            have pw9 : 0 ≤ SJ j ∧ 1 ≤ A 4 ki (Int.toNat j) ∧ SJ j + A 4 ki (Int.toNat j) ≤ T ∧ SJ (j + 1) = SJ j + A 4 ki (Int.toNat j) := by rw [hSJ, hSJ]; exact hO.part (j := j) (by omega) (by omega)
            rw [hx16] at pw9
            refine m_lald C e_q_both_54 rfl (by omega) (by decide) (by omega) (by show j < ((301 : Nat) : Int); omega) x16 hx16 ?_
            refine m_blk 6 [(7, vi (j + 1)), (5, vl (s + x16)), (0, vr 1 ki), (1, vi n), (2, vi v), (3, vi m), (4, vi x)] [] C f_q_both_55_4 rfl ?_
            refine m_loc [(7, vi (j + 1)), (5, vl (s + x16)), (0, vr 1 ki), (1, vi n), (2, vi v), (3, vi m), (4, vi x)] ⟨rfl, rfl, rfl, rfl, rfl, rfl, rfl, trivial⟩ ?_
            exact ih6 (j + 1) (s + x16) (by show 0 ≤ (j + 1) ∧ (j + 1) ≤ A 1 ki 2; omega) (by show 0 ≤ (s + x16) ∧ (s + x16) ≤ SJ (j + 1); omega) (by show (400 - (j + 1)) < _; omega)
  refine m_loc [(7, vi 0), (5, vl 0), (0, vr 1 ki), (1, vi n), (2, vi v), (3, vi m), (4, vi x)] ⟨rfl, rfl, rfl, rfl, rfl, rfl, rfl, trivial⟩ ?_
  exact hd_6 (Int.toNat ((400 - 0)) + 1) 0 0 (by show 0 ≤ 0 ∧ 0 ≤ A 1 ki 2; omega) (by show 0 ≤ 0 ∧ 0 ≤ SJ 0; omega) (by show (400 - 0) < _; omega)

theorem f_q_against_0_1 : mblkB b_Mo_against [(0, .aload_n 0, vi 0)] = true := by decide +kernel
theorem e_q_against_1 : decode b_Mo_against 1 = .ok (.getfield 297, 3) := by decide +kernel
theorem e_q_against_4 : decode b_Mo_against 4 = .ok (.ifCond .eq 8, 3) := by decide +kernel
theorem f_q_against_12_1 : mblkB b_Mo_against [(12, .aload_n 1, vi 0)] = true := by decide +kernel
theorem e_q_against_13 : decode b_Mo_against 13 = .ok (.getfield 272, 3) := by decide +kernel
theorem e_q_against_16 : decode b_Mo_against 16 = .ok (.ifCond .ne 8, 3) := by decide +kernel
theorem f_q_against_24_1 : mblkB b_Mo_against [(24, .iconst 0, vi 0)] = true := by decide +kernel
theorem e_q_against_25 : decode b_Mo_against 25 = .ok (.ireturn, 1) := by decide +kernel
theorem f_q_against_19_2 : mblkB b_Mo_against [(19, .bipush (-7), vi (-7)), (21, .goto 4, vi 25)] = true := by decide +kernel
theorem f_q_against_7_2 : mblkB b_Mo_against [(7, .bipush (-6), vi (-6)), (9, .goto 16, vi 25)] = true := by decide +kernel
set_option maxHeartbeats 40000000 in
set_option maxRecDepth 100000 in
theorem q_against (l : Launch) (D : va_G) (B : Nat) (H0 : Heap) (ad : mAd) (A : mA) (hT : mTy A)  (ki : Nat) (hk : ki < 200)  : mMet l D B H0 ad y_Mo_against b_Mo_against 2 (some .int) 0 0 [vr 0 0, vr 1 ki] A (fun v9 A9 => ∃ z : Int, v9 = some (vi z) ∧ A = A9 ∧ (-7 ≤ z ∧ z ≤ 0) ∧ (nQ A ki z)) := by
  refine m_met (by decide) rfl (fun g w0 C Rm Y E => ?_)
  show JM g D ad w0 A 0 [(0, vr 0 0), (1, vr 1 ki)] []
  have rk9 : 0 ≤ A 1 ki 2 ∧ A 1 ki 2 ≤ 301 := hT 1 ki 2
  refine m_blk 1 [(0, vr 0 0), (1, vr 1 ki)] [vr 0 0] C f_q_against_0_1 rfl ?_
  obtain ⟨x1, hx1⟩ : ∃ x, A 0 0 34 = x := ⟨_, rfl⟩
  have rx1 : 0 ≤ x1 ∧ x1 ≤ 1 := mrg hT hx1 rfl
  refine m_geti C e_q_against_1 fg_Mo_297 rfl (by decide) rfl x1 hx1 ?_
  refine m_if_eq (tgt := 12) C e_q_against_4 (by decide) (by omega) (fun c2 => ?_) (fun c2 => ?_)
  · refine m_blk 13 [(0, vr 0 0), (1, vr 1 ki)] [vr 1 ki] C f_q_against_12_1 rfl ?_
    obtain ⟨x3, hx3⟩ : ∃ x, A 1 ki 2 = x := ⟨_, rfl⟩
    have rx3 : 0 ≤ x3 ∧ x3 ≤ 301 := mrg hT hx3 rfl
    refine m_getiN C e_q_against_13 fg_Mo_272 rfl (by omega) rfl x3 hx3 ?_
    refine m_if_ne (tgt := 24) C e_q_against_16 (by decide) (by omega) (fun c4 => ?_) (fun c4 => ?_)
    · refine m_blk 25 [(0, vr 0 0), (1, vr 1 ki)] [vi 0] C f_q_against_24_1 rfl ?_
      exact m_iret C Rm E e_q_against_25 ⟨0, rfl, rfl, (by show -7 ≤ 0 ∧ 0 ≤ 0; omega), (fun _ => by omega)⟩
    · refine m_blk 25 [(0, vr 0 0), (1, vr 1 ki)] [vi (-7)] C f_q_against_19_2 rfl ?_
      exact m_iret C Rm E e_q_against_25 ⟨(-7), rfl, rfl, (by show -7 ≤ (-7) ∧ (-7) ≤ 0; omega), (fun h9 => absurd h9 (by decide))⟩
  · refine m_blk 25 [(0, vr 0 0), (1, vr 1 ki)] [vi (-6)] C f_q_against_7_2 rfl ?_
    exact m_iret C Rm E e_q_against_25 ⟨(-6), rfl, rfl, (by show -7 ≤ (-6) ∧ (-6) ≤ 0; omega), (fun h9 => absurd h9 (by decide))⟩
