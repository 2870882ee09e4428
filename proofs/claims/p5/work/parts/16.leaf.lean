/-! leaf methods (own work, by program) -/
theorem kt_0 : Int32.toInt 0 = 0 := by decide
theorem kt_1 : Int32.toInt 1 = 1 := by decide
theorem kt_2 : Int32.toInt 2 = 2 := by decide
theorem kt_3 : Int32.toInt 3 = 3 := by decide
theorem kt_4 : Int32.toInt 4 = 4 := by decide
theorem kt_5 : Int32.toInt 5 = 5 := by decide
theorem kt_6 : Int32.toInt 6 = 6 := by decide
theorem kt_7 : Int32.toInt 7 = 7 := by decide
theorem kt_8 : Int32.toInt 8 = 8 := by decide
theorem kt_9 : Int32.toInt 9 = 9 := by decide
theorem kt_10 : Int32.toInt 10 = 10 := by decide
theorem kt_11 : Int32.toInt 11 = 11 := by decide
theorem kt_12 : Int32.toInt 12 = 12 := by decide
theorem kt_13 : Int32.toInt 13 = 13 := by decide
theorem kt_15 : Int32.toInt 15 = 15 := by decide
theorem kt_16 : Int32.toInt 16 = 16 := by decide
theorem kt_19 : Int32.toInt 19 = 19 := by decide
theorem kt_20 : Int32.toInt 20 = 20 := by decide
theorem kt_24 : Int32.toInt 24 = 24 := by decide
theorem kt_25 : Int32.toInt 25 = 25 := by decide
theorem kt_31 : Int32.toInt 31 = 31 := by decide
theorem kt_32 : Int32.toInt 32 = 32 := by decide
theorem kt_40 : Int32.toInt 40 = 40 := by decide
theorem kt_50 : Int32.toInt 50 = 50 := by decide
theorem kt_60 : Int32.toInt 60 = 60 := by decide
theorem kt_63 : Int32.toInt 63 = 63 := by decide
theorem kt_100 : Int32.toInt 100 = 100 := by decide
theorem kt_120 : Int32.toInt 120 = 120 := by decide
theorem kt_255 : Int32.toInt 255 = 255 := by decide
theorem kt_300 : Int32.toInt 300 = 300 := by decide
theorem kt_999999 : Int32.toInt 999999 = 999999 := by decide
theorem kt_1000000 : Int32.toInt 1000000 = 1000000 := by decide
theorem kt_m1 : Int32.toInt (-1) = -1 := by decide
theorem kt_m2 : Int32.toInt (-2) = -2 := by decide
theorem kt_m3 : Int32.toInt (-3) = -3 := by decide
theorem kt_m4 : Int32.toInt (-4) = -4 := by decide
theorem kt_m6 : Int32.toInt (-6) = -6 := by decide
theorem kt_m7 : Int32.toInt (-7) = -7 := by decide
theorem kt_m11 : Int32.toInt (-11) = -11 := by decide
theorem kt_m12 : Int32.toInt (-12) = -12 := by decide
theorem kt_m13 : Int32.toInt (-13) = -13 := by decide
theorem kt_m14 : Int32.toInt (-14) = -14 := by decide
theorem kt_m100 : Int32.toInt (-100) = -100 := by decide

theorem k_c_CS_isByte_0_1 : sblk b_CS_isByte [(0, .iload_n 0, .null)] := sblk_of (by decide +kernel)
theorem d_c_CS_isByte_1 : decode b_CS_isByte 1 = .ok (.ifCond .lt 14, 3) := by decide +kernel
theorem k_c_CS_isByte_15_1 : sblk b_CS_isByte [(15, .iconst 0, .int 0)] := sblk_of (by decide +kernel)
theorem d_c_CS_isByte_16 : decode b_CS_isByte 16 = .ok (.ireturn, 1) := by decide +kernel
theorem k_c_CS_isByte_4_2 : sblk b_CS_isByte [(4, .iload_n 0, .null), (5, .sipush 255, .int 255)] := sblk_of (by decide +kernel)
theorem d_c_CS_isByte_8 : decode b_CS_isByte 8 = .ok (.if_icmp .gt 7, 3) := by decide +kernel
theorem k_c_CS_isByte_11_2 : sblk b_CS_isByte [(11, .iconst 1, .int 1), (12, .goto 4, .retAddr 16)] := sblk_of (by decide +kernel)
set_option maxHeartbeats 4000000 in
set_option maxRecDepth 100000 in
theorem c_CS_isByte (l : Launch) (D : va_G) (B : Nat) (H0 : Heap) (w : jW) (x : Int32) : jMet l D B H0 y_CS_isByte b_CS_isByte 1 (some .boolean) 0 0 0 0 [.int x] w (fun v w9 => v = some (.int (if 0 ≤ x.toInt ∧ x.toInt ≤ 255 then 1 else 0)) ∧ w = w9) := by
  refine j_met (by decide) (Nat.le_of_ble_eq_true rfl) (fun g C Rm Y E => ?_)
  have hk := jkz w
  show JJ g w 0 [(0, .int x)] []
  refine j_blk 1 [(0, .int x)] [.int x] C k_c_CS_isByte_0_1 rfl ?_
  refine j_if_lt (tgt := 15) C d_c_CS_isByte_1 (by decide) (fun c1 => ?_) (fun c1 => ?_)
  · refine j_blk 16 [(0, .int x)] [.int 0] C k_c_CS_isByte_15_1 rfl ?_
    exact j_zret C Rm E rfl d_c_CS_isByte_16 ⟨congrArg (fun z => some (Value.int z)) (jelse (by (try simp only [jlt, jle, jeq, kt_0, kt_1, kt_2, kt_3, kt_4, kt_5, kt_6, kt_7, kt_8, kt_9, kt_10, kt_11, kt_12, kt_13, kt_15, kt_16, kt_19, kt_20, kt_24, kt_25, kt_31, kt_32, kt_40, kt_50, kt_60, kt_63, kt_100, kt_120, kt_255, kt_300, kt_999999, kt_1000000, kt_m1, kt_m2, kt_m3, kt_m4, kt_m6, kt_m7, kt_m11, kt_m12, kt_m13, kt_m14, kt_m100] at c1); omega)), rfl⟩ (jbnd hk.1 rfl) (jbnd hk.2 rfl)
  · refine j_blk 8 [(0, .int x)] [.int 255, .int x] C k_c_CS_isByte_4_2 rfl ?_
    refine j_icmp_gt (tgt := 15) C d_c_CS_isByte_8 (by decide) (fun c2 => ?_) (fun c2 => ?_)
    · refine j_blk 16 [(0, .int x)] [.int 0] C k_c_CS_isByte_15_1 rfl ?_
      exact j_zret C Rm E rfl d_c_CS_isByte_16 ⟨congrArg (fun z => some (Value.int z)) (jelse (by (try simp only [jlt, jle, jeq, kt_0, kt_1, kt_2, kt_3, kt_4, kt_5, kt_6, kt_7, kt_8, kt_9, kt_10, kt_11, kt_12, kt_13, kt_15, kt_16, kt_19, kt_20, kt_24, kt_25, kt_31, kt_32, kt_40, kt_50, kt_60, kt_63, kt_100, kt_120, kt_255, kt_300, kt_999999, kt_1000000, kt_m1, kt_m2, kt_m3, kt_m4, kt_m6, kt_m7, kt_m11, kt_m12, kt_m13, kt_m14, kt_m100] at c1 c2); omega)), rfl⟩ (jbnd hk.1 rfl) (jbnd hk.2 rfl)
    · refine j_blk 16 [(0, .int x)] [.int 1] C k_c_CS_isByte_11_2 rfl ?_
      exact j_zret C Rm E rfl d_c_CS_isByte_16 ⟨congrArg (fun z => some (Value.int z)) (jif (by (try simp only [jlt, jle, jeq, kt_0, kt_1, kt_2, kt_3, kt_4, kt_5, kt_6, kt_7, kt_8, kt_9, kt_10, kt_11, kt_12, kt_13, kt_15, kt_16, kt_19, kt_20, kt_24, kt_25, kt_31, kt_32, kt_40, kt_50, kt_60, kt_63, kt_100, kt_120, kt_255, kt_300, kt_999999, kt_1000000, kt_m1, kt_m2, kt_m3, kt_m4, kt_m6, kt_m7, kt_m11, kt_m12, kt_m13, kt_m14, kt_m100] at c1 c2); omega)), rfl⟩ (jbnd hk.1 rfl) (jbnd hk.2 rfl)

theorem k_c_CS_isName_0_1 : sblk b_CS_isName [(0, .iload_n 0, .null)] := sblk_of (by decide +kernel)
theorem d_c_CS_isName_1 : decode b_CS_isName 1 = .ok (.ifCond .lt 13, 3) := by decide +kernel
theorem k_c_CS_isName_14_1 : sblk b_CS_isName [(14, .iconst 0, .int 0)] := sblk_of (by decide +kernel)
theorem d_c_CS_isName_15 : decode b_CS_isName 15 = .ok (.ireturn, 1) := by decide +kernel
theorem k_c_CS_isName_4_2 : sblk b_CS_isName [(4, .iload_n 0, .null), (5, .bipush 6, .int 6)] := sblk_of (by decide +kernel)
theorem d_c_CS_isName_7 : decode b_CS_isName 7 = .ok (.if_icmp .ge 7, 3) := by decide +kernel
theorem k_c_CS_isName_10_2 : sblk b_CS_isName [(10, .iconst 1, .int 1), (11, .goto 4, .retAddr 15)] := sblk_of (by decide +kernel)
set_option maxHeartbeats 4000000 in
set_option maxRecDepth 100000 in
theorem c_CS_isName (l : Launch) (D : va_G) (B : Nat) (H0 : Heap) (w : jW) (x : Int32) : jMet l D B H0 y_CS_isName b_CS_isName 1 (some .boolean) 0 0 0 0 [.int x] w (fun v w9 => v = some (.int (if 0 ≤ x.toInt ∧ x.toInt < 6 then 1 else 0)) ∧ w = w9) := by
  refine j_met (by decide) (Nat.le_of_ble_eq_true rfl) (fun g C Rm Y E => ?_)
  have hk := jkz w
  show JJ g w 0 [(0, .int x)] []
  refine j_blk 1 [(0, .int x)] [.int x] C k_c_CS_isName_0_1 rfl ?_
  refine j_if_lt (tgt := 14) C d_c_CS_isName_1 (by decide) (fun c1 => ?_) (fun c1 => ?_)
  · refine j_blk 15 [(0, .int x)] [.int 0] C k_c_CS_isName_14_1 rfl ?_
    exact j_zret C Rm E rfl d_c_CS_isName_15 ⟨congrArg (fun z => some (Value.int z)) (jelse (by (try simp only [jlt, jle, jeq, kt_0, kt_1, kt_2, kt_3, kt_4, kt_5, kt_6, kt_7, kt_8, kt_9, kt_10, kt_11, kt_12, kt_13, kt_15, kt_16, kt_19, kt_20, kt_24, kt_25, kt_31, kt_32, kt_40, kt_50, kt_60, kt_63, kt_100, kt_120, kt_255, kt_300, kt_999999, kt_1000000, kt_m1, kt_m2, kt_m3, kt_m4, kt_m6, kt_m7, kt_m11, kt_m12, kt_m13, kt_m14, kt_m100] at c1); omega)), rfl⟩ (jbnd hk.1 rfl) (jbnd hk.2 rfl)
  · refine j_blk 7 [(0, .int x)] [.int 6, .int x] C k_c_CS_isName_4_2 rfl ?_
    refine j_icmp_ge (tgt := 14) C d_c_CS_isName_7 (by decide) (fun c2 => ?_) (fun c2 => ?_)
    · refine j_blk 15 [(0, .int x)] [.int 0] C k_c_CS_isName_14_1 rfl ?_
      exact j_zret C Rm E rfl d_c_CS_isName_15 ⟨congrArg (fun z => some (Value.int z)) (jelse (by (try simp only [jlt, jle, jeq, kt_0, kt_1, kt_2, kt_3, kt_4, kt_5, kt_6, kt_7, kt_8, kt_9, kt_10, kt_11, kt_12, kt_13, kt_15, kt_16, kt_19, kt_20, kt_24, kt_25, kt_31, kt_32, kt_40, kt_50, kt_60, kt_63, kt_100, kt_120, kt_255, kt_300, kt_999999, kt_1000000, kt_m1, kt_m2, kt_m3, kt_m4, kt_m6, kt_m7, kt_m11, kt_m12, kt_m13, kt_m14, kt_m100] at c1 c2); omega)), rfl⟩ (jbnd hk.1 rfl) (jbnd hk.2 rfl)
    · refine j_blk 15 [(0, .int x)] [.int 1] C k_c_CS_isName_10_2 rfl ?_
      exact j_zret C Rm E rfl d_c_CS_isName_15 ⟨congrArg (fun z => some (Value.int z)) (jif (by (try simp only [jlt, jle, jeq, kt_0, kt_1, kt_2, kt_3, kt_4, kt_5, kt_6, kt_7, kt_8, kt_9, kt_10, kt_11, kt_12, kt_13, kt_15, kt_16, kt_19, kt_20, kt_24, kt_25, kt_31, kt_32, kt_40, kt_50, kt_60, kt_63, kt_100, kt_120, kt_255, kt_300, kt_999999, kt_1000000, kt_m1, kt_m2, kt_m3, kt_m4, kt_m6, kt_m7, kt_m11, kt_m12, kt_m13, kt_m14, kt_m100] at c1 c2); omega)), rfl⟩ (jbnd hk.1 rfl) (jbnd hk.2 rfl)

theorem k_c_CS_areNames_0_1 : sblk b_CS_areNames [(0, .iload_n 0, .null)] := sblk_of (by decide +kernel)
theorem d_c_CS_areNames_1 : decode b_CS_areNames 1 = .ok (.ifCond .lt 13, 3) := by decide +kernel
theorem k_c_CS_areNames_14_1 : sblk b_CS_areNames [(14, .iconst 0, .int 0)] := sblk_of (by decide +kernel)
theorem d_c_CS_areNames_15 : decode b_CS_areNames 15 = .ok (.ireturn, 1) := by decide +kernel
theorem k_c_CS_areNames_4_2 : sblk b_CS_areNames [(4, .iload_n 0, .null), (5, .bipush 63, .int 63)] := sblk_of (by decide +kernel)
theorem d_c_CS_areNames_7 : decode b_CS_areNames 7 = .ok (.if_icmp .gt 7, 3) := by decide +kernel
theorem k_c_CS_areNames_10_2 : sblk b_CS_areNames [(10, .iconst 1, .int 1), (11, .goto 4, .retAddr 15)] := sblk_of (by decide +kernel)
set_option maxHeartbeats 4000000 in
set_option maxRecDepth 100000 in
theorem c_CS_areNames (l : Launch) (D : va_G) (B : Nat) (H0 : Heap) (w : jW) (x : Int32) : jMet l D B H0 y_CS_areNames b_CS_areNames 1 (some .boolean) 0 0 0 0 [.int x] w (fun v w9 => v = some (.int (if 0 ≤ x.toInt ∧ x.toInt ≤ 63 then 1 else 0)) ∧ w = w9) := by
  refine j_met (by decide) (Nat.le_of_ble_eq_true rfl) (fun g C Rm Y E => ?_)
  have hk := jkz w
  show JJ g w 0 [(0, .int x)] []
  refine j_blk 1 [(0, .int x)] [.int x] C k_c_CS_areNames_0_1 rfl ?_
  refine j_if_lt (tgt := 14) C d_c_CS_areNames_1 (by decide) (fun c1 => ?_) (fun c1 => ?_)
  · refine j_blk 15 [(0, .int x)] [.int 0] C k_c_CS_areNames_14_1 rfl ?_
    exact j_zret C Rm E rfl d_c_CS_areNames_15 ⟨congrArg (fun z => some (Value.int z)) (jelse (by (try simp only [jlt, jle, jeq, kt_0, kt_1, kt_2, kt_3, kt_4, kt_5, kt_6, kt_7, kt_8, kt_9, kt_10, kt_11, kt_12, kt_13, kt_15, kt_16, kt_19, kt_20, kt_24, kt_25, kt_31, kt_32, kt_40, kt_50, kt_60, kt_63, kt_100, kt_120, kt_255, kt_300, kt_999999, kt_1000000, kt_m1, kt_m2, kt_m3, kt_m4, kt_m6, kt_m7, kt_m11, kt_m12, kt_m13, kt_m14, kt_m100] at c1); omega)), rfl⟩ (jbnd hk.1 rfl) (jbnd hk.2 rfl)
  · refine j_blk 7 [(0, .int x)] [.int 63, .int x] C k_c_CS_areNames_4_2 rfl ?_
    refine j_icmp_gt (tgt := 14) C d_c_CS_areNames_7 (by decide) (fun c2 => ?_) (fun c2 => ?_)
    · refine j_blk 15 [(0, .int x)] [.int 0] C k_c_CS_areNames_14_1 rfl ?_
      exact j_zret C Rm E rfl d_c_CS_areNames_15 ⟨congrArg (fun z => some (Value.int z)) (jelse (by (try simp only [jlt, jle, jeq, kt_0, kt_1, kt_2, kt_3, kt_4, kt_5, kt_6, kt_7, kt_8, kt_9, kt_10, kt_11, kt_12, kt_13, kt_15, kt_16, kt_19, kt_20, kt_24, kt_25, kt_31, kt_32, kt_40, kt_50, kt_60, kt_63, kt_100, kt_120, kt_255, kt_300, kt_999999, kt_1000000, kt_m1, kt_m2, kt_m3, kt_m4, kt_m6, kt_m7, kt_m11, kt_m12, kt_m13, kt_m14, kt_m100] at c1 c2); omega)), rfl⟩ (jbnd hk.1 rfl) (jbnd hk.2 rfl)
    · refine j_blk 15 [(0, .int x)] [.int 1] C k_c_CS_areNames_10_2 rfl ?_
      exact j_zret C Rm E rfl d_c_CS_areNames_15 ⟨congrArg (fun z => some (Value.int z)) (jif (by (try simp only [jlt, jle, jeq, kt_0, kt_1, kt_2, kt_3, kt_4, kt_5, kt_6, kt_7, kt_8, kt_9, kt_10, kt_11, kt_12, kt_13, kt_15, kt_16, kt_19, kt_20, kt_24, kt_25, kt_31, kt_32, kt_40, kt_50, kt_60, kt_63, kt_100, kt_120, kt_255, kt_300, kt_999999, kt_1000000, kt_m1, kt_m2, kt_m3, kt_m4, kt_m6, kt_m7, kt_m11, kt_m12, kt_m13, kt_m14, kt_m100] at c1 c2); omega)), rfl⟩ (jbnd hk.1 rfl) (jbnd hk.2 rfl)

theorem k_c_CS_isValue_0_1 : sblk b_CS_isValue [(0, .iload_n 0, .null)] := sblk_of (by decide +kernel)
theorem d_c_CS_isValue_1 : decode b_CS_isValue 1 = .ok (.ifCond .lt 13, 3) := by decide +kernel
theorem k_c_CS_isValue_14_1 : sblk b_CS_isValue [(14, .iconst 0, .int 0)] := sblk_of (by decide +kernel)
theorem d_c_CS_isValue_15 : decode b_CS_isValue 15 = .ok (.ireturn, 1) := by decide +kernel
theorem k_c_CS_isValue_4_2 : sblk b_CS_isValue [(4, .iload_n 0, .null), (5, .bipush 10, .int 10)] := sblk_of (by decide +kernel)
theorem d_c_CS_isValue_7 : decode b_CS_isValue 7 = .ok (.if_icmp .ge 7, 3) := by decide +kernel
theorem k_c_CS_isValue_10_2 : sblk b_CS_isValue [(10, .iconst 1, .int 1), (11, .goto 4, .retAddr 15)] := sblk_of (by decide +kernel)
set_option maxHeartbeats 4000000 in
set_option maxRecDepth 100000 in
theorem c_CS_isValue (l : Launch) (D : va_G) (B : Nat) (H0 : Heap) (w : jW) (x : Int32) : jMet l D B H0 y_CS_isValue b_CS_isValue 1 (some .boolean) 0 0 0 0 [.int x] w (fun v w9 => v = some (.int (if 0 ≤ x.toInt ∧ x.toInt < 10 then 1 else 0)) ∧ w = w9) := by
  refine j_met (by decide) (Nat.le_of_ble_eq_true rfl) (fun g C Rm Y E => ?_)
  have hk := jkz w
  show JJ g w 0 [(0, .int x)] []
  refine j_blk 1 [(0, .int x)] [.int x] C k_c_CS_isValue_0_1 rfl ?_
  refine j_if_lt (tgt := 14) C d_c_CS_isValue_1 (by decide) (fun c1 => ?_) (fun c1 => ?_)
  · refine j_blk 15 [(0, .int x)] [.int 0] C k_c_CS_isValue_14_1 rfl ?_
    exact j_zret C Rm E rfl d_c_CS_isValue_15 ⟨congrArg (fun z => some (Value.int z)) (jelse (by (try simp only [jlt, jle, jeq, kt_0, kt_1, kt_2, kt_3, kt_4, kt_5, kt_6, kt_7, kt_8, kt_9, kt_10, kt_11, kt_12, kt_13, kt_15, kt_16, kt_19, kt_20, kt_24, kt_25, kt_31, kt_32, kt_40, kt_50, kt_60, kt_63, kt_100, kt_120, kt_255, kt_300, kt_999999, kt_1000000, kt_m1, kt_m2, kt_m3, kt_m4, kt_m6, kt_m7, kt_m11, kt_m12, kt_m13, kt_m14, kt_m100] at c1); omega)), rfl⟩ (jbnd hk.1 rfl) (jbnd hk.2 rfl)
  · refine j_blk 7 [(0, .int x)] [.int 10, .int x] C k_c_CS_isValue_4_2 rfl ?_
    refine j_icmp_ge (tgt := 14) C d_c_CS_isValue_7 (by decide) (fun c2 => ?_) (fun c2 => ?_)
    · refine j_blk 15 [(0, .int x)] [.int 0] C k_c_CS_isValue_14_1 rfl ?_
      exact j_zret C Rm E rfl d_c_CS_isValue_15 ⟨congrArg (fun z => some (Value.int z)) (jelse (by (try simp only [jlt, jle, jeq, kt_0, kt_1, kt_2, kt_3, kt_4, kt_5, kt_6, kt_7, kt_8, kt_9, kt_10, kt_11, kt_12, kt_13, kt_15, kt_16, kt_19, kt_20, kt_24, kt_25, kt_31, kt_32, kt_40, kt_50, kt_60, kt_63, kt_100, kt_120, kt_255, kt_300, kt_999999, kt_1000000, kt_m1, kt_m2, kt_m3, kt_m4, kt_m6, kt_m7, kt_m11, kt_m12, kt_m13, kt_m14, kt_m100] at c1 c2); omega)), rfl⟩ (jbnd hk.1 rfl) (jbnd hk.2 rfl)
    · refine j_blk 15 [(0, .int x)] [.int 1] C k_c_CS_isValue_10_2 rfl ?_
      exact j_zret C Rm E rfl d_c_CS_isValue_15 ⟨congrArg (fun z => some (Value.int z)) (jif (by (try simp only [jlt, jle, jeq, kt_0, kt_1, kt_2, kt_3, kt_4, kt_5, kt_6, kt_7, kt_8, kt_9, kt_10, kt_11, kt_12, kt_13, kt_15, kt_16, kt_19, kt_20, kt_24, kt_25, kt_31, kt_32, kt_40, kt_50, kt_60, kt_63, kt_100, kt_120, kt_255, kt_300, kt_999999, kt_1000000, kt_m1, kt_m2, kt_m3, kt_m4, kt_m6, kt_m7, kt_m11, kt_m12, kt_m13, kt_m14, kt_m100] at c1 c2); omega)), rfl⟩ (jbnd hk.1 rfl) (jbnd hk.2 rfl)

theorem k_c_CS_isPart_0_1 : sblk b_CS_isPart [(0, .iload_n 0, .null)] := sblk_of (by decide +kernel)
theorem d_c_CS_isPart_1 : decode b_CS_isPart 1 = .ok (.ifCond .eq 8, 3) := by decide +kernel
theorem k_c_CS_isPart_9_2 : sblk b_CS_isPart [(9, .iconst 1, .int 1), (10, .goto 4, .retAddr 14)] := sblk_of (by decide +kernel)
theorem d_c_CS_isPart_14 : decode b_CS_isPart 14 = .ok (.ireturn, 1) := by decide +kernel
theorem k_c_CS_isPart_4_2 : sblk b_CS_isPart [(4, .iload_n 0, .null), (5, .iconst 1, .int 1)] := sblk_of (by decide +kernel)
theorem d_c_CS_isPart_6 : decode b_CS_isPart 6 = .ok (.if_icmp .ne 7, 3) := by decide +kernel
theorem k_c_CS_isPart_13_1 : sblk b_CS_isPart [(13, .iconst 0, .int 0)] := sblk_of (by decide +kernel)
set_option maxHeartbeats 4000000 in
set_option maxRecDepth 100000 in
theorem c_CS_isPart (l : Launch) (D : va_G) (B : Nat) (H0 : Heap) (w : jW) (x : Int32) : jMet l D B H0 y_CS_isPart b_CS_isPart 1 (some .boolean) 0 0 0 0 [.int x] w (fun v w9 => v = some (.int (if x.toInt = 0 ∨ x.toInt = 1 then 1 else 0)) ∧ w = w9) := by
  refine j_met (by decide) (Nat.le_of_ble_eq_true rfl) (fun g C Rm Y E => ?_)
  have hk := jkz w
  show JJ g w 0 [(0, .int x)] []
  refine j_blk 1 [(0, .int x)] [.int x] C k_c_CS_isPart_0_1 rfl ?_
  refine j_if_eq (tgt := 9) C d_c_CS_isPart_1 (by decide) (fun c1 => ?_) (fun c1 => ?_)
  · refine j_blk 14 [(0, .int x)] [.int 1] C k_c_CS_isPart_9_2 rfl ?_
    exact j_zret C Rm E rfl d_c_CS_isPart_14 ⟨congrArg (fun z => some (Value.int z)) (jif (by (try simp only [jlt, jle, jeq, kt_0, kt_1, kt_2, kt_3, kt_4, kt_5, kt_6, kt_7, kt_8, kt_9, kt_10, kt_11, kt_12, kt_13, kt_15, kt_16, kt_19, kt_20, kt_24, kt_25, kt_31, kt_32, kt_40, kt_50, kt_60, kt_63, kt_100, kt_120, kt_255, kt_300, kt_999999, kt_1000000, kt_m1, kt_m2, kt_m3, kt_m4, kt_m6, kt_m7, kt_m11, kt_m12, kt_m13, kt_m14, kt_m100] at c1); omega)), rfl⟩ (jbnd hk.1 rfl) (jbnd hk.2 rfl)
  · refine j_blk 6 [(0, .int x)] [.int 1, .int x] C k_c_CS_isPart_4_2 rfl ?_
    refine j_icmp_ne (tgt := 13) C d_c_CS_isPart_6 (by decide) (fun c2 => ?_) (fun c2 => ?_)
    · refine j_blk 14 [(0, .int x)] [.int 0] C k_c_CS_isPart_13_1 rfl ?_
      exact j_zret C Rm E rfl d_c_CS_isPart_14 ⟨congrArg (fun z => some (Value.int z)) (jelse (by (try simp only [jlt, jle, jeq, kt_0, kt_1, kt_2, kt_3, kt_4, kt_5, kt_6, kt_7, kt_8, kt_9, kt_10, kt_11, kt_12, kt_13, kt_15, kt_16, kt_19, kt_20, kt_24, kt_25, kt_31, kt_32, kt_40, kt_50, kt_60, kt_63, kt_100, kt_120, kt_255, kt_300, kt_999999, kt_1000000, kt_m1, kt_m2, kt_m3, kt_m4, kt_m6, kt_m7, kt_m11, kt_m12, kt_m13, kt_m14, kt_m100] at c1 c2); omega)), rfl⟩ (jbnd hk.1 rfl) (jbnd hk.2 rfl)
    · refine j_blk 14 [(0, .int x)] [.int 1] C k_c_CS_isPart_9_2 rfl ?_
      exact j_zret C Rm E rfl d_c_CS_isPart_14 ⟨congrArg (fun z => some (Value.int z)) (jif (by (try simp only [jlt, jle, jeq, kt_0, kt_1, kt_2, kt_3, kt_4, kt_5, kt_6, kt_7, kt_8, kt_9, kt_10, kt_11, kt_12, kt_13, kt_15, kt_16, kt_19, kt_20, kt_24, kt_25, kt_31, kt_32, kt_40, kt_50, kt_60, kt_63, kt_100, kt_120, kt_255, kt_300, kt_999999, kt_1000000, kt_m1, kt_m2, kt_m3, kt_m4, kt_m6, kt_m7, kt_m11, kt_m12, kt_m13, kt_m14, kt_m100] at c1 c2); omega)), rfl⟩ (jbnd hk.1 rfl) (jbnd hk.2 rfl)

theorem k_c_CS_isSheet_0_1 : sblk b_CS_isSheet [(0, .iload_n 0, .null)] := sblk_of (by decide +kernel)
theorem d_c_CS_isSheet_1 : decode b_CS_isSheet 1 = .ok (.ifCond .lt 12, 3) := by decide +kernel
theorem k_c_CS_isSheet_13_1 : sblk b_CS_isSheet [(13, .iconst 0, .int 0)] := sblk_of (by decide +kernel)
theorem d_c_CS_isSheet_14 : decode b_CS_isSheet 14 = .ok (.ireturn, 1) := by decide +kernel
theorem k_c_CS_isSheet_4_2 : sblk b_CS_isSheet [(4, .iload_n 0, .null), (5, .iconst 4, .int 4)] := sblk_of (by decide +kernel)
theorem d_c_CS_isSheet_6 : decode b_CS_isSheet 6 = .ok (.if_icmp .ge 7, 3) := by decide +kernel
theorem k_c_CS_isSheet_9_2 : sblk b_CS_isSheet [(9, .iconst 1, .int 1), (10, .goto 4, .retAddr 14)] := sblk_of (by decide +kernel)
set_option maxHeartbeats 4000000 in
set_option maxRecDepth 100000 in
theorem c_CS_isSheet (l : Launch) (D : va_G) (B : Nat) (H0 : Heap) (w : jW) (x : Int32) : jMet l D B H0 y_CS_isSheet b_CS_isSheet 1 (some .boolean) 0 0 0 0 [.int x] w (fun v w9 => v = some (.int (if 0 ≤ x.toInt ∧ x.toInt < 4 then 1 else 0)) ∧ w = w9) := by
  refine j_met (by decide) (Nat.le_of_ble_eq_true rfl) (fun g C Rm Y E => ?_)
  have hk := jkz w
  show JJ g w 0 [(0, .int x)] []
  refine j_blk 1 [(0, .int x)] [.int x] C k_c_CS_isSheet_0_1 rfl ?_
  refine j_if_lt (tgt := 13) C d_c_CS_isSheet_1 (by decide) (fun c1 => ?_) (fun c1 => ?_)
  · refine j_blk 14 [(0, .int x)] [.int 0] C k_c_CS_isSheet_13_1 rfl ?_
    exact j_zret C Rm E rfl d_c_CS_isSheet_14 ⟨congrArg (fun z => some (Value.int z)) (jelse (by (try simp only [jlt, jle, jeq, kt_0, kt_1, kt_2, kt_3, kt_4, kt_5, kt_6, kt_7, kt_8, kt_9, kt_10, kt_11, kt_12, kt_13, kt_15, kt_16, kt_19, kt_20, kt_24, kt_25, kt_31, kt_32, kt_40, kt_50, kt_60, kt_63, kt_100, kt_120, kt_255, kt_300, kt_999999, kt_1000000, kt_m1, kt_m2, kt_m3, kt_m4, kt_m6, kt_m7, kt_m11, kt_m12, kt_m13, kt_m14, kt_m100] at c1); omega)), rfl⟩ (jbnd hk.1 rfl) (jbnd hk.2 rfl)
  · refine j_blk 6 [(0, .int x)] [.int 4, .int x] C k_c_CS_isSheet_4_2 rfl ?_
    refine j_icmp_ge (tgt := 13) C d_c_CS_isSheet_6 (by decide) (fun c2 => ?_) (fun c2 => ?_)
    · refine j_blk 14 [(0, .int x)] [.int 0] C k_c_CS_isSheet_13_1 rfl ?_
      exact j_zret C Rm E rfl d_c_CS_isSheet_14 ⟨congrArg (fun z => some (Value.int z)) (jelse (by (try simp only [jlt, jle, jeq, kt_0, kt_1, kt_2, kt_3, kt_4, kt_5, kt_6, kt_7, kt_8, kt_9, kt_10, kt_11, kt_12, kt_13, kt_15, kt_16, kt_19, kt_20, kt_24, kt_25, kt_31, kt_32, kt_40, kt_50, kt_60, kt_63, kt_100, kt_120, kt_255, kt_300, kt_999999, kt_1000000, kt_m1, kt_m2, kt_m3, kt_m4, kt_m6, kt_m7, kt_m11, kt_m12, kt_m13, kt_m14, kt_m100] at c1 c2); omega)), rfl⟩ (jbnd hk.1 rfl) (jbnd hk.2 rfl)
    · refine j_blk 14 [(0, .int x)] [.int 1] C k_c_CS_isSheet_9_2 rfl ?_
      exact j_zret C Rm E rfl d_c_CS_isSheet_14 ⟨congrArg (fun z => some (Value.int z)) (jif (by (try simp only [jlt, jle, jeq, kt_0, kt_1, kt_2, kt_3, kt_4, kt_5, kt_6, kt_7, kt_8, kt_9, kt_10, kt_11, kt_12, kt_13, kt_15, kt_16, kt_19, kt_20, kt_24, kt_25, kt_31, kt_32, kt_40, kt_50, kt_60, kt_63, kt_100, kt_120, kt_255, kt_300, kt_999999, kt_1000000, kt_m1, kt_m2, kt_m3, kt_m4, kt_m6, kt_m7, kt_m11, kt_m12, kt_m13, kt_m14, kt_m100] at c1 c2); omega)), rfl⟩ (jbnd hk.1 rfl) (jbnd hk.2 rfl)

theorem k_c_Mo_in_0_2 : sblk b_Mo_in [(0, .iload_n 0, .null), (1, .iload_n 1, .null)] := sblk_of (by decide +kernel)
theorem d_c_Mo_in_2 : decode b_Mo_in 2 = .ok (.if_icmp .lt 12, 3) := by decide +kernel
theorem k_c_Mo_in_14_1 : sblk b_Mo_in [(14, .iconst 0, .int 0)] := sblk_of (by decide +kernel)
theorem d_c_Mo_in_15 : decode b_Mo_in 15 = .ok (.ireturn, 1) := by decide +kernel
theorem k_c_Mo_in_5_2 : sblk b_Mo_in [(5, .iload_n 0, .null), (6, .iload_n 2, .null)] := sblk_of (by decide +kernel)
theorem d_c_Mo_in_7 : decode b_Mo_in 7 = .ok (.if_icmp .gt 7, 3) := by decide +kernel
theorem k_c_Mo_in_10_2 : sblk b_Mo_in [(10, .iconst 1, .int 1), (11, .goto 4, .retAddr 15)] := sblk_of (by decide +kernel)
set_option maxHeartbeats 4000000 in
set_option maxRecDepth 100000 in
theorem c_Mo_in (l : Launch) (D : va_G) (B : Nat) (H0 : Heap) (w : jW) (x : Int32) (a : Int32) (b : Int32) : jMet l D B H0 y_Mo_in b_Mo_in 3 (some .boolean) 0 0 0 0 [.int x, .int a, .int b] w (fun v w9 => v = some (.int (if a.toInt ≤ x.toInt ∧ x.toInt ≤ b.toInt then 1 else 0)) ∧ w = w9) := by
  refine j_met (by decide) (Nat.le_of_ble_eq_true rfl) (fun g C Rm Y E => ?_)
  have hk := jkz w
  show JJ g w 0 [(0, .int x), (1, .int a), (2, .int b)] []
  refine j_blk 2 [(0, .int x), (1, .int a), (2, .int b)] [.int a, .int x] C k_c_Mo_in_0_2 rfl ?_
  refine j_icmp_lt (tgt := 14) C d_c_Mo_in_2 (by decide) (fun c1 => ?_) (fun c1 => ?_)
  · refine j_blk 15 [(0, .int x), (1, .int a), (2, .int b)] [.int 0] C k_c_Mo_in_14_1 rfl ?_
    exact j_zret C Rm E rfl d_c_Mo_in_15 ⟨congrArg (fun z => some (Value.int z)) (jelse (by (try simp only [jlt, jle, jeq, kt_0, kt_1, kt_2, kt_3, kt_4, kt_5, kt_6, kt_7, kt_8, kt_9, kt_10, kt_11, kt_12, kt_13, kt_15, kt_16, kt_19, kt_20, kt_24, kt_25, kt_31, kt_32, kt_40, kt_50, kt_60, kt_63, kt_100, kt_120, kt_255, kt_300, kt_999999, kt_1000000, kt_m1, kt_m2, kt_m3, kt_m4, kt_m6, kt_m7, kt_m11, kt_m12, kt_m13, kt_m14, kt_m100] at c1); omega)), rfl⟩ (jbnd hk.1 rfl) (jbnd hk.2 rfl)
  · refine j_blk 7 [(0, .int x), (1, .int a), (2, .int b)] [.int b, .int x] C k_c_Mo_in_5_2 rfl ?_
    refine j_icmp_gt (tgt := 14) C d_c_Mo_in_7 (by decide) (fun c2 => ?_) (fun c2 => ?_)
    · refine j_blk 15 [(0, .int x), (1, .int a), (2, .int b)] [.int 0] C k_c_Mo_in_14_1 rfl ?_
      exact j_zret C Rm E rfl d_c_Mo_in_15 ⟨congrArg (fun z => some (Value.int z)) (jelse (by (try simp only [jlt, jle, jeq, kt_0, kt_1, kt_2, kt_3, kt_4, kt_5, kt_6, kt_7, kt_8, kt_9, kt_10, kt_11, kt_12, kt_13, kt_15, kt_16, kt_19, kt_20, kt_24, kt_25, kt_31, kt_32, kt_40, kt_50, kt_60, kt_63, kt_100, kt_120, kt_255, kt_300, kt_999999, kt_1000000, kt_m1, kt_m2, kt_m3, kt_m4, kt_m6, kt_m7, kt_m11, kt_m12, kt_m13, kt_m14, kt_m100] at c1 c2); omega)), rfl⟩ (jbnd hk.1 rfl) (jbnd hk.2 rfl)
    · refine j_blk 15 [(0, .int x), (1, .int a), (2, .int b)] [.int 1] C k_c_Mo_in_10_2 rfl ?_
      exact j_zret C Rm E rfl d_c_Mo_in_15 ⟨congrArg (fun z => some (Value.int z)) (jif (by (try simp only [jlt, jle, jeq, kt_0, kt_1, kt_2, kt_3, kt_4, kt_5, kt_6, kt_7, kt_8, kt_9, kt_10, kt_11, kt_12, kt_13, kt_15, kt_16, kt_19, kt_20, kt_24, kt_25, kt_31, kt_32, kt_40, kt_50, kt_60, kt_63, kt_100, kt_120, kt_255, kt_300, kt_999999, kt_1000000, kt_m1, kt_m2, kt_m3, kt_m4, kt_m6, kt_m7, kt_m11, kt_m12, kt_m13, kt_m14, kt_m100] at c1 c2); omega)), rfl⟩ (jbnd hk.1 rfl) (jbnd hk.2 rfl)

theorem k_c_Mo_isName_0_3 : sblk b_Mo_isName [(0, .iload_n 0, .null), (1, .iconst 0, .int 0), (2, .iconst 5, .int 5)] := sblk_of (by decide +kernel)
theorem d_c_Mo_isName_3 : decode b_Mo_isName 3 = .ok (.invokestatic 108, 3) := by decide +kernel
theorem d_c_Mo_isName_6 : decode b_Mo_isName 6 = .ok (.ireturn, 1) := by decide +kernel
set_option maxHeartbeats 4000000 in
set_option maxRecDepth 100000 in
theorem c_Mo_isName (l : Launch) (D : va_G) (B : Nat) (H0 : Heap) (w : jW) (x : Int32) : jMet l D B H0 y_Mo_isName b_Mo_isName 1 (some .boolean) 1 40 0 0 [.int x] w (fun v w9 => v = some (.int (if (0 : Int32).toInt ≤ x.toInt ∧ x.toInt ≤ (5 : Int32).toInt then 1 else 0)) ∧ w = w9) := by
  refine j_met (by decide) (Nat.le_of_ble_eq_true rfl) (fun g C Rm Y E => ?_)
  have hk := jkz w
  show JJ g w 0 [(0, .int x)] []
  refine j_blk 3 [(0, .int x)] [.int 5, .int 0, .int x] C k_c_Mo_isName_0_3 rfl ?_
  refine j_callS (As := [.int x, .int 0, .int 5]) C Rm Y [] (c_Mo_in l D B H0 w x 0 5) cl_Mo_108 d_c_Mo_isName_3 rfl rfl (Nat.le_of_ble_eq_true rfl) ⟨by decide, by decide⟩ ⟨jroom hk.1 rfl, jroom hk.2 rfl⟩ (fun v1 w_1 pw_1 => ?_)
  obtain ⟨rfl, rfl⟩ := pw_1
  show JJ g w 6 [(0, .int x)] [.int (if (0 : Int32).toInt ≤ x.toInt ∧ x.toInt ≤ (5 : Int32).toInt then 1 else 0)]
  exact j_zret C Rm E (jbn _) d_c_Mo_isName_6 ⟨rfl, rfl⟩ (jbnd hk.1 rfl) (jbnd hk.2 rfl)

theorem k_c_Mo_isByte_0_3 : sblk b_Mo_isByte [(0, .iload_n 0, .null), (1, .iconst 0, .int 0), (2, .sipush 255, .int 255)] := sblk_of (by decide +kernel)
theorem d_c_Mo_isByte_5 : decode b_Mo_isByte 5 = .ok (.invokestatic 108, 3) := by decide +kernel
theorem d_c_Mo_isByte_8 : decode b_Mo_isByte 8 = .ok (.ireturn, 1) := by decide +kernel
set_option maxHeartbeats 4000000 in
set_option maxRecDepth 100000 in
theorem c_Mo_isByte (l : Launch) (D : va_G) (B : Nat) (H0 : Heap) (w : jW) (x : Int32) : jMet l D B H0 y_Mo_isByte b_Mo_isByte 1 (some .boolean) 1 40 0 0 [.int x] w (fun v w9 => v = some (.int (if (0 : Int32).toInt ≤ x.toInt ∧ x.toInt ≤ (255 : Int32).toInt then 1 else 0)) ∧ w = w9) := by
  refine j_met (by decide) (Nat.le_of_ble_eq_true rfl) (fun g C Rm Y E => ?_)
  have hk := jkz w
  show JJ g w 0 [(0, .int x)] []
  refine j_blk 5 [(0, .int x)] [.int 255, .int 0, .int x] C k_c_Mo_isByte_0_3 rfl ?_
  refine j_callS (As := [.int x, .int 0, .int 255]) C Rm Y [] (c_Mo_in l D B H0 w x 0 255) cl_Mo_108 d_c_Mo_isByte_5 rfl rfl (Nat.le_of_ble_eq_true rfl) ⟨by decide, by decide⟩ ⟨jroom hk.1 rfl, jroom hk.2 rfl⟩ (fun v1 w_1 pw_1 => ?_)
  obtain ⟨rfl, rfl⟩ := pw_1
  show JJ g w 8 [(0, .int x)] [.int (if (0 : Int32).toInt ≤ x.toInt ∧ x.toInt ≤ (255 : Int32).toInt then 1 else 0)]
  exact j_zret C Rm E (jbn _) d_c_Mo_isByte_8 ⟨rfl, rfl⟩ (jbnd hk.1 rfl) (jbnd hk.2 rfl)

theorem k_c_Mo_isSheet_0_3 : sblk b_Mo_isSheet [(0, .iload_n 0, .null), (1, .iconst 0, .int 0), (2, .iconst 3, .int 3)] := sblk_of (by decide +kernel)
theorem d_c_Mo_isSheet_3 : decode b_Mo_isSheet 3 = .ok (.invokestatic 108, 3) := by decide +kernel
theorem d_c_Mo_isSheet_6 : decode b_Mo_isSheet 6 = .ok (.ireturn, 1) := by decide +kernel
set_option maxHeartbeats 4000000 in
set_option maxRecDepth 100000 in
theorem c_Mo_isSheet (l : Launch) (D : va_G) (B : Nat) (H0 : Heap) (w : jW) (x : Int32) : jMet l D B H0 y_Mo_isSheet b_Mo_isSheet 1 (some .boolean) 1 40 0 0 [.int x] w (fun v w9 => v = some (.int (if (0 : Int32).toInt ≤ x.toInt ∧ x.toInt ≤ (3 : Int32).toInt then 1 else 0)) ∧ w = w9) := by
  refine j_met (by decide) (Nat.le_of_ble_eq_true rfl) (fun g C Rm Y E => ?_)
  have hk := jkz w
  show JJ g w 0 [(0, .int x)] []
  refine j_blk 3 [(0, .int x)] [.int 3, .int 0, .int x] C k_c_Mo_isSheet_0_3 rfl ?_
  refine j_callS (As := [.int x, .int 0, .int 3]) C Rm Y [] (c_Mo_in l D B H0 w x 0 3) cl_Mo_108 d_c_Mo_isSheet_3 rfl rfl (Nat.le_of_ble_eq_true rfl) ⟨by decide, by decide⟩ ⟨jroom hk.1 rfl, jroom hk.2 rfl⟩ (fun v1 w_1 pw_1 => ?_)
  obtain ⟨rfl, rfl⟩ := pw_1
  show JJ g w 6 [(0, .int x)] [.int (if (0 : Int32).toInt ≤ x.toInt ∧ x.toInt ≤ (3 : Int32).toInt then 1 else 0)]
  exact j_zret C Rm E (jbn _) d_c_Mo_isSheet_6 ⟨rfl, rfl⟩ (jbnd hk.1 rfl) (jbnd hk.2 rfl)
