/-! calls that need no program, on fresh objects, 2 (own work, by program) -/
theorem k_c_CS_shiftOf_0_5 : sblk b_CS_shiftOf [(0, .iconst 5, .int 5), (1, .iload_n 0, .null), (2, .isub, .null), (3, .iconst 4, .int 4), (4, .imul, .null)] := sblk_of (by decide +kernel)
theorem d_c_CS_shiftOf_5 : decode b_CS_shiftOf 5 = .ok (.ireturn, 1) := by decide +kernel
set_option maxHeartbeats 40000000 in
set_option maxRecDepth 100000 in
theorem c_CS_shiftOf (l : Launch) (D : va_G) (B : Nat) (H0 : Heap) (w : jW) (n : Int32) : jMet l D B H0 y_CS_shiftOf b_CS_shiftOf 1 (some .int) 0 0 0 0 [.int n] w (fun v w9 => v = some (.int ((5 - n) * 4)) ∧ w = w9) := by
  refine j_met (by decide) (Nat.le_of_ble_eq_true rfl) (fun g C Rm Y E => ?_)
  have hk := jkz w
  show JJ g w 0 [(0, .int n)] []
  refine j_blk 5 [(0, .int n)] [.int ((5 - n) * 4)] C k_c_CS_shiftOf_0_5 rfl ?_
  exact j_iret C Rm E d_c_CS_shiftOf_5 ⟨rfl, rfl⟩ (jbnd hk.1 rfl) (jbnd hk.2 rfl)

theorem k_c_CS_digitAt_0_9 : sblk b_CS_digitAt [(0, .iload_n 0, .null), (1, .iconst 5, .int 5), (2, .iload_n 1, .null), (3, .isub, .null), (4, .iconst 4, .int 4), (5, .imul, .null), (6, .iushr, .null), (7, .bipush 15, .int 15), (9, .iand, .null)] := sblk_of (by decide +kernel)
theorem d_c_CS_digitAt_10 : decode b_CS_digitAt 10 = .ok (.ireturn, 1) := by decide +kernel
set_option maxHeartbeats 40000000 in
set_option maxRecDepth 100000 in
theorem c_CS_digitAt (l : Launch) (D : va_G) (B : Nat) (H0 : Heap) (w : jW) (s : Int32) (n : Int32) : jMet l D B H0 y_CS_digitAt b_CS_digitAt 2 (some .int) 0 0 0 0 [.int s, .int n] w (fun v w9 => v = some (.int ((s.toUInt32 >>> (((5 - n) * 4).toUInt32 &&& Int32.toUInt32 31)).toInt32 &&& 15)) ∧ w = w9) := by
  refine j_met (by decide) (Nat.le_of_ble_eq_true rfl) (fun g C Rm Y E => ?_)
  have hk := jkz w
  show JJ g w 0 [(0, .int s), (1, .int n)] []
  refine j_blk 10 [(0, .int s), (1, .int n)] [.int ((s.toUInt32 >>> (((5 - n) * 4).toUInt32 &&& Int32.toUInt32 31)).toInt32 &&& 15)] C k_c_CS_digitAt_0_9 rfl ?_
  exact j_iret C Rm E d_c_CS_digitAt_10 ⟨rfl, rfl⟩ (jbnd hk.1 rfl) (jbnd hk.2 rfl)

theorem k_c_CS_withDigit_0_3 : sblk b_CS_withDigit [(0, .iload_n 0, .null), (1, .bipush 15, .int 15), (3, .iload_n 1, .null)] := sblk_of (by decide +kernel)
theorem d_c_CS_withDigit_4 : decode b_CS_withDigit 4 = .ok (.invokestatic 269, 3) := by decide +kernel
theorem k_c_CS_withDigit_7_6 : sblk b_CS_withDigit [(7, .ishl, .null), (8, .iconst (-1), .int (-1)), (9, .ixor, .null), (10, .iand, .null), (11, .iload_n 2, .null), (12, .iload_n 1, .null)] := sblk_of (by decide +kernel)
theorem d_c_CS_withDigit_13 : decode b_CS_withDigit 13 = .ok (.invokestatic 269, 3) := by decide +kernel
theorem k_c_CS_withDigit_16_2 : sblk b_CS_withDigit [(16, .ishl, .null), (17, .ior, .null)] := sblk_of (by decide +kernel)
theorem d_c_CS_withDigit_18 : decode b_CS_withDigit 18 = .ok (.ireturn, 1) := by decide +kernel
set_option maxHeartbeats 40000000 in
set_option maxRecDepth 100000 in
theorem c_CS_withDigit (l : Launch) (D : va_G) (B : Nat) (H0 : Heap) (w : jW) (s : Int32) (n : Int32) (u : Int32) : jMet l D B H0 y_CS_withDigit b_CS_withDigit 3 (some .int) 1 40 0 0 [.int s, .int n, .int u] w (fun v w9 => v = some (.int ((s &&& ((15 <<< (((5 - n) * 4) &&& 31)) ^^^ (-1))) ||| (u <<< (((5 - n) * 4) &&& 31)))) ∧ w = w9) := by
  refine j_met (by decide) (Nat.le_of_ble_eq_true rfl) (fun g C Rm Y E => ?_)
  have hk := jkz w
  show JJ g w 0 [(0, .int s), (1, .int n), (2, .int u)] []
  refine j_blk 4 [(0, .int s), (1, .int n), (2, .int u)] [.int n, .int 15, .int s] C k_c_CS_withDigit_0_3 rfl ?_
  refine j_callS (As := [.int n]) C Rm Y [.int 15, .int s] (c_CS_shiftOf l D B H0 w n) cl_CS_269 d_c_CS_withDigit_4 rfl rfl (Nat.le_of_ble_eq_true rfl) ⟨by decide, by decide⟩ ⟨jroom hk.1 rfl, jroom hk.2 rfl⟩ (fun v1 w_1 pw_1 => ?_)
  obtain ⟨rfl, rfl⟩ := pw_1
  show JJ g w 7 [(0, .int s), (1, .int n), (2, .int u)] [.int ((5 - n) * 4), .int 15, .int s]
  refine j_blk 13 [(0, .int s), (1, .int n), (2, .int u)] [.int n, .int u, .int (s &&& ((15 <<< (((5 - n) * 4) &&& 31)) ^^^ (-1)))] C k_c_CS_withDigit_7_6 rfl ?_
  refine j_callS (As := [.int n]) C Rm Y [.int u, .int (s &&& ((15 <<< (((5 - n) * 4) &&& 31)) ^^^ (-1)))] (c_CS_shiftOf l D B H0 w n) cl_CS_269 d_c_CS_withDigit_13 rfl rfl (Nat.le_of_ble_eq_true rfl) ⟨by decide, by decide⟩ ⟨jroom hk.1 rfl, jroom hk.2 rfl⟩ (fun v2 w_2 pw_2 => ?_)
  obtain ⟨rfl, rfl⟩ := pw_2
  show JJ g w 16 [(0, .int s), (1, .int n), (2, .int u)] [.int ((5 - n) * 4), .int u, .int (s &&& ((15 <<< (((5 - n) * 4) &&& 31)) ^^^ (-1)))]
  refine j_blk 18 [(0, .int s), (1, .int n), (2, .int u)] [.int ((s &&& ((15 <<< (((5 - n) * 4) &&& 31)) ^^^ (-1))) ||| (u <<< (((5 - n) * 4) &&& 31)))] C k_c_CS_withDigit_16_2 rfl ?_
  exact j_iret C Rm E d_c_CS_withDigit_18 ⟨rfl, rfl⟩ (jbnd hk.1 rfl) (jbnd hk.2 rfl)

theorem k_c_CS_let_0_1 : sblk b_CS_let [(0, .iload_n 1, .null)] := sblk_of (by decide +kernel)
theorem d_c_CS_let_1 : decode b_CS_let 1 = .ok (.invokestatic 77, 3) := by decide +kernel
theorem d_c_CS_let_4 : decode b_CS_let 4 = .ok (.ifCond .eq 10, 3) := by decide +kernel
theorem k_c_CS_let_14_1 : sblk b_CS_let [(14, .bipush (-2), .int (-2))] := sblk_of (by decide +kernel)
theorem d_c_CS_let_16 : decode b_CS_let 16 = .ok (.ireturn, 1) := by decide +kernel
theorem k_c_CS_let_7_1 : sblk b_CS_let [(7, .iload_n 2, .null)] := sblk_of (by decide +kernel)
theorem d_c_CS_let_8 : decode b_CS_let 8 = .ok (.invokestatic 80, 3) := by decide +kernel
theorem d_c_CS_let_11 : decode b_CS_let 11 = .ok (.ifCond .ne 6, 3) := by decide +kernel
theorem k_c_CS_let_17_1 : sblk b_CS_let [(17, .aload_n 0, .null)] := sblk_of (by decide +kernel)
theorem d_c_CS_let_18 : decode b_CS_let 18 = .ok (.getfield 83, 3) := by decide +kernel
theorem k_c_CS_let_21_1 : sblk b_CS_let [(21, .iload_n 1, .null)] := sblk_of (by decide +kernel)
theorem d_c_CS_let_22 : decode b_CS_let 22 = .ok (.invokestatic 86, 3) := by decide +kernel
theorem k_c_CS_let_25_3 : sblk b_CS_let [(25, .istore_n 3, .null), (26, .aload_n 0, .null), (27, .aload_n 0, .null)] := sblk_of (by decide +kernel)
theorem d_c_CS_let_28 : decode b_CS_let 28 = .ok (.getfield 83, 3) := by decide +kernel
theorem k_c_CS_let_31_2 : sblk b_CS_let [(31, .iload_n 1, .null), (32, .iload_n 2, .null)] := sblk_of (by decide +kernel)
theorem d_c_CS_let_33 : decode b_CS_let 33 = .ok (.invokestatic 90, 3) := by decide +kernel
theorem d_c_CS_let_36 : decode b_CS_let 36 = .ok (.putfield 83, 3) := by decide +kernel
theorem k_c_CS_let_39_1 : sblk b_CS_let [(39, .iload_n 3, .null)] := sblk_of (by decide +kernel)
theorem d_c_CS_let_40 : decode b_CS_let 40 = .ok (.ireturn, 1) := by decide +kernel
set_option maxHeartbeats 40000000 in
set_option maxRecDepth 100000 in
theorem c_CS_let (l : Launch) (D : va_G) (B : Nat) (H0 : Heap) (w : jW) (x : Nat) (V : Nat → Value) (n : Int32) (u : Int32)  (hx : w.1 x = some (.inr (8, V))) (h4 : V 4 = .int 0)  (q : Nat) (xq : x < q) : jMet l D B H0 y_CS_let b_CS_let 4 (some .int) 3 160 0 0 [.ref x, .int n, .int u] w (fun v w9 => v = some (.int (an_let n u)) ∧ jfr (fun b => q ≤ b) w w9) := by
  refine j_met (by decide) (Nat.le_of_ble_eq_true rfl) (fun g C Rm Y E => ?_)
  have hk := jkz w
  have fr0 : jfr (fun b => q ≤ b) w w := jfr0
  show JJ g w 0 [(0, .ref x), (1, .int n), (2, .int u)] []
  refine j_blk 1 [(0, .ref x), (1, .int n), (2, .int u)] [.int n] C k_c_CS_let_0_1 rfl ?_
  refine j_callS (As := [.int n]) C Rm Y [] (c_CS_isName l D B H0 w n) cl_CS_77 d_c_CS_let_1 rfl rfl (Nat.le_of_ble_eq_true rfl) ⟨by decide, by decide⟩ ⟨jroom hk.1 rfl, jroom hk.2 rfl⟩ (fun v1 w_1 pw_1 => ?_)
  obtain ⟨rfl, rfl⟩ := pw_1
  show JJ g w 4 [(0, .ref x), (1, .int n), (2, .int u)] [.int (if 0 ≤ n.toInt ∧ n.toInt < 6 then 1 else 0)]
  refine j_if_eq (tgt := 14) C d_c_CS_let_4 (by decide) (fun c2 => ?_) (fun c2 => ?_)
  · have c2 := jbz.mp c2
    refine j_blk 16 [(0, .ref x), (1, .int n), (2, .int u)] [.int (-2)] C k_c_CS_let_14_1 rfl ?_
    exact j_iret C Rm E d_c_CS_let_16 ⟨jin_ (fun hq => absurd hq (by (try simp only [jlt, jle, jeq, kt_0, kt_1, kt_2, kt_3, kt_4, kt_5, kt_6, kt_7, kt_8, kt_9, kt_10, kt_11, kt_12, kt_13, kt_15, kt_16, kt_19, kt_20, kt_24, kt_25, kt_31, kt_32, kt_40, kt_50, kt_60, kt_63, kt_100, kt_120, kt_255, kt_300, kt_999999, kt_1000000, kt_m1, kt_m2, kt_m3, kt_m4, kt_m6, kt_m7, kt_m11, kt_m12, kt_m13, kt_m14, kt_m100] at c2); (try simp only [kt_0, kt_1, kt_2, kt_3, kt_4, kt_5, kt_6, kt_7, kt_8, kt_9, kt_10, kt_11, kt_12, kt_13, kt_15, kt_16, kt_19, kt_20, kt_24, kt_25, kt_31, kt_32, kt_40, kt_50, kt_60, kt_63, kt_100, kt_120, kt_255, kt_300, kt_999999, kt_1000000, kt_m1, kt_m2, kt_m3, kt_m4, kt_m6, kt_m7, kt_m11, kt_m12, kt_m13, kt_m14, kt_m100]); omega)), fr0⟩ (jbnd hk.1 rfl) (jbnd hk.2 rfl)
  · have c2 := jbo.mp c2
    refine j_blk 8 [(0, .ref x), (1, .int n), (2, .int u)] [.int u] C k_c_CS_let_7_1 rfl ?_
    refine j_callS (As := [.int u]) C Rm Y [] (c_CS_isValue l D B H0 w u) cl_CS_80 d_c_CS_let_8 rfl rfl (Nat.le_of_ble_eq_true rfl) ⟨by decide, by decide⟩ ⟨jroom hk.1 rfl, jroom hk.2 rfl⟩ (fun v3 w_2 pw_2 => ?_)
    obtain ⟨rfl, rfl⟩ := pw_2
    show JJ g w 11 [(0, .ref x), (1, .int n), (2, .int u)] [.int (if 0 ≤ u.toInt ∧ u.toInt < 10 then 1 else 0)]
    refine j_if_ne (tgt := 17) C d_c_CS_let_11 (by decide) (fun c4 => ?_) (fun c4 => ?_)
    · have c4 := jbo.mp c4
      refine j_blk 18 [(0, .ref x), (1, .int n), (2, .int u)] [.ref x] C k_c_CS_let_17_1 rfl ?_
      refine j_get C d_c_CS_let_18 fg_CS_83 hx h4 ?_
      refine j_blk 22 [(0, .ref x), (1, .int n), (2, .int u)] [.int n, .int 0] C k_c_CS_let_21_1 rfl ?_
      refine j_callS (As := [.int 0, .int n]) C Rm Y [] (c_CS_digitAt l D B H0 w 0 n) cl_CS_86 d_c_CS_let_22 rfl rfl (Nat.le_of_ble_eq_true rfl) ⟨by decide, by decide⟩ ⟨jroom hk.1 rfl, jroom hk.2 rfl⟩ (fun v5 w_3 pw_3 => ?_)
      obtain ⟨rfl, rfl⟩ := pw_3
      show JJ g w 25 [(0, .ref x), (1, .int n), (2, .int u)] [.int (((0 : Int32).toUInt32 >>> (((5 - n) * 4).toUInt32 &&& Int32.toUInt32 31)).toInt32 &&& 15)]
      refine j_blk 28 [(3, .int (((0 : Int32).toUInt32 >>> (((5 - n) * 4).toUInt32 &&& Int32.toUInt32 31)).toInt32 &&& 15)), (0, .ref x), (1, .int n), (2, .int u)] [.ref x, .ref x] C k_c_CS_let_25_3 rfl ?_
      refine j_get C d_c_CS_let_28 fg_CS_83 hx h4 ?_
      refine j_blk 33 [(3, .int (((0 : Int32).toUInt32 >>> (((5 - n) * 4).toUInt32 &&& Int32.toUInt32 31)).toInt32 &&& 15)), (0, .ref x), (1, .int n), (2, .int u)] [.int u, .int n, .int 0, .ref x] C k_c_CS_let_31_2 rfl ?_
      refine j_callS (As := [.int 0, .int n, .int u]) C Rm Y [.ref x] (c_CS_withDigit l D B H0 w 0 n u) cl_CS_90 d_c_CS_let_33 rfl rfl (Nat.le_of_ble_eq_true rfl) ⟨by decide, by decide⟩ ⟨jroom hk.1 rfl, jroom hk.2 rfl⟩ (fun v6 w_4 pw_4 => ?_)
      obtain ⟨rfl, rfl⟩ := pw_4
      show JJ g w 36 [(3, .int (((0 : Int32).toUInt32 >>> (((5 - n) * 4).toUInt32 &&& Int32.toUInt32 31)).toInt32 &&& 15)), (0, .ref x), (1, .int n), (2, .int u)] [.int (((0 : Int32) &&& ((15 <<< (((5 - n) * 4) &&& 31)) ^^^ (-1))) ||| (u <<< (((5 - n) * 4) &&& 31))), .ref x]
      refine j_put C d_c_CS_let_36 fp_CS_83 hx rfl rfl ?_
      refine jnv (fun w_5 ew_5 => ?_)
      have m_x_w_5 : w_5.1 x = some (.inr (8, (updV V 4 (.int (((0 : Int32) &&& ((15 <<< (((5 - n) * 4) &&& 31)) ^^^ (-1))) ||| (u <<< (((5 - n) * 4) &&& 31))))))) := jus ew_5
      have hk_w_5 := jk0 ew_5 hk
      have fr_w_5 := jfrW ew_5 fr0 (fun b e hb _ => Nat.ne_of_gt (Nat.lt_of_lt_of_le xq hb))
      refine j_blk 40 [(3, .int (((0 : Int32).toUInt32 >>> (((5 - n) * 4).toUInt32 &&& Int32.toUInt32 31)).toInt32 &&& 15)), (0, .ref x), (1, .int n), (2, .int u)] [.int (((0 : Int32).toUInt32 >>> (((5 - n) * 4).toUInt32 &&& Int32.toUInt32 31)).toInt32 &&& 15)] C k_c_CS_let_39_1 rfl ?_
      have g1 : 0 ≤ n.toInt ∧ n.toInt < 6 := (by (try simp only [jlt, jle, jeq, kt_0, kt_1, kt_2, kt_3, kt_4, kt_5, kt_6, kt_7, kt_8, kt_9, kt_10, kt_11, kt_12, kt_13, kt_15, kt_16, kt_19, kt_20, kt_24, kt_25, kt_31, kt_32, kt_40, kt_50, kt_60, kt_63, kt_100, kt_120, kt_255, kt_300, kt_999999, kt_1000000, kt_m1, kt_m2, kt_m3, kt_m4, kt_m6, kt_m7, kt_m11, kt_m12, kt_m13, kt_m14, kt_m100] at c2); (try simp only [jlt, jle, jeq, kt_0, kt_1, kt_2, kt_3, kt_4, kt_5, kt_6, kt_7, kt_8, kt_9, kt_10, kt_11, kt_12, kt_13, kt_15, kt_16, kt_19, kt_20, kt_24, kt_25, kt_31, kt_32, kt_40, kt_50, kt_60, kt_63, kt_100, kt_120, kt_255, kt_300, kt_999999, kt_1000000, kt_m1, kt_m2, kt_m3, kt_m4, kt_m6, kt_m7, kt_m11, kt_m12, kt_m13, kt_m14, kt_m100] at c4); (try simp only [kt_0, kt_1, kt_2, kt_3, kt_4, kt_5, kt_6, kt_7, kt_8, kt_9, kt_10, kt_11, kt_12, kt_13, kt_15, kt_16, kt_19, kt_20, kt_24, kt_25, kt_31, kt_32, kt_40, kt_50, kt_60, kt_63, kt_100, kt_120, kt_255, kt_300, kt_999999, kt_1000000, kt_m1, kt_m2, kt_m3, kt_m4, kt_m6, kt_m7, kt_m11, kt_m12, kt_m13, kt_m14, kt_m100]); omega)
      have g2 : 0 ≤ u.toInt ∧ u.toInt < 10 := (by (try simp only [jlt, jle, jeq, kt_0, kt_1, kt_2, kt_3, kt_4, kt_5, kt_6, kt_7, kt_8, kt_9, kt_10, kt_11, kt_12, kt_13, kt_15, kt_16, kt_19, kt_20, kt_24, kt_25, kt_31, kt_32, kt_40, kt_50, kt_60, kt_63, kt_100, kt_120, kt_255, kt_300, kt_999999, kt_1000000, kt_m1, kt_m2, kt_m3, kt_m4, kt_m6, kt_m7, kt_m11, kt_m12, kt_m13, kt_m14, kt_m100] at c2); (try simp only [jlt, jle, jeq, kt_0, kt_1, kt_2, kt_3, kt_4, kt_5, kt_6, kt_7, kt_8, kt_9, kt_10, kt_11, kt_12, kt_13, kt_15, kt_16, kt_19, kt_20, kt_24, kt_25, kt_31, kt_32, kt_40, kt_50, kt_60, kt_63, kt_100, kt_120, kt_255, kt_300, kt_999999, kt_1000000, kt_m1, kt_m2, kt_m3, kt_m4, kt_m6, kt_m7, kt_m11, kt_m12, kt_m13, kt_m14, kt_m100] at c4); (try simp only [kt_0, kt_1, kt_2, kt_3, kt_4, kt_5, kt_6, kt_7, kt_8, kt_9, kt_10, kt_11, kt_12, kt_13, kt_15, kt_16, kt_19, kt_20, kt_24, kt_25, kt_31, kt_32, kt_40, kt_50, kt_60, kt_63, kt_100, kt_120, kt_255, kt_300, kt_999999, kt_1000000, kt_m1, kt_m2, kt_m3, kt_m4, kt_m6, kt_m7, kt_m11, kt_m12, kt_m13, kt_m14, kt_m100]); omega)
      have hn : n = 0 ∨ n = 1 ∨ n = 2 ∨ n = 3 ∨ n = 4 ∨ n = 5 := by simp only [jeq, kt_0, kt_1, kt_2, kt_3, kt_4, kt_5, kt_6, kt_7, kt_8, kt_9, kt_10, kt_11, kt_12, kt_13, kt_15, kt_16, kt_19, kt_20, kt_24, kt_25, kt_31, kt_32, kt_40, kt_50, kt_60, kt_63, kt_100, kt_120, kt_255, kt_300, kt_999999, kt_1000000, kt_m1, kt_m2, kt_m3, kt_m4, kt_m6, kt_m7, kt_m11, kt_m12, kt_m13, kt_m14, kt_m100]; omega
      have gz : (((0 : Int32).toUInt32 >>> (((5 - n) * 4).toUInt32 &&& Int32.toUInt32 31)).toInt32 &&& 15) = (0 : Int32) := by clear c2 c4; rcases hn with rfl | rfl | rfl | rfl | rfl | rfl <;> rfl
      exact j_iret C Rm E d_c_CS_let_40 ⟨(congrArg (fun z => some (Value.int z)) gz).trans (jip ⟨g1, g2⟩), fr_w_5⟩ (jbnd hk_w_5.1 rfl) (jbnd hk_w_5.2 rfl)
    · have c4 := jbz.mp c4
      refine j_blk 16 [(0, .ref x), (1, .int n), (2, .int u)] [.int (-2)] C k_c_CS_let_14_1 rfl ?_
      exact j_iret C Rm E d_c_CS_let_16 ⟨jin_ (fun hq => absurd hq (by (try simp only [jlt, jle, jeq, kt_0, kt_1, kt_2, kt_3, kt_4, kt_5, kt_6, kt_7, kt_8, kt_9, kt_10, kt_11, kt_12, kt_13, kt_15, kt_16, kt_19, kt_20, kt_24, kt_25, kt_31, kt_32, kt_40, kt_50, kt_60, kt_63, kt_100, kt_120, kt_255, kt_300, kt_999999, kt_1000000, kt_m1, kt_m2, kt_m3, kt_m4, kt_m6, kt_m7, kt_m11, kt_m12, kt_m13, kt_m14, kt_m100] at c2); (try simp only [jlt, jle, jeq, kt_0, kt_1, kt_2, kt_3, kt_4, kt_5, kt_6, kt_7, kt_8, kt_9, kt_10, kt_11, kt_12, kt_13, kt_15, kt_16, kt_19, kt_20, kt_24, kt_25, kt_31, kt_32, kt_40, kt_50, kt_60, kt_63, kt_100, kt_120, kt_255, kt_300, kt_999999, kt_1000000, kt_m1, kt_m2, kt_m3, kt_m4, kt_m6, kt_m7, kt_m11, kt_m12, kt_m13, kt_m14, kt_m100] at c4); (try simp only [kt_0, kt_1, kt_2, kt_3, kt_4, kt_5, kt_6, kt_7, kt_8, kt_9, kt_10, kt_11, kt_12, kt_13, kt_15, kt_16, kt_19, kt_20, kt_24, kt_25, kt_31, kt_32, kt_40, kt_50, kt_60, kt_63, kt_100, kt_120, kt_255, kt_300, kt_999999, kt_1000000, kt_m1, kt_m2, kt_m3, kt_m4, kt_m6, kt_m7, kt_m11, kt_m12, kt_m13, kt_m14, kt_m100]); omega)), fr0⟩ (jbnd hk.1 rfl) (jbnd hk.2 rfl)

theorem k_c_Mo_let_0_0_1 : sblk b_Mo_let_0 [(0, .iload_n 1, .null)] := sblk_of (by decide +kernel)
theorem d_c_Mo_let_0_1 : decode b_Mo_let_0 1 = .ok (.invokestatic 254, 3) := by decide +kernel
theorem d_c_Mo_let_0_4 : decode b_Mo_let_0 4 = .ok (.ifCond .eq 13, 3) := by decide +kernel
theorem k_c_Mo_let_0_17_1 : sblk b_Mo_let_0 [(17, .bipush (-2), .int (-2))] := sblk_of (by decide +kernel)
theorem d_c_Mo_let_0_19 : decode b_Mo_let_0 19 = .ok (.ireturn, 1) := by decide +kernel
theorem k_c_Mo_let_0_7_3 : sblk b_Mo_let_0 [(7, .iload_n 2, .null), (8, .iconst 0, .int 0), (9, .bipush 9, .int 9)] := sblk_of (by decide +kernel)
theorem d_c_Mo_let_0_11 : decode b_Mo_let_0 11 = .ok (.invokestatic 108, 3) := by decide +kernel
theorem d_c_Mo_let_0_14 : decode b_Mo_let_0 14 = .ok (.ifCond .ne 6, 3) := by decide +kernel
theorem k_c_Mo_let_0_20_1 : sblk b_Mo_let_0 [(20, .aload_n 0, .null)] := sblk_of (by decide +kernel)
theorem d_c_Mo_let_0_21 : decode b_Mo_let_0 21 = .ok (.getfield 60, 3) := by decide +kernel
theorem k_c_Mo_let_0_24_1 : sblk b_Mo_let_0 [(24, .iload_n 1, .null)] := sblk_of (by decide +kernel)
theorem d_c_Mo_let_0_25 : decode b_Mo_let_0 25 = .ok (.iaload, 1) := by decide +kernel
theorem k_c_Mo_let_0_26_2 : sblk b_Mo_let_0 [(26, .istore_n 3, .null), (27, .aload_n 0, .null)] := sblk_of (by decide +kernel)
theorem d_c_Mo_let_0_28 : decode b_Mo_let_0 28 = .ok (.getfield 60, 3) := by decide +kernel
theorem k_c_Mo_let_0_31_2 : sblk b_Mo_let_0 [(31, .iload_n 1, .null), (32, .iload_n 2, .null)] := sblk_of (by decide +kernel)
theorem d_c_Mo_let_0_33 : decode b_Mo_let_0 33 = .ok (.iastore, 1) := by decide +kernel
theorem k_c_Mo_let_0_34_1 : sblk b_Mo_let_0 [(34, .iload_n 3, .null)] := sblk_of (by decide +kernel)
theorem d_c_Mo_let_0_35 : decode b_Mo_let_0 35 = .ok (.ireturn, 1) := by decide +kernel
set_option maxHeartbeats 40000000 in
set_option maxRecDepth 100000 in
theorem c_Mo_let_0 (l : Launch) (D : va_G) (B : Nat) (H0 : Heap) (w : jW) (x : Nat) (V : Nat → Value) (n : Int32) (u : Int32) (st : Nat) (hx : w.1 x = some (.inr (10, V))) (h17 : V 17 = .ref st) (hst : w.1 st = some (aI D 6 (fun _ => 0))) (q : Nat) (xq : x < q) (stq : st < q) : jMet l D B H0 y_Mo_let_0 b_Mo_let_0 4 (some .int) 3 160 0 0 [.ref x, .int n, .int u] w (fun v w9 => v = some (.int (an_let n u)) ∧ jfr (fun b => q ≤ b) w w9) := by
  refine j_met (by decide) (Nat.le_of_ble_eq_true rfl) (fun g C Rm Y E => ?_)
  have hk := jkz w
  have fr0 : jfr (fun b => q ≤ b) w w := jfr0
  show JJ g w 0 [(0, .ref x), (1, .int n), (2, .int u)] []
  refine j_blk 1 [(0, .ref x), (1, .int n), (2, .int u)] [.int n] C k_c_Mo_let_0_0_1 rfl ?_
  refine j_callS (As := [.int n]) C Rm Y [] (c_Mo_isName l D B H0 w n) cl_Mo_254 d_c_Mo_let_0_1 rfl rfl (Nat.le_of_ble_eq_true rfl) ⟨by decide, by decide⟩ ⟨jroom hk.1 rfl, jroom hk.2 rfl⟩ (fun v1 w_1 pw_1 => ?_)
  obtain ⟨rfl, rfl⟩ := pw_1
  show JJ g w 4 [(0, .ref x), (1, .int n), (2, .int u)] [.int (if (0 : Int32).toInt ≤ n.toInt ∧ n.toInt ≤ (5 : Int32).toInt then 1 else 0)]
  refine j_if_eq (tgt := 17) C d_c_Mo_let_0_4 (by decide) (fun c2 => ?_) (fun c2 => ?_)
  · have c2 := jbz.mp c2
    refine j_blk 19 [(0, .ref x), (1, .int n), (2, .int u)] [.int (-2)] C k_c_Mo_let_0_17_1 rfl ?_
    exact j_iret C Rm E d_c_Mo_let_0_19 ⟨jin_ (fun hq => absurd hq (by (try simp only [jlt, jle, jeq, kt_0, kt_1, kt_2, kt_3, kt_4, kt_5, kt_6, kt_7, kt_8, kt_9, kt_10, kt_11, kt_12, kt_13, kt_15, kt_16, kt_19, kt_20, kt_24, kt_25, kt_31, kt_32, kt_40, kt_50, kt_60, kt_63, kt_100, kt_120, kt_255, kt_300, kt_999999, kt_1000000, kt_m1, kt_m2, kt_m3, kt_m4, kt_m6, kt_m7, kt_m11, kt_m12, kt_m13, kt_m14, kt_m100] at c2); (try simp only [kt_0, kt_1, kt_2, kt_3, kt_4, kt_5, kt_6, kt_7, kt_8, kt_9, kt_10, kt_11, kt_12, kt_13, kt_15, kt_16, kt_19, kt_20, kt_24, kt_25, kt_31, kt_32, kt_40, kt_50, kt_60, kt_63, kt_100, kt_120, kt_255, kt_300, kt_999999, kt_1000000, kt_m1, kt_m2, kt_m3, kt_m4, kt_m6, kt_m7, kt_m11, kt_m12, kt_m13, kt_m14, kt_m100]); omega)), fr0⟩ (jbnd hk.1 rfl) (jbnd hk.2 rfl)
  · have c2 := jbo.mp c2
    refine j_blk 11 [(0, .ref x), (1, .int n), (2, .int u)] [.int 9, .int 0, .int u] C k_c_Mo_let_0_7_3 rfl ?_
    refine j_callS (As := [.int u, .int 0, .int 9]) C Rm Y [] (c_Mo_in l D B H0 w u 0 9) cl_Mo_108 d_c_Mo_let_0_11 rfl rfl (Nat.le_of_ble_eq_true rfl) ⟨by decide, by decide⟩ ⟨jroom hk.1 rfl, jroom hk.2 rfl⟩ (fun v3 w_2 pw_2 => ?_)
    obtain ⟨rfl, rfl⟩ := pw_2
    show JJ g w 14 [(0, .ref x), (1, .int n), (2, .int u)] [.int (if (0 : Int32).toInt ≤ u.toInt ∧ u.toInt ≤ (9 : Int32).toInt then 1 else 0)]
    refine j_if_ne (tgt := 20) C d_c_Mo_let_0_14 (by decide) (fun c4 => ?_) (fun c4 => ?_)
    · have c4 := jbo.mp c4
      refine j_blk 21 [(0, .ref x), (1, .int n), (2, .int u)] [.ref x] C k_c_Mo_let_0_20_1 rfl ?_
      refine j_get C d_c_Mo_let_0_21 fg_Mo_60 hx h17 ?_
      refine j_blk 25 [(0, .ref x), (1, .int n), (2, .int u)] [.int n, .ref st] C k_c_Mo_let_0_24_1 rfl ?_
      refine j_iald C d_c_Mo_let_0_25 hst (jin (by (try simp only [jlt, jle, jeq, kt_0, kt_1, kt_2, kt_3, kt_4, kt_5, kt_6, kt_7, kt_8, kt_9, kt_10, kt_11, kt_12, kt_13, kt_15, kt_16, kt_19, kt_20, kt_24, kt_25, kt_31, kt_32, kt_40, kt_50, kt_60, kt_63, kt_100, kt_120, kt_255, kt_300, kt_999999, kt_1000000, kt_m1, kt_m2, kt_m3, kt_m4, kt_m6, kt_m7, kt_m11, kt_m12, kt_m13, kt_m14, kt_m100] at c2); (try simp only [jlt, jle, jeq, kt_0, kt_1, kt_2, kt_3, kt_4, kt_5, kt_6, kt_7, kt_8, kt_9, kt_10, kt_11, kt_12, kt_13, kt_15, kt_16, kt_19, kt_20, kt_24, kt_25, kt_31, kt_32, kt_40, kt_50, kt_60, kt_63, kt_100, kt_120, kt_255, kt_300, kt_999999, kt_1000000, kt_m1, kt_m2, kt_m3, kt_m4, kt_m6, kt_m7, kt_m11, kt_m12, kt_m13, kt_m14, kt_m100] at c4); (try simp only [kt_0, kt_1, kt_2, kt_3, kt_4, kt_5, kt_6, kt_7, kt_8, kt_9, kt_10, kt_11, kt_12, kt_13, kt_15, kt_16, kt_19, kt_20, kt_24, kt_25, kt_31, kt_32, kt_40, kt_50, kt_60, kt_63, kt_100, kt_120, kt_255, kt_300, kt_999999, kt_1000000, kt_m1, kt_m2, kt_m3, kt_m4, kt_m6, kt_m7, kt_m11, kt_m12, kt_m13, kt_m14, kt_m100]); omega) (by (try simp only [jlt, jle, jeq, kt_0, kt_1, kt_2, kt_3, kt_4, kt_5, kt_6, kt_7, kt_8, kt_9, kt_10, kt_11, kt_12, kt_13, kt_15, kt_16, kt_19, kt_20, kt_24, kt_25, kt_31, kt_32, kt_40, kt_50, kt_60, kt_63, kt_100, kt_120, kt_255, kt_300, kt_999999, kt_1000000, kt_m1, kt_m2, kt_m3, kt_m4, kt_m6, kt_m7, kt_m11, kt_m12, kt_m13, kt_m14, kt_m100] at c2); (try simp only [jlt, jle, jeq, kt_0, kt_1, kt_2, kt_3, kt_4, kt_5, kt_6, kt_7, kt_8, kt_9, kt_10, kt_11, kt_12, kt_13, kt_15, kt_16, kt_19, kt_20, kt_24, kt_25, kt_31, kt_32, kt_40, kt_50, kt_60, kt_63, kt_100, kt_120, kt_255, kt_300, kt_999999, kt_1000000, kt_m1, kt_m2, kt_m3, kt_m4, kt_m6, kt_m7, kt_m11, kt_m12, kt_m13, kt_m14, kt_m100] at c4); (try simp only [kt_0, kt_1, kt_2, kt_3, kt_4, kt_5, kt_6, kt_7, kt_8, kt_9, kt_10, kt_11, kt_12, kt_13, kt_15, kt_16, kt_19, kt_20, kt_24, kt_25, kt_31, kt_32, kt_40, kt_50, kt_60, kt_63, kt_100, kt_120, kt_255, kt_300, kt_999999, kt_1000000, kt_m1, kt_m2, kt_m3, kt_m4, kt_m6, kt_m7, kt_m11, kt_m12, kt_m13, kt_m14, kt_m100]); omega)) ?_
      refine j_blk 28 [(3, .int 0), (0, .ref x), (1, .int n), (2, .int u)] [.ref x] C k_c_Mo_let_0_26_2 rfl ?_
      refine j_get C d_c_Mo_let_0_28 fg_Mo_60 hx h17 ?_
      refine j_blk 33 [(3, .int 0), (0, .ref x), (1, .int n), (2, .int u)] [.int u, .int n, .ref st] C k_c_Mo_let_0_31_2 rfl ?_
      refine j_iast C d_c_Mo_let_0_33 hst (jin (by (try simp only [jlt, jle, jeq, kt_0, kt_1, kt_2, kt_3, kt_4, kt_5, kt_6, kt_7, kt_8, kt_9, kt_10, kt_11, kt_12, kt_13, kt_15, kt_16, kt_19, kt_20, kt_24, kt_25, kt_31, kt_32, kt_40, kt_50, kt_60, kt_63, kt_100, kt_120, kt_255, kt_300, kt_999999, kt_1000000, kt_m1, kt_m2, kt_m3, kt_m4, kt_m6, kt_m7, kt_m11, kt_m12, kt_m13, kt_m14, kt_m100] at c2); (try simp only [jlt, jle, jeq, kt_0, kt_1, kt_2, kt_3, kt_4, kt_5, kt_6, kt_7, kt_8, kt_9, kt_10, kt_11, kt_12, kt_13, kt_15, kt_16, kt_19, kt_20, kt_24, kt_25, kt_31, kt_32, kt_40, kt_50, kt_60, kt_63, kt_100, kt_120, kt_255, kt_300, kt_999999, kt_1000000, kt_m1, kt_m2, kt_m3, kt_m4, kt_m6, kt_m7, kt_m11, kt_m12, kt_m13, kt_m14, kt_m100] at c4); (try simp only [kt_0, kt_1, kt_2, kt_3, kt_4, kt_5, kt_6, kt_7, kt_8, kt_9, kt_10, kt_11, kt_12, kt_13, kt_15, kt_16, kt_19, kt_20, kt_24, kt_25, kt_31, kt_32, kt_40, kt_50, kt_60, kt_63, kt_100, kt_120, kt_255, kt_300, kt_999999, kt_1000000, kt_m1, kt_m2, kt_m3, kt_m4, kt_m6, kt_m7, kt_m11, kt_m12, kt_m13, kt_m14, kt_m100]); omega) (by (try simp only [jlt, jle, jeq, kt_0, kt_1, kt_2, kt_3, kt_4, kt_5, kt_6, kt_7, kt_8, kt_9, kt_10, kt_11, kt_12, kt_13, kt_15, kt_16, kt_19, kt_20, kt_24, kt_25, kt_31, kt_32, kt_40, kt_50, kt_60, kt_63, kt_100, kt_120, kt_255, kt_300, kt_999999, kt_1000000, kt_m1, kt_m2, kt_m3, kt_m4, kt_m6, kt_m7, kt_m11, kt_m12, kt_m13, kt_m14, kt_m100] at c2); (try simp only [jlt, jle, jeq, kt_0, kt_1, kt_2, kt_3, kt_4, kt_5, kt_6, kt_7, kt_8, kt_9, kt_10, kt_11, kt_12, kt_13, kt_15, kt_16, kt_19, kt_20, kt_24, kt_25, kt_31, kt_32, kt_40, kt_50, kt_60, kt_63, kt_100, kt_120, kt_255, kt_300, kt_999999, kt_1000000, kt_m1, kt_m2, kt_m3, kt_m4, kt_m6, kt_m7, kt_m11, kt_m12, kt_m13, kt_m14, kt_m100] at c4); (try simp only [kt_0, kt_1, kt_2, kt_3, kt_4, kt_5, kt_6, kt_7, kt_8, kt_9, kt_10, kt_11, kt_12, kt_13, kt_15, kt_16, kt_19, kt_20, kt_24, kt_25, kt_31, kt_32, kt_40, kt_50, kt_60, kt_63, kt_100, kt_120, kt_255, kt_300, kt_999999, kt_1000000, kt_m1, kt_m2, kt_m3, kt_m4, kt_m6, kt_m7, kt_m11, kt_m12, kt_m13, kt_m14, kt_m100]); omega)) ?_
      refine jnv (fun w_3 ew_3 => ?_)
      have m_st_w_3 : w_3.1 st = some (aI D 6 (upd (fun _ => 0) (Int32.toNatClampNeg n) u)) := jus ew_3
      have hk_w_3 := jk0 ew_3 hk
      have fr_w_3 := jfrW ew_3 fr0 (fun b e hb _ => Nat.ne_of_gt (Nat.lt_of_lt_of_le stq hb))
      refine j_blk 35 [(3, .int 0), (0, .ref x), (1, .int n), (2, .int u)] [.int 0] C k_c_Mo_let_0_34_1 rfl ?_
      exact j_iret C Rm E d_c_Mo_let_0_35 ⟨jip ⟨(by (try simp only [jlt, jle, jeq, kt_0, kt_1, kt_2, kt_3, kt_4, kt_5, kt_6, kt_7, kt_8, kt_9, kt_10, kt_11, kt_12, kt_13, kt_15, kt_16, kt_19, kt_20, kt_24, kt_25, kt_31, kt_32, kt_40, kt_50, kt_60, kt_63, kt_100, kt_120, kt_255, kt_300, kt_999999, kt_1000000, kt_m1, kt_m2, kt_m3, kt_m4, kt_m6, kt_m7, kt_m11, kt_m12, kt_m13, kt_m14, kt_m100] at c2); (try simp only [jlt, jle, jeq, kt_0, kt_1, kt_2, kt_3, kt_4, kt_5, kt_6, kt_7, kt_8, kt_9, kt_10, kt_11, kt_12, kt_13, kt_15, kt_16, kt_19, kt_20, kt_24, kt_25, kt_31, kt_32, kt_40, kt_50, kt_60, kt_63, kt_100, kt_120, kt_255, kt_300, kt_999999, kt_1000000, kt_m1, kt_m2, kt_m3, kt_m4, kt_m6, kt_m7, kt_m11, kt_m12, kt_m13, kt_m14, kt_m100] at c4); show 0 ≤ n.toInt ∧ n.toInt < 6; (try simp only [kt_0, kt_1, kt_2, kt_3, kt_4, kt_5, kt_6, kt_7, kt_8, kt_9, kt_10, kt_11, kt_12, kt_13, kt_15, kt_16, kt_19, kt_20, kt_24, kt_25, kt_31, kt_32, kt_40, kt_50, kt_60, kt_63, kt_100, kt_120, kt_255, kt_300, kt_999999, kt_1000000, kt_m1, kt_m2, kt_m3, kt_m4, kt_m6, kt_m7, kt_m11, kt_m12, kt_m13, kt_m14, kt_m100]); omega), (by (try simp only [jlt, jle, jeq, kt_0, kt_1, kt_2, kt_3, kt_4, kt_5, kt_6, kt_7, kt_8, kt_9, kt_10, kt_11, kt_12, kt_13, kt_15, kt_16, kt_19, kt_20, kt_24, kt_25, kt_31, kt_32, kt_40, kt_50, kt_60, kt_63, kt_100, kt_120, kt_255, kt_300, kt_999999, kt_1000000, kt_m1, kt_m2, kt_m3, kt_m4, kt_m6, kt_m7, kt_m11, kt_m12, kt_m13, kt_m14, kt_m100] at c2); (try simp only [jlt, jle, jeq, kt_0, kt_1, kt_2, kt_3, kt_4, kt_5, kt_6, kt_7, kt_8, kt_9, kt_10, kt_11, kt_12, kt_13, kt_15, kt_16, kt_19, kt_20, kt_24, kt_25, kt_31, kt_32, kt_40, kt_50, kt_60, kt_63, kt_100, kt_120, kt_255, kt_300, kt_999999, kt_1000000, kt_m1, kt_m2, kt_m3, kt_m4, kt_m6, kt_m7, kt_m11, kt_m12, kt_m13, kt_m14, kt_m100] at c4); show 0 ≤ u.toInt ∧ u.toInt < 10; (try simp only [kt_0, kt_1, kt_2, kt_3, kt_4, kt_5, kt_6, kt_7, kt_8, kt_9, kt_10, kt_11, kt_12, kt_13, kt_15, kt_16, kt_19, kt_20, kt_24, kt_25, kt_31, kt_32, kt_40, kt_50, kt_60, kt_63, kt_100, kt_120, kt_255, kt_300, kt_999999, kt_1000000, kt_m1, kt_m2, kt_m3, kt_m4, kt_m6, kt_m7, kt_m11, kt_m12, kt_m13, kt_m14, kt_m100]); omega)⟩, fr_w_3⟩ (jbnd hk_w_3.1 rfl) (jbnd hk_w_3.2 rfl)
    · have c4 := jbz.mp c4
      refine j_blk 19 [(0, .ref x), (1, .int n), (2, .int u)] [.int (-2)] C k_c_Mo_let_0_17_1 rfl ?_
      exact j_iret C Rm E d_c_Mo_let_0_19 ⟨jin_ (fun hq => absurd hq (by (try simp only [jlt, jle, jeq, kt_0, kt_1, kt_2, kt_3, kt_4, kt_5, kt_6, kt_7, kt_8, kt_9, kt_10, kt_11, kt_12, kt_13, kt_15, kt_16, kt_19, kt_20, kt_24, kt_25, kt_31, kt_32, kt_40, kt_50, kt_60, kt_63, kt_100, kt_120, kt_255, kt_300, kt_999999, kt_1000000, kt_m1, kt_m2, kt_m3, kt_m4, kt_m6, kt_m7, kt_m11, kt_m12, kt_m13, kt_m14, kt_m100] at c2); (try simp only [jlt, jle, jeq, kt_0, kt_1, kt_2, kt_3, kt_4, kt_5, kt_6, kt_7, kt_8, kt_9, kt_10, kt_11, kt_12, kt_13, kt_15, kt_16, kt_19, kt_20, kt_24, kt_25, kt_31, kt_32, kt_40, kt_50, kt_60, kt_63, kt_100, kt_120, kt_255, kt_300, kt_999999, kt_1000000, kt_m1, kt_m2, kt_m3, kt_m4, kt_m6, kt_m7, kt_m11, kt_m12, kt_m13, kt_m14, kt_m100] at c4); (try simp only [kt_0, kt_1, kt_2, kt_3, kt_4, kt_5, kt_6, kt_7, kt_8, kt_9, kt_10, kt_11, kt_12, kt_13, kt_15, kt_16, kt_19, kt_20, kt_24, kt_25, kt_31, kt_32, kt_40, kt_50, kt_60, kt_63, kt_100, kt_120, kt_255, kt_300, kt_999999, kt_1000000, kt_m1, kt_m2, kt_m3, kt_m4, kt_m6, kt_m7, kt_m11, kt_m12, kt_m13, kt_m14, kt_m100]); omega)), fr0⟩ (jbnd hk.1 rfl) (jbnd hk.2 rfl)

theorem k_c_CS_image_0_2 : sblk b_CS_image [(0, .aload_n 0, .null), (1, .iconst 1, .int 1)] := sblk_of (by decide +kernel)
theorem d_c_CS_image_2 : decode b_CS_image 2 = .ok (.putfield 234, 3) := by decide +kernel
theorem k_c_CS_image_5_2 : sblk b_CS_image [(5, .aload_n 0, .null), (6, .aload_n 0, .null)] := sblk_of (by decide +kernel)
theorem d_c_CS_image_7 : decode b_CS_image 7 = .ok (.getfield 83, 3) := by decide +kernel
theorem d_c_CS_image_10 : decode b_CS_image 10 = .ok (.putfield 237, 3) := by decide +kernel
theorem k_c_CS_image_13_2 : sblk b_CS_image [(13, .aload_n 0, .null), (14, .aload_n 0, .null)] := sblk_of (by decide +kernel)
theorem d_c_CS_image_15 : decode b_CS_image 15 = .ok (.getfield 59, 3) := by decide +kernel
theorem d_c_CS_image_18 : decode b_CS_image 18 = .ok (.putfield 240, 3) := by decide +kernel
theorem k_c_CS_image_21_1 : sblk b_CS_image [(21, .aload_n 0, .null)] := sblk_of (by decide +kernel)
theorem d_c_CS_image_22 : decode b_CS_image 22 = .ok (.getfield 59, 3) := by decide +kernel
theorem d_c_CS_image_25 : decode b_CS_image 25 = .ok (.ireturn, 1) := by decide +kernel
set_option maxHeartbeats 40000000 in
set_option maxRecDepth 100000 in
theorem c_CS_image (l : Launch) (D : va_G) (B : Nat) (H0 : Heap) (w : jW) (x : Nat) (V : Nat → Value)   (hx : w.1 x = some (.inr (8, V))) (h3 : V 3 = .int 0) (h4 : V 4 = .int 0)  (q : Nat) (xq : x < q) : jMet l D B H0 y_CS_image b_CS_image 1 (some .int) 3 160 0 0 [.ref x] w (fun v w9 => v = some (.int (0)) ∧ jfr (fun b => q ≤ b) w w9) := by
  refine j_met (by decide) (Nat.le_of_ble_eq_true rfl) (fun g C Rm Y E => ?_)
  have hk := jkz w
  have fr0 : jfr (fun b => q ≤ b) w w := jfr0
  show JJ g w 0 [(0, .ref x)] []
  refine j_blk 2 [(0, .ref x)] [.int 1, .ref x] C k_c_CS_image_0_2 rfl ?_
  refine j_put C d_c_CS_image_2 fp_CS_234 hx rfl rfl ?_
  refine jnv (fun w_1 ew_1 => ?_)
  have m_x_w_1 : w_1.1 x = some (.inr (8, (updV V 5 (.int 1)))) := jus ew_1
  have hk_w_1 := jk0 ew_1 hk
  have fr_w_1 := jfrW ew_1 fr0 (fun b e hb _ => Nat.ne_of_gt (Nat.lt_of_lt_of_le xq hb))
  refine j_blk 7 [(0, .ref x)] [.ref x, .ref x] C k_c_CS_image_5_2 rfl ?_
  refine j_get C d_c_CS_image_7 fg_CS_83 m_x_w_1 h4 ?_
  refine j_put C d_c_CS_image_10 fp_CS_237 m_x_w_1 rfl rfl ?_
  refine jnv (fun w_2 ew_2 => ?_)
  have m_x_w_2 : w_2.1 x = some (.inr (8, (updV (updV V 5 (.int 1)) 6 (.int 0)))) := jus ew_2
  have hk_w_2 := jk0 ew_2 hk_w_1
  have fr_w_2 := jfrW ew_2 fr_w_1 (fun b e hb _ => Nat.ne_of_gt (Nat.lt_of_lt_of_le xq hb))
  refine j_blk 15 [(0, .ref x)] [.ref x, .ref x] C k_c_CS_image_13_2 rfl ?_
  refine j_get C d_c_CS_image_15 fg_CS_59 m_x_w_2 h3 ?_
  refine j_put C d_c_CS_image_18 fp_CS_240 m_x_w_2 rfl rfl ?_
  refine jnv (fun w_3 ew_3 => ?_)
  have m_x_w_3 : w_3.1 x = some (.inr (8, (updV (updV (updV V 5 (.int 1)) 6 (.int 0)) 7 (.int 0)))) := jus ew_3
  have hk_w_3 := jk0 ew_3 hk_w_2
  have fr_w_3 := jfrW ew_3 fr_w_2 (fun b e hb _ => Nat.ne_of_gt (Nat.lt_of_lt_of_le xq hb))
  refine j_blk 22 [(0, .ref x)] [.ref x] C k_c_CS_image_21_1 rfl ?_
  refine j_get C d_c_CS_image_22 fg_CS_59 m_x_w_3 h3 ?_
  exact j_iret C Rm E d_c_CS_image_25 ⟨rfl, fr_w_3⟩ (jbnd hk_w_3.1 rfl) (jbnd hk_w_3.2 rfl)

theorem k_c_CS_back_0_1 : sblk b_CS_back [(0, .aload_n 0, .null)] := sblk_of (by decide +kernel)
theorem d_c_CS_back_1 : decode b_CS_back 1 = .ok (.getfield 234, 3) := by decide +kernel
theorem d_c_CS_back_4 : decode b_CS_back 4 = .ok (.ifCond .ne 6, 3) := by decide +kernel
theorem k_c_CS_back_7_1 : sblk b_CS_back [(7, .bipush (-3), .int (-3))] := sblk_of (by decide +kernel)
theorem d_c_CS_back_9 : decode b_CS_back 9 = .ok (.ireturn, 1) := by decide +kernel
set_option maxHeartbeats 40000000 in
set_option maxRecDepth 100000 in
theorem c_CS_back (l : Launch) (D : va_G) (B : Nat) (H0 : Heap) (w : jW) (x : Nat) (V : Nat → Value)   (hx : w.1 x = some (.inr (8, V))) (h5 : V 5 = .int 0)  (q : Nat) (xq : x < q) : jMet l D B H0 y_CS_back b_CS_back 1 (some .int) 3 160 0 0 [.ref x] w (fun v w9 => v = some (.int (-3)) ∧ jfr (fun b => q ≤ b) w w9) := by
  refine j_met (by decide) (Nat.le_of_ble_eq_true rfl) (fun g C Rm Y E => ?_)
  have hk := jkz w
  have fr0 : jfr (fun b => q ≤ b) w w := jfr0
  show JJ g w 0 [(0, .ref x)] []
  refine j_blk 1 [(0, .ref x)] [.ref x] C k_c_CS_back_0_1 rfl ?_
  refine j_get C d_c_CS_back_1 fg_CS_234 hx h5 ?_
  refine j_if_ne (tgt := 10) C d_c_CS_back_4 (by decide) (fun c1 => absurd (by decide) c1) (fun c1 => ?_)
  refine j_blk 9 [(0, .ref x)] [.int (-3)] C k_c_CS_back_7_1 rfl ?_
  exact j_iret C Rm E d_c_CS_back_9 ⟨rfl, fr0⟩ (jbnd hk.1 rfl) (jbnd hk.2 rfl)

theorem k_c_Mo_image_0_2 : sblk b_Mo_image [(0, .aload_n 0, .null), (1, .aload_n 0, .null)] := sblk_of (by decide +kernel)
theorem d_c_Mo_image_2 : decode b_Mo_image 2 = .ok (.getfield 105, 3) := by decide +kernel
theorem d_c_Mo_image_5 : decode b_Mo_image 5 = .ok (.putfield 85, 3) := by decide +kernel
theorem k_c_Mo_image_8_1 : sblk b_Mo_image [(8, .aload_n 0, .null)] := sblk_of (by decide +kernel)
theorem d_c_Mo_image_9 : decode b_Mo_image 9 = .ok (.getfield 60, 3) := by decide +kernel
theorem k_c_Mo_image_12_2 : sblk b_Mo_image [(12, .iconst 0, .int 0), (13, .aload_n 0, .null)] := sblk_of (by decide +kernel)
theorem d_c_Mo_image_14 : decode b_Mo_image 14 = .ok (.getfield 89, 3) := by decide +kernel
theorem k_c_Mo_image_17_2 : sblk b_Mo_image [(17, .iconst 0, .int 0), (18, .bipush 6, .int 6)] := sblk_of (by decide +kernel)
theorem d_c_Mo_image_20 : decode b_Mo_image 20 = .ok (.invokestatic 428, 3) := by decide +kernel
theorem k_c_Mo_image_23_1 : sblk b_Mo_image [(23, .aload_n 0, .null)] := sblk_of (by decide +kernel)
theorem d_c_Mo_image_24 : decode b_Mo_image 24 = .ok (.getfield 105, 3) := by decide +kernel
theorem d_c_Mo_image_27 : decode b_Mo_image 27 = .ok (.ireturn, 1) := by decide +kernel
set_option maxHeartbeats 40000000 in
set_option maxRecDepth 100000 in
theorem c_Mo_image (l : Launch) (D : va_G) (B : Nat) (H0 : Heap) (w : jW) (x : Nat) (V : Nat → Value)  (st im : Nat) (sti : st ≠ im) (hx : w.1 x = some (.inr (10, V))) (h0 : V 0 = .int 0) (h17 : V 17 = .ref st) (h38 : V 38 = .ref im) (hst : w.1 st = some (aI D 6 (fun _ => 0))) (him : w.1 im = some (aI D 6 (fun _ => 0))) (q : Nat) (xq : x < q) (stq : st < q) (imq : im < q) : jMet l D B H0 y_Mo_image b_Mo_image 1 (some .int) 3 160 0 0 [.ref x] w (fun v w9 => v = some (.int (0)) ∧ jfr (fun b => q ≤ b) w w9) := by
  refine j_met (by decide) (Nat.le_of_ble_eq_true rfl) (fun g C Rm Y E => ?_)
  have hk := jkz w
  have fr0 : jfr (fun b => q ≤ b) w w := jfr0
  show JJ g w 0 [(0, .ref x)] []
  refine j_blk 2 [(0, .ref x)] [.ref x, .ref x] C k_c_Mo_image_0_2 rfl ?_
  refine j_get C d_c_Mo_image_2 fg_Mo_105 hx h0 ?_
  refine j_put C d_c_Mo_image_5 fp_Mo_85 hx rfl rfl ?_
  refine jnv (fun w_1 ew_1 => ?_)
  have m_x_w_1 : w_1.1 x = some (.inr (10, (updV V 37 (.int 0)))) := jus ew_1
  have hk_w_1 := jk0 ew_1 hk
  have fr_w_1 := jfrW ew_1 fr0 (fun b e hb _ => Nat.ne_of_gt (Nat.lt_of_lt_of_le xq hb))
  refine j_blk 9 [(0, .ref x)] [.ref x] C k_c_Mo_image_8_1 rfl ?_
  refine j_get C d_c_Mo_image_9 fg_Mo_60 m_x_w_1 h17 ?_
  refine j_blk 14 [(0, .ref x)] [.ref x, .int 0, .ref st] C k_c_Mo_image_12_2 rfl ?_
  refine j_get C d_c_Mo_image_14 fg_Mo_89 m_x_w_1 h38 ?_
  refine j_blk 20 [(0, .ref x)] [.int 6, .int 0, .ref im, .int 0, .ref st] C k_c_Mo_image_17_2 rfl ?_
  have m_st_w_1 := jun ew_1 hst (jneAO hst hx)
  have m_im_w_1 := jun ew_1 him (jneAO him hx)
  refine j_copyi C Rm cl_Mo_428 d_c_Mo_image_20 m_st_w_1 m_im_w_1 (by decide) (by decide) (by decide) (by decide) (by decide) (by decide) (Nat.le_of_ble_eq_true rfl) ?_
  refine jnv (fun w_2 ew_2 => ?_)
  have m_im_w_2 : w_2.1 im = some (aI D 6 (va_cpy (fun _ => 0) (fun _ => 0) (Int32.toNatClampNeg 0) (Int32.toNatClampNeg 0) (Int32.toNatClampNeg 6))) := jus ew_2
  have hk_w_2 := jk0 ew_2 hk_w_1
  have fr_w_2 := jfrW ew_2 fr_w_1 (fun b e hb _ => Nat.ne_of_gt (Nat.lt_of_lt_of_le imq hb))
  refine j_blk 24 [(0, .ref x)] [.ref x] C k_c_Mo_image_23_1 rfl ?_
  have m_x_w_2 := jun ew_2 m_x_w_1 (jneOA m_x_w_1 m_im_w_1)
  refine j_get C d_c_Mo_image_24 fg_Mo_105 m_x_w_2 h0 ?_
  exact j_iret C Rm E d_c_Mo_image_27 ⟨rfl, fr_w_2⟩ (jbnd hk_w_2.1 rfl) (jbnd hk_w_2.2 rfl)

theorem k_c_Mo_back_0_1 : sblk b_Mo_back [(0, .aload_n 0, .null)] := sblk_of (by decide +kernel)
theorem d_c_Mo_back_1 : decode b_Mo_back 1 = .ok (.getfield 85, 3) := by decide +kernel
theorem k_c_Mo_back_4_1 : sblk b_Mo_back [(4, .iconst (-1), .int (-1))] := sblk_of (by decide +kernel)
theorem d_c_Mo_back_5 : decode b_Mo_back 5 = .ok (.if_icmp .ne 6, 3) := by decide +kernel
theorem k_c_Mo_back_8_1 : sblk b_Mo_back [(8, .bipush (-3), .int (-3))] := sblk_of (by decide +kernel)
theorem d_c_Mo_back_10 : decode b_Mo_back 10 = .ok (.ireturn, 1) := by decide +kernel
set_option maxHeartbeats 40000000 in
set_option maxRecDepth 100000 in
theorem c_Mo_back (l : Launch) (D : va_G) (B : Nat) (H0 : Heap) (w : jW) (x : Nat) (V : Nat → Value)   (hx : w.1 x = some (.inr (10, V))) (h37 : V 37 = .int (-1))  (q : Nat) (xq : x < q) : jMet l D B H0 y_Mo_back b_Mo_back 1 (some .int) 3 160 0 0 [.ref x] w (fun v w9 => v = some (.int (-3)) ∧ jfr (fun b => q ≤ b) w w9) := by
  refine j_met (by decide) (Nat.le_of_ble_eq_true rfl) (fun g C Rm Y E => ?_)
  have hk := jkz w
  have fr0 : jfr (fun b => q ≤ b) w w := jfr0
  show JJ g w 0 [(0, .ref x)] []
  refine j_blk 1 [(0, .ref x)] [.ref x] C k_c_Mo_back_0_1 rfl ?_
  refine j_get C d_c_Mo_back_1 fg_Mo_85 hx h37 ?_
  refine j_blk 5 [(0, .ref x)] [.int (-1), .int (-1)] C k_c_Mo_back_4_1 rfl ?_
  refine j_icmp_ne (tgt := 11) C d_c_Mo_back_5 (by decide) (fun c1 => absurd (by decide) c1) (fun c1 => ?_)
  refine j_blk 10 [(0, .ref x)] [.int (-3)] C k_c_Mo_back_8_1 rfl ?_
  exact j_iret C Rm E d_c_Mo_back_10 ⟨rfl, fr0⟩ (jbnd hk.1 rfl) (jbnd hk.2 rfl)

theorem k_c_CS_unpacked0_0_6 : sblk b_CS_unpacked [(0, .iconst 0, .int 0), (1, .istore_n 1, .null), (2, .iconst 0, .int 0), (3, .istore_n 2, .null), (4, .iload_n 2, .null), (5, .bipush 6, .int 6)] := sblk_of (by decide +kernel)
theorem d_c_CS_unpacked0_7 : decode b_CS_unpacked 7 = .ok (.if_icmp .ge 20, 3) := by decide +kernel
theorem k_c_CS_unpacked0_10_5 : sblk b_CS_unpacked [(10, .iload_n 1, .null), (11, .bipush 10, .int 10), (13, .imul, .null), (14, .iload_n 0, .null), (15, .iload_n 2, .null)] := sblk_of (by decide +kernel)
theorem d_c_CS_unpacked0_16 : decode b_CS_unpacked 16 = .ok (.invokestatic 86, 3) := by decide +kernel
theorem k_c_CS_unpacked0_19_4 : sblk b_CS_unpacked [(19, .iadd, .null), (20, .istore_n 1, .null), (21, .iinc 2 1, .int 1), (24, .goto (-20), .retAddr 4)] := sblk_of (by decide +kernel)
theorem k_c_CS_unpacked0_4_2 : sblk b_CS_unpacked [(4, .iload_n 2, .null), (5, .bipush 6, .int 6)] := sblk_of (by decide +kernel)
theorem k_c_CS_unpacked0_27_1 : sblk b_CS_unpacked [(27, .iload_n 1, .null)] := sblk_of (by decide +kernel)
theorem d_c_CS_unpacked0_28 : decode b_CS_unpacked 28 = .ok (.ireturn, 1) := by decide +kernel
set_option maxHeartbeats 40000000 in
set_option maxRecDepth 100000 in
theorem c_CS_unpacked0 (l : Launch) (D : va_G) (B : Nat) (H0 : Heap) (w : jW) : jMet l D B H0 y_CS_unpacked b_CS_unpacked 3 (some .int) 1 40 0 0 [.int 0] w (fun v w9 => v = some (.int 0) ∧ w = w9) := by
  refine j_met (by decide) (Nat.le_of_ble_eq_true rfl) (fun g C Rm Y E => ?_)
  have hk := jkz w
  show JJ g w 0 [(0, .int 0)] []
  refine j_blk 7 [(2, .int 0), (1, .int 0), (0, .int 0)] [.int 6, .int 0] C k_c_CS_unpacked0_0_6 rfl ?_
  refine j_icmp_ge (tgt := 27) C d_c_CS_unpacked0_7 (by decide) (fun c1 => absurd c1 (by decide)) (fun c1 => ?_)
  refine j_blk 16 [(2, .int 0), (1, .int 0), (0, .int 0)] [.int 0, .int 0, .int 0] C k_c_CS_unpacked0_10_5 rfl ?_
  refine j_callS (As := [.int 0, .int 0]) C Rm Y [.int 0] (c_CS_digitAt l D B H0 w 0 0) cl_CS_86 d_c_CS_unpacked0_16 rfl rfl (Nat.le_of_ble_eq_true rfl) ⟨by decide, by decide⟩ ⟨jroom hk.1 rfl, jroom hk.2 rfl⟩ (fun v2 w_1 pw_1 => ?_)
  obtain ⟨rfl, rfl⟩ := pw_1
  show JJ g w 19 [(2, .int 0), (1, .int 0), (0, .int 0)] [.int (((0 : Int32).toUInt32 >>> (((5 - (0 : Int32)) * 4).toUInt32 &&& Int32.toUInt32 31)).toInt32 &&& 15), .int 0]
  refine j_blk 4 [(2, .int 1), (1, .int (0 + (((0 : Int32).toUInt32 >>> (((5 - (0 : Int32)) * 4).toUInt32 &&& Int32.toUInt32 31)).toInt32 &&& 15))), (0, .int 0)] [] C k_c_CS_unpacked0_19_4 rfl ?_
  refine j_blk 7 [(2, .int 1), (1, .int (0 + (((0 : Int32).toUInt32 >>> (((5 - (0 : Int32)) * 4).toUInt32 &&& Int32.toUInt32 31)).toInt32 &&& 15))), (0, .int 0)] [.int 6, .int 1] C k_c_CS_unpacked0_4_2 rfl ?_
  refine j_icmp_ge (tgt := 27) C d_c_CS_unpacked0_7 (by decide) (fun c3 => absurd c3 (by decide)) (fun c3 => ?_)
  refine j_blk 16 [(2, .int 1), (1, .int (0 + (((0 : Int32).toUInt32 >>> (((5 - (0 : Int32)) * 4).toUInt32 &&& Int32.toUInt32 31)).toInt32 &&& 15))), (0, .int 0)] [.int 1, .int 0, .int ((0 + (((0 : Int32).toUInt32 >>> (((5 - (0 : Int32)) * 4).toUInt32 &&& Int32.toUInt32 31)).toInt32 &&& 15)) * 10)] C k_c_CS_unpacked0_10_5 rfl ?_
  refine j_callS (As := [.int 0, .int 1]) C Rm Y [.int ((0 + (((0 : Int32).toUInt32 >>> (((5 - (0 : Int32)) * 4).toUInt32 &&& Int32.toUInt32 31)).toInt32 &&& 15)) * 10)] (c_CS_digitAt l D B H0 w 0 1) cl_CS_86 d_c_CS_unpacked0_16 rfl rfl (Nat.le_of_ble_eq_true rfl) ⟨by decide, by decide⟩ ⟨jroom hk.1 rfl, jroom hk.2 rfl⟩ (fun v4 w_2 pw_2 => ?_)
  obtain ⟨rfl, rfl⟩ := pw_2
  show JJ g w 19 [(2, .int 1), (1, .int (0 + (((0 : Int32).toUInt32 >>> (((5 - (0 : Int32)) * 4).toUInt32 &&& Int32.toUInt32 31)).toInt32 &&& 15))), (0, .int 0)] [.int (((0 : Int32).toUInt32 >>> (((5 - (1 : Int32)) * 4).toUInt32 &&& Int32.toUInt32 31)).toInt32 &&& 15), .int ((0 + (((0 : Int32).toUInt32 >>> (((5 - (0 : Int32)) * 4).toUInt32 &&& Int32.toUInt32 31)).toInt32 &&& 15)) * 10)]
  refine j_blk 4 [(2, .int 2), (1, .int (((0 + (((0 : Int32).toUInt32 >>> (((5 - (0 : Int32)) * 4).toUInt32 &&& Int32.toUInt32 31)).toInt32 &&& 15)) * 10) + (((0 : Int32).toUInt32 >>> (((5 - (1 : Int32)) * 4).toUInt32 &&& Int32.toUInt32 31)).toInt32 &&& 15))), (0, .int 0)] [] C k_c_CS_unpacked0_19_4 rfl ?_
  refine j_blk 7 [(2, .int 2), (1, .int (((0 + (((0 : Int32).toUInt32 >>> (((5 - (0 : Int32)) * 4).toUInt32 &&& Int32.toUInt32 31)).toInt32 &&& 15)) * 10) + (((0 : Int32).toUInt32 >>> (((5 - (1 : Int32)) * 4).toUInt32 &&& Int32.toUInt32 31)).toInt32 &&& 15))), (0, .int 0)] [.int 6, .int 2] C k_c_CS_unpacked0_4_2 rfl ?_
  refine j_icmp_ge (tgt := 27) C d_c_CS_unpacked0_7 (by decide) (fun c5 => absurd c5 (by decide)) (fun c5 => ?_)
  refine j_blk 16 [(2, .int 2), (1, .int (((0 + (((0 : Int32).toUInt32 >>> (((5 - (0 : Int32)) * 4).toUInt32 &&& Int32.toUInt32 31)).toInt32 &&& 15)) * 10) + (((0 : Int32).toUInt32 >>> (((5 - (1 : Int32)) * 4).toUInt32 &&& Int32.toUInt32 31)).toInt32 &&& 15))), (0, .int 0)] [.int 2, .int 0, .int ((((0 + (((0 : Int32).toUInt32 >>> (((5 - (0 : Int32)) * 4).toUInt32 &&& Int32.toUInt32 31)).toInt32 &&& 15)) * 10) + (((0 : Int32).toUInt32 >>> (((5 - (1 : Int32)) * 4).toUInt32 &&& Int32.toUInt32 31)).toInt32 &&& 15)) * 10)] C k_c_CS_unpacked0_10_5 rfl ?_
  refine j_callS (As := [.int 0, .int 2]) C Rm Y [.int ((((0 + (((0 : Int32).toUInt32 >>> (((5 - (0 : Int32)) * 4).toUInt32 &&& Int32.toUInt32 31)).toInt32 &&& 15)) * 10) + (((0 : Int32).toUInt32 >>> (((5 - (1 : Int32)) * 4).toUInt32 &&& Int32.toUInt32 31)).toInt32 &&& 15)) * 10)] (c_CS_digitAt l D B H0 w 0 2) cl_CS_86 d_c_CS_unpacked0_16 rfl rfl (Nat.le_of_ble_eq_true rfl) ⟨by decide, by decide⟩ ⟨jroom hk.1 rfl, jroom hk.2 rfl⟩ (fun v6 w_3 pw_3 => ?_)
  obtain ⟨rfl, rfl⟩ := pw_3
  show JJ g w 19 [(2, .int 2), (1, .int (((0 + (((0 : Int32).toUInt32 >>> (((5 - (0 : Int32)) * 4).toUInt32 &&& Int32.toUInt32 31)).toInt32 &&& 15)) * 10) + (((0 : Int32).toUInt32 >>> (((5 - (1 : Int32)) * 4).toUInt32 &&& Int32.toUInt32 31)).toInt32 &&& 15))), (0, .int 0)] [.int (((0 : Int32).toUInt32 >>> (((5 - (2 : Int32)) * 4).toUInt32 &&& Int32.toUInt32 31)).toInt32 &&& 15), .int ((((0 + (((0 : Int32).toUInt32 >>> (((5 - (0 : Int32)) * 4).toUInt32 &&& Int32.toUInt32 31)).toInt32 &&& 15)) * 10) + (((0 : Int32).toUInt32 >>> (((5 - (1 : Int32)) * 4).toUInt32 &&& Int32.toUInt32 31)).toInt32 &&& 15)) * 10)]
  refine j_blk 4 [(2, .int 3), (1, .int (((((0 + (((0 : Int32).toUInt32 >>> (((5 - (0 : Int32)) * 4).toUInt32 &&& Int32.toUInt32 31)).toInt32 &&& 15)) * 10) + (((0 : Int32).toUInt32 >>> (((5 - (1 : Int32)) * 4).toUInt32 &&& Int32.toUInt32 31)).toInt32 &&& 15)) * 10) + (((0 : Int32).toUInt32 >>> (((5 - (2 : Int32)) * 4).toUInt32 &&& Int32.toUInt32 31)).toInt32 &&& 15))), (0, .int 0)] [] C k_c_CS_unpacked0_19_4 rfl ?_
  refine j_blk 7 [(2, .int 3), (1, .int (((((0 + (((0 : Int32).toUInt32 >>> (((5 - (0 : Int32)) * 4).toUInt32 &&& Int32.toUInt32 31)).toInt32 &&& 15)) * 10) + (((0 : Int32).toUInt32 >>> (((5 - (1 : Int32)) * 4).toUInt32 &&& Int32.toUInt32 31)).toInt32 &&& 15)) * 10) + (((0 : Int32).toUInt32 >>> (((5 - (2 : Int32)) * 4).toUInt32 &&& Int32.toUInt32 31)).toInt32 &&& 15))), (0, .int 0)] [.int 6, .int 3] C k_c_CS_unpacked0_4_2 rfl ?_
  refine j_icmp_ge (tgt := 27) C d_c_CS_unpacked0_7 (by decide) (fun c7 => absurd c7 (by decide)) (fun c7 => ?_)
  refine j_blk 16 [(2, .int 3), (1, .int (((((0 + (((0 : Int32).toUInt32 >>> (((5 - (0 : Int32)) * 4).toUInt32 &&& Int32.toUInt32 31)).toInt32 &&& 15)) * 10) + (((0 : Int32).toUInt32 >>> (((5 - (1 : Int32)) * 4).toUInt32 &&& Int32.toUInt32 31)).toInt32 &&& 15)) * 10) + (((0 : Int32).toUInt32 >>> (((5 - (2 : Int32)) * 4).toUInt32 &&& Int32.toUInt32 31)).toInt32 &&& 15))), (0, .int 0)] [.int 3, .int 0, .int ((((((0 + (((0 : Int32).toUInt32 >>> (((5 - (0 : Int32)) * 4).toUInt32 &&& Int32.toUInt32 31)).toInt32 &&& 15)) * 10) + (((0 : Int32).toUInt32 >>> (((5 - (1 : Int32)) * 4).toUInt32 &&& Int32.toUInt32 31)).toInt32 &&& 15)) * 10) + (((0 : Int32).toUInt32 >>> (((5 - (2 : Int32)) * 4).toUInt32 &&& Int32.toUInt32 31)).toInt32 &&& 15)) * 10)] C k_c_CS_unpacked0_10_5 rfl ?_
  refine j_callS (As := [.int 0, .int 3]) C Rm Y [.int ((((((0 + (((0 : Int32).toUInt32 >>> (((5 - (0 : Int32)) * 4).toUInt32 &&& Int32.toUInt32 31)).toInt32 &&& 15)) * 10) + (((0 : Int32).toUInt32 >>> (((5 - (1 : Int32)) * 4).toUInt32 &&& Int32.toUInt32 31)).toInt32 &&& 15)) * 10) + (((0 : Int32).toUInt32 >>> (((5 - (2 : Int32)) * 4).toUInt32 &&& Int32.toUInt32 31)).toInt32 &&& 15)) * 10)] (c_CS_digitAt l D B H0 w 0 3) cl_CS_86 d_c_CS_unpacked0_16 rfl rfl (Nat.le_of_ble_eq_true rfl) ⟨by decide, by decide⟩ ⟨jroom hk.1 rfl, jroom hk.2 rfl⟩ (fun v8 w_4 pw_4 => ?_)
  obtain ⟨rfl, rfl⟩ := pw_4
  show JJ g w 19 [(2, .int 3), (1, .int (((((0 + (((0 : Int32).toUInt32 >>> (((5 - (0 : Int32)) * 4).toUInt32 &&& Int32.toUInt32 31)).toInt32 &&& 15)) * 10) + (((0 : Int32).toUInt32 >>> (((5 - (1 : Int32)) * 4).toUInt32 &&& Int32.toUInt32 31)).toInt32 &&& 15)) * 10) + (((0 : Int32).toUInt32 >>> (((5 - (2 : Int32)) * 4).toUInt32 &&& Int32.toUInt32 31)).toInt32 &&& 15))), (0, .int 0)] [.int (((0 : Int32).toUInt32 >>> (((5 - (3 : Int32)) * 4).toUInt32 &&& Int32.toUInt32 31)).toInt32 &&& 15), .int ((((((0 + (((0 : Int32).toUInt32 >>> (((5 - (0 : Int32)) * 4).toUInt32 &&& Int32.toUInt32 31)).toInt32 &&& 15)) * 10) + (((0 : Int32).toUInt32 >>> (((5 - (1 : Int32)) * 4).toUInt32 &&& Int32.toUInt32 31)).toInt32 &&& 15)) * 10) + (((0 : Int32).toUInt32 >>> (((5 - (2 : Int32)) * 4).toUInt32 &&& Int32.toUInt32 31)).toInt32 &&& 15)) * 10)]
  refine j_blk 4 [(2, .int 4), (1, .int (((((((0 + (((0 : Int32).toUInt32 >>> (((5 - (0 : Int32)) * 4).toUInt32 &&& Int32.toUInt32 31)).toInt32 &&& 15)) * 10) + (((0 : Int32).toUInt32 >>> (((5 - (1 : Int32)) * 4).toUInt32 &&& Int32.toUInt32 31)).toInt32 &&& 15)) * 10) + (((0 : Int32).toUInt32 >>> (((5 - (2 : Int32)) * 4).toUInt32 &&& Int32.toUInt32 31)).toInt32 &&& 15)) * 10) + (((0 : Int32).toUInt32 >>> (((5 - (3 : Int32)) * 4).toUInt32 &&& Int32.toUInt32 31)).toInt32 &&& 15))), (0, .int 0)] [] C k_c_CS_unpacked0_19_4 rfl ?_
  refine j_blk 7 [(2, .int 4), (1, .int (((((((0 + (((0 : Int32).toUInt32 >>> (((5 - (0 : Int32)) * 4).toUInt32 &&& Int32.toUInt32 31)).toInt32 &&& 15)) * 10) + (((0 : Int32).toUInt32 >>> (((5 - (1 : Int32)) * 4).toUInt32 &&& Int32.toUInt32 31)).toInt32 &&& 15)) * 10) + (((0 : Int32).toUInt32 >>> (((5 - (2 : Int32)) * 4).toUInt32 &&& Int32.toUInt32 31)).toInt32 &&& 15)) * 10) + (((0 : Int32).toUInt32 >>> (((5 - (3 : Int32)) * 4).toUInt32 &&& Int32.toUInt32 31)).toInt32 &&& 15))), (0, .int 0)] [.int 6, .int 4] C k_c_CS_unpacked0_4_2 rfl ?_
  refine j_icmp_ge (tgt := 27) C d_c_CS_unpacked0_7 (by decide) (fun c9 => absurd c9 (by decide)) (fun c9 => ?_)
  refine j_blk 16 [(2, .int 4), (1, .int (((((((0 + (((0 : Int32).toUInt32 >>> (((5 - (0 : Int32)) * 4).toUInt32 &&& Int32.toUInt32 31)).toInt32 &&& 15)) * 10) + (((0 : Int32).toUInt32 >>> (((5 - (1 : Int32)) * 4).toUInt32 &&& Int32.toUInt32 31)).toInt32 &&& 15)) * 10) + (((0 : Int32).toUInt32 >>> (((5 - (2 : Int32)) * 4).toUInt32 &&& Int32.toUInt32 31)).toInt32 &&& 15)) * 10) + (((0 : Int32).toUInt32 >>> (((5 - (3 : Int32)) * 4).toUInt32 &&& Int32.toUInt32 31)).toInt32 &&& 15))), (0, .int 0)] [.int 4, .int 0, .int ((((((((0 + (((0 : Int32).toUInt32 >>> (((5 - (0 : Int32)) * 4).toUInt32 &&& Int32.toUInt32 31)).toInt32 &&& 15)) * 10) + (((0 : Int32).toUInt32 >>> (((5 - (1 : Int32)) * 4).toUInt32 &&& Int32.toUInt32 31)).toInt32 &&& 15)) * 10) + (((0 : Int32).toUInt32 >>> (((5 - (2 : Int32)) * 4).toUInt32 &&& Int32.toUInt32 31)).toInt32 &&& 15)) * 10) + (((0 : Int32).toUInt32 >>> (((5 - (3 : Int32)) * 4).toUInt32 &&& Int32.toUInt32 31)).toInt32 &&& 15)) * 10)] C k_c_CS_unpacked0_10_5 rfl ?_
  refine j_callS (As := [.int 0, .int 4]) C Rm Y [.int ((((((((0 + (((0 : Int32).toUInt32 >>> (((5 - (0 : Int32)) * 4).toUInt32 &&& Int32.toUInt32 31)).toInt32 &&& 15)) * 10) + (((0 : Int32).toUInt32 >>> (((5 - (1 : Int32)) * 4).toUInt32 &&& Int32.toUInt32 31)).toInt32 &&& 15)) * 10) + (((0 : Int32).toUInt32 >>> (((5 - (2 : Int32)) * 4).toUInt32 &&& Int32.toUInt32 31)).toInt32 &&& 15)) * 10) + (((0 : Int32).toUInt32 >>> (((5 - (3 : Int32)) * 4).toUInt32 &&& Int32.toUInt32 31)).toInt32 &&& 15)) * 10)] (c_CS_digitAt l D B H0 w 0 4) cl_CS_86 d_c_CS_unpacked0_16 rfl rfl (Nat.le_of_ble_eq_true rfl) ⟨by decide, by decide⟩ ⟨jroom hk.1 rfl, jroom hk.2 rfl⟩ (fun v10 w_5 pw_5 => ?_)
  obtain ⟨rfl, rfl⟩ := pw_5
  show JJ g w 19 [(2, .int 4), (1, .int (((((((0 + (((0 : Int32).toUInt32 >>> (((5 - (0 : Int32)) * 4).toUInt32 &&& Int32.toUInt32 31)).toInt32 &&& 15)) * 10) + (((0 : Int32).toUInt32 >>> (((5 - (1 : Int32)) * 4).toUInt32 &&& Int32.toUInt32 31)).toInt32 &&& 15)) * 10) + (((0 : Int32).toUInt32 >>> (((5 - (2 : Int32)) * 4).toUInt32 &&& Int32.toUInt32 31)).toInt32 &&& 15)) * 10) + (((0 : Int32).toUInt32 >>> (((5 - (3 : Int32)) * 4).toUInt32 &&& Int32.toUInt32 31)).toInt32 &&& 15))), (0, .int 0)] [.int (((0 : Int32).toUInt32 >>> (((5 - (4 : Int32)) * 4).toUInt32 &&& Int32.toUInt32 31)).toInt32 &&& 15), .int ((((((((0 + (((0 : Int32).toUInt32 >>> (((5 - (0 : Int32)) * 4).toUInt32 &&& Int32.toUInt32 31)).toInt32 &&& 15)) * 10) + (((0 : Int32).toUInt32 >>> (((5 - (1 : Int32)) * 4).toUInt32 &&& Int32.toUInt32 31)).toInt32 &&& 15)) * 10) + (((0 : Int32).toUInt32 >>> (((5 - (2 : Int32)) * 4).toUInt32 &&& Int32.toUInt32 31)).toInt32 &&& 15)) * 10) + (((0 : Int32).toUInt32 >>> (((5 - (3 : Int32)) * 4).toUInt32 &&& Int32.toUInt32 31)).toInt32 &&& 15)) * 10)]
  refine j_blk 4 [(2, .int 5), (1, .int (((((((((0 + (((0 : Int32).toUInt32 >>> (((5 - (0 : Int32)) * 4).toUInt32 &&& Int32.toUInt32 31)).toInt32 &&& 15)) * 10) + (((0 : Int32).toUInt32 >>> (((5 - (1 : Int32)) * 4).toUInt32 &&& Int32.toUInt32 31)).toInt32 &&& 15)) * 10) + (((0 : Int32).toUInt32 >>> (((5 - (2 : Int32)) * 4).toUInt32 &&& Int32.toUInt32 31)).toInt32 &&& 15)) * 10) + (((0 : Int32).toUInt32 >>> (((5 - (3 : Int32)) * 4).toUInt32 &&& Int32.toUInt32 31)).toInt32 &&& 15)) * 10) + (((0 : Int32).toUInt32 >>> (((5 - (4 : Int32)) * 4).toUInt32 &&& Int32.toUInt32 31)).toInt32 &&& 15))), (0, .int 0)] [] C k_c_CS_unpacked0_19_4 rfl ?_
  refine j_blk 7 [(2, .int 5), (1, .int (((((((((0 + (((0 : Int32).toUInt32 >>> (((5 - (0 : Int32)) * 4).toUInt32 &&& Int32.toUInt32 31)).toInt32 &&& 15)) * 10) + (((0 : Int32).toUInt32 >>> (((5 - (1 : Int32)) * 4).toUInt32 &&& Int32.toUInt32 31)).toInt32 &&& 15)) * 10) + (((0 : Int32).toUInt32 >>> (((5 - (2 : Int32)) * 4).toUInt32 &&& Int32.toUInt32 31)).toInt32 &&& 15)) * 10) + (((0 : Int32).toUInt32 >>> (((5 - (3 : Int32)) * 4).toUInt32 &&& Int32.toUInt32 31)).toInt32 &&& 15)) * 10) + (((0 : Int32).toUInt32 >>> (((5 - (4 : Int32)) * 4).toUInt32 &&& Int32.toUInt32 31)).toInt32 &&& 15))), (0, .int 0)] [.int 6, .int 5] C k_c_CS_unpacked0_4_2 rfl ?_
  refine j_icmp_ge (tgt := 27) C d_c_CS_unpacked0_7 (by decide) (fun c11 => absurd c11 (by decide)) (fun c11 => ?_)
  refine j_blk 16 [(2, .int 5), (1, .int (((((((((0 + (((0 : Int32).toUInt32 >>> (((5 - (0 : Int32)) * 4).toUInt32 &&& Int32.toUInt32 31)).toInt32 &&& 15)) * 10) + (((0 : Int32).toUInt32 >>> (((5 - (1 : Int32)) * 4).toUInt32 &&& Int32.toUInt32 31)).toInt32 &&& 15)) * 10) + (((0 : Int32).toUInt32 >>> (((5 - (2 : Int32)) * 4).toUInt32 &&& Int32.toUInt32 31)).toInt32 &&& 15)) * 10) + (((0 : Int32).toUInt32 >>> (((5 - (3 : Int32)) * 4).toUInt32 &&& Int32.toUInt32 31)).toInt32 &&& 15)) * 10) + (((0 : Int32).toUInt32 >>> (((5 - (4 : Int32)) * 4).toUInt32 &&& Int32.toUInt32 31)).toInt32 &&& 15))), (0, .int 0)] [.int 5, .int 0, .int ((((((((((0 + (((0 : Int32).toUInt32 >>> (((5 - (0 : Int32)) * 4).toUInt32 &&& Int32.toUInt32 31)).toInt32 &&& 15)) * 10) + (((0 : Int32).toUInt32 >>> (((5 - (1 : Int32)) * 4).toUInt32 &&& Int32.toUInt32 31)).toInt32 &&& 15)) * 10) + (((0 : Int32).toUInt32 >>> (((5 - (2 : Int32)) * 4).toUInt32 &&& Int32.toUInt32 31)).toInt32 &&& 15)) * 10) + (((0 : Int32).toUInt32 >>> (((5 - (3 : Int32)) * 4).toUInt32 &&& Int32.toUInt32 31)).toInt32 &&& 15)) * 10) + (((0 : Int32).toUInt32 >>> (((5 - (4 : Int32)) * 4).toUInt32 &&& Int32.toUInt32 31)).toInt32 &&& 15)) * 10)] C k_c_CS_unpacked0_10_5 rfl ?_
  refine j_callS (As := [.int 0, .int 5]) C Rm Y [.int ((((((((((0 + (((0 : Int32).toUInt32 >>> (((5 - (0 : Int32)) * 4).toUInt32 &&& Int32.toUInt32 31)).toInt32 &&& 15)) * 10) + (((0 : Int32).toUInt32 >>> (((5 - (1 : Int32)) * 4).toUInt32 &&& Int32.toUInt32 31)).toInt32 &&& 15)) * 10) + (((0 : Int32).toUInt32 >>> (((5 - (2 : Int32)) * 4).toUInt32 &&& Int32.toUInt32 31)).toInt32 &&& 15)) * 10) + (((0 : Int32).toUInt32 >>> (((5 - (3 : Int32)) * 4).toUInt32 &&& Int32.toUInt32 31)).toInt32 &&& 15)) * 10) + (((0 : Int32).toUInt32 >>> (((5 - (4 : Int32)) * 4).toUInt32 &&& Int32.toUInt32 31)).toInt32 &&& 15)) * 10)] (c_CS_digitAt l D B H0 w 0 5) cl_CS_86 d_c_CS_unpacked0_16 rfl rfl (Nat.le_of_ble_eq_true rfl) ⟨by decide, by decide⟩ ⟨jroom hk.1 rfl, jroom hk.2 rfl⟩ (fun v12 w_6 pw_6 => ?_)
  obtain ⟨rfl, rfl⟩ := pw_6
  show JJ g w 19 [(2, .int 5), (1, .int (((((((((0 + (((0 : Int32).toUInt32 >>> (((5 - (0 : Int32)) * 4).toUInt32 &&& Int32.toUInt32 31)).toInt32 &&& 15)) * 10) + (((0 : Int32).toUInt32 >>> (((5 - (1 : Int32)) * 4).toUInt32 &&& Int32.toUInt32 31)).toInt32 &&& 15)) * 10) + (((0 : Int32).toUInt32 >>> (((5 - (2 : Int32)) * 4).toUInt32 &&& Int32.toUInt32 31)).toInt32 &&& 15)) * 10) + (((0 : Int32).toUInt32 >>> (((5 - (3 : Int32)) * 4).toUInt32 &&& Int32.toUInt32 31)).toInt32 &&& 15)) * 10) + (((0 : Int32).toUInt32 >>> (((5 - (4 : Int32)) * 4).toUInt32 &&& Int32.toUInt32 31)).toInt32 &&& 15))), (0, .int 0)] [.int (((0 : Int32).toUInt32 >>> (((5 - (5 : Int32)) * 4).toUInt32 &&& Int32.toUInt32 31)).toInt32 &&& 15), .int ((((((((((0 + (((0 : Int32).toUInt32 >>> (((5 - (0 : Int32)) * 4).toUInt32 &&& Int32.toUInt32 31)).toInt32 &&& 15)) * 10) + (((0 : Int32).toUInt32 >>> (((5 - (1 : Int32)) * 4).toUInt32 &&& Int32.toUInt32 31)).toInt32 &&& 15)) * 10) + (((0 : Int32).toUInt32 >>> (((5 - (2 : Int32)) * 4).toUInt32 &&& Int32.toUInt32 31)).toInt32 &&& 15)) * 10) + (((0 : Int32).toUInt32 >>> (((5 - (3 : Int32)) * 4).toUInt32 &&& Int32.toUInt32 31)).toInt32 &&& 15)) * 10) + (((0 : Int32).toUInt32 >>> (((5 - (4 : Int32)) * 4).toUInt32 &&& Int32.toUInt32 31)).toInt32 &&& 15)) * 10)]
  refine j_blk 4 [(2, .int 6), (1, .int (((((((((((0 + (((0 : Int32).toUInt32 >>> (((5 - (0 : Int32)) * 4).toUInt32 &&& Int32.toUInt32 31)).toInt32 &&& 15)) * 10) + (((0 : Int32).toUInt32 >>> (((5 - (1 : Int32)) * 4).toUInt32 &&& Int32.toUInt32 31)).toInt32 &&& 15)) * 10) + (((0 : Int32).toUInt32 >>> (((5 - (2 : Int32)) * 4).toUInt32 &&& Int32.toUInt32 31)).toInt32 &&& 15)) * 10) + (((0 : Int32).toUInt32 >>> (((5 - (3 : Int32)) * 4).toUInt32 &&& Int32.toUInt32 31)).toInt32 &&& 15)) * 10) + (((0 : Int32).toUInt32 >>> (((5 - (4 : Int32)) * 4).toUInt32 &&& Int32.toUInt32 31)).toInt32 &&& 15)) * 10) + (((0 : Int32).toUInt32 >>> (((5 - (5 : Int32)) * 4).toUInt32 &&& Int32.toUInt32 31)).toInt32 &&& 15))), (0, .int 0)] [] C k_c_CS_unpacked0_19_4 rfl ?_
  refine j_blk 7 [(2, .int 6), (1, .int (((((((((((0 + (((0 : Int32).toUInt32 >>> (((5 - (0 : Int32)) * 4).toUInt32 &&& Int32.toUInt32 31)).toInt32 &&& 15)) * 10) + (((0 : Int32).toUInt32 >>> (((5 - (1 : Int32)) * 4).toUInt32 &&& Int32.toUInt32 31)).toInt32 &&& 15)) * 10) + (((0 : Int32).toUInt32 >>> (((5 - (2 : Int32)) * 4).toUInt32 &&& Int32.toUInt32 31)).toInt32 &&& 15)) * 10) + (((0 : Int32).toUInt32 >>> (((5 - (3 : Int32)) * 4).toUInt32 &&& Int32.toUInt32 31)).toInt32 &&& 15)) * 10) + (((0 : Int32).toUInt32 >>> (((5 - (4 : Int32)) * 4).toUInt32 &&& Int32.toUInt32 31)).toInt32 &&& 15)) * 10) + (((0 : Int32).toUInt32 >>> (((5 - (5 : Int32)) * 4).toUInt32 &&& Int32.toUInt32 31)).toInt32 &&& 15))), (0, .int 0)] [.int 6, .int 6] C k_c_CS_unpacked0_4_2 rfl ?_
  refine j_icmp_ge (tgt := 27) C d_c_CS_unpacked0_7 (by decide) (fun c13 => ?_) (fun c13 => absurd (by decide) c13)
  refine j_blk 28 [(2, .int 6), (1, .int (((((((((((0 + (((0 : Int32).toUInt32 >>> (((5 - (0 : Int32)) * 4).toUInt32 &&& Int32.toUInt32 31)).toInt32 &&& 15)) * 10) + (((0 : Int32).toUInt32 >>> (((5 - (1 : Int32)) * 4).toUInt32 &&& Int32.toUInt32 31)).toInt32 &&& 15)) * 10) + (((0 : Int32).toUInt32 >>> (((5 - (2 : Int32)) * 4).toUInt32 &&& Int32.toUInt32 31)).toInt32 &&& 15)) * 10) + (((0 : Int32).toUInt32 >>> (((5 - (3 : Int32)) * 4).toUInt32 &&& Int32.toUInt32 31)).toInt32 &&& 15)) * 10) + (((0 : Int32).toUInt32 >>> (((5 - (4 : Int32)) * 4).toUInt32 &&& Int32.toUInt32 31)).toInt32 &&& 15)) * 10) + (((0 : Int32).toUInt32 >>> (((5 - (5 : Int32)) * 4).toUInt32 &&& Int32.toUInt32 31)).toInt32 &&& 15))), (0, .int 0)] [.int (((((((((((0 + (((0 : Int32).toUInt32 >>> (((5 - (0 : Int32)) * 4).toUInt32 &&& Int32.toUInt32 31)).toInt32 &&& 15)) * 10) + (((0 : Int32).toUInt32 >>> (((5 - (1 : Int32)) * 4).toUInt32 &&& Int32.toUInt32 31)).toInt32 &&& 15)) * 10) + (((0 : Int32).toUInt32 >>> (((5 - (2 : Int32)) * 4).toUInt32 &&& Int32.toUInt32 31)).toInt32 &&& 15)) * 10) + (((0 : Int32).toUInt32 >>> (((5 - (3 : Int32)) * 4).toUInt32 &&& Int32.toUInt32 31)).toInt32 &&& 15)) * 10) + (((0 : Int32).toUInt32 >>> (((5 - (4 : Int32)) * 4).toUInt32 &&& Int32.toUInt32 31)).toInt32 &&& 15)) * 10) + (((0 : Int32).toUInt32 >>> (((5 - (5 : Int32)) * 4).toUInt32 &&& Int32.toUInt32 31)).toInt32 &&& 15))] C k_c_CS_unpacked0_27_1 rfl ?_
  exact j_iret C Rm E d_c_CS_unpacked0_28 ⟨congrArg (fun z => some (Value.int z)) (by decide +kernel), rfl⟩ (jbnd hk.1 rfl) (jbnd hk.2 rfl)

theorem k_c_CS_count_0_1 : sblk b_CS_count [(0, .iload_n 1, .null)] := sblk_of (by decide +kernel)
theorem d_c_CS_count_1 : decode b_CS_count 1 = .ok (.tableswitch 45 0 2 #[27, 32, 37], 27) := by decide +kernel
theorem k_c_CS_count_28_1 : sblk b_CS_count [(28, .aload_n 0, .null)] := sblk_of (by decide +kernel)
theorem d_c_CS_count_29 : decode b_CS_count 29 = .ok (.getfield 59, 3) := by decide +kernel
theorem d_c_CS_count_32 : decode b_CS_count 32 = .ok (.ireturn, 1) := by decide +kernel
theorem k_c_CS_count_33_1 : sblk b_CS_count [(33, .aload_n 0, .null)] := sblk_of (by decide +kernel)
theorem d_c_CS_count_34 : decode b_CS_count 34 = .ok (.getfield 51, 3) := by decide +kernel
theorem d_c_CS_count_37 : decode b_CS_count 37 = .ok (.ireturn, 1) := by decide +kernel
theorem k_c_CS_count_38_1 : sblk b_CS_count [(38, .aload_n 0, .null)] := sblk_of (by decide +kernel)
theorem d_c_CS_count_39 : decode b_CS_count 39 = .ok (.getfield 83, 3) := by decide +kernel
theorem d_c_CS_count_42 : decode b_CS_count 42 = .ok (.invokestatic 176, 3) := by decide +kernel
theorem d_c_CS_count_45 : decode b_CS_count 45 = .ok (.ireturn, 1) := by decide +kernel
theorem k_c_CS_count_46_1 : sblk b_CS_count [(46, .bipush (-2), .int (-2))] := sblk_of (by decide +kernel)
theorem d_c_CS_count_48 : decode b_CS_count 48 = .ok (.ireturn, 1) := by decide +kernel
set_option maxHeartbeats 40000000 in
set_option maxRecDepth 100000 in
theorem c_CS_count (l : Launch) (D : va_G) (B : Nat) (H0 : Heap) (w : jW) (x : Nat) (V : Nat → Value) (k : Int32)  (hx : w.1 x = some (.inr (8, V))) (h1 : V 1 = .int 0) (h3 : V 3 = .int 0) (h4 : V 4 = .int 0)  (q : Nat) (xq : x < q) : jMet l D B H0 y_CS_count b_CS_count 2 (some .int) 3 160 0 0 [.ref x, .int k] w (fun v w9 => v = some (.int (an_count k)) ∧ jfr (fun b => q ≤ b) w w9) := by
  refine j_met (by decide) (Nat.le_of_ble_eq_true rfl) (fun g C Rm Y E => ?_)
  have hk := jkz w
  have fr0 : jfr (fun b => q ≤ b) w w := jfr0
  show JJ g w 0 [(0, .ref x), (1, .int k)] []
  refine j_blk 1 [(0, .ref x), (1, .int k)] [.int k] C k_c_CS_count_0_1 rfl ?_
  by_cases c1 : k = 0
  · rw [show Value.int k = Value.int 0 from congrArg _ c1]
    refine j_tabIn (tgt := 28) C d_c_CS_count_1 (by decide) (by decide) rfl (by decide) ?_
    refine j_blk 29 [(0, .ref x), (1, .int 0)] [.ref x] C k_c_CS_count_28_1 rfl ?_
    refine j_get C d_c_CS_count_29 fg_CS_59 hx h3 ?_
    exact j_iret C Rm E d_c_CS_count_32 ⟨jip (by (try simp only [jlt, jle, jeq, kt_0, kt_1, kt_2, kt_3, kt_4, kt_5, kt_6, kt_7, kt_8, kt_9, kt_10, kt_11, kt_12, kt_13, kt_15, kt_16, kt_19, kt_20, kt_24, kt_25, kt_31, kt_32, kt_40, kt_50, kt_60, kt_63, kt_100, kt_120, kt_255, kt_300, kt_999999, kt_1000000, kt_m1, kt_m2, kt_m3, kt_m4, kt_m6, kt_m7, kt_m11, kt_m12, kt_m13, kt_m14, kt_m100] at c1); show 0 ≤ k.toInt ∧ k.toInt ≤ 2; (try simp only [kt_0, kt_1, kt_2, kt_3, kt_4, kt_5, kt_6, kt_7, kt_8, kt_9, kt_10, kt_11, kt_12, kt_13, kt_15, kt_16, kt_19, kt_20, kt_24, kt_25, kt_31, kt_32, kt_40, kt_50, kt_60, kt_63, kt_100, kt_120, kt_255, kt_300, kt_999999, kt_1000000, kt_m1, kt_m2, kt_m3, kt_m4, kt_m6, kt_m7, kt_m11, kt_m12, kt_m13, kt_m14, kt_m100]); omega), fr0⟩ (jbnd hk.1 rfl) (jbnd hk.2 rfl)
  by_cases c2 : k = 1
  · rw [show Value.int k = Value.int 1 from congrArg _ c2]
    refine j_tabIn (tgt := 33) C d_c_CS_count_1 (by decide) (by decide) rfl (by decide) ?_
    refine j_blk 34 [(0, .ref x), (1, .int 1)] [.ref x] C k_c_CS_count_33_1 rfl ?_
    refine j_get C d_c_CS_count_34 fg_CS_51 hx h1 ?_
    exact j_iret C Rm E d_c_CS_count_37 ⟨jip (by (try simp only [jlt, jle, jeq, kt_0, kt_1, kt_2, kt_3, kt_4, kt_5, kt_6, kt_7, kt_8, kt_9, kt_10, kt_11, kt_12, kt_13, kt_15, kt_16, kt_19, kt_20, kt_24, kt_25, kt_31, kt_32, kt_40, kt_50, kt_60, kt_63, kt_100, kt_120, kt_255, kt_300, kt_999999, kt_1000000, kt_m1, kt_m2, kt_m3, kt_m4, kt_m6, kt_m7, kt_m11, kt_m12, kt_m13, kt_m14, kt_m100] at c2); show 0 ≤ k.toInt ∧ k.toInt ≤ 2; (try simp only [kt_0, kt_1, kt_2, kt_3, kt_4, kt_5, kt_6, kt_7, kt_8, kt_9, kt_10, kt_11, kt_12, kt_13, kt_15, kt_16, kt_19, kt_20, kt_24, kt_25, kt_31, kt_32, kt_40, kt_50, kt_60, kt_63, kt_100, kt_120, kt_255, kt_300, kt_999999, kt_1000000, kt_m1, kt_m2, kt_m3, kt_m4, kt_m6, kt_m7, kt_m11, kt_m12, kt_m13, kt_m14, kt_m100]); omega), fr0⟩ (jbnd hk.1 rfl) (jbnd hk.2 rfl)
  by_cases c3 : k = 2
  · rw [show Value.int k = Value.int 2 from congrArg _ c3]
    refine j_tabIn (tgt := 38) C d_c_CS_count_1 (by decide) (by decide) rfl (by decide) ?_
    refine j_blk 39 [(0, .ref x), (1, .int 2)] [.ref x] C k_c_CS_count_38_1 rfl ?_
    refine j_get C d_c_CS_count_39 fg_CS_83 hx h4 ?_
    refine j_callS (As := [.int 0]) C Rm Y [] (c_CS_unpacked0 l D B H0 w) cl_CS_176 d_c_CS_count_42 rfl rfl (Nat.le_of_ble_eq_true rfl) ⟨by decide, by decide⟩ ⟨jroom hk.1 rfl, jroom hk.2 rfl⟩ (fun v4 w_1 pw_1 => ?_)
    obtain ⟨rfl, rfl⟩ := pw_1
    show JJ g w 45 [(0, .ref x), (1, .int 2)] [.int 0]
    exact j_iret C Rm E d_c_CS_count_45 ⟨jip (by (try simp only [jlt, jle, jeq, kt_0, kt_1, kt_2, kt_3, kt_4, kt_5, kt_6, kt_7, kt_8, kt_9, kt_10, kt_11, kt_12, kt_13, kt_15, kt_16, kt_19, kt_20, kt_24, kt_25, kt_31, kt_32, kt_40, kt_50, kt_60, kt_63, kt_100, kt_120, kt_255, kt_300, kt_999999, kt_1000000, kt_m1, kt_m2, kt_m3, kt_m4, kt_m6, kt_m7, kt_m11, kt_m12, kt_m13, kt_m14, kt_m100] at c3); show 0 ≤ k.toInt ∧ k.toInt ≤ 2; (try simp only [kt_0, kt_1, kt_2, kt_3, kt_4, kt_5, kt_6, kt_7, kt_8, kt_9, kt_10, kt_11, kt_12, kt_13, kt_15, kt_16, kt_19, kt_20, kt_24, kt_25, kt_31, kt_32, kt_40, kt_50, kt_60, kt_63, kt_100, kt_120, kt_255, kt_300, kt_999999, kt_1000000, kt_m1, kt_m2, kt_m3, kt_m4, kt_m6, kt_m7, kt_m11, kt_m12, kt_m13, kt_m14, kt_m100]); omega), fr0⟩ (jbnd hk.1 rfl) (jbnd hk.2 rfl)
  refine j_tabOut (tgt := 46) C d_c_CS_count_1 (by have zc1 : ¬ Int32.toInt k = 0 := fun q => c1 (jeq.mpr q); have zc2 : ¬ Int32.toInt k = 1 := fun q => c2 (jeq.mpr q); have zc3 : ¬ Int32.toInt k = 2 := fun q => c3 (jeq.mpr q); omega) (by decide) ?_
  refine j_blk 48 [(0, .ref x), (1, .int k)] [.int (-2)] C k_c_CS_count_46_1 rfl ?_
  exact j_iret C Rm E d_c_CS_count_48 ⟨jin_ (fun hq => absurd hq (by (try simp only [jlt, jle, jeq, kt_0, kt_1, kt_2, kt_3, kt_4, kt_5, kt_6, kt_7, kt_8, kt_9, kt_10, kt_11, kt_12, kt_13, kt_15, kt_16, kt_19, kt_20, kt_24, kt_25, kt_31, kt_32, kt_40, kt_50, kt_60, kt_63, kt_100, kt_120, kt_255, kt_300, kt_999999, kt_1000000, kt_m1, kt_m2, kt_m3, kt_m4, kt_m6, kt_m7, kt_m11, kt_m12, kt_m13, kt_m14, kt_m100] at c1); (try simp only [jlt, jle, jeq, kt_0, kt_1, kt_2, kt_3, kt_4, kt_5, kt_6, kt_7, kt_8, kt_9, kt_10, kt_11, kt_12, kt_13, kt_15, kt_16, kt_19, kt_20, kt_24, kt_25, kt_31, kt_32, kt_40, kt_50, kt_60, kt_63, kt_100, kt_120, kt_255, kt_300, kt_999999, kt_1000000, kt_m1, kt_m2, kt_m3, kt_m4, kt_m6, kt_m7, kt_m11, kt_m12, kt_m13, kt_m14, kt_m100] at c2); (try simp only [jlt, jle, jeq, kt_0, kt_1, kt_2, kt_3, kt_4, kt_5, kt_6, kt_7, kt_8, kt_9, kt_10, kt_11, kt_12, kt_13, kt_15, kt_16, kt_19, kt_20, kt_24, kt_25, kt_31, kt_32, kt_40, kt_50, kt_60, kt_63, kt_100, kt_120, kt_255, kt_300, kt_999999, kt_1000000, kt_m1, kt_m2, kt_m3, kt_m4, kt_m6, kt_m7, kt_m11, kt_m12, kt_m13, kt_m14, kt_m100] at c3); (try simp only [kt_0, kt_1, kt_2, kt_3, kt_4, kt_5, kt_6, kt_7, kt_8, kt_9, kt_10, kt_11, kt_12, kt_13, kt_15, kt_16, kt_19, kt_20, kt_24, kt_25, kt_31, kt_32, kt_40, kt_50, kt_60, kt_63, kt_100, kt_120, kt_255, kt_300, kt_999999, kt_1000000, kt_m1, kt_m2, kt_m3, kt_m4, kt_m6, kt_m7, kt_m11, kt_m12, kt_m13, kt_m14, kt_m100]); omega)), fr0⟩ (jbnd hk.1 rfl) (jbnd hk.2 rfl)

theorem k_c_Mo_startState0_0_6 : sblk b_Mo_startState [(0, .iconst 0, .int 0), (1, .istore_n 1, .null), (2, .iconst 0, .int 0), (3, .istore_n 2, .null), (4, .iload_n 2, .null), (5, .bipush 6, .int 6)] := sblk_of (by decide +kernel)
theorem d_c_Mo_startState0_7 : decode b_Mo_startState 7 = .ok (.if_icmp .ge 21, 3) := by decide +kernel
theorem k_c_Mo_startState0_10_4 : sblk b_Mo_startState [(10, .bipush 10, .int 10), (12, .iload_n 1, .null), (13, .imul, .null), (14, .aload_n 0, .null)] := sblk_of (by decide +kernel)
theorem d_c_Mo_startState0_15 : decode b_Mo_startState 15 = .ok (.getfield 60, 3) := by decide +kernel
theorem k_c_Mo_startState0_18_1 : sblk b_Mo_startState [(18, .iload_n 2, .null)] := sblk_of (by decide +kernel)
theorem d_c_Mo_startState0_19 : decode b_Mo_startState 19 = .ok (.iaload, 1) := by decide +kernel
theorem k_c_Mo_startState0_20_4 : sblk b_Mo_startState [(20, .iadd, .null), (21, .istore_n 1, .null), (22, .iinc 2 1, .int 1), (25, .goto (-21), .retAddr 4)] := sblk_of (by decide +kernel)
theorem k_c_Mo_startState0_4_2 : sblk b_Mo_startState [(4, .iload_n 2, .null), (5, .bipush 6, .int 6)] := sblk_of (by decide +kernel)
theorem k_c_Mo_startState0_28_1 : sblk b_Mo_startState [(28, .iload_n 1, .null)] := sblk_of (by decide +kernel)
theorem d_c_Mo_startState0_29 : decode b_Mo_startState 29 = .ok (.ireturn, 1) := by decide +kernel
set_option maxHeartbeats 40000000 in
set_option maxRecDepth 100000 in
theorem c_Mo_startState0 (l : Launch) (D : va_G) (B : Nat) (H0 : Heap) (w : jW) (x st : Nat) (V : Nat → Value) (hx : w.1 x = some (.inr (10, V))) (h17 : V 17 = .ref st) (hst : w.1 st = some (aI D 6 (fun _ => 0))) : jMet l D B H0 y_Mo_startState b_Mo_startState 3 (some .int) 1 40 0 0 [.ref x] w (fun v w9 => v = some (.int 0) ∧ w = w9) := by
  refine j_met (by decide) (Nat.le_of_ble_eq_true rfl) (fun g C Rm Y E => ?_)
  have hk := jkz w
  show JJ g w 0 [(0, .ref x)] []
  refine j_blk 7 [(2, .int 0), (1, .int 0), (0, .ref x)] [.int 6, .int 0] C k_c_Mo_startState0_0_6 rfl ?_
  refine j_icmp_ge (tgt := 28) C d_c_Mo_startState0_7 (by decide) (fun c1 => absurd c1 (by decide)) (fun c1 => ?_)
  refine j_blk 15 [(2, .int 0), (1, .int 0), (0, .ref x)] [.ref x, .int 0] C k_c_Mo_startState0_10_4 rfl ?_
  refine j_get C d_c_Mo_startState0_15 fg_Mo_60 hx h17 ?_
  refine j_blk 19 [(2, .int 0), (1, .int 0), (0, .ref x)] [.int 0, .ref st, .int 0] C k_c_Mo_startState0_18_1 rfl ?_
  refine j_iald C d_c_Mo_startState0_19 hst (jin (by decide) (by decide)) ?_
  refine j_blk 4 [(2, .int 1), (1, .int 0), (0, .ref x)] [] C k_c_Mo_startState0_20_4 rfl ?_
  refine j_blk 7 [(2, .int 1), (1, .int 0), (0, .ref x)] [.int 6, .int 1] C k_c_Mo_startState0_4_2 rfl ?_
  refine j_icmp_ge (tgt := 28) C d_c_Mo_startState0_7 (by decide) (fun c2 => absurd c2 (by decide)) (fun c2 => ?_)
  refine j_blk 15 [(2, .int 1), (1, .int 0), (0, .ref x)] [.ref x, .int 0] C k_c_Mo_startState0_10_4 rfl ?_
  refine j_get C d_c_Mo_startState0_15 fg_Mo_60 hx h17 ?_
  refine j_blk 19 [(2, .int 1), (1, .int 0), (0, .ref x)] [.int 1, .ref st, .int 0] C k_c_Mo_startState0_18_1 rfl ?_
  refine j_iald C d_c_Mo_startState0_19 hst (jin (by decide) (by decide)) ?_
  refine j_blk 4 [(2, .int 2), (1, .int 0), (0, .ref x)] [] C k_c_Mo_startState0_20_4 rfl ?_
  refine j_blk 7 [(2, .int 2), (1, .int 0), (0, .ref x)] [.int 6, .int 2] C k_c_Mo_startState0_4_2 rfl ?_
  refine j_icmp_ge (tgt := 28) C d_c_Mo_startState0_7 (by decide) (fun c3 => absurd c3 (by decide)) (fun c3 => ?_)
  refine j_blk 15 [(2, .int 2), (1, .int 0), (0, .ref x)] [.ref x, .int 0] C k_c_Mo_startState0_10_4 rfl ?_
  refine j_get C d_c_Mo_startState0_15 fg_Mo_60 hx h17 ?_
  refine j_blk 19 [(2, .int 2), (1, .int 0), (0, .ref x)] [.int 2, .ref st, .int 0] C k_c_Mo_startState0_18_1 rfl ?_
  refine j_iald C d_c_Mo_startState0_19 hst (jin (by decide) (by decide)) ?_
  refine j_blk 4 [(2, .int 3), (1, .int 0), (0, .ref x)] [] C k_c_Mo_startState0_20_4 rfl ?_
  refine j_blk 7 [(2, .int 3), (1, .int 0), (0, .ref x)] [.int 6, .int 3] C k_c_Mo_startState0_4_2 rfl ?_
  refine j_icmp_ge (tgt := 28) C d_c_Mo_startState0_7 (by decide) (fun c4 => absurd c4 (by decide)) (fun c4 => ?_)
  refine j_blk 15 [(2, .int 3), (1, .int 0), (0, .ref x)] [.ref x, .int 0] C k_c_Mo_startState0_10_4 rfl ?_
  refine j_get C d_c_Mo_startState0_15 fg_Mo_60 hx h17 ?_
  refine j_blk 19 [(2, .int 3), (1, .int 0), (0, .ref x)] [.int 3, .ref st, .int 0] C k_c_Mo_startState0_18_1 rfl ?_
  refine j_iald C d_c_Mo_startState0_19 hst (jin (by decide) (by decide)) ?_
  refine j_blk 4 [(2, .int 4), (1, .int 0), (0, .ref x)] [] C k_c_Mo_startState0_20_4 rfl ?_
  refine j_blk 7 [(2, .int 4), (1, .int 0), (0, .ref x)] [.int 6, .int 4] C k_c_Mo_startState0_4_2 rfl ?_
  refine j_icmp_ge (tgt := 28) C d_c_Mo_startState0_7 (by decide) (fun c5 => absurd c5 (by decide)) (fun c5 => ?_)
  refine j_blk 15 [(2, .int 4), (1, .int 0), (0, .ref x)] [.ref x, .int 0] C k_c_Mo_startState0_10_4 rfl ?_
  refine j_get C d_c_Mo_startState0_15 fg_Mo_60 hx h17 ?_
  refine j_blk 19 [(2, .int 4), (1, .int 0), (0, .ref x)] [.int 4, .ref st, .int 0] C k_c_Mo_startState0_18_1 rfl ?_
  refine j_iald C d_c_Mo_startState0_19 hst (jin (by decide) (by decide)) ?_
  refine j_blk 4 [(2, .int 5), (1, .int 0), (0, .ref x)] [] C k_c_Mo_startState0_20_4 rfl ?_
  refine j_blk 7 [(2, .int 5), (1, .int 0), (0, .ref x)] [.int 6, .int 5] C k_c_Mo_startState0_4_2 rfl ?_
  refine j_icmp_ge (tgt := 28) C d_c_Mo_startState0_7 (by decide) (fun c6 => absurd c6 (by decide)) (fun c6 => ?_)
  refine j_blk 15 [(2, .int 5), (1, .int 0), (0, .ref x)] [.ref x, .int 0] C k_c_Mo_startState0_10_4 rfl ?_
  refine j_get C d_c_Mo_startState0_15 fg_Mo_60 hx h17 ?_
  refine j_blk 19 [(2, .int 5), (1, .int 0), (0, .ref x)] [.int 5, .ref st, .int 0] C k_c_Mo_startState0_18_1 rfl ?_
  refine j_iald C d_c_Mo_startState0_19 hst (jin (by decide) (by decide)) ?_
  refine j_blk 4 [(2, .int 6), (1, .int 0), (0, .ref x)] [] C k_c_Mo_startState0_20_4 rfl ?_
  refine j_blk 7 [(2, .int 6), (1, .int 0), (0, .ref x)] [.int 6, .int 6] C k_c_Mo_startState0_4_2 rfl ?_
  refine j_icmp_ge (tgt := 28) C d_c_Mo_startState0_7 (by decide) (fun c7 => ?_) (fun c7 => absurd (by decide) c7)
  refine j_blk 29 [(2, .int 6), (1, .int 0), (0, .ref x)] [.int 0] C k_c_Mo_startState0_28_1 rfl ?_
  exact j_iret C Rm E d_c_Mo_startState0_29 ⟨congrArg (fun z => some (Value.int z)) (by decide +kernel), rfl⟩ (jbnd hk.1 rfl) (jbnd hk.2 rfl)

theorem k_c_Mo_count_0_1 : sblk b_Mo_count [(0, .iload_n 1, .null)] := sblk_of (by decide +kernel)
theorem d_c_Mo_count_1 : decode b_Mo_count 1 = .ok (.ifCond .ne 10, 3) := by decide +kernel
theorem k_c_Mo_count_11_2 : sblk b_Mo_count [(11, .iload_n 1, .null), (12, .iconst 1, .int 1)] := sblk_of (by decide +kernel)
theorem d_c_Mo_count_13 : decode b_Mo_count 13 = .ok (.if_icmp .ne 10, 3) := by decide +kernel
theorem k_c_Mo_count_23_2 : sblk b_Mo_count [(23, .iload_n 1, .null), (24, .iconst 2, .int 2)] := sblk_of (by decide +kernel)
theorem d_c_Mo_count_25 : decode b_Mo_count 25 = .ok (.if_icmp .ne 10, 3) := by decide +kernel
theorem k_c_Mo_count_35_1 : sblk b_Mo_count [(35, .bipush (-2), .int (-2))] := sblk_of (by decide +kernel)
theorem d_c_Mo_count_37 : decode b_Mo_count 37 = .ok (.ireturn, 1) := by decide +kernel
theorem k_c_Mo_count_28_1 : sblk b_Mo_count [(28, .aload_n 0, .null)] := sblk_of (by decide +kernel)
theorem d_c_Mo_count_29 : decode b_Mo_count 29 = .ok (.invokevirtual 358, 3) := by decide +kernel
theorem k_c_Mo_count_32_1 : sblk b_Mo_count [(32, .goto 5, .retAddr 37)] := sblk_of (by decide +kernel)
theorem k_c_Mo_count_16_1 : sblk b_Mo_count [(16, .aload_n 0, .null)] := sblk_of (by decide +kernel)
theorem d_c_Mo_count_17 : decode b_Mo_count 17 = .ok (.getfield 116, 3) := by decide +kernel
theorem k_c_Mo_count_20_1 : sblk b_Mo_count [(20, .goto 17, .retAddr 37)] := sblk_of (by decide +kernel)
theorem k_c_Mo_count_4_1 : sblk b_Mo_count [(4, .aload_n 0, .null)] := sblk_of (by decide +kernel)
theorem d_c_Mo_count_5 : decode b_Mo_count 5 = .ok (.getfield 105, 3) := by decide +kernel
theorem k_c_Mo_count_8_1 : sblk b_Mo_count [(8, .goto 29, .retAddr 37)] := sblk_of (by decide +kernel)
set_option maxHeartbeats 40000000 in
set_option maxRecDepth 100000 in
theorem c_Mo_count (l : Launch) (D : va_G) (B : Nat) (H0 : Heap) (w : jW) (x : Nat) (V : Nat → Value) (k : Int32) (st : Nat) (hx : w.1 x = some (.inr (10, V))) (h0 : V 0 = .int 0) (h22 : V 22 = .int 0) (h17 : V 17 = .ref st) (hst : w.1 st = some (aI D 6 (fun _ => 0))) (q : Nat) (xq : x < q) (stq : st < q) : jMet l D B H0 y_Mo_count b_Mo_count 2 (some .int) 3 160 0 0 [.ref x, .int k] w (fun v w9 => v = some (.int (an_count k)) ∧ jfr (fun b => q ≤ b) w w9) := by
  refine j_met (by decide) (Nat.le_of_ble_eq_true rfl) (fun g C Rm Y E => ?_)
  have hk := jkz w
  have fr0 : jfr (fun b => q ≤ b) w w := jfr0
  show JJ g w 0 [(0, .ref x), (1, .int k)] []
  refine j_blk 1 [(0, .ref x), (1, .int k)] [.int k] C k_c_Mo_count_0_1 rfl ?_
  refine j_if_ne (tgt := 11) C d_c_Mo_count_1 (by decide) (fun c1 => ?_) (fun c1 => ?_)
  · refine j_blk 13 [(0, .ref x), (1, .int k)] [.int 1, .int k] C k_c_Mo_count_11_2 rfl ?_
    refine j_icmp_ne (tgt := 23) C d_c_Mo_count_13 (by decide) (fun c2 => ?_) (fun c2 => ?_)
    · refine j_blk 25 [(0, .ref x), (1, .int k)] [.int 2, .int k] C k_c_Mo_count_23_2 rfl ?_
      refine j_icmp_ne (tgt := 35) C d_c_Mo_count_25 (by decide) (fun c3 => ?_) (fun c3 => ?_)
      · refine j_blk 37 [(0, .ref x), (1, .int k)] [.int (-2)] C k_c_Mo_count_35_1 rfl ?_
        exact j_iret C Rm E d_c_Mo_count_37 ⟨jin_ (fun hq => absurd hq (by (try simp only [jlt, jle, jeq, kt_0, kt_1, kt_2, kt_3, kt_4, kt_5, kt_6, kt_7, kt_8, kt_9, kt_10, kt_11, kt_12, kt_13, kt_15, kt_16, kt_19, kt_20, kt_24, kt_25, kt_31, kt_32, kt_40, kt_50, kt_60, kt_63, kt_100, kt_120, kt_255, kt_300, kt_999999, kt_1000000, kt_m1, kt_m2, kt_m3, kt_m4, kt_m6, kt_m7, kt_m11, kt_m12, kt_m13, kt_m14, kt_m100] at c1); (try simp only [jlt, jle, jeq, kt_0, kt_1, kt_2, kt_3, kt_4, kt_5, kt_6, kt_7, kt_8, kt_9, kt_10, kt_11, kt_12, kt_13, kt_15, kt_16, kt_19, kt_20, kt_24, kt_25, kt_31, kt_32, kt_40, kt_50, kt_60, kt_63, kt_100, kt_120, kt_255, kt_300, kt_999999, kt_1000000, kt_m1, kt_m2, kt_m3, kt_m4, kt_m6, kt_m7, kt_m11, kt_m12, kt_m13, kt_m14, kt_m100] at c2); (try simp only [jlt, jle, jeq, kt_0, kt_1, kt_2, kt_3, kt_4, kt_5, kt_6, kt_7, kt_8, kt_9, kt_10, kt_11, kt_12, kt_13, kt_15, kt_16, kt_19, kt_20, kt_24, kt_25, kt_31, kt_32, kt_40, kt_50, kt_60, kt_63, kt_100, kt_120, kt_255, kt_300, kt_999999, kt_1000000, kt_m1, kt_m2, kt_m3, kt_m4, kt_m6, kt_m7, kt_m11, kt_m12, kt_m13, kt_m14, kt_m100] at c3); (try simp only [kt_0, kt_1, kt_2, kt_3, kt_4, kt_5, kt_6, kt_7, kt_8, kt_9, kt_10, kt_11, kt_12, kt_13, kt_15, kt_16, kt_19, kt_20, kt_24, kt_25, kt_31, kt_32, kt_40, kt_50, kt_60, kt_63, kt_100, kt_120, kt_255, kt_300, kt_999999, kt_1000000, kt_m1, kt_m2, kt_m3, kt_m4, kt_m6, kt_m7, kt_m11, kt_m12, kt_m13, kt_m14, kt_m100]); omega)), fr0⟩ (jbnd hk.1 rfl) (jbnd hk.2 rfl)
      · refine j_blk 29 [(0, .ref x), (1, .int k)] [.ref x] C k_c_Mo_count_28_1 rfl ?_
        refine j_callV C Rm Y [] [] (c_Mo_startState0 l D B H0 w _ _ _ hx h17 hst) cl_Mo_358 (by rfl) (by rfl) hx d_c_Mo_count_29 rfl rfl (Nat.le_of_ble_eq_true rfl) ⟨by decide, by decide⟩ ⟨jroom hk.1 rfl, jroom hk.2 rfl⟩ (fun v4 w_1 pw_1 => ?_)
        obtain ⟨rfl, rfl⟩ := pw_1
        show JJ g w 32 [(0, .ref x), (1, .int k)] [.int 0]
        refine j_blk 37 [(0, .ref x), (1, .int k)] [.int 0] C k_c_Mo_count_32_1 rfl ?_
        exact j_iret C Rm E d_c_Mo_count_37 ⟨jip (by (try simp only [jlt, jle, jeq, kt_0, kt_1, kt_2, kt_3, kt_4, kt_5, kt_6, kt_7, kt_8, kt_9, kt_10, kt_11, kt_12, kt_13, kt_15, kt_16, kt_19, kt_20, kt_24, kt_25, kt_31, kt_32, kt_40, kt_50, kt_60, kt_63, kt_100, kt_120, kt_255, kt_300, kt_999999, kt_1000000, kt_m1, kt_m2, kt_m3, kt_m4, kt_m6, kt_m7, kt_m11, kt_m12, kt_m13, kt_m14, kt_m100] at c3); show 0 ≤ k.toInt ∧ k.toInt ≤ 2; (try simp only [kt_0, kt_1, kt_2, kt_3, kt_4, kt_5, kt_6, kt_7, kt_8, kt_9, kt_10, kt_11, kt_12, kt_13, kt_15, kt_16, kt_19, kt_20, kt_24, kt_25, kt_31, kt_32, kt_40, kt_50, kt_60, kt_63, kt_100, kt_120, kt_255, kt_300, kt_999999, kt_1000000, kt_m1, kt_m2, kt_m3, kt_m4, kt_m6, kt_m7, kt_m11, kt_m12, kt_m13, kt_m14, kt_m100]); omega), fr0⟩ (jbnd hk.1 rfl) (jbnd hk.2 rfl)
    · refine j_blk 17 [(0, .ref x), (1, .int k)] [.ref x] C k_c_Mo_count_16_1 rfl ?_
      refine j_get C d_c_Mo_count_17 fg_Mo_116 hx h22 ?_
      refine j_blk 37 [(0, .ref x), (1, .int k)] [.int 0] C k_c_Mo_count_20_1 rfl ?_
      exact j_iret C Rm E d_c_Mo_count_37 ⟨jip (by (try simp only [jlt, jle, jeq, kt_0, kt_1, kt_2, kt_3, kt_4, kt_5, kt_6, kt_7, kt_8, kt_9, kt_10, kt_11, kt_12, kt_13, kt_15, kt_16, kt_19, kt_20, kt_24, kt_25, kt_31, kt_32, kt_40, kt_50, kt_60, kt_63, kt_100, kt_120, kt_255, kt_300, kt_999999, kt_1000000, kt_m1, kt_m2, kt_m3, kt_m4, kt_m6, kt_m7, kt_m11, kt_m12, kt_m13, kt_m14, kt_m100] at c2); show 0 ≤ k.toInt ∧ k.toInt ≤ 2; (try simp only [kt_0, kt_1, kt_2, kt_3, kt_4, kt_5, kt_6, kt_7, kt_8, kt_9, kt_10, kt_11, kt_12, kt_13, kt_15, kt_16, kt_19, kt_20, kt_24, kt_25, kt_31, kt_32, kt_40, kt_50, kt_60, kt_63, kt_100, kt_120, kt_255, kt_300, kt_999999, kt_1000000, kt_m1, kt_m2, kt_m3, kt_m4, kt_m6, kt_m7, kt_m11, kt_m12, kt_m13, kt_m14, kt_m100]); omega), fr0⟩ (jbnd hk.1 rfl) (jbnd hk.2 rfl)
  · refine j_blk 5 [(0, .ref x), (1, .int k)] [.ref x] C k_c_Mo_count_4_1 rfl ?_
    refine j_get C d_c_Mo_count_5 fg_Mo_105 hx h0 ?_
    refine j_blk 37 [(0, .ref x), (1, .int k)] [.int 0] C k_c_Mo_count_8_1 rfl ?_
    exact j_iret C Rm E d_c_Mo_count_37 ⟨jip (by (try simp only [jlt, jle, jeq, kt_0, kt_1, kt_2, kt_3, kt_4, kt_5, kt_6, kt_7, kt_8, kt_9, kt_10, kt_11, kt_12, kt_13, kt_15, kt_16, kt_19, kt_20, kt_24, kt_25, kt_31, kt_32, kt_40, kt_50, kt_60, kt_63, kt_100, kt_120, kt_255, kt_300, kt_999999, kt_1000000, kt_m1, kt_m2, kt_m3, kt_m4, kt_m6, kt_m7, kt_m11, kt_m12, kt_m13, kt_m14, kt_m100] at c1); show 0 ≤ k.toInt ∧ k.toInt ≤ 2; (try simp only [kt_0, kt_1, kt_2, kt_3, kt_4, kt_5, kt_6, kt_7, kt_8, kt_9, kt_10, kt_11, kt_12, kt_13, kt_15, kt_16, kt_19, kt_20, kt_24, kt_25, kt_31, kt_32, kt_40, kt_50, kt_60, kt_63, kt_100, kt_120, kt_255, kt_300, kt_999999, kt_1000000, kt_m1, kt_m2, kt_m3, kt_m4, kt_m6, kt_m7, kt_m11, kt_m12, kt_m13, kt_m14, kt_m100]); omega), fr0⟩ (jbnd hk.1 rfl) (jbnd hk.2 rfl)

theorem jl_lt40 {k : Nat} (h : ¬ (40 : Int32) ≤ nI k) (hk : k ≤ 40) : k < 40 := by rw [jle, kt_40, nI_toInt (show k < 2 ^ 31 by omega)] at h; omega
theorem jl_fu40 {k n : Nat} (h : 40 < k + (n + 1)) : 40 < k + 1 + n := by omega
theorem k_c_Sheet_become_0_2 : sblk b_Sheet_become [(0, .aload_n 0, .null), (1, .iload_n 1, .null)] := sblk_of (by decide +kernel)
theorem d_c_Sheet_become_2 : decode b_Sheet_become 2 = .ok (.putfield 15, 3) := by decide +kernel
theorem k_c_Sheet_become_5_2 : sblk b_Sheet_become [(5, .aload_n 0, .null), (6, .iload_n 2, .null)] := sblk_of (by decide +kernel)
theorem d_c_Sheet_become_7 : decode b_Sheet_become 7 = .ok (.putfield 19, 3) := by decide +kernel
theorem k_c_Sheet_become_10_2 : sblk b_Sheet_become [(10, .iconst 0, .int 0), (11, .istore_n 3, .null)] := sblk_of (by decide +kernel)
theorem k_c_Sheet_become_12_2 : sblk b_Sheet_become [(12, .iload_n 3, .null), (13, .bipush 40, .int 40)] := sblk_of (by decide +kernel)
theorem d_c_Sheet_become_15 : decode b_Sheet_become 15 = .ok (.if_icmp .ge 16, 3) := by decide +kernel
theorem d_c_Sheet_become_31 : decode b_Sheet_become 31 = .ok (.return_, 1) := by decide +kernel
theorem k_c_Sheet_become_18_1 : sblk b_Sheet_become [(18, .aload_n 0, .null)] := sblk_of (by decide +kernel)
theorem d_c_Sheet_become_19 : decode b_Sheet_become 19 = .ok (.getfield 9, 3) := by decide +kernel
theorem k_c_Sheet_become_22_2 : sblk b_Sheet_become [(22, .iload_n 3, .null), (23, .iconst 0, .int 0)] := sblk_of (by decide +kernel)
theorem d_c_Sheet_become_24 : decode b_Sheet_become 24 = .ok (.iastore, 1) := by decide +kernel
theorem k_c_Sheet_become_25_2 : sblk b_Sheet_become [(25, .iinc 3 1, .int 1), (28, .goto (-16), .retAddr 12)] := sblk_of (by decide +kernel)
set_option maxHeartbeats 40000000 in
set_option maxRecDepth 100000 in
theorem c_Sheet_become (l : Launch) (D : va_G) (B : Nat) (H0 : Heap) (w : jW) (s e : Nat) (V : Nat → Value) (k n : Int32) (f : Nat → Int32) (hs : w.1 s = some (.inr (5, V))) (h0 : V 0 = .ref e) (he : w.1 e = some (aI D 40 f)) : jMet l D B H0 y_Sheet_become b_Sheet_become 4 none 1 40 0 0 [.ref s, .int k, .int n] w (fun v w9 => v = none ∧ (w9.2.1 = w.2.1 + 0 ∧ w9.2.2 = w.2.2 + 0) ∧ jfr (fun b => b ≠ s ∧ b ≠ e) w w9) := by
  refine j_met (by decide) (Nat.le_of_ble_eq_true rfl) (fun g C Rm Y E => ?_)
  have hk := jkz w
  have fr0 : jfr (fun b => b ≠ s ∧ b ≠ e) w w := jfr0
  show JJ g w 0 [(0, .ref s), (1, .int k), (2, .int n)] []
  refine j_blk 2 [(0, .ref s), (1, .int k), (2, .int n)] [.int k, .ref s] C k_c_Sheet_become_0_2 rfl ?_
  refine j_put C d_c_Sheet_become_2 fp_Sheet_15 hs rfl rfl ?_
  refine jnv (fun w_1 ew_1 => ?_)
  have m_s_w_1 : w_1.1 s = some (.inr (5, (updV V 1 (.int k)))) := jus ew_1
  have hk_w_1 := jk0 ew_1 hk
  have fr_w_1 := jfrW ew_1 fr0 (fun b e hb _ => hb.1)
  refine j_blk 7 [(0, .ref s), (1, .int k), (2, .int n)] [.int n, .ref s] C k_c_Sheet_become_5_2 rfl ?_
  refine j_put C d_c_Sheet_become_7 fp_Sheet_19 m_s_w_1 rfl rfl ?_
  refine jnv (fun w_2 ew_2 => ?_)
  have m_s_w_2 : w_2.1 s = some (.inr (5, (updV (updV V 1 (.int k)) 2 (.int n)))) := jus ew_2
  have hk_w_2 := jk0 ew_2 hk_w_1
  have fr_w_2 := jfrW ew_2 fr_w_1 (fun b e hb _ => hb.1)
  refine j_blk 12 [(3, .int 0), (0, .ref s), (1, .int k), (2, .int n)] [] C k_c_Sheet_become_10_2 rfl ?_
  have m_e_w_1 := jun ew_1 he (jneAO he hs)
  have m_e_w_2 := jun ew_2 m_e_w_1 (jneAO m_e_w_1 m_s_w_1)
  have lp1 : ∀ (nn kk : Nat) (w1 : jW) (F : Nat → Int32), kk ≤ 40 → 40 < kk + nn → w1.1 e = some (aI D 40 F) → jfr (fun b => b ≠ e) w_2 w1 → (w1.2.1 = w_2.2.1 + 0 ∧ w1.2.2 = w_2.2.2 + 0) → JJ g w1 12 [(3, .int (nI kk)), (0, .ref s), (1, .int k), (2, .int n)] [] := by
    intro nn
    induction nn with
    | zero => intro kk w1 F h1 h2; exact absurd h2 (Nat.not_lt.mpr h1)
    | succ nn ih =>
      intro kk w1 F hk1 hk2 hF hfr hc1
      have hkl2 := jkT hk_w_2 hc1
      have frl3 := jfrT fr_w_2 hfr (fun b e hb hv => (fun b e hb _ => hb.2) b e hb hv)
      refine j_blk 15 [(3, .int (nI kk)), (0, .ref s), (1, .int k), (2, .int n)] [.int 40, .int (nI kk)] C k_c_Sheet_become_12_2 rfl ?_
      refine j_icmp_ge (tgt := 31) C d_c_Sheet_become_15 (by decide) (fun c4 => ?_) (fun c4 => ?_)
      · exact j_vret C Rm E d_c_Sheet_become_31 ⟨rfl, hkl2, frl3⟩ (jbnd hkl2.1 rfl) (jbnd hkl2.2 rfl)
      · refine j_blk 19 [(3, .int (nI kk)), (0, .ref s), (1, .int k), (2, .int n)] [.ref s] C k_c_Sheet_become_18_1 rfl ?_
        have m_s_w1 := (hfr _ _ m_s_w_2).1 (jneOA m_s_w_2 m_e_w_2)
        refine j_get C d_c_Sheet_become_19 fg_Sheet_9 m_s_w1 h0 ?_
        refine j_blk 24 [(3, .int (nI kk)), (0, .ref s), (1, .int k), (2, .int n)] [.int 0, .int (nI kk), .ref e] C k_c_Sheet_become_22_2 rfl ?_
        refine j_iast C d_c_Sheet_become_24 hF (vp_in_nI (jl_lt40 c4 hk1) (by decide)) ?_
        refine jnv (fun w_3 ew_3 => ?_)
        have m_e_w_3 : w_3.1 e = some (aI D 40 (upd F (Int32.toNatClampNeg (nI kk)) 0)) := jus ew_3
        have hk_w_3 := jk0 ew_3 hkl2
        have fr_w_3 := jfrW ew_3 frl3 (fun b e hb _ => hb.2)
        refine j_blk 12 [(3, .int ((nI kk) + 1)), (0, .ref s), (1, .int k), (2, .int n)] [] C k_c_Sheet_become_25_2 rfl ?_
        rw [nI_1]
        have g5 := jfrW ew_3 hfr (fun b e hb _ => hb)
        have g6 := jk0 ew_3 hc1
        exact ih (kk + 1) w_3 _ (jl_lt40 c4 hk1) (jl_fu40 hk2) m_e_w_3 g5 g6
  exact lp1 41 0 w_2 _ (by decide) (by decide) m_e_w_2 jfr0 ⟨rfl, rfl⟩

theorem k_c_CS_sheet_0_1 : sblk b_CS_sheet [(0, .iload_n 1, .null)] := sblk_of (by decide +kernel)
theorem d_c_CS_sheet_1 : decode b_CS_sheet 1 = .ok (.invokestatic 200, 3) := by decide +kernel
theorem d_c_CS_sheet_4 : decode b_CS_sheet 4 = .ok (.ifCond .eq 13, 3) := by decide +kernel
theorem k_c_CS_sheet_17_1 : sblk b_CS_sheet [(17, .bipush (-2), .int (-2))] := sblk_of (by decide +kernel)
theorem d_c_CS_sheet_19 : decode b_CS_sheet 19 = .ok (.ireturn, 1) := by decide +kernel
theorem k_c_CS_sheet_7_2 : sblk b_CS_sheet [(7, .iload_n 2, .null), (8, .iconst (-1), .int (-1))] := sblk_of (by decide +kernel)
theorem d_c_CS_sheet_9 : decode b_CS_sheet 9 = .ok (.if_icmp .lt 8, 3) := by decide +kernel
theorem k_c_CS_sheet_12_2 : sblk b_CS_sheet [(12, .iload_n 2, .null), (13, .iconst 1, .int 1)] := sblk_of (by decide +kernel)
theorem d_c_CS_sheet_14 : decode b_CS_sheet 14 = .ok (.if_icmp .le 6, 3) := by decide +kernel
theorem k_c_CS_sheet_20_2 : sblk b_CS_sheet [(20, .iload_n 2, .null), (21, .iconst (-1), .int (-1))] := sblk_of (by decide +kernel)
theorem d_c_CS_sheet_22 : decode b_CS_sheet 22 = .ok (.if_icmp .ne 16, 3) := by decide +kernel
theorem k_c_CS_sheet_38_2 : sblk b_CS_sheet [(38, .iload_n 3, .null), (39, .bipush 40, .int 40)] := sblk_of (by decide +kernel)
theorem d_c_CS_sheet_41 : decode b_CS_sheet 41 = .ok (.if_icmp .le 6, 3) := by decide +kernel
theorem k_c_CS_sheet_47_1 : sblk b_CS_sheet [(47, .iload_n 3, .null)] := sblk_of (by decide +kernel)
theorem d_c_CS_sheet_48 : decode b_CS_sheet 48 = .ok (.ifCond .ge 6, 3) := by decide +kernel
theorem k_c_CS_sheet_54_1 : sblk b_CS_sheet [(54, .aload_n 0, .null)] := sblk_of (by decide +kernel)
theorem d_c_CS_sheet_55 : decode b_CS_sheet 55 = .ok (.getfield 21, 3) := by decide +kernel
theorem k_c_CS_sheet_58_1 : sblk b_CS_sheet [(58, .iload_n 1, .null)] := sblk_of (by decide +kernel)
theorem d_c_CS_sheet_59 : decode b_CS_sheet 59 = .ok (.aaload, 1) := by decide +kernel
theorem k_c_CS_sheet_60_2 : sblk b_CS_sheet [(60, .iload_n 2, .null), (61, .iload_n 3, .null)] := sblk_of (by decide +kernel)
theorem d_c_CS_sheet_62 : decode b_CS_sheet 62 = .ok (.invokevirtual 223, 3) := by decide +kernel
theorem k_c_CS_sheet_65_1 : sblk b_CS_sheet [(65, .iconst 1, .int 1)] := sblk_of (by decide +kernel)
theorem d_c_CS_sheet_66 : decode b_CS_sheet 66 = .ok (.ireturn, 1) := by decide +kernel
theorem k_c_CS_sheet_51_1 : sblk b_CS_sheet [(51, .bipush (-14), .int (-14))] := sblk_of (by decide +kernel)
theorem d_c_CS_sheet_53 : decode b_CS_sheet 53 = .ok (.ireturn, 1) := by decide +kernel
theorem k_c_CS_sheet_44_1 : sblk b_CS_sheet [(44, .bipush (-2), .int (-2))] := sblk_of (by decide +kernel)
theorem d_c_CS_sheet_46 : decode b_CS_sheet 46 = .ok (.ireturn, 1) := by decide +kernel
theorem k_c_CS_sheet_25_1 : sblk b_CS_sheet [(25, .aload_n 0, .null)] := sblk_of (by decide +kernel)
theorem d_c_CS_sheet_26 : decode b_CS_sheet 26 = .ok (.getfield 21, 3) := by decide +kernel
theorem k_c_CS_sheet_29_1 : sblk b_CS_sheet [(29, .iload_n 1, .null)] := sblk_of (by decide +kernel)
theorem d_c_CS_sheet_30 : decode b_CS_sheet 30 = .ok (.aaload, 1) := by decide +kernel
theorem k_c_CS_sheet_31_2 : sblk b_CS_sheet [(31, .iconst (-1), .int (-1)), (32, .iconst 0, .int 0)] := sblk_of (by decide +kernel)
theorem d_c_CS_sheet_33 : decode b_CS_sheet 33 = .ok (.invokevirtual 223, 3) := by decide +kernel
theorem k_c_CS_sheet_36_1 : sblk b_CS_sheet [(36, .iconst 1, .int 1)] := sblk_of (by decide +kernel)
theorem d_c_CS_sheet_37 : decode b_CS_sheet 37 = .ok (.ireturn, 1) := by decide +kernel
set_option maxHeartbeats 40000000 in
set_option maxRecDepth 100000 in
theorem c_CS_sheet (l : Launch) (D : va_G) (B : Nat) (H0 : Heap) (w : jW) (x : Nat) (V : Nat → Value) (s : Int32) (k : Int32) (n : Int32) (sh : Nat) (F : Nat → Option Nat) (hx : w.1 x = some (.inr (8, V))) (h8 : V 8 = .ref sh) (hsh : w.1 sh = some (aR D 9 4 F)) (q : Nat) (xq : x < q) (fx : fxS D w F q) : jMet l D B H0 y_CS_sheet b_CS_sheet 4 (some .int) 3 160 0 0 [.ref x, .int s, .int k, .int n] w (fun v w9 => v = some (.int (an_sheet s k n)) ∧ jfr (fun b => q ≤ b) w w9) := by
  refine j_met (by decide) (Nat.le_of_ble_eq_true rfl) (fun g C Rm Y E => ?_)
  have hk := jkz w
  have fr0 : jfr (fun b => q ≤ b) w w := jfr0
  show JJ g w 0 [(0, .ref x), (1, .int s), (2, .int k), (3, .int n)] []
  refine j_blk 1 [(0, .ref x), (1, .int s), (2, .int k), (3, .int n)] [.int s] C k_c_CS_sheet_0_1 rfl ?_
  refine j_callS (As := [.int s]) C Rm Y [] (c_CS_isSheet l D B H0 w s) cl_CS_200 d_c_CS_sheet_1 rfl rfl (Nat.le_of_ble_eq_true rfl) ⟨by decide, by decide⟩ ⟨jroom hk.1 rfl, jroom hk.2 rfl⟩ (fun v1 w_1 pw_1 => ?_)
  obtain ⟨rfl, rfl⟩ := pw_1
  show JJ g w 4 [(0, .ref x), (1, .int s), (2, .int k), (3, .int n)] [.int (if 0 ≤ s.toInt ∧ s.toInt < 4 then 1 else 0)]
  refine j_if_eq (tgt := 17) C d_c_CS_sheet_4 (by decide) (fun c2 => ?_) (fun c2 => ?_)
  · have c2 := jbz.mp c2
    refine j_blk 19 [(0, .ref x), (1, .int s), (2, .int k), (3, .int n)] [.int (-2)] C k_c_CS_sheet_17_1 rfl ?_
    exact j_iret C Rm E d_c_CS_sheet_19 ⟨congrArg (fun z => some (Value.int z)) (by unfold an_sheet; (try simp only [jlt, jle, jeq, kt_0, kt_1, kt_2, kt_3, kt_4, kt_5, kt_6, kt_7, kt_8, kt_9, kt_10, kt_11, kt_12, kt_13, kt_15, kt_16, kt_19, kt_20, kt_24, kt_25, kt_31, kt_32, kt_40, kt_50, kt_60, kt_63, kt_100, kt_120, kt_255, kt_300, kt_999999, kt_1000000, kt_m1, kt_m2, kt_m3, kt_m4, kt_m6, kt_m7, kt_m11, kt_m12, kt_m13, kt_m14, kt_m100] at c2);  (repeat' split) <;> first | rfl | (exfalso; omega)), fr0⟩ (jbnd hk.1 rfl) (jbnd hk.2 rfl)
  · have c2 := jbo.mp c2
    refine j_blk 9 [(0, .ref x), (1, .int s), (2, .int k), (3, .int n)] [.int (-1), .int k] C k_c_CS_sheet_7_2 rfl ?_
    refine j_icmp_lt (tgt := 17) C d_c_CS_sheet_9 (by decide) (fun c3 => ?_) (fun c3 => ?_)
    · refine j_blk 19 [(0, .ref x), (1, .int s), (2, .int k), (3, .int n)] [.int (-2)] C k_c_CS_sheet_17_1 rfl ?_
      exact j_iret C Rm E d_c_CS_sheet_19 ⟨congrArg (fun z => some (Value.int z)) (by unfold an_sheet; (try simp only [jlt, jle, jeq, kt_0, kt_1, kt_2, kt_3, kt_4, kt_5, kt_6, kt_7, kt_8, kt_9, kt_10, kt_11, kt_12, kt_13, kt_15, kt_16, kt_19, kt_20, kt_24, kt_25, kt_31, kt_32, kt_40, kt_50, kt_60, kt_63, kt_100, kt_120, kt_255, kt_300, kt_999999, kt_1000000, kt_m1, kt_m2, kt_m3, kt_m4, kt_m6, kt_m7, kt_m11, kt_m12, kt_m13, kt_m14, kt_m100] at c2); (try simp only [jlt, jle, jeq, kt_0, kt_1, kt_2, kt_3, kt_4, kt_5, kt_6, kt_7, kt_8, kt_9, kt_10, kt_11, kt_12, kt_13, kt_15, kt_16, kt_19, kt_20, kt_24, kt_25, kt_31, kt_32, kt_40, kt_50, kt_60, kt_63, kt_100, kt_120, kt_255, kt_300, kt_999999, kt_1000000, kt_m1, kt_m2, kt_m3, kt_m4, kt_m6, kt_m7, kt_m11, kt_m12, kt_m13, kt_m14, kt_m100] at c3);  (repeat' split) <;> first | rfl | (exfalso; omega)), fr0⟩ (jbnd hk.1 rfl) (jbnd hk.2 rfl)
    · refine j_blk 14 [(0, .ref x), (1, .int s), (2, .int k), (3, .int n)] [.int 1, .int k] C k_c_CS_sheet_12_2 rfl ?_
      refine j_icmp_le (tgt := 20) C d_c_CS_sheet_14 (by decide) (fun c4 => ?_) (fun c4 => ?_)
      · refine j_blk 22 [(0, .ref x), (1, .int s), (2, .int k), (3, .int n)] [.int (-1), .int k] C k_c_CS_sheet_20_2 rfl ?_
        refine j_icmp_ne (tgt := 38) C d_c_CS_sheet_22 (by decide) (fun c5 => ?_) (fun c5 => ?_)
        · refine j_blk 41 [(0, .ref x), (1, .int s), (2, .int k), (3, .int n)] [.int 40, .int n] C k_c_CS_sheet_38_2 rfl ?_
          refine j_icmp_le (tgt := 47) C d_c_CS_sheet_41 (by decide) (fun c6 => ?_) (fun c6 => ?_)
          · refine j_blk 48 [(0, .ref x), (1, .int s), (2, .int k), (3, .int n)] [.int n] C k_c_CS_sheet_47_1 rfl ?_
            refine j_if_ge (tgt := 54) C d_c_CS_sheet_48 (by decide) (fun c7 => ?_) (fun c7 => ?_)
            · refine j_blk 55 [(0, .ref x), (1, .int s), (2, .int k), (3, .int n)] [.ref x] C k_c_CS_sheet_54_1 rfl ?_
              refine j_get C d_c_CS_sheet_55 fg_CS_21 hx h8 ?_
              refine j_blk 59 [(0, .ref x), (1, .int s), (2, .int k), (3, .int n)] [.int s, .ref sh] C k_c_CS_sheet_58_1 rfl ?_
              obtain ⟨s8, es8, Vs8, hFs8, ms8, zs8, sos8, sis8, mes8, ls8, les8⟩ := fx (Int32.toNatClampNeg s) (jcl (by (try simp only [jlt, jle, jeq, kt_0, kt_1, kt_2, kt_3, kt_4, kt_5, kt_6, kt_7, kt_8, kt_9, kt_10, kt_11, kt_12, kt_13, kt_15, kt_16, kt_19, kt_20, kt_24, kt_25, kt_31, kt_32, kt_40, kt_50, kt_60, kt_63, kt_100, kt_120, kt_255, kt_300, kt_999999, kt_1000000, kt_m1, kt_m2, kt_m3, kt_m4, kt_m6, kt_m7, kt_m11, kt_m12, kt_m13, kt_m14, kt_m100] at c2); (try simp only [jlt, jle, jeq, kt_0, kt_1, kt_2, kt_3, kt_4, kt_5, kt_6, kt_7, kt_8, kt_9, kt_10, kt_11, kt_12, kt_13, kt_15, kt_16, kt_19, kt_20, kt_24, kt_25, kt_31, kt_32, kt_40, kt_50, kt_60, kt_63, kt_100, kt_120, kt_255, kt_300, kt_999999, kt_1000000, kt_m1, kt_m2, kt_m3, kt_m4, kt_m6, kt_m7, kt_m11, kt_m12, kt_m13, kt_m14, kt_m100] at c3); (try simp only [jlt, jle, jeq, kt_0, kt_1, kt_2, kt_3, kt_4, kt_5, kt_6, kt_7, kt_8, kt_9, kt_10, kt_11, kt_12, kt_13, kt_15, kt_16, kt_19, kt_20, kt_24, kt_25, kt_31, kt_32, kt_40, kt_50, kt_60, kt_63, kt_100, kt_120, kt_255, kt_300, kt_999999, kt_1000000, kt_m1, kt_m2, kt_m3, kt_m4, kt_m6, kt_m7, kt_m11, kt_m12, kt_m13, kt_m14, kt_m100] at c4); (try simp only [jlt, jle, jeq, kt_0, kt_1, kt_2, kt_3, kt_4, kt_5, kt_6, kt_7, kt_8, kt_9, kt_10, kt_11, kt_12, kt_13, kt_15, kt_16, kt_19, kt_20, kt_24, kt_25, kt_31, kt_32, kt_40, kt_50, kt_60, kt_63, kt_100, kt_120, kt_255, kt_300, kt_999999, kt_1000000, kt_m1, kt_m2, kt_m3, kt_m4, kt_m6, kt_m7, kt_m11, kt_m12, kt_m13, kt_m14, kt_m100] at c5); (try simp only [jlt, jle, jeq, kt_0, kt_1, kt_2, kt_3, kt_4, kt_5, kt_6, kt_7, kt_8, kt_9, kt_10, kt_11, kt_12, kt_13, kt_15, kt_16, kt_19, kt_20, kt_24, kt_25, kt_31, kt_32, kt_40, kt_50, kt_60, kt_63, kt_100, kt_120, kt_255, kt_300, kt_999999, kt_1000000, kt_m1, kt_m2, kt_m3, kt_m4, kt_m6, kt_m7, kt_m11, kt_m12, kt_m13, kt_m14, kt_m100] at c6); (try simp only [jlt, jle, jeq, kt_0, kt_1, kt_2, kt_3, kt_4, kt_5, kt_6, kt_7, kt_8, kt_9, kt_10, kt_11, kt_12, kt_13, kt_15, kt_16, kt_19, kt_20, kt_24, kt_25, kt_31, kt_32, kt_40, kt_50, kt_60, kt_63, kt_100, kt_120, kt_255, kt_300, kt_999999, kt_1000000, kt_m1, kt_m2, kt_m3, kt_m4, kt_m6, kt_m7, kt_m11, kt_m12, kt_m13, kt_m14, kt_m100] at c7); (try simp only [kt_0, kt_1, kt_2, kt_3, kt_4, kt_5, kt_6, kt_7, kt_8, kt_9, kt_10, kt_11, kt_12, kt_13, kt_15, kt_16, kt_19, kt_20, kt_24, kt_25, kt_31, kt_32, kt_40, kt_50, kt_60, kt_63, kt_100, kt_120, kt_255, kt_300, kt_999999, kt_1000000, kt_m1, kt_m2, kt_m3, kt_m4, kt_m6, kt_m7, kt_m11, kt_m12, kt_m13, kt_m14, kt_m100]); omega) (by (try simp only [jlt, jle, jeq, kt_0, kt_1, kt_2, kt_3, kt_4, kt_5, kt_6, kt_7, kt_8, kt_9, kt_10, kt_11, kt_12, kt_13, kt_15, kt_16, kt_19, kt_20, kt_24, kt_25, kt_31, kt_32, kt_40, kt_50, kt_60, kt_63, kt_100, kt_120, kt_255, kt_300, kt_999999, kt_1000000, kt_m1, kt_m2, kt_m3, kt_m4, kt_m6, kt_m7, kt_m11, kt_m12, kt_m13, kt_m14, kt_m100] at c2); (try simp only [jlt, jle, jeq, kt_0, kt_1, kt_2, kt_3, kt_4, kt_5, kt_6, kt_7, kt_8, kt_9, kt_10, kt_11, kt_12, kt_13, kt_15, kt_16, kt_19, kt_20, kt_24, kt_25, kt_31, kt_32, kt_40, kt_50, kt_60, kt_63, kt_100, kt_120, kt_255, kt_300, kt_999999, kt_1000000, kt_m1, kt_m2, kt_m3, kt_m4, kt_m6, kt_m7, kt_m11, kt_m12, kt_m13, kt_m14, kt_m100] at c3); (try simp only [jlt, jle, jeq, kt_0, kt_1, kt_2, kt_3, kt_4, kt_5, kt_6, kt_7, kt_8, kt_9, kt_10, kt_11, kt_12, kt_13, kt_15, kt_16, kt_19, kt_20, kt_24, kt_25, kt_31, kt_32, kt_40, kt_50, kt_60, kt_63, kt_100, kt_120, kt_255, kt_300, kt_999999, kt_1000000, kt_m1, kt_m2, kt_m3, kt_m4, kt_m6, kt_m7, kt_m11, kt_m12, kt_m13, kt_m14, kt_m100] at c4); (try simp only [jlt, jle, jeq, kt_0, kt_1, kt_2, kt_3, kt_4, kt_5, kt_6, kt_7, kt_8, kt_9, kt_10, kt_11, kt_12, kt_13, kt_15, kt_16, kt_19, kt_20, kt_24, kt_25, kt_31, kt_32, kt_40, kt_50, kt_60, kt_63, kt_100, kt_120, kt_255, kt_300, kt_999999, kt_1000000, kt_m1, kt_m2, kt_m3, kt_m4, kt_m6, kt_m7, kt_m11, kt_m12, kt_m13, kt_m14, kt_m100] at c5); (try simp only [jlt, jle, jeq, kt_0, kt_1, kt_2, kt_3, kt_4, kt_5, kt_6, kt_7, kt_8, kt_9, kt_10, kt_11, kt_12, kt_13, kt_15, kt_16, kt_19, kt_20, kt_24, kt_25, kt_31, kt_32, kt_40, kt_50, kt_60, kt_63, kt_100, kt_120, kt_255, kt_300, kt_999999, kt_1000000, kt_m1, kt_m2, kt_m3, kt_m4, kt_m6, kt_m7, kt_m11, kt_m12, kt_m13, kt_m14, kt_m100] at c6); (try simp only [jlt, jle, jeq, kt_0, kt_1, kt_2, kt_3, kt_4, kt_5, kt_6, kt_7, kt_8, kt_9, kt_10, kt_11, kt_12, kt_13, kt_15, kt_16, kt_19, kt_20, kt_24, kt_25, kt_31, kt_32, kt_40, kt_50, kt_60, kt_63, kt_100, kt_120, kt_255, kt_300, kt_999999, kt_1000000, kt_m1, kt_m2, kt_m3, kt_m4, kt_m6, kt_m7, kt_m11, kt_m12, kt_m13, kt_m14, kt_m100] at c7); (try simp only [kt_0, kt_1, kt_2, kt_3, kt_4, kt_5, kt_6, kt_7, kt_8, kt_9, kt_10, kt_11, kt_12, kt_13, kt_15, kt_16, kt_19, kt_20, kt_24, kt_25, kt_31, kt_32, kt_40, kt_50, kt_60, kt_63, kt_100, kt_120, kt_255, kt_300, kt_999999, kt_1000000, kt_m1, kt_m2, kt_m3, kt_m4, kt_m6, kt_m7, kt_m11, kt_m12, kt_m13, kt_m14, kt_m100]); omega))
              refine j_aald (v := .ref s8) C d_c_CS_sheet_59 (by rfl) rfl hsh (jin (by (try simp only [jlt, jle, jeq, kt_0, kt_1, kt_2, kt_3, kt_4, kt_5, kt_6, kt_7, kt_8, kt_9, kt_10, kt_11, kt_12, kt_13, kt_15, kt_16, kt_19, kt_20, kt_24, kt_25, kt_31, kt_32, kt_40, kt_50, kt_60, kt_63, kt_100, kt_120, kt_255, kt_300, kt_999999, kt_1000000, kt_m1, kt_m2, kt_m3, kt_m4, kt_m6, kt_m7, kt_m11, kt_m12, kt_m13, kt_m14, kt_m100] at c2); (try simp only [jlt, jle, jeq, kt_0, kt_1, kt_2, kt_3, kt_4, kt_5, kt_6, kt_7, kt_8, kt_9, kt_10, kt_11, kt_12, kt_13, kt_15, kt_16, kt_19, kt_20, kt_24, kt_25, kt_31, kt_32, kt_40, kt_50, kt_60, kt_63, kt_100, kt_120, kt_255, kt_300, kt_999999, kt_1000000, kt_m1, kt_m2, kt_m3, kt_m4, kt_m6, kt_m7, kt_m11, kt_m12, kt_m13, kt_m14, kt_m100] at c3); (try simp only [jlt, jle, jeq, kt_0, kt_1, kt_2, kt_3, kt_4, kt_5, kt_6, kt_7, kt_8, kt_9, kt_10, kt_11, kt_12, kt_13, kt_15, kt_16, kt_19, kt_20, kt_24, kt_25, kt_31, kt_32, kt_40, kt_50, kt_60, kt_63, kt_100, kt_120, kt_255, kt_300, kt_999999, kt_1000000, kt_m1, kt_m2, kt_m3, kt_m4, kt_m6, kt_m7, kt_m11, kt_m12, kt_m13, kt_m14, kt_m100] at c4); (try simp only [jlt, jle, jeq, kt_0, kt_1, kt_2, kt_3, kt_4, kt_5, kt_6, kt_7, kt_8, kt_9, kt_10, kt_11, kt_12, kt_13, kt_15, kt_16, kt_19, kt_20, kt_24, kt_25, kt_31, kt_32, kt_40, kt_50, kt_60, kt_63, kt_100, kt_120, kt_255, kt_300, kt_999999, kt_1000000, kt_m1, kt_m2, kt_m3, kt_m4, kt_m6, kt_m7, kt_m11, kt_m12, kt_m13, kt_m14, kt_m100] at c5); (try simp only [jlt, jle, jeq, kt_0, kt_1, kt_2, kt_3, kt_4, kt_5, kt_6, kt_7, kt_8, kt_9, kt_10, kt_11, kt_12, kt_13, kt_15, kt_16, kt_19, kt_20, kt_24, kt_25, kt_31, kt_32, kt_40, kt_50, kt_60, kt_63, kt_100, kt_120, kt_255, kt_300, kt_999999, kt_1000000, kt_m1, kt_m2, kt_m3, kt_m4, kt_m6, kt_m7, kt_m11, kt_m12, kt_m13, kt_m14, kt_m100] at c6); (try simp only [jlt, jle, jeq, kt_0, kt_1, kt_2, kt_3, kt_4, kt_5, kt_6, kt_7, kt_8, kt_9, kt_10, kt_11, kt_12, kt_13, kt_15, kt_16, kt_19, kt_20, kt_24, kt_25, kt_31, kt_32, kt_40, kt_50, kt_60, kt_63, kt_100, kt_120, kt_255, kt_300, kt_999999, kt_1000000, kt_m1, kt_m2, kt_m3, kt_m4, kt_m6, kt_m7, kt_m11, kt_m12, kt_m13, kt_m14, kt_m100] at c7); (try simp only [kt_0, kt_1, kt_2, kt_3, kt_4, kt_5, kt_6, kt_7, kt_8, kt_9, kt_10, kt_11, kt_12, kt_13, kt_15, kt_16, kt_19, kt_20, kt_24, kt_25, kt_31, kt_32, kt_40, kt_50, kt_60, kt_63, kt_100, kt_120, kt_255, kt_300, kt_999999, kt_1000000, kt_m1, kt_m2, kt_m3, kt_m4, kt_m6, kt_m7, kt_m11, kt_m12, kt_m13, kt_m14, kt_m100]); omega) (by (try simp only [jlt, jle, jeq, kt_0, kt_1, kt_2, kt_3, kt_4, kt_5, kt_6, kt_7, kt_8, kt_9, kt_10, kt_11, kt_12, kt_13, kt_15, kt_16, kt_19, kt_20, kt_24, kt_25, kt_31, kt_32, kt_40, kt_50, kt_60, kt_63, kt_100, kt_120, kt_255, kt_300, kt_999999, kt_1000000, kt_m1, kt_m2, kt_m3, kt_m4, kt_m6, kt_m7, kt_m11, kt_m12, kt_m13, kt_m14, kt_m100] at c2); (try simp only [jlt, jle, jeq, kt_0, kt_1, kt_2, kt_3, kt_4, kt_5, kt_6, kt_7, kt_8, kt_9, kt_10, kt_11, kt_12, kt_13, kt_15, kt_16, kt_19, kt_20, kt_24, kt_25, kt_31, kt_32, kt_40, kt_50, kt_60, kt_63, kt_100, kt_120, kt_255, kt_300, kt_999999, kt_1000000, kt_m1, kt_m2, kt_m3, kt_m4, kt_m6, kt_m7, kt_m11, kt_m12, kt_m13, kt_m14, kt_m100] at c3); (try simp only [jlt, jle, jeq, kt_0, kt_1, kt_2, kt_3, kt_4, kt_5, kt_6, kt_7, kt_8, kt_9, kt_10, kt_11, kt_12, kt_13, kt_15, kt_16, kt_19, kt_20, kt_24, kt_25, kt_31, kt_32, kt_40, kt_50, kt_60, kt_63, kt_100, kt_120, kt_255, kt_300, kt_999999, kt_1000000, kt_m1, kt_m2, kt_m3, kt_m4, kt_m6, kt_m7, kt_m11, kt_m12, kt_m13, kt_m14, kt_m100] at c4); (try simp only [jlt, jle, jeq, kt_0, kt_1, kt_2, kt_3, kt_4, kt_5, kt_6, kt_7, kt_8, kt_9, kt_10, kt_11, kt_12, kt_13, kt_15, kt_16, kt_19, kt_20, kt_24, kt_25, kt_31, kt_32, kt_40, kt_50, kt_60, kt_63, kt_100, kt_120, kt_255, kt_300, kt_999999, kt_1000000, kt_m1, kt_m2, kt_m3, kt_m4, kt_m6, kt_m7, kt_m11, kt_m12, kt_m13, kt_m14, kt_m100] at c5); (try simp only [jlt, jle, jeq, kt_0, kt_1, kt_2, kt_3, kt_4, kt_5, kt_6, kt_7, kt_8, kt_9, kt_10, kt_11, kt_12, kt_13, kt_15, kt_16, kt_19, kt_20, kt_24, kt_25, kt_31, kt_32, kt_40, kt_50, kt_60, kt_63, kt_100, kt_120, kt_255, kt_300, kt_999999, kt_1000000, kt_m1, kt_m2, kt_m3, kt_m4, kt_m6, kt_m7, kt_m11, kt_m12, kt_m13, kt_m14, kt_m100] at c6); (try simp only [jlt, jle, jeq, kt_0, kt_1, kt_2, kt_3, kt_4, kt_5, kt_6, kt_7, kt_8, kt_9, kt_10, kt_11, kt_12, kt_13, kt_15, kt_16, kt_19, kt_20, kt_24, kt_25, kt_31, kt_32, kt_40, kt_50, kt_60, kt_63, kt_100, kt_120, kt_255, kt_300, kt_999999, kt_1000000, kt_m1, kt_m2, kt_m3, kt_m4, kt_m6, kt_m7, kt_m11, kt_m12, kt_m13, kt_m14, kt_m100] at c7); (try simp only [kt_0, kt_1, kt_2, kt_3, kt_4, kt_5, kt_6, kt_7, kt_8, kt_9, kt_10, kt_11, kt_12, kt_13, kt_15, kt_16, kt_19, kt_20, kt_24, kt_25, kt_31, kt_32, kt_40, kt_50, kt_60, kt_63, kt_100, kt_120, kt_255, kt_300, kt_999999, kt_1000000, kt_m1, kt_m2, kt_m3, kt_m4, kt_m6, kt_m7, kt_m11, kt_m12, kt_m13, kt_m14, kt_m100]); omega)) (congrArg va_rf hFs8) ?_
              refine j_blk 62 [(0, .ref x), (1, .int s), (2, .int k), (3, .int n)] [.int n, .int k, .ref s8] C k_c_CS_sheet_60_2 rfl ?_
              refine j_callV C Rm Y [.int k, .int n] [] (c_Sheet_become l D B H0 w s8 es8 Vs8 k n (fun _ => 0) ms8 zs8 mes8) cl_CS_223 (by rfl) (by rfl) ms8 d_c_CS_sheet_62 rfl rfl (Nat.le_of_ble_eq_true rfl) ⟨by decide, by decide⟩ ⟨jroom hk.1 rfl, jroom hk.2 rfl⟩ (fun v9 w_2 pw_2 => ?_)
              obtain ⟨rfl, hc_w_2, G_w_2⟩ := pw_2
              have hk_w_2 := jkT hk hc_w_2
              have fr_w_2 := jfrT fr0 G_w_2 (fun b e hb hv => ⟨(fun b e hb _ => Nat.ne_of_gt (Nat.lt_of_lt_of_le ls8 hb)) b e hb hv, (fun b e hb _ => Nat.ne_of_gt (Nat.lt_of_lt_of_le les8 hb)) b e hb hv⟩)
              show JJ g w_2 65 [(0, .ref x), (1, .int s), (2, .int k), (3, .int n)] []
              refine j_blk 66 [(0, .ref x), (1, .int s), (2, .int k), (3, .int n)] [.int 1] C k_c_CS_sheet_65_1 rfl ?_
              exact j_iret C Rm E d_c_CS_sheet_66 ⟨congrArg (fun z => some (Value.int z)) (by unfold an_sheet; (try simp only [jlt, jle, jeq, kt_0, kt_1, kt_2, kt_3, kt_4, kt_5, kt_6, kt_7, kt_8, kt_9, kt_10, kt_11, kt_12, kt_13, kt_15, kt_16, kt_19, kt_20, kt_24, kt_25, kt_31, kt_32, kt_40, kt_50, kt_60, kt_63, kt_100, kt_120, kt_255, kt_300, kt_999999, kt_1000000, kt_m1, kt_m2, kt_m3, kt_m4, kt_m6, kt_m7, kt_m11, kt_m12, kt_m13, kt_m14, kt_m100] at c2); (try simp only [jlt, jle, jeq, kt_0, kt_1, kt_2, kt_3, kt_4, kt_5, kt_6, kt_7, kt_8, kt_9, kt_10, kt_11, kt_12, kt_13, kt_15, kt_16, kt_19, kt_20, kt_24, kt_25, kt_31, kt_32, kt_40, kt_50, kt_60, kt_63, kt_100, kt_120, kt_255, kt_300, kt_999999, kt_1000000, kt_m1, kt_m2, kt_m3, kt_m4, kt_m6, kt_m7, kt_m11, kt_m12, kt_m13, kt_m14, kt_m100] at c3); (try simp only [jlt, jle, jeq, kt_0, kt_1, kt_2, kt_3, kt_4, kt_5, kt_6, kt_7, kt_8, kt_9, kt_10, kt_11, kt_12, kt_13, kt_15, kt_16, kt_19, kt_20, kt_24, kt_25, kt_31, kt_32, kt_40, kt_50, kt_60, kt_63, kt_100, kt_120, kt_255, kt_300, kt_999999, kt_1000000, kt_m1, kt_m2, kt_m3, kt_m4, kt_m6, kt_m7, kt_m11, kt_m12, kt_m13, kt_m14, kt_m100] at c4); (try simp only [jlt, jle, jeq, kt_0, kt_1, kt_2, kt_3, kt_4, kt_5, kt_6, kt_7, kt_8, kt_9, kt_10, kt_11, kt_12, kt_13, kt_15, kt_16, kt_19, kt_20, kt_24, kt_25, kt_31, kt_32, kt_40, kt_50, kt_60, kt_63, kt_100, kt_120, kt_255, kt_300, kt_999999, kt_1000000, kt_m1, kt_m2, kt_m3, kt_m4, kt_m6, kt_m7, kt_m11, kt_m12, kt_m13, kt_m14, kt_m100] at c5); (try simp only [jlt, jle, jeq, kt_0, kt_1, kt_2, kt_3, kt_4, kt_5, kt_6, kt_7, kt_8, kt_9, kt_10, kt_11, kt_12, kt_13, kt_15, kt_16, kt_19, kt_20, kt_24, kt_25, kt_31, kt_32, kt_40, kt_50, kt_60, kt_63, kt_100, kt_120, kt_255, kt_300, kt_999999, kt_1000000, kt_m1, kt_m2, kt_m3, kt_m4, kt_m6, kt_m7, kt_m11, kt_m12, kt_m13, kt_m14, kt_m100] at c6); (try simp only [jlt, jle, jeq, kt_0, kt_1, kt_2, kt_3, kt_4, kt_5, kt_6, kt_7, kt_8, kt_9, kt_10, kt_11, kt_12, kt_13, kt_15, kt_16, kt_19, kt_20, kt_24, kt_25, kt_31, kt_32, kt_40, kt_50, kt_60, kt_63, kt_100, kt_120, kt_255, kt_300, kt_999999, kt_1000000, kt_m1, kt_m2, kt_m3, kt_m4, kt_m6, kt_m7, kt_m11, kt_m12, kt_m13, kt_m14, kt_m100] at c7);  (repeat' split) <;> first | rfl | (exfalso; omega)), fr_w_2⟩ (jbnd hk_w_2.1 rfl) (jbnd hk_w_2.2 rfl)
            · refine j_blk 53 [(0, .ref x), (1, .int s), (2, .int k), (3, .int n)] [.int (-14)] C k_c_CS_sheet_51_1 rfl ?_
              exact j_iret C Rm E d_c_CS_sheet_53 ⟨congrArg (fun z => some (Value.int z)) (by unfold an_sheet; (try simp only [jlt, jle, jeq, kt_0, kt_1, kt_2, kt_3, kt_4, kt_5, kt_6, kt_7, kt_8, kt_9, kt_10, kt_11, kt_12, kt_13, kt_15, kt_16, kt_19, kt_20, kt_24, kt_25, kt_31, kt_32, kt_40, kt_50, kt_60, kt_63, kt_100, kt_120, kt_255, kt_300, kt_999999, kt_1000000, kt_m1, kt_m2, kt_m3, kt_m4, kt_m6, kt_m7, kt_m11, kt_m12, kt_m13, kt_m14, kt_m100] at c2); (try simp only [jlt, jle, jeq, kt_0, kt_1, kt_2, kt_3, kt_4, kt_5, kt_6, kt_7, kt_8, kt_9, kt_10, kt_11, kt_12, kt_13, kt_15, kt_16, kt_19, kt_20, kt_24, kt_25, kt_31, kt_32, kt_40, kt_50, kt_60, kt_63, kt_100, kt_120, kt_255, kt_300, kt_999999, kt_1000000, kt_m1, kt_m2, kt_m3, kt_m4, kt_m6, kt_m7, kt_m11, kt_m12, kt_m13, kt_m14, kt_m100] at c3); (try simp only [jlt, jle, jeq, kt_0, kt_1, kt_2, kt_3, kt_4, kt_5, kt_6, kt_7, kt_8, kt_9, kt_10, kt_11, kt_12, kt_13, kt_15, kt_16, kt_19, kt_20, kt_24, kt_25, kt_31, kt_32, kt_40, kt_50, kt_60, kt_63, kt_100, kt_120, kt_255, kt_300, kt_999999, kt_1000000, kt_m1, kt_m2, kt_m3, kt_m4, kt_m6, kt_m7, kt_m11, kt_m12, kt_m13, kt_m14, kt_m100] at c4); (try simp only [jlt, jle, jeq, kt_0, kt_1, kt_2, kt_3, kt_4, kt_5, kt_6, kt_7, kt_8, kt_9, kt_10, kt_11, kt_12, kt_13, kt_15, kt_16, kt_19, kt_20, kt_24, kt_25, kt_31, kt_32, kt_40, kt_50, kt_60, kt_63, kt_100, kt_120, kt_255, kt_300, kt_999999, kt_1000000, kt_m1, kt_m2, kt_m3, kt_m4, kt_m6, kt_m7, kt_m11, kt_m12, kt_m13, kt_m14, kt_m100] at c5); (try simp only [jlt, jle, jeq, kt_0, kt_1, kt_2, kt_3, kt_4, kt_5, kt_6, kt_7, kt_8, kt_9, kt_10, kt_11, kt_12, kt_13, kt_15, kt_16, kt_19, kt_20, kt_24, kt_25, kt_31, kt_32, kt_40, kt_50, kt_60, kt_63, kt_100, kt_120, kt_255, kt_300, kt_999999, kt_1000000, kt_m1, kt_m2, kt_m3, kt_m4, kt_m6, kt_m7, kt_m11, kt_m12, kt_m13, kt_m14, kt_m100] at c6); (try simp only [jlt, jle, jeq, kt_0, kt_1, kt_2, kt_3, kt_4, kt_5, kt_6, kt_7, kt_8, kt_9, kt_10, kt_11, kt_12, kt_13, kt_15, kt_16, kt_19, kt_20, kt_24, kt_25, kt_31, kt_32, kt_40, kt_50, kt_60, kt_63, kt_100, kt_120, kt_255, kt_300, kt_999999, kt_1000000, kt_m1, kt_m2, kt_m3, kt_m4, kt_m6, kt_m7, kt_m11, kt_m12, kt_m13, kt_m14, kt_m100] at c7);  (repeat' split) <;> first | rfl | (exfalso; omega)), fr0⟩ (jbnd hk.1 rfl) (jbnd hk.2 rfl)
          · refine j_blk 46 [(0, .ref x), (1, .int s), (2, .int k), (3, .int n)] [.int (-2)] C k_c_CS_sheet_44_1 rfl ?_
            exact j_iret C Rm E d_c_CS_sheet_46 ⟨congrArg (fun z => some (Value.int z)) (by unfold an_sheet; (try simp only [jlt, jle, jeq, kt_0, kt_1, kt_2, kt_3, kt_4, kt_5, kt_6, kt_7, kt_8, kt_9, kt_10, kt_11, kt_12, kt_13, kt_15, kt_16, kt_19, kt_20, kt_24, kt_25, kt_31, kt_32, kt_40, kt_50, kt_60, kt_63, kt_100, kt_120, kt_255, kt_300, kt_999999, kt_1000000, kt_m1, kt_m2, kt_m3, kt_m4, kt_m6, kt_m7, kt_m11, kt_m12, kt_m13, kt_m14, kt_m100] at c2); (try simp only [jlt, jle, jeq, kt_0, kt_1, kt_2, kt_3, kt_4, kt_5, kt_6, kt_7, kt_8, kt_9, kt_10, kt_11, kt_12, kt_13, kt_15, kt_16, kt_19, kt_20, kt_24, kt_25, kt_31, kt_32, kt_40, kt_50, kt_60, kt_63, kt_100, kt_120, kt_255, kt_300, kt_999999, kt_1000000, kt_m1, kt_m2, kt_m3, kt_m4, kt_m6, kt_m7, kt_m11, kt_m12, kt_m13, kt_m14, kt_m100] at c3); (try simp only [jlt, jle, jeq, kt_0, kt_1, kt_2, kt_3, kt_4, kt_5, kt_6, kt_7, kt_8, kt_9, kt_10, kt_11, kt_12, kt_13, kt_15, kt_16, kt_19, kt_20, kt_24, kt_25, kt_31, kt_32, kt_40, kt_50, kt_60, kt_63, kt_100, kt_120, kt_255, kt_300, kt_999999, kt_1000000, kt_m1, kt_m2, kt_m3, kt_m4, kt_m6, kt_m7, kt_m11, kt_m12, kt_m13, kt_m14, kt_m100] at c4); (try simp only [jlt, jle, jeq, kt_0, kt_1, kt_2, kt_3, kt_4, kt_5, kt_6, kt_7, kt_8, kt_9, kt_10, kt_11, kt_12, kt_13, kt_15, kt_16, kt_19, kt_20, kt_24, kt_25, kt_31, kt_32, kt_40, kt_50, kt_60, kt_63, kt_100, kt_120, kt_255, kt_300, kt_999999, kt_1000000, kt_m1, kt_m2, kt_m3, kt_m4, kt_m6, kt_m7, kt_m11, kt_m12, kt_m13, kt_m14, kt_m100] at c5); (try simp only [jlt, jle, jeq, kt_0, kt_1, kt_2, kt_3, kt_4, kt_5, kt_6, kt_7, kt_8, kt_9, kt_10, kt_11, kt_12, kt_13, kt_15, kt_16, kt_19, kt_20, kt_24, kt_25, kt_31, kt_32, kt_40, kt_50, kt_60, kt_63, kt_100, kt_120, kt_255, kt_300, kt_999999, kt_1000000, kt_m1, kt_m2, kt_m3, kt_m4, kt_m6, kt_m7, kt_m11, kt_m12, kt_m13, kt_m14, kt_m100] at c6);  (repeat' split) <;> first | rfl | (exfalso; omega)), fr0⟩ (jbnd hk.1 rfl) (jbnd hk.2 rfl)
        · refine j_blk 26 [(0, .ref x), (1, .int s), (2, .int k), (3, .int n)] [.ref x] C k_c_CS_sheet_25_1 rfl ?_
          refine j_get C d_c_CS_sheet_26 fg_CS_21 hx h8 ?_
          refine j_blk 30 [(0, .ref x), (1, .int s), (2, .int k), (3, .int n)] [.int s, .ref sh] C k_c_CS_sheet_29_1 rfl ?_
          obtain ⟨s10, es10, Vs10, hFs10, ms10, zs10, sos10, sis10, mes10, ls10, les10⟩ := fx (Int32.toNatClampNeg s) (jcl (by (try simp only [jlt, jle, jeq, kt_0, kt_1, kt_2, kt_3, kt_4, kt_5, kt_6, kt_7, kt_8, kt_9, kt_10, kt_11, kt_12, kt_13, kt_15, kt_16, kt_19, kt_20, kt_24, kt_25, kt_31, kt_32, kt_40, kt_50, kt_60, kt_63, kt_100, kt_120, kt_255, kt_300, kt_999999, kt_1000000, kt_m1, kt_m2, kt_m3, kt_m4, kt_m6, kt_m7, kt_m11, kt_m12, kt_m13, kt_m14, kt_m100] at c2); (try simp only [jlt, jle, jeq, kt_0, kt_1, kt_2, kt_3, kt_4, kt_5, kt_6, kt_7, kt_8, kt_9, kt_10, kt_11, kt_12, kt_13, kt_15, kt_16, kt_19, kt_20, kt_24, kt_25, kt_31, kt_32, kt_40, kt_50, kt_60, kt_63, kt_100, kt_120, kt_255, kt_300, kt_999999, kt_1000000, kt_m1, kt_m2, kt_m3, kt_m4, kt_m6, kt_m7, kt_m11, kt_m12, kt_m13, kt_m14, kt_m100] at c3); (try simp only [jlt, jle, jeq, kt_0, kt_1, kt_2, kt_3, kt_4, kt_5, kt_6, kt_7, kt_8, kt_9, kt_10, kt_11, kt_12, kt_13, kt_15, kt_16, kt_19, kt_20, kt_24, kt_25, kt_31, kt_32, kt_40, kt_50, kt_60, kt_63, kt_100, kt_120, kt_255, kt_300, kt_999999, kt_1000000, kt_m1, kt_m2, kt_m3, kt_m4, kt_m6, kt_m7, kt_m11, kt_m12, kt_m13, kt_m14, kt_m100] at c4); (try simp only [jlt, jle, jeq, kt_0, kt_1, kt_2, kt_3, kt_4, kt_5, kt_6, kt_7, kt_8, kt_9, kt_10, kt_11, kt_12, kt_13, kt_15, kt_16, kt_19, kt_20, kt_24, kt_25, kt_31, kt_32, kt_40, kt_50, kt_60, kt_63, kt_100, kt_120, kt_255, kt_300, kt_999999, kt_1000000, kt_m1, kt_m2, kt_m3, kt_m4, kt_m6, kt_m7, kt_m11, kt_m12, kt_m13, kt_m14, kt_m100] at c5); (try simp only [kt_0, kt_1, kt_2, kt_3, kt_4, kt_5, kt_6, kt_7, kt_8, kt_9, kt_10, kt_11, kt_12, kt_13, kt_15, kt_16, kt_19, kt_20, kt_24, kt_25, kt_31, kt_32, kt_40, kt_50, kt_60, kt_63, kt_100, kt_120, kt_255, kt_300, kt_999999, kt_1000000, kt_m1, kt_m2, kt_m3, kt_m4, kt_m6, kt_m7, kt_m11, kt_m12, kt_m13, kt_m14, kt_m100]); omega) (by (try simp only [jlt, jle, jeq, kt_0, kt_1, kt_2, kt_3, kt_4, kt_5, kt_6, kt_7, kt_8, kt_9, kt_10, kt_11, kt_12, kt_13, kt_15, kt_16, kt_19, kt_20, kt_24, kt_25, kt_31, kt_32, kt_40, kt_50, kt_60, kt_63, kt_100, kt_120, kt_255, kt_300, kt_999999, kt_1000000, kt_m1, kt_m2, kt_m3, kt_m4, kt_m6, kt_m7, kt_m11, kt_m12, kt_m13, kt_m14, kt_m100] at c2); (try simp only [jlt, jle, jeq, kt_0, kt_1, kt_2, kt_3, kt_4, kt_5, kt_6, kt_7, kt_8, kt_9, kt_10, kt_11, kt_12, kt_13, kt_15, kt_16, kt_19, kt_20, kt_24, kt_25, kt_31, kt_32, kt_40, kt_50, kt_60, kt_63, kt_100, kt_120, kt_255, kt_300, kt_999999, kt_1000000, kt_m1, kt_m2, kt_m3, kt_m4, kt_m6, kt_m7, kt_m11, kt_m12, kt_m13, kt_m14, kt_m100] at c3); (try simp only [jlt, jle, jeq, kt_0, kt_1, kt_2, kt_3, kt_4, kt_5, kt_6, kt_7, kt_8, kt_9, kt_10, kt_11, kt_12, kt_13, kt_15, kt_16, kt_19, kt_20, kt_24, kt_25, kt_31, kt_32, kt_40, kt_50, kt_60, kt_63, kt_100, kt_120, kt_255, kt_300, kt_999999, kt_1000000, kt_m1, kt_m2, kt_m3, kt_m4, kt_m6, kt_m7, kt_m11, kt_m12, kt_m13, kt_m14, kt_m100] at c4); (try simp only [jlt, jle, jeq, kt_0, kt_1, kt_2, kt_3, kt_4, kt_5, kt_6, kt_7, kt_8, kt_9, kt_10, kt_11, kt_12, kt_13, kt_15, kt_16, kt_19, kt_20, kt_24, kt_25, kt_31, kt_32, kt_40, kt_50, kt_60, kt_63, kt_100, kt_120, kt_255, kt_300, kt_999999, kt_1000000, kt_m1, kt_m2, kt_m3, kt_m4, kt_m6, kt_m7, kt_m11, kt_m12, kt_m13, kt_m14, kt_m100] at c5); (try simp only [kt_0, kt_1, kt_2, kt_3, kt_4, kt_5, kt_6, kt_7, kt_8, kt_9, kt_10, kt_11, kt_12, kt_13, kt_15, kt_16, kt_19, kt_20, kt_24, kt_25, kt_31, kt_32, kt_40, kt_50, kt_60, kt_63, kt_100, kt_120, kt_255, kt_300, kt_999999, kt_1000000, kt_m1, kt_m2, kt_m3, kt_m4, kt_m6, kt_m7, kt_m11, kt_m12, kt_m13, kt_m14, kt_m100]); omega))
          refine j_aald (v := .ref s10) C d_c_CS_sheet_30 (by rfl) rfl hsh (jin (by (try simp only [jlt, jle, jeq, kt_0, kt_1, kt_2, kt_3, kt_4, kt_5, kt_6, kt_7, kt_8, kt_9, kt_10, kt_11, kt_12, kt_13, kt_15, kt_16, kt_19, kt_20, kt_24, kt_25, kt_31, kt_32, kt_40, kt_50, kt_60, kt_63, kt_100, kt_120, kt_255, kt_300, kt_999999, kt_1000000, kt_m1, kt_m2, kt_m3, kt_m4, kt_m6, kt_m7, kt_m11, kt_m12, kt_m13, kt_m14, kt_m100] at c2); (try simp only [jlt, jle, jeq, kt_0, kt_1, kt_2, kt_3, kt_4, kt_5, kt_6, kt_7, kt_8, kt_9, kt_10, kt_11, kt_12, kt_13, kt_15, kt_16, kt_19, kt_20, kt_24, kt_25, kt_31, kt_32, kt_40, kt_50, kt_60, kt_63, kt_100, kt_120, kt_255, kt_300, kt_999999, kt_1000000, kt_m1, kt_m2, kt_m3, kt_m4, kt_m6, kt_m7, kt_m11, kt_m12, kt_m13, kt_m14, kt_m100] at c3); (try simp only [jlt, jle, jeq, kt_0, kt_1, kt_2, kt_3, kt_4, kt_5, kt_6, kt_7, kt_8, kt_9, kt_10, kt_11, kt_12, kt_13, kt_15, kt_16, kt_19, kt_20, kt_24, kt_25, kt_31, kt_32, kt_40, kt_50, kt_60, kt_63, kt_100, kt_120, kt_255, kt_300, kt_999999, kt_1000000, kt_m1, kt_m2, kt_m3, kt_m4, kt_m6, kt_m7, kt_m11, kt_m12, kt_m13, kt_m14, kt_m100] at c4); (try simp only [jlt, jle, jeq, kt_0, kt_1, kt_2, kt_3, kt_4, kt_5, kt_6, kt_7, kt_8, kt_9, kt_10, kt_11, kt_12, kt_13, kt_15, kt_16, kt_19, kt_20, kt_24, kt_25, kt_31, kt_32, kt_40, kt_50, kt_60, kt_63, kt_100, kt_120, kt_255, kt_300, kt_999999, kt_1000000, kt_m1, kt_m2, kt_m3, kt_m4, kt_m6, kt_m7, kt_m11, kt_m12, kt_m13, kt_m14, kt_m100] at c5); (try simp only [kt_0, kt_1, kt_2, kt_3, kt_4, kt_5, kt_6, kt_7, kt_8, kt_9, kt_10, kt_11, kt_12, kt_13, kt_15, kt_16, kt_19, kt_20, kt_24, kt_25, kt_31, kt_32, kt_40, kt_50, kt_60, kt_63, kt_100, kt_120, kt_255, kt_300, kt_999999, kt_1000000, kt_m1, kt_m2, kt_m3, kt_m4, kt_m6, kt_m7, kt_m11, kt_m12, kt_m13, kt_m14, kt_m100]); omega) (by (try simp only [jlt, jle, jeq, kt_0, kt_1, kt_2, kt_3, kt_4, kt_5, kt_6, kt_7, kt_8, kt_9, kt_10, kt_11, kt_12, kt_13, kt_15, kt_16, kt_19, kt_20, kt_24, kt_25, kt_31, kt_32, kt_40, kt_50, kt_60, kt_63, kt_100, kt_120, kt_255, kt_300, kt_999999, kt_1000000, kt_m1, kt_m2, kt_m3, kt_m4, kt_m6, kt_m7, kt_m11, kt_m12, kt_m13, kt_m14, kt_m100] at c2); (try simp only [jlt, jle, jeq, kt_0, kt_1, kt_2, kt_3, kt_4, kt_5, kt_6, kt_7, kt_8, kt_9, kt_10, kt_11, kt_12, kt_13, kt_15, kt_16, kt_19, kt_20, kt_24, kt_25, kt_31, kt_32, kt_40, kt_50, kt_60, kt_63, kt_100, kt_120, kt_255, kt_300, kt_999999, kt_1000000, kt_m1, kt_m2, kt_m3, kt_m4, kt_m6, kt_m7, kt_m11, kt_m12, kt_m13, kt_m14, kt_m100] at c3); (try simp only [jlt, jle, jeq, kt_0, kt_1, kt_2, kt_3, kt_4, kt_5, kt_6, kt_7, kt_8, kt_9, kt_10, kt_11, kt_12, kt_13, kt_15, kt_16, kt_19, kt_20, kt_24, kt_25, kt_31, kt_32, kt_40, kt_50, kt_60, kt_63, kt_100, kt_120, kt_255, kt_300, kt_999999, kt_1000000, kt_m1, kt_m2, kt_m3, kt_m4, kt_m6, kt_m7, kt_m11, kt_m12, kt_m13, kt_m14, kt_m100] at c4); (try simp only [jlt, jle, jeq, kt_0, kt_1, kt_2, kt_3, kt_4, kt_5, kt_6, kt_7, kt_8, kt_9, kt_10, kt_11, kt_12, kt_13, kt_15, kt_16, kt_19, kt_20, kt_24, kt_25, kt_31, kt_32, kt_40, kt_50, kt_60, kt_63, kt_100, kt_120, kt_255, kt_300, kt_999999, kt_1000000, kt_m1, kt_m2, kt_m3, kt_m4, kt_m6, kt_m7, kt_m11, kt_m12, kt_m13, kt_m14, kt_m100] at c5); (try simp only [kt_0, kt_1, kt_2, kt_3, kt_4, kt_5, kt_6, kt_7, kt_8, kt_9, kt_10, kt_11, kt_12, kt_13, kt_15, kt_16, kt_19, kt_20, kt_24, kt_25, kt_31, kt_32, kt_40, kt_50, kt_60, kt_63, kt_100, kt_120, kt_255, kt_300, kt_999999, kt_1000000, kt_m1, kt_m2, kt_m3, kt_m4, kt_m6, kt_m7, kt_m11, kt_m12, kt_m13, kt_m14, kt_m100]); omega)) (congrArg va_rf hFs10) ?_
          refine j_blk 33 [(0, .ref x), (1, .int s), (2, .int k), (3, .int n)] [.int 0, .int (-1), .ref s10] C k_c_CS_sheet_31_2 rfl ?_
          refine j_callV C Rm Y [.int (-1), .int 0] [] (c_Sheet_become l D B H0 w s10 es10 Vs10 (-1) 0 (fun _ => 0) ms10 zs10 mes10) cl_CS_223 (by rfl) (by rfl) ms10 d_c_CS_sheet_33 rfl rfl (Nat.le_of_ble_eq_true rfl) ⟨by decide, by decide⟩ ⟨jroom hk.1 rfl, jroom hk.2 rfl⟩ (fun v11 w_3 pw_3 => ?_)
          obtain ⟨rfl, hc_w_3, G_w_3⟩ := pw_3
          have hk_w_3 := jkT hk hc_w_3
          have fr_w_3 := jfrT fr0 G_w_3 (fun b e hb hv => ⟨(fun b e hb _ => Nat.ne_of_gt (Nat.lt_of_lt_of_le ls10 hb)) b e hb hv, (fun b e hb _ => Nat.ne_of_gt (Nat.lt_of_lt_of_le les10 hb)) b e hb hv⟩)
          show JJ g w_3 36 [(0, .ref x), (1, .int s), (2, .int k), (3, .int n)] []
          refine j_blk 37 [(0, .ref x), (1, .int s), (2, .int k), (3, .int n)] [.int 1] C k_c_CS_sheet_36_1 rfl ?_
          exact j_iret C Rm E d_c_CS_sheet_37 ⟨congrArg (fun z => some (Value.int z)) (by unfold an_sheet; (try simp only [jlt, jle, jeq, kt_0, kt_1, kt_2, kt_3, kt_4, kt_5, kt_6, kt_7, kt_8, kt_9, kt_10, kt_11, kt_12, kt_13, kt_15, kt_16, kt_19, kt_20, kt_24, kt_25, kt_31, kt_32, kt_40, kt_50, kt_60, kt_63, kt_100, kt_120, kt_255, kt_300, kt_999999, kt_1000000, kt_m1, kt_m2, kt_m3, kt_m4, kt_m6, kt_m7, kt_m11, kt_m12, kt_m13, kt_m14, kt_m100] at c2); (try simp only [jlt, jle, jeq, kt_0, kt_1, kt_2, kt_3, kt_4, kt_5, kt_6, kt_7, kt_8, kt_9, kt_10, kt_11, kt_12, kt_13, kt_15, kt_16, kt_19, kt_20, kt_24, kt_25, kt_31, kt_32, kt_40, kt_50, kt_60, kt_63, kt_100, kt_120, kt_255, kt_300, kt_999999, kt_1000000, kt_m1, kt_m2, kt_m3, kt_m4, kt_m6, kt_m7, kt_m11, kt_m12, kt_m13, kt_m14, kt_m100] at c3); (try simp only [jlt, jle, jeq, kt_0, kt_1, kt_2, kt_3, kt_4, kt_5, kt_6, kt_7, kt_8, kt_9, kt_10, kt_11, kt_12, kt_13, kt_15, kt_16, kt_19, kt_20, kt_24, kt_25, kt_31, kt_32, kt_40, kt_50, kt_60, kt_63, kt_100, kt_120, kt_255, kt_300, kt_999999, kt_1000000, kt_m1, kt_m2, kt_m3, kt_m4, kt_m6, kt_m7, kt_m11, kt_m12, kt_m13, kt_m14, kt_m100] at c4); (try simp only [jlt, jle, jeq, kt_0, kt_1, kt_2, kt_3, kt_4, kt_5, kt_6, kt_7, kt_8, kt_9, kt_10, kt_11, kt_12, kt_13, kt_15, kt_16, kt_19, kt_20, kt_24, kt_25, kt_31, kt_32, kt_40, kt_50, kt_60, kt_63, kt_100, kt_120, kt_255, kt_300, kt_999999, kt_1000000, kt_m1, kt_m2, kt_m3, kt_m4, kt_m6, kt_m7, kt_m11, kt_m12, kt_m13, kt_m14, kt_m100] at c5);  (repeat' split) <;> first | rfl | (exfalso; omega)), fr_w_3⟩ (jbnd hk_w_3.1 rfl) (jbnd hk_w_3.2 rfl)
      · refine j_blk 19 [(0, .ref x), (1, .int s), (2, .int k), (3, .int n)] [.int (-2)] C k_c_CS_sheet_17_1 rfl ?_
        exact j_iret C Rm E d_c_CS_sheet_19 ⟨congrArg (fun z => some (Value.int z)) (by unfold an_sheet; (try simp only [jlt, jle, jeq, kt_0, kt_1, kt_2, kt_3, kt_4, kt_5, kt_6, kt_7, kt_8, kt_9, kt_10, kt_11, kt_12, kt_13, kt_15, kt_16, kt_19, kt_20, kt_24, kt_25, kt_31, kt_32, kt_40, kt_50, kt_60, kt_63, kt_100, kt_120, kt_255, kt_300, kt_999999, kt_1000000, kt_m1, kt_m2, kt_m3, kt_m4, kt_m6, kt_m7, kt_m11, kt_m12, kt_m13, kt_m14, kt_m100] at c2); (try simp only [jlt, jle, jeq, kt_0, kt_1, kt_2, kt_3, kt_4, kt_5, kt_6, kt_7, kt_8, kt_9, kt_10, kt_11, kt_12, kt_13, kt_15, kt_16, kt_19, kt_20, kt_24, kt_25, kt_31, kt_32, kt_40, kt_50, kt_60, kt_63, kt_100, kt_120, kt_255, kt_300, kt_999999, kt_1000000, kt_m1, kt_m2, kt_m3, kt_m4, kt_m6, kt_m7, kt_m11, kt_m12, kt_m13, kt_m14, kt_m100] at c3); (try simp only [jlt, jle, jeq, kt_0, kt_1, kt_2, kt_3, kt_4, kt_5, kt_6, kt_7, kt_8, kt_9, kt_10, kt_11, kt_12, kt_13, kt_15, kt_16, kt_19, kt_20, kt_24, kt_25, kt_31, kt_32, kt_40, kt_50, kt_60, kt_63, kt_100, kt_120, kt_255, kt_300, kt_999999, kt_1000000, kt_m1, kt_m2, kt_m3, kt_m4, kt_m6, kt_m7, kt_m11, kt_m12, kt_m13, kt_m14, kt_m100] at c4);  (repeat' split) <;> first | rfl | (exfalso; omega)), fr0⟩ (jbnd hk.1 rfl) (jbnd hk.2 rfl)

theorem k_c_CS_cell_0_1 : sblk b_CS_cell [(0, .iload_n 1, .null)] := sblk_of (by decide +kernel)
theorem d_c_CS_cell_1 : decode b_CS_cell 1 = .ok (.invokestatic 200, 3) := by decide +kernel
theorem d_c_CS_cell_4 : decode b_CS_cell 4 = .ok (.ifCond .ne 6, 3) := by decide +kernel
theorem k_c_CS_cell_10_1 : sblk b_CS_cell [(10, .aload_n 0, .null)] := sblk_of (by decide +kernel)
theorem d_c_CS_cell_11 : decode b_CS_cell 11 = .ok (.getfield 21, 3) := by decide +kernel
theorem k_c_CS_cell_14_1 : sblk b_CS_cell [(14, .iload_n 1, .null)] := sblk_of (by decide +kernel)
theorem d_c_CS_cell_15 : decode b_CS_cell 15 = .ok (.aaload, 1) := by decide +kernel
theorem k_c_CS_cell_16_2 : sblk b_CS_cell [(16, .astore 4, .null), (18, .aload 4, .null)] := sblk_of (by decide +kernel)
theorem d_c_CS_cell_20 : decode b_CS_cell 20 = .ok (.getfield 203, 3) := by decide +kernel
theorem k_c_CS_cell_23_1 : sblk b_CS_cell [(23, .iconst (-1), .int (-1))] := sblk_of (by decide +kernel)
theorem d_c_CS_cell_24 : decode b_CS_cell 24 = .ok (.if_icmp .ne 6, 3) := by decide +kernel
theorem k_c_CS_cell_27_1 : sblk b_CS_cell [(27, .bipush (-11), .int (-11))] := sblk_of (by decide +kernel)
theorem d_c_CS_cell_29 : decode b_CS_cell 29 = .ok (.ireturn, 1) := by decide +kernel
theorem k_c_CS_cell_7_1 : sblk b_CS_cell [(7, .bipush (-2), .int (-2))] := sblk_of (by decide +kernel)
theorem d_c_CS_cell_9 : decode b_CS_cell 9 = .ok (.ireturn, 1) := by decide +kernel
set_option maxHeartbeats 40000000 in
set_option maxRecDepth 100000 in
theorem c_CS_cell (l : Launch) (D : va_G) (B : Nat) (H0 : Heap) (w : jW) (x : Nat) (V : Nat → Value) (s : Int32) (i : Int32) (u : Int32) (sh : Nat) (F : Nat → Option Nat) (hx : w.1 x = some (.inr (8, V))) (h8 : V 8 = .ref sh) (hsh : w.1 sh = some (aR D 9 4 F)) (q : Nat) (xq : x < q) (fx : fxS D w F q) : jMet l D B H0 y_CS_cell b_CS_cell 5 (some .int) 3 160 0 0 [.ref x, .int s, .int i, .int u] w (fun v w9 => v = some (.int (an_cell s)) ∧ jfr (fun b => q ≤ b) w w9) := by
  refine j_met (by decide) (Nat.le_of_ble_eq_true rfl) (fun g C Rm Y E => ?_)
  have hk := jkz w
  have fr0 : jfr (fun b => q ≤ b) w w := jfr0
  show JJ g w 0 [(0, .ref x), (1, .int s), (2, .int i), (3, .int u)] []
  refine j_blk 1 [(0, .ref x), (1, .int s), (2, .int i), (3, .int u)] [.int s] C k_c_CS_cell_0_1 rfl ?_
  refine j_callS (As := [.int s]) C Rm Y [] (c_CS_isSheet l D B H0 w s) cl_CS_200 d_c_CS_cell_1 rfl rfl (Nat.le_of_ble_eq_true rfl) ⟨by decide, by decide⟩ ⟨jroom hk.1 rfl, jroom hk.2 rfl⟩ (fun v1 w_1 pw_1 => ?_)
  obtain ⟨rfl, rfl⟩ := pw_1
  show JJ g w 4 [(0, .ref x), (1, .int s), (2, .int i), (3, .int u)] [.int (if 0 ≤ s.toInt ∧ s.toInt < 4 then 1 else 0)]
  refine j_if_ne (tgt := 10) C d_c_CS_cell_4 (by decide) (fun c2 => ?_) (fun c2 => ?_)
  · have c2 := jbo.mp c2
    refine j_blk 11 [(0, .ref x), (1, .int s), (2, .int i), (3, .int u)] [.ref x] C k_c_CS_cell_10_1 rfl ?_
    refine j_get C d_c_CS_cell_11 fg_CS_21 hx h8 ?_
    refine j_blk 15 [(0, .ref x), (1, .int s), (2, .int i), (3, .int u)] [.int s, .ref sh] C k_c_CS_cell_14_1 rfl ?_
    obtain ⟨s3, es3, Vs3, hFs3, ms3, zs3, sos3, sis3, mes3, ls3, les3⟩ := fx (Int32.toNatClampNeg s) (jcl (by (try simp only [jlt, jle, jeq, kt_0, kt_1, kt_2, kt_3, kt_4, kt_5, kt_6, kt_7, kt_8, kt_9, kt_10, kt_11, kt_12, kt_13, kt_15, kt_16, kt_19, kt_20, kt_24, kt_25, kt_31, kt_32, kt_40, kt_50, kt_60, kt_63, kt_100, kt_120, kt_255, kt_300, kt_999999, kt_1000000, kt_m1, kt_m2, kt_m3, kt_m4, kt_m6, kt_m7, kt_m11, kt_m12, kt_m13, kt_m14, kt_m100] at c2); (try simp only [kt_0, kt_1, kt_2, kt_3, kt_4, kt_5, kt_6, kt_7, kt_8, kt_9, kt_10, kt_11, kt_12, kt_13, kt_15, kt_16, kt_19, kt_20, kt_24, kt_25, kt_31, kt_32, kt_40, kt_50, kt_60, kt_63, kt_100, kt_120, kt_255, kt_300, kt_999999, kt_1000000, kt_m1, kt_m2, kt_m3, kt_m4, kt_m6, kt_m7, kt_m11, kt_m12, kt_m13, kt_m14, kt_m100]); omega) (by (try simp only [jlt, jle, jeq, kt_0, kt_1, kt_2, kt_3, kt_4, kt_5, kt_6, kt_7, kt_8, kt_9, kt_10, kt_11, kt_12, kt_13, kt_15, kt_16, kt_19, kt_20, kt_24, kt_25, kt_31, kt_32, kt_40, kt_50, kt_60, kt_63, kt_100, kt_120, kt_255, kt_300, kt_999999, kt_1000000, kt_m1, kt_m2, kt_m3, kt_m4, kt_m6, kt_m7, kt_m11, kt_m12, kt_m13, kt_m14, kt_m100] at c2); (try simp only [kt_0, kt_1, kt_2, kt_3, kt_4, kt_5, kt_6, kt_7, kt_8, kt_9, kt_10, kt_11, kt_12, kt_13, kt_15, kt_16, kt_19, kt_20, kt_24, kt_25, kt_31, kt_32, kt_40, kt_50, kt_60, kt_63, kt_100, kt_120, kt_255, kt_300, kt_999999, kt_1000000, kt_m1, kt_m2, kt_m3, kt_m4, kt_m6, kt_m7, kt_m11, kt_m12, kt_m13, kt_m14, kt_m100]); omega))
    refine j_aald (v := .ref s3) C d_c_CS_cell_15 (by rfl) rfl hsh (jin (by (try simp only [jlt, jle, jeq, kt_0, kt_1, kt_2, kt_3, kt_4, kt_5, kt_6, kt_7, kt_8, kt_9, kt_10, kt_11, kt_12, kt_13, kt_15, kt_16, kt_19, kt_20, kt_24, kt_25, kt_31, kt_32, kt_40, kt_50, kt_60, kt_63, kt_100, kt_120, kt_255, kt_300, kt_999999, kt_1000000, kt_m1, kt_m2, kt_m3, kt_m4, kt_m6, kt_m7, kt_m11, kt_m12, kt_m13, kt_m14, kt_m100] at c2); (try simp only [kt_0, kt_1, kt_2, kt_3, kt_4, kt_5, kt_6, kt_7, kt_8, kt_9, kt_10, kt_11, kt_12, kt_13, kt_15, kt_16, kt_19, kt_20, kt_24, kt_25, kt_31, kt_32, kt_40, kt_50, kt_60, kt_63, kt_100, kt_120, kt_255, kt_300, kt_999999, kt_1000000, kt_m1, kt_m2, kt_m3, kt_m4, kt_m6, kt_m7, kt_m11, kt_m12, kt_m13, kt_m14, kt_m100]); omega) (by (try simp only [jlt, jle, jeq, kt_0, kt_1, kt_2, kt_3, kt_4, kt_5, kt_6, kt_7, kt_8, kt_9, kt_10, kt_11, kt_12, kt_13, kt_15, kt_16, kt_19, kt_20, kt_24, kt_25, kt_31, kt_32, kt_40, kt_50, kt_60, kt_63, kt_100, kt_120, kt_255, kt_300, kt_999999, kt_1000000, kt_m1, kt_m2, kt_m3, kt_m4, kt_m6, kt_m7, kt_m11, kt_m12, kt_m13, kt_m14, kt_m100] at c2); (try simp only [kt_0, kt_1, kt_2, kt_3, kt_4, kt_5, kt_6, kt_7, kt_8, kt_9, kt_10, kt_11, kt_12, kt_13, kt_15, kt_16, kt_19, kt_20, kt_24, kt_25, kt_31, kt_32, kt_40, kt_50, kt_60, kt_63, kt_100, kt_120, kt_255, kt_300, kt_999999, kt_1000000, kt_m1, kt_m2, kt_m3, kt_m4, kt_m6, kt_m7, kt_m11, kt_m12, kt_m13, kt_m14, kt_m100]); omega)) (congrArg va_rf hFs3) ?_
    refine j_blk 20 [(4, .ref s3), (0, .ref x), (1, .int s), (2, .int i), (3, .int u)] [.ref s3] C k_c_CS_cell_16_2 rfl ?_
    refine j_get C d_c_CS_cell_20 fg_CS_203 ms3 sos3 ?_
    refine j_blk 24 [(4, .ref s3), (0, .ref x), (1, .int s), (2, .int i), (3, .int u)] [.int (-1), .int (-1)] C k_c_CS_cell_23_1 rfl ?_
    refine j_icmp_ne (tgt := 30) C d_c_CS_cell_24 (by decide) (fun c4 => absurd (by decide) c4) (fun c4 => ?_)
    refine j_blk 29 [(4, .ref s3), (0, .ref x), (1, .int s), (2, .int i), (3, .int u)] [.int (-11)] C k_c_CS_cell_27_1 rfl ?_
    exact j_iret C Rm E d_c_CS_cell_29 ⟨congrArg (fun z => some (Value.int z)) (by unfold an_cell; (try simp only [jlt, jle, jeq, kt_0, kt_1, kt_2, kt_3, kt_4, kt_5, kt_6, kt_7, kt_8, kt_9, kt_10, kt_11, kt_12, kt_13, kt_15, kt_16, kt_19, kt_20, kt_24, kt_25, kt_31, kt_32, kt_40, kt_50, kt_60, kt_63, kt_100, kt_120, kt_255, kt_300, kt_999999, kt_1000000, kt_m1, kt_m2, kt_m3, kt_m4, kt_m6, kt_m7, kt_m11, kt_m12, kt_m13, kt_m14, kt_m100] at c2); (try simp only [jlt, jle, jeq, kt_0, kt_1, kt_2, kt_3, kt_4, kt_5, kt_6, kt_7, kt_8, kt_9, kt_10, kt_11, kt_12, kt_13, kt_15, kt_16, kt_19, kt_20, kt_24, kt_25, kt_31, kt_32, kt_40, kt_50, kt_60, kt_63, kt_100, kt_120, kt_255, kt_300, kt_999999, kt_1000000, kt_m1, kt_m2, kt_m3, kt_m4, kt_m6, kt_m7, kt_m11, kt_m12, kt_m13, kt_m14, kt_m100] at c4);  (repeat' split) <;> first | rfl | (exfalso; omega)), fr0⟩ (jbnd hk.1 rfl) (jbnd hk.2 rfl)
  · have c2 := jbz.mp c2
    refine j_blk 9 [(0, .ref x), (1, .int s), (2, .int i), (3, .int u)] [.int (-2)] C k_c_CS_cell_7_1 rfl ?_
    exact j_iret C Rm E d_c_CS_cell_9 ⟨congrArg (fun z => some (Value.int z)) (by unfold an_cell; (try simp only [jlt, jle, jeq, kt_0, kt_1, kt_2, kt_3, kt_4, kt_5, kt_6, kt_7, kt_8, kt_9, kt_10, kt_11, kt_12, kt_13, kt_15, kt_16, kt_19, kt_20, kt_24, kt_25, kt_31, kt_32, kt_40, kt_50, kt_60, kt_63, kt_100, kt_120, kt_255, kt_300, kt_999999, kt_1000000, kt_m1, kt_m2, kt_m3, kt_m4, kt_m6, kt_m7, kt_m11, kt_m12, kt_m13, kt_m14, kt_m100] at c2);  (repeat' split) <;> first | rfl | (exfalso; omega)), fr0⟩ (jbnd hk.1 rfl) (jbnd hk.2 rfl)

theorem k_c_CS_copy_0_1 : sblk b_CS_copy [(0, .iload_n 1, .null)] := sblk_of (by decide +kernel)
theorem d_c_CS_copy_1 : decode b_CS_copy 1 = .ok (.invokestatic 200, 3) := by decide +kernel
theorem d_c_CS_copy_4 : decode b_CS_copy 4 = .ok (.ifCond .eq 10, 3) := by decide +kernel
theorem k_c_CS_copy_14_1 : sblk b_CS_copy [(14, .bipush (-2), .int (-2))] := sblk_of (by decide +kernel)
theorem d_c_CS_copy_16 : decode b_CS_copy 16 = .ok (.ireturn, 1) := by decide +kernel
theorem k_c_CS_copy_7_1 : sblk b_CS_copy [(7, .iload_n 3, .null)] := sblk_of (by decide +kernel)
theorem d_c_CS_copy_8 : decode b_CS_copy 8 = .ok (.invokestatic 200, 3) := by decide +kernel
theorem d_c_CS_copy_11 : decode b_CS_copy 11 = .ok (.ifCond .ne 6, 3) := by decide +kernel
theorem k_c_CS_copy_17_1 : sblk b_CS_copy [(17, .aload_n 0, .null)] := sblk_of (by decide +kernel)
theorem d_c_CS_copy_18 : decode b_CS_copy 18 = .ok (.getfield 21, 3) := by decide +kernel
theorem k_c_CS_copy_21_1 : sblk b_CS_copy [(21, .iload_n 1, .null)] := sblk_of (by decide +kernel)
theorem d_c_CS_copy_22 : decode b_CS_copy 22 = .ok (.aaload, 1) := by decide +kernel
theorem k_c_CS_copy_23_2 : sblk b_CS_copy [(23, .astore 6, .null), (25, .aload_n 0, .null)] := sblk_of (by decide +kernel)
theorem d_c_CS_copy_26 : decode b_CS_copy 26 = .ok (.getfield 21, 3) := by decide +kernel
theorem k_c_CS_copy_29_1 : sblk b_CS_copy [(29, .iload_n 3, .null)] := sblk_of (by decide +kernel)
theorem d_c_CS_copy_30 : decode b_CS_copy 30 = .ok (.aaload, 1) := by decide +kernel
theorem k_c_CS_copy_31_2 : sblk b_CS_copy [(31, .astore 7, .null), (33, .aload 6, .null)] := sblk_of (by decide +kernel)
theorem d_c_CS_copy_35 : decode b_CS_copy 35 = .ok (.getfield 203, 3) := by decide +kernel
theorem k_c_CS_copy_38_1 : sblk b_CS_copy [(38, .iconst (-1), .int (-1))] := sblk_of (by decide +kernel)
theorem d_c_CS_copy_39 : decode b_CS_copy 39 = .ok (.if_icmp .eq 12, 3) := by decide +kernel
theorem k_c_CS_copy_51_1 : sblk b_CS_copy [(51, .bipush (-11), .int (-11))] := sblk_of (by decide +kernel)
theorem d_c_CS_copy_53 : decode b_CS_copy 53 = .ok (.ireturn, 1) := by decide +kernel
set_option maxHeartbeats 40000000 in
set_option maxRecDepth 100000 in
theorem c_CS_copy (l : Launch) (D : va_G) (B : Nat) (H0 : Heap) (w : jW) (x : Nat) (V : Nat → Value) (s : Int32) (i : Int32) (o : Int32) (j : Int32) (n : Int32) (sh : Nat) (F : Nat → Option Nat) (hx : w.1 x = some (.inr (8, V))) (h8 : V 8 = .ref sh) (hsh : w.1 sh = some (aR D 9 4 F)) (q : Nat) (xq : x < q) (fx : fxS D w F q) : jMet l D B H0 y_CS_copy b_CS_copy 8 (some .int) 3 160 0 0 [.ref x, .int s, .int i, .int o, .int j, .int n] w (fun v w9 => v = some (.int (an_copy s o)) ∧ jfr (fun b => q ≤ b) w w9) := by
  refine j_met (by decide) (Nat.le_of_ble_eq_true rfl) (fun g C Rm Y E => ?_)
  have hk := jkz w
  have fr0 : jfr (fun b => q ≤ b) w w := jfr0
  show JJ g w 0 [(0, .ref x), (1, .int s), (2, .int i), (3, .int o), (4, .int j), (5, .int n)] []
  refine j_blk 1 [(0, .ref x), (1, .int s), (2, .int i), (3, .int o), (4, .int j), (5, .int n)] [.int s] C k_c_CS_copy_0_1 rfl ?_
  refine j_callS (As := [.int s]) C Rm Y [] (c_CS_isSheet l D B H0 w s) cl_CS_200 d_c_CS_copy_1 rfl rfl (Nat.le_of_ble_eq_true rfl) ⟨by decide, by decide⟩ ⟨jroom hk.1 rfl, jroom hk.2 rfl⟩ (fun v1 w_1 pw_1 => ?_)
  obtain ⟨rfl, rfl⟩ := pw_1
  show JJ g w 4 [(0, .ref x), (1, .int s), (2, .int i), (3, .int o), (4, .int j), (5, .int n)] [.int (if 0 ≤ s.toInt ∧ s.toInt < 4 then 1 else 0)]
  refine j_if_eq (tgt := 14) C d_c_CS_copy_4 (by decide) (fun c2 => ?_) (fun c2 => ?_)
  · have c2 := jbz.mp c2
    refine j_blk 16 [(0, .ref x), (1, .int s), (2, .int i), (3, .int o), (4, .int j), (5, .int n)] [.int (-2)] C k_c_CS_copy_14_1 rfl ?_
    exact j_iret C Rm E d_c_CS_copy_16 ⟨congrArg (fun z => some (Value.int z)) (by unfold an_copy; (try simp only [jlt, jle, jeq, kt_0, kt_1, kt_2, kt_3, kt_4, kt_5, kt_6, kt_7, kt_8, kt_9, kt_10, kt_11, kt_12, kt_13, kt_15, kt_16, kt_19, kt_20, kt_24, kt_25, kt_31, kt_32, kt_40, kt_50, kt_60, kt_63, kt_100, kt_120, kt_255, kt_300, kt_999999, kt_1000000, kt_m1, kt_m2, kt_m3, kt_m4, kt_m6, kt_m7, kt_m11, kt_m12, kt_m13, kt_m14, kt_m100] at c2);  (repeat' split) <;> first | rfl | (exfalso; omega)), fr0⟩ (jbnd hk.1 rfl) (jbnd hk.2 rfl)
  · have c2 := jbo.mp c2
    refine j_blk 8 [(0, .ref x), (1, .int s), (2, .int i), (3, .int o), (4, .int j), (5, .int n)] [.int o] C k_c_CS_copy_7_1 rfl ?_
    refine j_callS (As := [.int o]) C Rm Y [] (c_CS_isSheet l D B H0 w o) cl_CS_200 d_c_CS_copy_8 rfl rfl (Nat.le_of_ble_eq_true rfl) ⟨by decide, by decide⟩ ⟨jroom hk.1 rfl, jroom hk.2 rfl⟩ (fun v3 w_2 pw_2 => ?_)
    obtain ⟨rfl, rfl⟩ := pw_2
    show JJ g w 11 [(0, .ref x), (1, .int s), (2, .int i), (3, .int o), (4, .int j), (5, .int n)] [.int (if 0 ≤ o.toInt ∧ o.toInt < 4 then 1 else 0)]
    refine j_if_ne (tgt := 17) C d_c_CS_copy_11 (by decide) (fun c4 => ?_) (fun c4 => ?_)
    · have c4 := jbo.mp c4
      refine j_blk 18 [(0, .ref x), (1, .int s), (2, .int i), (3, .int o), (4, .int j), (5, .int n)] [.ref x] C k_c_CS_copy_17_1 rfl ?_
      refine j_get C d_c_CS_copy_18 fg_CS_21 hx h8 ?_
      refine j_blk 22 [(0, .ref x), (1, .int s), (2, .int i), (3, .int o), (4, .int j), (5, .int n)] [.int s, .ref sh] C k_c_CS_copy_21_1 rfl ?_
      obtain ⟨s5, es5, Vs5, hFs5, ms5, zs5, sos5, sis5, mes5, ls5, les5⟩ := fx (Int32.toNatClampNeg s) (jcl (by (try simp only [jlt, jle, jeq, kt_0, kt_1, kt_2, kt_3, kt_4, kt_5, kt_6, kt_7, kt_8, kt_9, kt_10, kt_11, kt_12, kt_13, kt_15, kt_16, kt_19, kt_20, kt_24, kt_25, kt_31, kt_32, kt_40, kt_50, kt_60, kt_63, kt_100, kt_120, kt_255, kt_300, kt_999999, kt_1000000, kt_m1, kt_m2, kt_m3, kt_m4, kt_m6, kt_m7, kt_m11, kt_m12, kt_m13, kt_m14, kt_m100] at c2); (try simp only [jlt, jle, jeq, kt_0, kt_1, kt_2, kt_3, kt_4, kt_5, kt_6, kt_7, kt_8, kt_9, kt_10, kt_11, kt_12, kt_13, kt_15, kt_16, kt_19, kt_20, kt_24, kt_25, kt_31, kt_32, kt_40, kt_50, kt_60, kt_63, kt_100, kt_120, kt_255, kt_300, kt_999999, kt_1000000, kt_m1, kt_m2, kt_m3, kt_m4, kt_m6, kt_m7, kt_m11, kt_m12, kt_m13, kt_m14, kt_m100] at c4); (try simp only [kt_0, kt_1, kt_2, kt_3, kt_4, kt_5, kt_6, kt_7, kt_8, kt_9, kt_10, kt_11, kt_12, kt_13, kt_15, kt_16, kt_19, kt_20, kt_24, kt_25, kt_31, kt_32, kt_40, kt_50, kt_60, kt_63, kt_100, kt_120, kt_255, kt_300, kt_999999, kt_1000000, kt_m1, kt_m2, kt_m3, kt_m4, kt_m6, kt_m7, kt_m11, kt_m12, kt_m13, kt_m14, kt_m100]); omega) (by (try simp only [jlt, jle, jeq, kt_0, kt_1, kt_2, kt_3, kt_4, kt_5, kt_6, kt_7, kt_8, kt_9, kt_10, kt_11, kt_12, kt_13, kt_15, kt_16, kt_19, kt_20, kt_24, kt_25, kt_31, kt_32, kt_40, kt_50, kt_60, kt_63, kt_100, kt_120, kt_255, kt_300, kt_999999, kt_1000000, kt_m1, kt_m2, kt_m3, kt_m4, kt_m6, kt_m7, kt_m11, kt_m12, kt_m13, kt_m14, kt_m100] at c2); (try simp only [jlt, jle, jeq, kt_0, kt_1, kt_2, kt_3, kt_4, kt_5, kt_6, kt_7, kt_8, kt_9, kt_10, kt_11, kt_12, kt_13, kt_15, kt_16, kt_19, kt_20, kt_24, kt_25, kt_31, kt_32, kt_40, kt_50, kt_60, kt_63, kt_100, kt_120, kt_255, kt_300, kt_999999, kt_1000000, kt_m1, kt_m2, kt_m3, kt_m4, kt_m6, kt_m7, kt_m11, kt_m12, kt_m13, kt_m14, kt_m100] at c4); (try simp only [kt_0, kt_1, kt_2, kt_3, kt_4, kt_5, kt_6, kt_7, kt_8, kt_9, kt_10, kt_11, kt_12, kt_13, kt_15, kt_16, kt_19, kt_20, kt_24, kt_25, kt_31, kt_32, kt_40, kt_50, kt_60, kt_63, kt_100, kt_120, kt_255, kt_300, kt_999999, kt_1000000, kt_m1, kt_m2, kt_m3, kt_m4, kt_m6, kt_m7, kt_m11, kt_m12, kt_m13, kt_m14, kt_m100]); omega))
      refine j_aald (v := .ref s5) C d_c_CS_copy_22 (by rfl) rfl hsh (jin (by (try simp only [jlt, jle, jeq, kt_0, kt_1, kt_2, kt_3, kt_4, kt_5, kt_6, kt_7, kt_8, kt_9, kt_10, kt_11, kt_12, kt_13, kt_15, kt_16, kt_19, kt_20, kt_24, kt_25, kt_31, kt_32, kt_40, kt_50, kt_60, kt_63, kt_100, kt_120, kt_255, kt_300, kt_999999, kt_1000000, kt_m1, kt_m2, kt_m3, kt_m4, kt_m6, kt_m7, kt_m11, kt_m12, kt_m13, kt_m14, kt_m100] at c2); (try simp only [jlt, jle, jeq, kt_0, kt_1, kt_2, kt_3, kt_4, kt_5, kt_6, kt_7, kt_8, kt_9, kt_10, kt_11, kt_12, kt_13, kt_15, kt_16, kt_19, kt_20, kt_24, kt_25, kt_31, kt_32, kt_40, kt_50, kt_60, kt_63, kt_100, kt_120, kt_255, kt_300, kt_999999, kt_1000000, kt_m1, kt_m2, kt_m3, kt_m4, kt_m6, kt_m7, kt_m11, kt_m12, kt_m13, kt_m14, kt_m100] at c4); (try simp only [kt_0, kt_1, kt_2, kt_3, kt_4, kt_5, kt_6, kt_7, kt_8, kt_9, kt_10, kt_11, kt_12, kt_13, kt_15, kt_16, kt_19, kt_20, kt_24, kt_25, kt_31, kt_32, kt_40, kt_50, kt_60, kt_63, kt_100, kt_120, kt_255, kt_300, kt_999999, kt_1000000, kt_m1, kt_m2, kt_m3, kt_m4, kt_m6, kt_m7, kt_m11, kt_m12, kt_m13, kt_m14, kt_m100]); omega) (by (try simp only [jlt, jle, jeq, kt_0, kt_1, kt_2, kt_3, kt_4, kt_5, kt_6, kt_7, kt_8, kt_9, kt_10, kt_11, kt_12, kt_13, kt_15, kt_16, kt_19, kt_20, kt_24, kt_25, kt_31, kt_32, kt_40, kt_50, kt_60, kt_63, kt_100, kt_120, kt_255, kt_300, kt_999999, kt_1000000, kt_m1, kt_m2, kt_m3, kt_m4, kt_m6, kt_m7, kt_m11, kt_m12, kt_m13, kt_m14, kt_m100] at c2); (try simp only [jlt, jle, jeq, kt_0, kt_1, kt_2, kt_3, kt_4, kt_5, kt_6, kt_7, kt_8, kt_9, kt_10, kt_11, kt_12, kt_13, kt_15, kt_16, kt_19, kt_20, kt_24, kt_25, kt_31, kt_32, kt_40, kt_50, kt_60, kt_63, kt_100, kt_120, kt_255, kt_300, kt_999999, kt_1000000, kt_m1, kt_m2, kt_m3, kt_m4, kt_m6, kt_m7, kt_m11, kt_m12, kt_m13, kt_m14, kt_m100] at c4); (try simp only [kt_0, kt_1, kt_2, kt_3, kt_4, kt_5, kt_6, kt_7, kt_8, kt_9, kt_10, kt_11, kt_12, kt_13, kt_15, kt_16, kt_19, kt_20, kt_24, kt_25, kt_31, kt_32, kt_40, kt_50, kt_60, kt_63, kt_100, kt_120, kt_255, kt_300, kt_999999, kt_1000000, kt_m1, kt_m2, kt_m3, kt_m4, kt_m6, kt_m7, kt_m11, kt_m12, kt_m13, kt_m14, kt_m100]); omega)) (congrArg va_rf hFs5) ?_
      refine j_blk 26 [(6, .ref s5), (0, .ref x), (1, .int s), (2, .int i), (3, .int o), (4, .int j), (5, .int n)] [.ref x] C k_c_CS_copy_23_2 rfl ?_
      refine j_get C d_c_CS_copy_26 fg_CS_21 hx h8 ?_
      refine j_blk 30 [(6, .ref s5), (0, .ref x), (1, .int s), (2, .int i), (3, .int o), (4, .int j), (5, .int n)] [.int o, .ref sh] C k_c_CS_copy_29_1 rfl ?_
      obtain ⟨s6, es6, Vs6, hFs6, ms6, zs6, sos6, sis6, mes6, ls6, les6⟩ := fx (Int32.toNatClampNeg o) (jcl (by (try simp only [jlt, jle, jeq, kt_0, kt_1, kt_2, kt_3, kt_4, kt_5, kt_6, kt_7, kt_8, kt_9, kt_10, kt_11, kt_12, kt_13, kt_15, kt_16, kt_19, kt_20, kt_24, kt_25, kt_31, kt_32, kt_40, kt_50, kt_60, kt_63, kt_100, kt_120, kt_255, kt_300, kt_999999, kt_1000000, kt_m1, kt_m2, kt_m3, kt_m4, kt_m6, kt_m7, kt_m11, kt_m12, kt_m13, kt_m14, kt_m100] at c2); (try simp only [jlt, jle, jeq, kt_0, kt_1, kt_2, kt_3, kt_4, kt_5, kt_6, kt_7, kt_8, kt_9, kt_10, kt_11, kt_12, kt_13, kt_15, kt_16, kt_19, kt_20, kt_24, kt_25, kt_31, kt_32, kt_40, kt_50, kt_60, kt_63, kt_100, kt_120, kt_255, kt_300, kt_999999, kt_1000000, kt_m1, kt_m2, kt_m3, kt_m4, kt_m6, kt_m7, kt_m11, kt_m12, kt_m13, kt_m14, kt_m100] at c4); (try simp only [kt_0, kt_1, kt_2, kt_3, kt_4, kt_5, kt_6, kt_7, kt_8, kt_9, kt_10, kt_11, kt_12, kt_13, kt_15, kt_16, kt_19, kt_20, kt_24, kt_25, kt_31, kt_32, kt_40, kt_50, kt_60, kt_63, kt_100, kt_120, kt_255, kt_300, kt_999999, kt_1000000, kt_m1, kt_m2, kt_m3, kt_m4, kt_m6, kt_m7, kt_m11, kt_m12, kt_m13, kt_m14, kt_m100]); omega) (by (try simp only [jlt, jle, jeq, kt_0, kt_1, kt_2, kt_3, kt_4, kt_5, kt_6, kt_7, kt_8, kt_9, kt_10, kt_11, kt_12, kt_13, kt_15, kt_16, kt_19, kt_20, kt_24, kt_25, kt_31, kt_32, kt_40, kt_50, kt_60, kt_63, kt_100, kt_120, kt_255, kt_300, kt_999999, kt_1000000, kt_m1, kt_m2, kt_m3, kt_m4, kt_m6, kt_m7, kt_m11, kt_m12, kt_m13, kt_m14, kt_m100] at c2); (try simp only [jlt, jle, jeq, kt_0, kt_1, kt_2, kt_3, kt_4, kt_5, kt_6, kt_7, kt_8, kt_9, kt_10, kt_11, kt_12, kt_13, kt_15, kt_16, kt_19, kt_20, kt_24, kt_25, kt_31, kt_32, kt_40, kt_50, kt_60, kt_63, kt_100, kt_120, kt_255, kt_300, kt_999999, kt_1000000, kt_m1, kt_m2, kt_m3, kt_m4, kt_m6, kt_m7, kt_m11, kt_m12, kt_m13, kt_m14, kt_m100] at c4); (try simp only [kt_0, kt_1, kt_2, kt_3, kt_4, kt_5, kt_6, kt_7, kt_8, kt_9, kt_10, kt_11, kt_12, kt_13, kt_15, kt_16, kt_19, kt_20, kt_24, kt_25, kt_31, kt_32, kt_40, kt_50, kt_60, kt_63, kt_100, kt_120, kt_255, kt_300, kt_999999, kt_1000000, kt_m1, kt_m2, kt_m3, kt_m4, kt_m6, kt_m7, kt_m11, kt_m12, kt_m13, kt_m14, kt_m100]); omega))
      refine j_aald (v := .ref s6) C d_c_CS_copy_30 (by rfl) rfl hsh (jin (by (try simp only [jlt, jle, jeq, kt_0, kt_1, kt_2, kt_3, kt_4, kt_5, kt_6, kt_7, kt_8, kt_9, kt_10, kt_11, kt_12, kt_13, kt_15, kt_16, kt_19, kt_20, kt_24, kt_25, kt_31, kt_32, kt_40, kt_50, kt_60, kt_63, kt_100, kt_120, kt_255, kt_300, kt_999999, kt_1000000, kt_m1, kt_m2, kt_m3, kt_m4, kt_m6, kt_m7, kt_m11, kt_m12, kt_m13, kt_m14, kt_m100] at c2); (try simp only [jlt, jle, jeq, kt_0, kt_1, kt_2, kt_3, kt_4, kt_5, kt_6, kt_7, kt_8, kt_9, kt_10, kt_11, kt_12, kt_13, kt_15, kt_16, kt_19, kt_20, kt_24, kt_25, kt_31, kt_32, kt_40, kt_50, kt_60, kt_63, kt_100, kt_120, kt_255, kt_300, kt_999999, kt_1000000, kt_m1, kt_m2, kt_m3, kt_m4, kt_m6, kt_m7, kt_m11, kt_m12, kt_m13, kt_m14, kt_m100] at c4); (try simp only [kt_0, kt_1, kt_2, kt_3, kt_4, kt_5, kt_6, kt_7, kt_8, kt_9, kt_10, kt_11, kt_12, kt_13, kt_15, kt_16, kt_19, kt_20, kt_24, kt_25, kt_31, kt_32, kt_40, kt_50, kt_60, kt_63, kt_100, kt_120, kt_255, kt_300, kt_999999, kt_1000000, kt_m1, kt_m2, kt_m3, kt_m4, kt_m6, kt_m7, kt_m11, kt_m12, kt_m13, kt_m14, kt_m100]); omega) (by (try simp only [jlt, jle, jeq, kt_0, kt_1, kt_2, kt_3, kt_4, kt_5, kt_6, kt_7, kt_8, kt_9, kt_10, kt_11, kt_12, kt_13, kt_15, kt_16, kt_19, kt_20, kt_24, kt_25, kt_31, kt_32, kt_40, kt_50, kt_60, kt_63, kt_100, kt_120, kt_255, kt_300, kt_999999, kt_1000000, kt_m1, kt_m2, kt_m3, kt_m4, kt_m6, kt_m7, kt_m11, kt_m12, kt_m13, kt_m14, kt_m100] at c2); (try simp only [jlt, jle, jeq, kt_0, kt_1, kt_2, kt_3, kt_4, kt_5, kt_6, kt_7, kt_8, kt_9, kt_10, kt_11, kt_12, kt_13, kt_15, kt_16, kt_19, kt_20, kt_24, kt_25, kt_31, kt_32, kt_40, kt_50, kt_60, kt_63, kt_100, kt_120, kt_255, kt_300, kt_999999, kt_1000000, kt_m1, kt_m2, kt_m3, kt_m4, kt_m6, kt_m7, kt_m11, kt_m12, kt_m13, kt_m14, kt_m100] at c4); (try simp only [kt_0, kt_1, kt_2, kt_3, kt_4, kt_5, kt_6, kt_7, kt_8, kt_9, kt_10, kt_11, kt_12, kt_13, kt_15, kt_16, kt_19, kt_20, kt_24, kt_25, kt_31, kt_32, kt_40, kt_50, kt_60, kt_63, kt_100, kt_120, kt_255, kt_300, kt_999999, kt_1000000, kt_m1, kt_m2, kt_m3, kt_m4, kt_m6, kt_m7, kt_m11, kt_m12, kt_m13, kt_m14, kt_m100]); omega)) (congrArg va_rf hFs6) ?_
      refine j_blk 35 [(7, .ref s6), (6, .ref s5), (0, .ref x), (1, .int s), (2, .int i), (3, .int o), (4, .int j), (5, .int n)] [.ref s5] C k_c_CS_copy_31_2 rfl ?_
      refine j_get C d_c_CS_copy_35 fg_CS_203 ms5 sos5 ?_
      refine j_blk 39 [(7, .ref s6), (6, .ref s5), (0, .ref x), (1, .int s), (2, .int i), (3, .int o), (4, .int j), (5, .int n)] [.int (-1), .int (-1)] C k_c_CS_copy_38_1 rfl ?_
      refine j_icmp_eq (tgt := 51) C d_c_CS_copy_39 (by decide) (fun c7 => ?_) (fun c7 => absurd (by decide) c7)
      refine j_blk 53 [(7, .ref s6), (6, .ref s5), (0, .ref x), (1, .int s), (2, .int i), (3, .int o), (4, .int j), (5, .int n)] [.int (-11)] C k_c_CS_copy_51_1 rfl ?_
      exact j_iret C Rm E d_c_CS_copy_53 ⟨congrArg (fun z => some (Value.int z)) (by unfold an_copy; (try simp only [jlt, jle, jeq, kt_0, kt_1, kt_2, kt_3, kt_4, kt_5, kt_6, kt_7, kt_8, kt_9, kt_10, kt_11, kt_12, kt_13, kt_15, kt_16, kt_19, kt_20, kt_24, kt_25, kt_31, kt_32, kt_40, kt_50, kt_60, kt_63, kt_100, kt_120, kt_255, kt_300, kt_999999, kt_1000000, kt_m1, kt_m2, kt_m3, kt_m4, kt_m6, kt_m7, kt_m11, kt_m12, kt_m13, kt_m14, kt_m100] at c2); (try simp only [jlt, jle, jeq, kt_0, kt_1, kt_2, kt_3, kt_4, kt_5, kt_6, kt_7, kt_8, kt_9, kt_10, kt_11, kt_12, kt_13, kt_15, kt_16, kt_19, kt_20, kt_24, kt_25, kt_31, kt_32, kt_40, kt_50, kt_60, kt_63, kt_100, kt_120, kt_255, kt_300, kt_999999, kt_1000000, kt_m1, kt_m2, kt_m3, kt_m4, kt_m6, kt_m7, kt_m11, kt_m12, kt_m13, kt_m14, kt_m100] at c4); (try simp only [jlt, jle, jeq, kt_0, kt_1, kt_2, kt_3, kt_4, kt_5, kt_6, kt_7, kt_8, kt_9, kt_10, kt_11, kt_12, kt_13, kt_15, kt_16, kt_19, kt_20, kt_24, kt_25, kt_31, kt_32, kt_40, kt_50, kt_60, kt_63, kt_100, kt_120, kt_255, kt_300, kt_999999, kt_1000000, kt_m1, kt_m2, kt_m3, kt_m4, kt_m6, kt_m7, kt_m11, kt_m12, kt_m13, kt_m14, kt_m100] at c7);  (repeat' split) <;> first | rfl | (exfalso; omega)), fr0⟩ (jbnd hk.1 rfl) (jbnd hk.2 rfl)
    · have c4 := jbz.mp c4
      refine j_blk 16 [(0, .ref x), (1, .int s), (2, .int i), (3, .int o), (4, .int j), (5, .int n)] [.int (-2)] C k_c_CS_copy_14_1 rfl ?_
      exact j_iret C Rm E d_c_CS_copy_16 ⟨congrArg (fun z => some (Value.int z)) (by unfold an_copy; (try simp only [jlt, jle, jeq, kt_0, kt_1, kt_2, kt_3, kt_4, kt_5, kt_6, kt_7, kt_8, kt_9, kt_10, kt_11, kt_12, kt_13, kt_15, kt_16, kt_19, kt_20, kt_24, kt_25, kt_31, kt_32, kt_40, kt_50, kt_60, kt_63, kt_100, kt_120, kt_255, kt_300, kt_999999, kt_1000000, kt_m1, kt_m2, kt_m3, kt_m4, kt_m6, kt_m7, kt_m11, kt_m12, kt_m13, kt_m14, kt_m100] at c2); (try simp only [jlt, jle, jeq, kt_0, kt_1, kt_2, kt_3, kt_4, kt_5, kt_6, kt_7, kt_8, kt_9, kt_10, kt_11, kt_12, kt_13, kt_15, kt_16, kt_19, kt_20, kt_24, kt_25, kt_31, kt_32, kt_40, kt_50, kt_60, kt_63, kt_100, kt_120, kt_255, kt_300, kt_999999, kt_1000000, kt_m1, kt_m2, kt_m3, kt_m4, kt_m6, kt_m7, kt_m11, kt_m12, kt_m13, kt_m14, kt_m100] at c4);  (repeat' split) <;> first | rfl | (exfalso; omega)), fr0⟩ (jbnd hk.1 rfl) (jbnd hk.2 rfl)
