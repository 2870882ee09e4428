/-! the calls that name a program, on fresh objects (own work, by program) -/
theorem k_c_CS_isProgram_0_1 : sblk b_CS_isProgram [(0, .iload_n 1, .null)] := sblk_of (by decide +kernel)
theorem d_c_CS_isProgram_1 : decode b_CS_isProgram 1 = .ok (.ifCond .lt 30, 3) := by decide +kernel
theorem k_c_CS_isProgram_31_1 : sblk b_CS_isProgram [(31, .iconst 0, .int 0)] := sblk_of (by decide +kernel)
theorem d_c_CS_isProgram_32 : decode b_CS_isProgram 32 = .ok (.ireturn, 1) := by decide +kernel
theorem k_c_CS_isProgram_4_2 : sblk b_CS_isProgram [(4, .iload_n 1, .null), (5, .aload_n 0, .null)] := sblk_of (by decide +kernel)
theorem d_c_CS_isProgram_6 : decode b_CS_isProgram 6 = .ok (.getfield 59, 3) := by decide +kernel
theorem d_c_CS_isProgram_9 : decode b_CS_isProgram 9 = .ok (.if_icmp .ge 22, 3) := by decide +kernel
set_option maxHeartbeats 40000000 in
set_option maxRecDepth 100000 in
theorem c_CS_isProgram (l : Launch) (D : va_G) (B : Nat) (H0 : Heap) (w : jW) (p : Int32) (V : Nat → Value) (x : Nat) (hx : w.1 x = some (.inr (8, V))) (h3 : V 3 = .int 0) : jMet l D B H0 y_CS_isProgram b_CS_isProgram 2 (some .boolean) 0 0 0 0 [.ref x, .int p] w (fun v w9 => v = some (.int 0) ∧ w = w9) := by
  refine j_met (by decide) (Nat.le_of_ble_eq_true rfl) (fun g C Rm Y E => ?_)
  have hk := jkz w
  show JJ g w 0 [(0, .ref x), (1, .int p)] []
  refine j_blk 1 [(0, .ref x), (1, .int p)] [.int p] C k_c_CS_isProgram_0_1 rfl ?_
  refine j_if_lt (tgt := 31) C d_c_CS_isProgram_1 (by decide) (fun c1 => ?_) (fun c1 => ?_)
  · refine j_blk 32 [(0, .ref x), (1, .int p)] [.int 0] C k_c_CS_isProgram_31_1 rfl ?_
    exact j_zret C Rm E rfl d_c_CS_isProgram_32 ⟨rfl, rfl⟩ (jbnd hk.1 rfl) (jbnd hk.2 rfl)
  · refine j_blk 6 [(0, .ref x), (1, .int p)] [.ref x, .int p] C k_c_CS_isProgram_4_2 rfl ?_
    refine j_get C d_c_CS_isProgram_6 fg_CS_59 hx h3 ?_
    refine j_icmp_ge (tgt := 31) C d_c_CS_isProgram_9 (by decide) (fun c2 => ?_) (fun c2 => absurd (by simp only [jlt, jle, jeq, kt_0, kt_1, kt_2, kt_3, kt_4, kt_5, kt_6, kt_7, kt_8, kt_9, kt_10, kt_11, kt_12, kt_13, kt_15, kt_16, kt_19, kt_20, kt_24, kt_25, kt_31, kt_32, kt_40, kt_50, kt_60, kt_63, kt_100, kt_120, kt_255, kt_300, kt_999999, kt_1000000, kt_m1, kt_m2, kt_m3, kt_m4, kt_m6, kt_m7, kt_m11, kt_m12, kt_m13, kt_m14, kt_m100] at c1; simp only [jlt, jle, jeq, kt_0, kt_1, kt_2, kt_3, kt_4, kt_5, kt_6, kt_7, kt_8, kt_9, kt_10, kt_11, kt_12, kt_13, kt_15, kt_16, kt_19, kt_20, kt_24, kt_25, kt_31, kt_32, kt_40, kt_50, kt_60, kt_63, kt_100, kt_120, kt_255, kt_300, kt_999999, kt_1000000, kt_m1, kt_m2, kt_m3, kt_m4, kt_m6, kt_m7, kt_m11, kt_m12, kt_m13, kt_m14, kt_m100]; omega) c2)
    refine j_blk 32 [(0, .ref x), (1, .int p)] [.int 0] C k_c_CS_isProgram_31_1 rfl ?_
    exact j_zret C Rm E rfl d_c_CS_isProgram_32 ⟨rfl, rfl⟩ (jbnd hk.1 rfl) (jbnd hk.2 rfl)

theorem k_c_Mo_isProgram_0_3 : sblk b_Mo_isProgram [(0, .iload_n 1, .null), (1, .iconst 0, .int 0), (2, .aload_n 0, .null)] := sblk_of (by decide +kernel)
theorem d_c_Mo_isProgram_3 : decode b_Mo_isProgram 3 = .ok (.getfield 105, 3) := by decide +kernel
theorem k_c_Mo_isProgram_6_2 : sblk b_Mo_isProgram [(6, .iconst 1, .int 1), (7, .isub, .null)] := sblk_of (by decide +kernel)
theorem d_c_Mo_isProgram_8 : decode b_Mo_isProgram 8 = .ok (.invokestatic 108, 3) := by decide +kernel
theorem d_c_Mo_isProgram_11 : decode b_Mo_isProgram 11 = .ok (.ireturn, 1) := by decide +kernel
set_option maxHeartbeats 40000000 in
set_option maxRecDepth 100000 in
theorem c_Mo_isProgram (l : Launch) (D : va_G) (B : Nat) (H0 : Heap) (w : jW) (p : Int32) (V : Nat → Value) (x : Nat) (hx : w.1 x = some (.inr (10, V))) (h0 : V 0 = .int 0) : jMet l D B H0 y_Mo_isProgram b_Mo_isProgram 2 (some .boolean) 1 40 0 0 [.ref x, .int p] w (fun v w9 => v = some (.int 0) ∧ w = w9) := by
  refine j_met (by decide) (Nat.le_of_ble_eq_true rfl) (fun g C Rm Y E => ?_)
  have hk := jkz w
  show JJ g w 0 [(0, .ref x), (1, .int p)] []
  refine j_blk 3 [(0, .ref x), (1, .int p)] [.ref x, .int 0, .int p] C k_c_Mo_isProgram_0_3 rfl ?_
  refine j_get C d_c_Mo_isProgram_3 fg_Mo_105 hx h0 ?_
  refine j_blk 8 [(0, .ref x), (1, .int p)] [.int (-1), .int 0, .int p] C k_c_Mo_isProgram_6_2 rfl ?_
  refine j_callS (As := [.int p, .int 0, .int (-1)]) C Rm Y [] (c_Mo_in l D B H0 w p 0 (-1)) cl_Mo_108 d_c_Mo_isProgram_8 rfl rfl (Nat.le_of_ble_eq_true rfl) ⟨by decide, by decide⟩ ⟨jroom hk.1 rfl, jroom hk.2 rfl⟩ (fun v1 w_1 pw_1 => ?_)
  obtain ⟨rfl, rfl⟩ := pw_1
  show JJ g w 11 [(0, .ref x), (1, .int p)] [.int (if (0 : Int32).toInt ≤ p.toInt ∧ p.toInt ≤ ((-1) : Int32).toInt then 1 else 0)]
  exact j_zret C Rm E (jbn _) d_c_Mo_isProgram_11 ⟨congrArg (fun z => some (Value.int z)) (if_neg (by show ¬ (Int32.toInt 0 ≤ p.toInt ∧ p.toInt ≤ Int32.toInt (-1)); rw [kt_0, kt_m1]; omega)), rfl⟩ (jbnd hk.1 rfl) (jbnd hk.2 rfl)

theorem k_c_CS_told_0_2 : sblk b_CS_told [(0, .aload_n 0, .null), (1, .iload_n 1, .null)] := sblk_of (by decide +kernel)
theorem d_c_CS_told_2 : decode b_CS_told 2 = .ok (.invokevirtual 94, 3) := by decide +kernel
theorem d_c_CS_told_5 : decode b_CS_told 5 = .ok (.ifCond .eq 13, 3) := by decide +kernel
theorem k_c_CS_told_18_1 : sblk b_CS_told [(18, .bipush (-2), .int (-2))] := sblk_of (by decide +kernel)
theorem d_c_CS_told_20 : decode b_CS_told 20 = .ok (.ireturn, 1) := by decide +kernel
set_option maxHeartbeats 40000000 in
set_option maxRecDepth 100000 in
theorem c_CS_told (l : Launch) (D : va_G) (B : Nat) (H0 : Heap) (w : jW) (x : Nat) (V : Nat → Value) (a : Int32) (b : Int32) (hx : w.1 x = some (.inr (8, V))) (h3 : V 3 = .int 0) : jMet l D B H0 y_CS_told b_CS_told 5 (some .int) 3 160 0 0 [.ref x, .int a, .int b] w (fun v w9 => v = some (.int (-2)) ∧ w = w9) := by
  refine j_met (by decide) (Nat.le_of_ble_eq_true rfl) (fun g C Rm Y E => ?_)
  have hk := jkz w
  show JJ g w 0 [(0, .ref x), (1, .int a), (2, .int b)] []
  refine j_blk 2 [(0, .ref x), (1, .int a), (2, .int b)] [.int a, .ref x] C k_c_CS_told_0_2 rfl ?_
  refine j_callV C Rm Y [.int a] [] (c_CS_isProgram l D B H0 w a _ x hx h3) cl_CS_94 (by rfl) (by rfl) hx d_c_CS_told_2 rfl rfl (Nat.le_of_ble_eq_true rfl) ⟨by decide, by decide⟩ ⟨jroom hk.1 rfl, jroom hk.2 rfl⟩ (fun v1 w_1 pw_1 => ?_)
  obtain ⟨rfl, rfl⟩ := pw_1
  show JJ g w 5 [(0, .ref x), (1, .int a), (2, .int b)] [.int 0]
  refine j_if_eq (tgt := 18) C d_c_CS_told_5 (by decide) (fun c2 => ?_) (fun c2 => absurd (by decide) c2)
  refine j_blk 20 [(0, .ref x), (1, .int a), (2, .int b)] [.int (-2)] C k_c_CS_told_18_1 rfl ?_
  exact j_iret C Rm E d_c_CS_told_20 ⟨rfl, rfl⟩ (jbnd hk.1 rfl) (jbnd hk.2 rfl)

theorem k_c_CS_step_0_2 : sblk b_CS_step [(0, .aload_n 0, .null), (1, .iload_n 1, .null)] := sblk_of (by decide +kernel)
theorem d_c_CS_step_2 : decode b_CS_step 2 = .ok (.invokevirtual 94, 3) := by decide +kernel
theorem d_c_CS_step_5 : decode b_CS_step 5 = .ok (.ifCond .eq 12, 3) := by decide +kernel
theorem k_c_CS_step_17_1 : sblk b_CS_step [(17, .bipush (-2), .int (-2))] := sblk_of (by decide +kernel)
theorem d_c_CS_step_19 : decode b_CS_step 19 = .ok (.ireturn, 1) := by decide +kernel
set_option maxHeartbeats 40000000 in
set_option maxRecDepth 100000 in
theorem c_CS_step (l : Launch) (D : va_G) (B : Nat) (H0 : Heap) (w : jW) (x : Nat) (V : Nat → Value) (a : Int32) (b : Int32) (c : Int32) (hx : w.1 x = some (.inr (8, V))) (h3 : V 3 = .int 0) : jMet l D B H0 y_CS_step b_CS_step 5 (some .int) 3 160 0 0 [.ref x, .int a, .int b, .int c] w (fun v w9 => v = some (.int (-2)) ∧ w = w9) := by
  refine j_met (by decide) (Nat.le_of_ble_eq_true rfl) (fun g C Rm Y E => ?_)
  have hk := jkz w
  show JJ g w 0 [(0, .ref x), (1, .int a), (2, .int b), (3, .int c)] []
  refine j_blk 2 [(0, .ref x), (1, .int a), (2, .int b), (3, .int c)] [.int a, .ref x] C k_c_CS_step_0_2 rfl ?_
  refine j_callV C Rm Y [.int a] [] (c_CS_isProgram l D B H0 w a _ x hx h3) cl_CS_94 (by rfl) (by rfl) hx d_c_CS_step_2 rfl rfl (Nat.le_of_ble_eq_true rfl) ⟨by decide, by decide⟩ ⟨jroom hk.1 rfl, jroom hk.2 rfl⟩ (fun v1 w_1 pw_1 => ?_)
  obtain ⟨rfl, rfl⟩ := pw_1
  show JJ g w 5 [(0, .ref x), (1, .int a), (2, .int b), (3, .int c)] [.int 0]
  refine j_if_eq (tgt := 17) C d_c_CS_step_5 (by decide) (fun c2 => ?_) (fun c2 => absurd (by decide) c2)
  refine j_blk 19 [(0, .ref x), (1, .int a), (2, .int b), (3, .int c)] [.int (-2)] C k_c_CS_step_17_1 rfl ?_
  exact j_iret C Rm E d_c_CS_step_19 ⟨rfl, rfl⟩ (jbnd hk.1 rfl) (jbnd hk.2 rfl)

theorem k_c_CS_taken_0_2 : sblk b_CS_taken [(0, .aload_n 0, .null), (1, .iload_n 1, .null)] := sblk_of (by decide +kernel)
theorem d_c_CS_taken_2 : decode b_CS_taken 2 = .ok (.invokevirtual 94, 3) := by decide +kernel
theorem d_c_CS_taken_5 : decode b_CS_taken 5 = .ok (.ifCond .eq 12, 3) := by decide +kernel
theorem k_c_CS_taken_17_1 : sblk b_CS_taken [(17, .bipush (-2), .int (-2))] := sblk_of (by decide +kernel)
theorem d_c_CS_taken_19 : decode b_CS_taken 19 = .ok (.ireturn, 1) := by decide +kernel
set_option maxHeartbeats 40000000 in
set_option maxRecDepth 100000 in
theorem c_CS_taken (l : Launch) (D : va_G) (B : Nat) (H0 : Heap) (w : jW) (x : Nat) (V : Nat → Value) (a : Int32) (b : Int32) (c : Int32) (hx : w.1 x = some (.inr (8, V))) (h3 : V 3 = .int 0) : jMet l D B H0 y_CS_taken b_CS_taken 5 (some .int) 3 160 0 0 [.ref x, .int a, .int b, .int c] w (fun v w9 => v = some (.int (-2)) ∧ w = w9) := by
  refine j_met (by decide) (Nat.le_of_ble_eq_true rfl) (fun g C Rm Y E => ?_)
  have hk := jkz w
  show JJ g w 0 [(0, .ref x), (1, .int a), (2, .int b), (3, .int c)] []
  refine j_blk 2 [(0, .ref x), (1, .int a), (2, .int b), (3, .int c)] [.int a, .ref x] C k_c_CS_taken_0_2 rfl ?_
  refine j_callV C Rm Y [.int a] [] (c_CS_isProgram l D B H0 w a _ x hx h3) cl_CS_94 (by rfl) (by rfl) hx d_c_CS_taken_2 rfl rfl (Nat.le_of_ble_eq_true rfl) ⟨by decide, by decide⟩ ⟨jroom hk.1 rfl, jroom hk.2 rfl⟩ (fun v1 w_1 pw_1 => ?_)
  obtain ⟨rfl, rfl⟩ := pw_1
  show JJ g w 5 [(0, .ref x), (1, .int a), (2, .int b), (3, .int c)] [.int 0]
  refine j_if_eq (tgt := 17) C d_c_CS_taken_5 (by decide) (fun c2 => ?_) (fun c2 => absurd (by decide) c2)
  refine j_blk 19 [(0, .ref x), (1, .int a), (2, .int b), (3, .int c)] [.int (-2)] C k_c_CS_taken_17_1 rfl ?_
  exact j_iret C Rm E d_c_CS_taken_19 ⟨rfl, rfl⟩ (jbnd hk.1 rfl) (jbnd hk.2 rfl)

theorem k_c_CS_left_0_2 : sblk b_CS_left [(0, .aload_n 0, .null), (1, .iload_n 1, .null)] := sblk_of (by decide +kernel)
theorem d_c_CS_left_2 : decode b_CS_left 2 = .ok (.invokevirtual 94, 3) := by decide +kernel
theorem d_c_CS_left_5 : decode b_CS_left 5 = .ok (.ifCond .eq 10, 3) := by decide +kernel
theorem d_c_CS_left_15 : decode b_CS_left 15 = .ok (.ldc2_w 143, 3) := by decide +kernel
theorem d_c_CS_left_18 : decode b_CS_left 18 = .ok (.lreturn, 1) := by decide +kernel
set_option maxHeartbeats 40000000 in
set_option maxRecDepth 100000 in
theorem c_CS_left (l : Launch) (D : va_G) (B : Nat) (H0 : Heap) (w : jW) (x : Nat) (V : Nat → Value) (a : Int32) (b : Int32) (hx : w.1 x = some (.inr (8, V))) (h3 : V 3 = .int 0) : jMet l D B H0 y_CS_left b_CS_left 4 (some .long) 3 160 0 0 [.ref x, .int a, .int b] w (fun v w9 => v = some (.long (-4611686018427387904)) ∧ w = w9) := by
  refine j_met (by decide) (Nat.le_of_ble_eq_true rfl) (fun g C Rm Y E => ?_)
  have hk := jkz w
  show JJ g w 0 [(0, .ref x), (1, .int a), (2, .int b)] []
  refine j_blk 2 [(0, .ref x), (1, .int a), (2, .int b)] [.int a, .ref x] C k_c_CS_left_0_2 rfl ?_
  refine j_callV C Rm Y [.int a] [] (c_CS_isProgram l D B H0 w a _ x hx h3) cl_CS_94 (by rfl) (by rfl) hx d_c_CS_left_2 rfl rfl (Nat.le_of_ble_eq_true rfl) ⟨by decide, by decide⟩ ⟨jroom hk.1 rfl, jroom hk.2 rfl⟩ (fun v1 w_1 pw_1 => ?_)
  obtain ⟨rfl, rfl⟩ := pw_1
  show JJ g w 5 [(0, .ref x), (1, .int a), (2, .int b)] [.int 0]
  refine j_if_eq (tgt := 15) C d_c_CS_left_5 (by decide) (fun c2 => ?_) (fun c2 => absurd (by decide) c2)
  refine j_ldc2 C d_c_CS_left_15 ld_CS_143 ?_
  exact j_lret C Rm E d_c_CS_left_18 ⟨rfl, rfl⟩ (jbnd hk.1 rfl) (jbnd hk.2 rfl)

theorem k_c_CS_odds_0_2 : sblk b_CS_odds [(0, .aload_n 0, .null), (1, .iload_n 1, .null)] := sblk_of (by decide +kernel)
theorem d_c_CS_odds_2 : decode b_CS_odds 2 = .ok (.invokevirtual 94, 3) := by decide +kernel
theorem d_c_CS_odds_5 : decode b_CS_odds 5 = .ok (.ifCond .eq 25, 3) := by decide +kernel
theorem d_c_CS_odds_30 : decode b_CS_odds 30 = .ok (.ldc2_w 143, 3) := by decide +kernel
theorem d_c_CS_odds_33 : decode b_CS_odds 33 = .ok (.lreturn, 1) := by decide +kernel
set_option maxHeartbeats 40000000 in
set_option maxRecDepth 100000 in
theorem c_CS_odds (l : Launch) (D : va_G) (B : Nat) (H0 : Heap) (w : jW) (x : Nat) (V : Nat → Value) (a : Int32) (b : Int32) (c : Int32) (d : Int32) (hx : w.1 x = some (.inr (8, V))) (h3 : V 3 = .int 0) : jMet l D B H0 y_CS_odds b_CS_odds 6 (some .long) 3 160 0 0 [.ref x, .int a, .int b, .int c, .int d] w (fun v w9 => v = some (.long (-4611686018427387904)) ∧ w = w9) := by
  refine j_met (by decide) (Nat.le_of_ble_eq_true rfl) (fun g C Rm Y E => ?_)
  have hk := jkz w
  show JJ g w 0 [(0, .ref x), (1, .int a), (2, .int b), (3, .int c), (4, .int d)] []
  refine j_blk 2 [(0, .ref x), (1, .int a), (2, .int b), (3, .int c), (4, .int d)] [.int a, .ref x] C k_c_CS_odds_0_2 rfl ?_
  refine j_callV C Rm Y [.int a] [] (c_CS_isProgram l D B H0 w a _ x hx h3) cl_CS_94 (by rfl) (by rfl) hx d_c_CS_odds_2 rfl rfl (Nat.le_of_ble_eq_true rfl) ⟨by decide, by decide⟩ ⟨jroom hk.1 rfl, jroom hk.2 rfl⟩ (fun v1 w_1 pw_1 => ?_)
  obtain ⟨rfl, rfl⟩ := pw_1
  show JJ g w 5 [(0, .ref x), (1, .int a), (2, .int b), (3, .int c), (4, .int d)] [.int 0]
  refine j_if_eq (tgt := 30) C d_c_CS_odds_5 (by decide) (fun c2 => ?_) (fun c2 => absurd (by decide) c2)
  refine j_ldc2 C d_c_CS_odds_30 ld_CS_143 ?_
  exact j_lret C Rm E d_c_CS_odds_33 ⟨rfl, rfl⟩ (jbnd hk.1 rfl) (jbnd hk.2 rfl)

theorem k_c_CS_state_0_2 : sblk b_CS_state [(0, .aload_n 0, .null), (1, .iload_n 1, .null)] := sblk_of (by decide +kernel)
theorem d_c_CS_state_2 : decode b_CS_state 2 = .ok (.invokevirtual 94, 3) := by decide +kernel
theorem d_c_CS_state_5 : decode b_CS_state 5 = .ok (.ifCond .eq 20, 3) := by decide +kernel
theorem d_c_CS_state_25 : decode b_CS_state 25 = .ok (.ldc2_w 143, 3) := by decide +kernel
theorem d_c_CS_state_28 : decode b_CS_state 28 = .ok (.lreturn, 1) := by decide +kernel
set_option maxHeartbeats 40000000 in
set_option maxRecDepth 100000 in
theorem c_CS_state (l : Launch) (D : va_G) (B : Nat) (H0 : Heap) (w : jW) (x : Nat) (V : Nat → Value) (a : Int32) (b : Int32) (c : Int32) (hx : w.1 x = some (.inr (8, V))) (h3 : V 3 = .int 0) : jMet l D B H0 y_CS_state b_CS_state 5 (some .long) 3 160 0 0 [.ref x, .int a, .int b, .int c] w (fun v w9 => v = some (.long (-4611686018427387904)) ∧ w = w9) := by
  refine j_met (by decide) (Nat.le_of_ble_eq_true rfl) (fun g C Rm Y E => ?_)
  have hk := jkz w
  show JJ g w 0 [(0, .ref x), (1, .int a), (2, .int b), (3, .int c)] []
  refine j_blk 2 [(0, .ref x), (1, .int a), (2, .int b), (3, .int c)] [.int a, .ref x] C k_c_CS_state_0_2 rfl ?_
  refine j_callV C Rm Y [.int a] [] (c_CS_isProgram l D B H0 w a _ x hx h3) cl_CS_94 (by rfl) (by rfl) hx d_c_CS_state_2 rfl rfl (Nat.le_of_ble_eq_true rfl) ⟨by decide, by decide⟩ ⟨jroom hk.1 rfl, jroom hk.2 rfl⟩ (fun v1 w_1 pw_1 => ?_)
  obtain ⟨rfl, rfl⟩ := pw_1
  show JJ g w 5 [(0, .ref x), (1, .int a), (2, .int b), (3, .int c)] [.int 0]
  refine j_if_eq (tgt := 25) C d_c_CS_state_5 (by decide) (fun c2 => ?_) (fun c2 => absurd (by decide) c2)
  refine j_ldc2 C d_c_CS_state_25 ld_CS_143 ?_
  exact j_lret C Rm E d_c_CS_state_28 ⟨rfl, rfl⟩ (jbnd hk.1 rfl) (jbnd hk.2 rfl)

theorem k_c_CS_fold_0_2 : sblk b_CS_fold [(0, .aload_n 0, .null), (1, .iload_n 1, .null)] := sblk_of (by decide +kernel)
theorem d_c_CS_fold_2 : decode b_CS_fold 2 = .ok (.invokevirtual 94, 3) := by decide +kernel
theorem d_c_CS_fold_5 : decode b_CS_fold 5 = .ok (.ifCond .eq 27, 3) := by decide +kernel
theorem d_c_CS_fold_32 : decode b_CS_fold 32 = .ok (.ldc2_w 143, 3) := by decide +kernel
theorem d_c_CS_fold_35 : decode b_CS_fold 35 = .ok (.lreturn, 1) := by decide +kernel
set_option maxHeartbeats 40000000 in
set_option maxRecDepth 100000 in
theorem c_CS_fold (l : Launch) (D : va_G) (B : Nat) (H0 : Heap) (w : jW) (x : Nat) (V : Nat → Value) (a : Int32) (b : Int32) (c : Int32) (d : Int32) (hx : w.1 x = some (.inr (8, V))) (h3 : V 3 = .int 0) : jMet l D B H0 y_CS_fold b_CS_fold 9 (some .long) 3 160 0 0 [.ref x, .int a, .int b, .int c, .int d] w (fun v w9 => v = some (.long (-4611686018427387904)) ∧ w = w9) := by
  refine j_met (by decide) (Nat.le_of_ble_eq_true rfl) (fun g C Rm Y E => ?_)
  have hk := jkz w
  show JJ g w 0 [(0, .ref x), (1, .int a), (2, .int b), (3, .int c), (4, .int d)] []
  refine j_blk 2 [(0, .ref x), (1, .int a), (2, .int b), (3, .int c), (4, .int d)] [.int a, .ref x] C k_c_CS_fold_0_2 rfl ?_
  refine j_callV C Rm Y [.int a] [] (c_CS_isProgram l D B H0 w a _ x hx h3) cl_CS_94 (by rfl) (by rfl) hx d_c_CS_fold_2 rfl rfl (Nat.le_of_ble_eq_true rfl) ⟨by decide, by decide⟩ ⟨jroom hk.1 rfl, jroom hk.2 rfl⟩ (fun v1 w_1 pw_1 => ?_)
  obtain ⟨rfl, rfl⟩ := pw_1
  show JJ g w 5 [(0, .ref x), (1, .int a), (2, .int b), (3, .int c), (4, .int d)] [.int 0]
  refine j_if_eq (tgt := 32) C d_c_CS_fold_5 (by decide) (fun c2 => ?_) (fun c2 => absurd (by decide) c2)
  refine j_ldc2 C d_c_CS_fold_32 ld_CS_143 ?_
  exact j_lret C Rm E d_c_CS_fold_35 ⟨rfl, rfl⟩ (jbnd hk.1 rfl) (jbnd hk.2 rfl)

theorem k_c_CS_likeliest_0_2 : sblk b_CS_likeliest [(0, .aload_n 0, .null), (1, .iload_n 1, .null)] := sblk_of (by decide +kernel)
theorem d_c_CS_likeliest_2 : decode b_CS_likeliest 2 = .ok (.invokevirtual 94, 3) := by decide +kernel
theorem d_c_CS_likeliest_5 : decode b_CS_likeliest 5 = .ok (.ifCond .eq 13, 3) := by decide +kernel
theorem k_c_CS_likeliest_18_1 : sblk b_CS_likeliest [(18, .bipush (-2), .int (-2))] := sblk_of (by decide +kernel)
theorem d_c_CS_likeliest_20 : decode b_CS_likeliest 20 = .ok (.ireturn, 1) := by decide +kernel
set_option maxHeartbeats 40000000 in
set_option maxRecDepth 100000 in
theorem c_CS_likeliest (l : Launch) (D : va_G) (B : Nat) (H0 : Heap) (w : jW) (x : Nat) (V : Nat → Value) (a : Int32) (b : Int32) (hx : w.1 x = some (.inr (8, V))) (h3 : V 3 = .int 0) : jMet l D B H0 y_CS_likeliest b_CS_likeliest 6 (some .int) 3 160 0 0 [.ref x, .int a, .int b] w (fun v w9 => v = some (.int (-2)) ∧ w = w9) := by
  refine j_met (by decide) (Nat.le_of_ble_eq_true rfl) (fun g C Rm Y E => ?_)
  have hk := jkz w
  show JJ g w 0 [(0, .ref x), (1, .int a), (2, .int b)] []
  refine j_blk 2 [(0, .ref x), (1, .int a), (2, .int b)] [.int a, .ref x] C k_c_CS_likeliest_0_2 rfl ?_
  refine j_callV C Rm Y [.int a] [] (c_CS_isProgram l D B H0 w a _ x hx h3) cl_CS_94 (by rfl) (by rfl) hx d_c_CS_likeliest_2 rfl rfl (Nat.le_of_ble_eq_true rfl) ⟨by decide, by decide⟩ ⟨jroom hk.1 rfl, jroom hk.2 rfl⟩ (fun v1 w_1 pw_1 => ?_)
  obtain ⟨rfl, rfl⟩ := pw_1
  show JJ g w 5 [(0, .ref x), (1, .int a), (2, .int b)] [.int 0]
  refine j_if_eq (tgt := 18) C d_c_CS_likeliest_5 (by decide) (fun c2 => ?_) (fun c2 => absurd (by decide) c2)
  refine j_blk 20 [(0, .ref x), (1, .int a), (2, .int b)] [.int (-2)] C k_c_CS_likeliest_18_1 rfl ?_
  exact j_iret C Rm E d_c_CS_likeliest_20 ⟨rfl, rfl⟩ (jbnd hk.1 rfl) (jbnd hk.2 rfl)

theorem k_c_CS_apart_0_2 : sblk b_CS_apart [(0, .aload_n 0, .null), (1, .iload_n 1, .null)] := sblk_of (by decide +kernel)
theorem d_c_CS_apart_2 : decode b_CS_apart 2 = .ok (.invokevirtual 94, 3) := by decide +kernel
theorem d_c_CS_apart_5 : decode b_CS_apart 5 = .ok (.ifCond .eq 17, 3) := by decide +kernel
theorem k_c_CS_apart_22_1 : sblk b_CS_apart [(22, .bipush (-2), .int (-2))] := sblk_of (by decide +kernel)
theorem d_c_CS_apart_24 : decode b_CS_apart 24 = .ok (.ireturn, 1) := by decide +kernel
set_option maxHeartbeats 40000000 in
set_option maxRecDepth 100000 in
theorem c_CS_apart (l : Launch) (D : va_G) (B : Nat) (H0 : Heap) (w : jW) (x : Nat) (V : Nat → Value) (a : Int32) (b : Int32) (c : Int32) (hx : w.1 x = some (.inr (8, V))) (h3 : V 3 = .int 0) : jMet l D B H0 y_CS_apart b_CS_apart 11 (some .int) 3 160 0 0 [.ref x, .int a, .int b, .int c] w (fun v w9 => v = some (.int (-2)) ∧ w = w9) := by
  refine j_met (by decide) (Nat.le_of_ble_eq_true rfl) (fun g C Rm Y E => ?_)
  have hk := jkz w
  show JJ g w 0 [(0, .ref x), (1, .int a), (2, .int b), (3, .int c)] []
  refine j_blk 2 [(0, .ref x), (1, .int a), (2, .int b), (3, .int c)] [.int a, .ref x] C k_c_CS_apart_0_2 rfl ?_
  refine j_callV C Rm Y [.int a] [] (c_CS_isProgram l D B H0 w a _ x hx h3) cl_CS_94 (by rfl) (by rfl) hx d_c_CS_apart_2 rfl rfl (Nat.le_of_ble_eq_true rfl) ⟨by decide, by decide⟩ ⟨jroom hk.1 rfl, jroom hk.2 rfl⟩ (fun v1 w_1 pw_1 => ?_)
  obtain ⟨rfl, rfl⟩ := pw_1
  show JJ g w 5 [(0, .ref x), (1, .int a), (2, .int b), (3, .int c)] [.int 0]
  refine j_if_eq (tgt := 22) C d_c_CS_apart_5 (by decide) (fun c2 => ?_) (fun c2 => absurd (by decide) c2)
  refine j_blk 24 [(0, .ref x), (1, .int a), (2, .int b), (3, .int c)] [.int (-2)] C k_c_CS_apart_22_1 rfl ?_
  exact j_iret C Rm E d_c_CS_apart_24 ⟨rfl, rfl⟩ (jbnd hk.1 rfl) (jbnd hk.2 rfl)

theorem k_c_CS_needed_0_2 : sblk b_CS_needed [(0, .aload_n 0, .null), (1, .iload_n 1, .null)] := sblk_of (by decide +kernel)
theorem d_c_CS_needed_2 : decode b_CS_needed 2 = .ok (.invokevirtual 94, 3) := by decide +kernel
theorem d_c_CS_needed_5 : decode b_CS_needed 5 = .ok (.ifCond .eq 10, 3) := by decide +kernel
theorem k_c_CS_needed_15_1 : sblk b_CS_needed [(15, .bipush (-2), .int (-2))] := sblk_of (by decide +kernel)
theorem d_c_CS_needed_17 : decode b_CS_needed 17 = .ok (.ireturn, 1) := by decide +kernel
set_option maxHeartbeats 40000000 in
set_option maxRecDepth 100000 in
theorem c_CS_needed (l : Launch) (D : va_G) (B : Nat) (H0 : Heap) (w : jW) (x : Nat) (V : Nat → Value) (a : Int32) (b : Int32) (hx : w.1 x = some (.inr (8, V))) (h3 : V 3 = .int 0) : jMet l D B H0 y_CS_needed b_CS_needed 4 (some .int) 3 160 0 0 [.ref x, .int a, .int b] w (fun v w9 => v = some (.int (-2)) ∧ w = w9) := by
  refine j_met (by decide) (Nat.le_of_ble_eq_true rfl) (fun g C Rm Y E => ?_)
  have hk := jkz w
  show JJ g w 0 [(0, .ref x), (1, .int a), (2, .int b)] []
  refine j_blk 2 [(0, .ref x), (1, .int a), (2, .int b)] [.int a, .ref x] C k_c_CS_needed_0_2 rfl ?_
  refine j_callV C Rm Y [.int a] [] (c_CS_isProgram l D B H0 w a _ x hx h3) cl_CS_94 (by rfl) (by rfl) hx d_c_CS_needed_2 rfl rfl (Nat.le_of_ble_eq_true rfl) ⟨by decide, by decide⟩ ⟨jroom hk.1 rfl, jroom hk.2 rfl⟩ (fun v1 w_1 pw_1 => ?_)
  obtain ⟨rfl, rfl⟩ := pw_1
  show JJ g w 5 [(0, .ref x), (1, .int a), (2, .int b)] [.int 0]
  refine j_if_eq (tgt := 15) C d_c_CS_needed_5 (by decide) (fun c2 => ?_) (fun c2 => absurd (by decide) c2)
  refine j_blk 17 [(0, .ref x), (1, .int a), (2, .int b)] [.int (-2)] C k_c_CS_needed_15_1 rfl ?_
  exact j_iret C Rm E d_c_CS_needed_17 ⟨rfl, rfl⟩ (jbnd hk.1 rfl) (jbnd hk.2 rfl)

theorem k_c_CS_peak_0_2 : sblk b_CS_peak [(0, .aload_n 0, .null), (1, .iload_n 1, .null)] := sblk_of (by decide +kernel)
theorem d_c_CS_peak_2 : decode b_CS_peak 2 = .ok (.invokevirtual 94, 3) := by decide +kernel
theorem d_c_CS_peak_5 : decode b_CS_peak 5 = .ok (.ifCond .eq 15, 3) := by decide +kernel
theorem k_c_CS_peak_20_1 : sblk b_CS_peak [(20, .bipush (-2), .int (-2))] := sblk_of (by decide +kernel)
theorem d_c_CS_peak_22 : decode b_CS_peak 22 = .ok (.ireturn, 1) := by decide +kernel
set_option maxHeartbeats 40000000 in
set_option maxRecDepth 100000 in
theorem c_CS_peak (l : Launch) (D : va_G) (B : Nat) (H0 : Heap) (w : jW) (x : Nat) (V : Nat → Value) (a : Int32) (b : Int32) (hx : w.1 x = some (.inr (8, V))) (h3 : V 3 = .int 0) : jMet l D B H0 y_CS_peak b_CS_peak 3 (some .int) 3 160 0 0 [.ref x, .int a, .int b] w (fun v w9 => v = some (.int (-2)) ∧ w = w9) := by
  refine j_met (by decide) (Nat.le_of_ble_eq_true rfl) (fun g C Rm Y E => ?_)
  have hk := jkz w
  show JJ g w 0 [(0, .ref x), (1, .int a), (2, .int b)] []
  refine j_blk 2 [(0, .ref x), (1, .int a), (2, .int b)] [.int a, .ref x] C k_c_CS_peak_0_2 rfl ?_
  refine j_callV C Rm Y [.int a] [] (c_CS_isProgram l D B H0 w a _ x hx h3) cl_CS_94 (by rfl) (by rfl) hx d_c_CS_peak_2 rfl rfl (Nat.le_of_ble_eq_true rfl) ⟨by decide, by decide⟩ ⟨jroom hk.1 rfl, jroom hk.2 rfl⟩ (fun v1 w_1 pw_1 => ?_)
  obtain ⟨rfl, rfl⟩ := pw_1
  show JJ g w 5 [(0, .ref x), (1, .int a), (2, .int b)] [.int 0]
  refine j_if_eq (tgt := 20) C d_c_CS_peak_5 (by decide) (fun c2 => ?_) (fun c2 => absurd (by decide) c2)
  refine j_blk 22 [(0, .ref x), (1, .int a), (2, .int b)] [.int (-2)] C k_c_CS_peak_20_1 rfl ?_
  exact j_iret C Rm E d_c_CS_peak_22 ⟨rfl, rfl⟩ (jbnd hk.1 rfl) (jbnd hk.2 rfl)

theorem k_c_CS_alike_0_2 : sblk b_CS_alike [(0, .aload_n 0, .null), (1, .iload_n 1, .null)] := sblk_of (by decide +kernel)
theorem d_c_CS_alike_2 : decode b_CS_alike 2 = .ok (.invokevirtual 94, 3) := by decide +kernel
theorem d_c_CS_alike_5 : decode b_CS_alike 5 = .ok (.ifCond .eq 11, 3) := by decide +kernel
theorem k_c_CS_alike_16_1 : sblk b_CS_alike [(16, .bipush (-2), .int (-2))] := sblk_of (by decide +kernel)
theorem d_c_CS_alike_18 : decode b_CS_alike 18 = .ok (.ireturn, 1) := by decide +kernel
set_option maxHeartbeats 40000000 in
set_option maxRecDepth 100000 in
theorem c_CS_alike (l : Launch) (D : va_G) (B : Nat) (H0 : Heap) (w : jW) (x : Nat) (V : Nat → Value) (a : Int32) (b : Int32) (hx : w.1 x = some (.inr (8, V))) (h3 : V 3 = .int 0) : jMet l D B H0 y_CS_alike b_CS_alike 7 (some .int) 3 160 0 0 [.ref x, .int a, .int b] w (fun v w9 => v = some (.int (-2)) ∧ w = w9) := by
  refine j_met (by decide) (Nat.le_of_ble_eq_true rfl) (fun g C Rm Y E => ?_)
  have hk := jkz w
  show JJ g w 0 [(0, .ref x), (1, .int a), (2, .int b)] []
  refine j_blk 2 [(0, .ref x), (1, .int a), (2, .int b)] [.int a, .ref x] C k_c_CS_alike_0_2 rfl ?_
  refine j_callV C Rm Y [.int a] [] (c_CS_isProgram l D B H0 w a _ x hx h3) cl_CS_94 (by rfl) (by rfl) hx d_c_CS_alike_2 rfl rfl (Nat.le_of_ble_eq_true rfl) ⟨by decide, by decide⟩ ⟨jroom hk.1 rfl, jroom hk.2 rfl⟩ (fun v1 w_1 pw_1 => ?_)
  obtain ⟨rfl, rfl⟩ := pw_1
  show JJ g w 5 [(0, .ref x), (1, .int a), (2, .int b)] [.int 0]
  refine j_if_eq (tgt := 16) C d_c_CS_alike_5 (by decide) (fun c2 => ?_) (fun c2 => absurd (by decide) c2)
  refine j_blk 18 [(0, .ref x), (1, .int a), (2, .int b)] [.int (-2)] C k_c_CS_alike_16_1 rfl ?_
  exact j_iret C Rm E d_c_CS_alike_18 ⟨rfl, rfl⟩ (jbnd hk.1 rfl) (jbnd hk.2 rfl)

theorem k_c_CS_comes_0_2 : sblk b_CS_comes [(0, .aload_n 0, .null), (1, .iload_n 1, .null)] := sblk_of (by decide +kernel)
theorem d_c_CS_comes_2 : decode b_CS_comes 2 = .ok (.invokevirtual 94, 3) := by decide +kernel
theorem d_c_CS_comes_5 : decode b_CS_comes 5 = .ok (.ifCond .ne 6, 3) := by decide +kernel
theorem k_c_CS_comes_8_1 : sblk b_CS_comes [(8, .bipush (-2), .int (-2))] := sblk_of (by decide +kernel)
theorem d_c_CS_comes_10 : decode b_CS_comes 10 = .ok (.ireturn, 1) := by decide +kernel
set_option maxHeartbeats 40000000 in
set_option maxRecDepth 100000 in
theorem c_CS_comes (l : Launch) (D : va_G) (B : Nat) (H0 : Heap) (w : jW) (x : Nat) (V : Nat → Value) (a : Int32) (b : Int32) (hx : w.1 x = some (.inr (8, V))) (h3 : V 3 = .int 0) : jMet l D B H0 y_CS_comes b_CS_comes 4 (some .int) 3 160 0 0 [.ref x, .int a, .int b] w (fun v w9 => v = some (.int (-2)) ∧ w = w9) := by
  refine j_met (by decide) (Nat.le_of_ble_eq_true rfl) (fun g C Rm Y E => ?_)
  have hk := jkz w
  show JJ g w 0 [(0, .ref x), (1, .int a), (2, .int b)] []
  refine j_blk 2 [(0, .ref x), (1, .int a), (2, .int b)] [.int a, .ref x] C k_c_CS_comes_0_2 rfl ?_
  refine j_callV C Rm Y [.int a] [] (c_CS_isProgram l D B H0 w a _ x hx h3) cl_CS_94 (by rfl) (by rfl) hx d_c_CS_comes_2 rfl rfl (Nat.le_of_ble_eq_true rfl) ⟨by decide, by decide⟩ ⟨jroom hk.1 rfl, jroom hk.2 rfl⟩ (fun v1 w_1 pw_1 => ?_)
  obtain ⟨rfl, rfl⟩ := pw_1
  show JJ g w 5 [(0, .ref x), (1, .int a), (2, .int b)] [.int 0]
  refine j_if_ne (tgt := 11) C d_c_CS_comes_5 (by decide) (fun c2 => absurd (by decide) c2) (fun c2 => ?_)
  refine j_blk 10 [(0, .ref x), (1, .int a), (2, .int b)] [.int (-2)] C k_c_CS_comes_8_1 rfl ?_
  exact j_iret C Rm E d_c_CS_comes_10 ⟨rfl, rfl⟩ (jbnd hk.1 rfl) (jbnd hk.2 rfl)

theorem k_c_CS_often_0_2 : sblk b_CS_often [(0, .aload_n 0, .null), (1, .iload_n 1, .null)] := sblk_of (by decide +kernel)
theorem d_c_CS_often_2 : decode b_CS_often 2 = .ok (.invokevirtual 94, 3) := by decide +kernel
theorem d_c_CS_often_5 : decode b_CS_often 5 = .ok (.ifCond .eq 38, 3) := by decide +kernel
theorem k_c_CS_often_43_1 : sblk b_CS_often [(43, .bipush (-2), .int (-2))] := sblk_of (by decide +kernel)
theorem d_c_CS_often_45 : decode b_CS_often 45 = .ok (.ireturn, 1) := by decide +kernel
set_option maxHeartbeats 40000000 in
set_option maxRecDepth 100000 in
theorem c_CS_often (l : Launch) (D : va_G) (B : Nat) (H0 : Heap) (w : jW) (x : Nat) (V : Nat → Value) (a : Int32) (b : Int32) (c : Int32) (d : Int32) (e : Int32) (f : Int32) (hx : w.1 x = some (.inr (8, V))) (h3 : V 3 = .int 0) : jMet l D B H0 y_CS_often b_CS_often 11 (some .int) 3 160 0 0 [.ref x, .int a, .int b, .int c, .int d, .int e, .int f] w (fun v w9 => v = some (.int (-2)) ∧ w = w9) := by
  refine j_met (by decide) (Nat.le_of_ble_eq_true rfl) (fun g C Rm Y E => ?_)
  have hk := jkz w
  show JJ g w 0 [(0, .ref x), (1, .int a), (2, .int b), (3, .int c), (4, .int d), (5, .int e), (6, .int f)] []
  refine j_blk 2 [(0, .ref x), (1, .int a), (2, .int b), (3, .int c), (4, .int d), (5, .int e), (6, .int f)] [.int a, .ref x] C k_c_CS_often_0_2 rfl ?_
  refine j_callV C Rm Y [.int a] [] (c_CS_isProgram l D B H0 w a _ x hx h3) cl_CS_94 (by rfl) (by rfl) hx d_c_CS_often_2 rfl rfl (Nat.le_of_ble_eq_true rfl) ⟨by decide, by decide⟩ ⟨jroom hk.1 rfl, jroom hk.2 rfl⟩ (fun v1 w_1 pw_1 => ?_)
  obtain ⟨rfl, rfl⟩ := pw_1
  show JJ g w 5 [(0, .ref x), (1, .int a), (2, .int b), (3, .int c), (4, .int d), (5, .int e), (6, .int f)] [.int 0]
  refine j_if_eq (tgt := 43) C d_c_CS_often_5 (by decide) (fun c2 => ?_) (fun c2 => absurd (by decide) c2)
  refine j_blk 45 [(0, .ref x), (1, .int a), (2, .int b), (3, .int c), (4, .int d), (5, .int e), (6, .int f)] [.int (-2)] C k_c_CS_often_43_1 rfl ?_
  exact j_iret C Rm E d_c_CS_often_45 ⟨rfl, rfl⟩ (jbnd hk.1 rfl) (jbnd hk.2 rfl)

theorem k_c_CS_tells_0_1 : sblk b_CS_tells [(0, .iload_n 1, .null)] := sblk_of (by decide +kernel)
theorem d_c_CS_tells_1 : decode b_CS_tells 1 = .ok (.invokestatic 200, 3) := by decide +kernel
theorem d_c_CS_tells_4 : decode b_CS_tells 4 = .ok (.ifCond .eq 29, 3) := by decide +kernel
theorem k_c_CS_tells_33_1 : sblk b_CS_tells [(33, .bipush (-2), .int (-2))] := sblk_of (by decide +kernel)
theorem d_c_CS_tells_35 : decode b_CS_tells 35 = .ok (.ireturn, 1) := by decide +kernel
theorem k_c_CS_tells_7_2 : sblk b_CS_tells [(7, .aload_n 0, .null), (8, .iload_n 2, .null)] := sblk_of (by decide +kernel)
theorem d_c_CS_tells_9 : decode b_CS_tells 9 = .ok (.invokevirtual 94, 3) := by decide +kernel
theorem d_c_CS_tells_12 : decode b_CS_tells 12 = .ok (.ifCond .eq 21, 3) := by decide +kernel
set_option maxHeartbeats 40000000 in
set_option maxRecDepth 100000 in
theorem c_CS_tells (l : Launch) (D : va_G) (B : Nat) (H0 : Heap) (w : jW) (x : Nat) (V : Nat → Value) (a : Int32) (b : Int32) (c : Int32) (d : Int32) (hx : w.1 x = some (.inr (8, V))) (h3 : V 3 = .int 0) : jMet l D B H0 y_CS_tells b_CS_tells 7 (some .int) 3 160 0 0 [.ref x, .int a, .int b, .int c, .int d] w (fun v w9 => v = some (.int (-2)) ∧ w = w9) := by
  refine j_met (by decide) (Nat.le_of_ble_eq_true rfl) (fun g C Rm Y E => ?_)
  have hk := jkz w
  show JJ g w 0 [(0, .ref x), (1, .int a), (2, .int b), (3, .int c), (4, .int d)] []
  refine j_blk 1 [(0, .ref x), (1, .int a), (2, .int b), (3, .int c), (4, .int d)] [.int a] C k_c_CS_tells_0_1 rfl ?_
  refine j_callS (As := [.int a]) C Rm Y [] (c_CS_isSheet l D B H0 w a) cl_CS_200 d_c_CS_tells_1 rfl rfl (Nat.le_of_ble_eq_true rfl) ⟨by decide, by decide⟩ ⟨jroom hk.1 rfl, jroom hk.2 rfl⟩ (fun v1 w_1 pw_1 => ?_)
  obtain ⟨rfl, rfl⟩ := pw_1
  show JJ g w 4 [(0, .ref x), (1, .int a), (2, .int b), (3, .int c), (4, .int d)] [.int (if 0 ≤ a.toInt ∧ a.toInt < 4 then 1 else 0)]
  refine j_if_eq (tgt := 33) C d_c_CS_tells_4 (by decide) (fun c2 => ?_) (fun c2 => ?_)
  · have c2 := jbz.mp c2
    refine j_blk 35 [(0, .ref x), (1, .int a), (2, .int b), (3, .int c), (4, .int d)] [.int (-2)] C k_c_CS_tells_33_1 rfl ?_
    exact j_iret C Rm E d_c_CS_tells_35 ⟨rfl, rfl⟩ (jbnd hk.1 rfl) (jbnd hk.2 rfl)
  · have c2 := jbo.mp c2
    refine j_blk 9 [(0, .ref x), (1, .int a), (2, .int b), (3, .int c), (4, .int d)] [.int b, .ref x] C k_c_CS_tells_7_2 rfl ?_
    refine j_callV C Rm Y [.int b] [] (c_CS_isProgram l D B H0 w b _ x hx h3) cl_CS_94 (by rfl) (by rfl) hx d_c_CS_tells_9 rfl rfl (Nat.le_of_ble_eq_true rfl) ⟨by decide, by decide⟩ ⟨jroom hk.1 rfl, jroom hk.2 rfl⟩ (fun v3 w_2 pw_2 => ?_)
    obtain ⟨rfl, rfl⟩ := pw_2
    show JJ g w 12 [(0, .ref x), (1, .int a), (2, .int b), (3, .int c), (4, .int d)] [.int 0]
    refine j_if_eq (tgt := 33) C d_c_CS_tells_12 (by decide) (fun c4 => ?_) (fun c4 => absurd (by decide) c4)
    refine j_blk 35 [(0, .ref x), (1, .int a), (2, .int b), (3, .int c), (4, .int d)] [.int (-2)] C k_c_CS_tells_33_1 rfl ?_
    exact j_iret C Rm E d_c_CS_tells_35 ⟨rfl, rfl⟩ (jbnd hk.1 rfl) (jbnd hk.2 rfl)

theorem k_c_CS_film_0_1 : sblk b_CS_film [(0, .iload_n 1, .null)] := sblk_of (by decide +kernel)
theorem d_c_CS_film_1 : decode b_CS_film 1 = .ok (.invokestatic 200, 3) := by decide +kernel
theorem d_c_CS_film_4 : decode b_CS_film 4 = .ok (.ifCond .eq 18, 3) := by decide +kernel
theorem k_c_CS_film_22_1 : sblk b_CS_film [(22, .bipush (-2), .int (-2))] := sblk_of (by decide +kernel)
theorem d_c_CS_film_24 : decode b_CS_film 24 = .ok (.ireturn, 1) := by decide +kernel
theorem k_c_CS_film_7_2 : sblk b_CS_film [(7, .aload_n 0, .null), (8, .iload_n 2, .null)] := sblk_of (by decide +kernel)
theorem d_c_CS_film_9 : decode b_CS_film 9 = .ok (.invokevirtual 94, 3) := by decide +kernel
theorem d_c_CS_film_12 : decode b_CS_film 12 = .ok (.ifCond .eq 10, 3) := by decide +kernel
set_option maxHeartbeats 40000000 in
set_option maxRecDepth 100000 in
theorem c_CS_film (l : Launch) (D : va_G) (B : Nat) (H0 : Heap) (w : jW) (x : Nat) (V : Nat → Value) (a : Int32) (b : Int32) (c : Int32) (hx : w.1 x = some (.inr (8, V))) (h3 : V 3 = .int 0) : jMet l D B H0 y_CS_film b_CS_film 7 (some .int) 3 160 0 0 [.ref x, .int a, .int b, .int c] w (fun v w9 => v = some (.int (-2)) ∧ w = w9) := by
  refine j_met (by decide) (Nat.le_of_ble_eq_true rfl) (fun g C Rm Y E => ?_)
  have hk := jkz w
  show JJ g w 0 [(0, .ref x), (1, .int a), (2, .int b), (3, .int c)] []
  refine j_blk 1 [(0, .ref x), (1, .int a), (2, .int b), (3, .int c)] [.int a] C k_c_CS_film_0_1 rfl ?_
  refine j_callS (As := [.int a]) C Rm Y [] (c_CS_isSheet l D B H0 w a) cl_CS_200 d_c_CS_film_1 rfl rfl (Nat.le_of_ble_eq_true rfl) ⟨by decide, by decide⟩ ⟨jroom hk.1 rfl, jroom hk.2 rfl⟩ (fun v1 w_1 pw_1 => ?_)
  obtain ⟨rfl, rfl⟩ := pw_1
  show JJ g w 4 [(0, .ref x), (1, .int a), (2, .int b), (3, .int c)] [.int (if 0 ≤ a.toInt ∧ a.toInt < 4 then 1 else 0)]
  refine j_if_eq (tgt := 22) C d_c_CS_film_4 (by decide) (fun c2 => ?_) (fun c2 => ?_)
  · have c2 := jbz.mp c2
    refine j_blk 24 [(0, .ref x), (1, .int a), (2, .int b), (3, .int c)] [.int (-2)] C k_c_CS_film_22_1 rfl ?_
    exact j_iret C Rm E d_c_CS_film_24 ⟨rfl, rfl⟩ (jbnd hk.1 rfl) (jbnd hk.2 rfl)
  · have c2 := jbo.mp c2
    refine j_blk 9 [(0, .ref x), (1, .int a), (2, .int b), (3, .int c)] [.int b, .ref x] C k_c_CS_film_7_2 rfl ?_
    refine j_callV C Rm Y [.int b] [] (c_CS_isProgram l D B H0 w b _ x hx h3) cl_CS_94 (by rfl) (by rfl) hx d_c_CS_film_9 rfl rfl (Nat.le_of_ble_eq_true rfl) ⟨by decide, by decide⟩ ⟨jroom hk.1 rfl, jroom hk.2 rfl⟩ (fun v3 w_2 pw_2 => ?_)
    obtain ⟨rfl, rfl⟩ := pw_2
    show JJ g w 12 [(0, .ref x), (1, .int a), (2, .int b), (3, .int c)] [.int 0]
    refine j_if_eq (tgt := 22) C d_c_CS_film_12 (by decide) (fun c4 => ?_) (fun c4 => absurd (by decide) c4)
    refine j_blk 24 [(0, .ref x), (1, .int a), (2, .int b), (3, .int c)] [.int (-2)] C k_c_CS_film_22_1 rfl ?_
    exact j_iret C Rm E d_c_CS_film_24 ⟨rfl, rfl⟩ (jbnd hk.1 rfl) (jbnd hk.2 rfl)

theorem k_c_Mo_told_0_2 : sblk b_Mo_told [(0, .aload_n 0, .null), (1, .iload_n 1, .null)] := sblk_of (by decide +kernel)
theorem d_c_Mo_told_2 : decode b_Mo_told 2 = .ok (.invokevirtual 364, 3) := by decide +kernel
theorem d_c_Mo_told_5 : decode b_Mo_told 5 = .ok (.ifCond .eq 13, 3) := by decide +kernel
theorem k_c_Mo_told_18_1 : sblk b_Mo_told [(18, .bipush (-2), .int (-2))] := sblk_of (by decide +kernel)
theorem d_c_Mo_told_20 : decode b_Mo_told 20 = .ok (.ireturn, 1) := by decide +kernel
set_option maxHeartbeats 40000000 in
set_option maxRecDepth 100000 in
theorem c_Mo_told (l : Launch) (D : va_G) (B : Nat) (H0 : Heap) (w : jW) (x : Nat) (V : Nat → Value) (a : Int32) (b : Int32) (hx : w.1 x = some (.inr (10, V))) (h0 : V 0 = .int 0) : jMet l D B H0 y_Mo_told b_Mo_told 5 (some .int) 3 160 0 0 [.ref x, .int a, .int b] w (fun v w9 => v = some (.int (-2)) ∧ w = w9) := by
  refine j_met (by decide) (Nat.le_of_ble_eq_true rfl) (fun g C Rm Y E => ?_)
  have hk := jkz w
  show JJ g w 0 [(0, .ref x), (1, .int a), (2, .int b)] []
  refine j_blk 2 [(0, .ref x), (1, .int a), (2, .int b)] [.int a, .ref x] C k_c_Mo_told_0_2 rfl ?_
  refine j_callV C Rm Y [.int a] [] (c_Mo_isProgram l D B H0 w a _ x hx h0) cl_Mo_364 (by rfl) (by rfl) hx d_c_Mo_told_2 rfl rfl (Nat.le_of_ble_eq_true rfl) ⟨by decide, by decide⟩ ⟨jroom hk.1 rfl, jroom hk.2 rfl⟩ (fun v1 w_1 pw_1 => ?_)
  obtain ⟨rfl, rfl⟩ := pw_1
  show JJ g w 5 [(0, .ref x), (1, .int a), (2, .int b)] [.int 0]
  refine j_if_eq (tgt := 18) C d_c_Mo_told_5 (by decide) (fun c2 => ?_) (fun c2 => absurd (by decide) c2)
  refine j_blk 20 [(0, .ref x), (1, .int a), (2, .int b)] [.int (-2)] C k_c_Mo_told_18_1 rfl ?_
  exact j_iret C Rm E d_c_Mo_told_20 ⟨rfl, rfl⟩ (jbnd hk.1 rfl) (jbnd hk.2 rfl)

theorem k_c_Mo_step_1_0_2 : sblk b_Mo_step_1 [(0, .aload_n 0, .null), (1, .iload_n 1, .null)] := sblk_of (by decide +kernel)
theorem d_c_Mo_step_1_2 : decode b_Mo_step_1 2 = .ok (.invokevirtual 364, 3) := by decide +kernel
theorem d_c_Mo_step_1_5 : decode b_Mo_step_1 5 = .ok (.ifCond .eq 12, 3) := by decide +kernel
theorem k_c_Mo_step_1_17_1 : sblk b_Mo_step_1 [(17, .bipush (-2), .int (-2))] := sblk_of (by decide +kernel)
theorem d_c_Mo_step_1_19 : decode b_Mo_step_1 19 = .ok (.ireturn, 1) := by decide +kernel
set_option maxHeartbeats 40000000 in
set_option maxRecDepth 100000 in
theorem c_Mo_step_1 (l : Launch) (D : va_G) (B : Nat) (H0 : Heap) (w : jW) (x : Nat) (V : Nat → Value) (a : Int32) (b : Int32) (c : Int32) (hx : w.1 x = some (.inr (10, V))) (h0 : V 0 = .int 0) : jMet l D B H0 y_Mo_step_1 b_Mo_step_1 4 (some .int) 3 160 0 0 [.ref x, .int a, .int b, .int c] w (fun v w9 => v = some (.int (-2)) ∧ w = w9) := by
  refine j_met (by decide) (Nat.le_of_ble_eq_true rfl) (fun g C Rm Y E => ?_)
  have hk := jkz w
  show JJ g w 0 [(0, .ref x), (1, .int a), (2, .int b), (3, .int c)] []
  refine j_blk 2 [(0, .ref x), (1, .int a), (2, .int b), (3, .int c)] [.int a, .ref x] C k_c_Mo_step_1_0_2 rfl ?_
  refine j_callV C Rm Y [.int a] [] (c_Mo_isProgram l D B H0 w a _ x hx h0) cl_Mo_364 (by rfl) (by rfl) hx d_c_Mo_step_1_2 rfl rfl (Nat.le_of_ble_eq_true rfl) ⟨by decide, by decide⟩ ⟨jroom hk.1 rfl, jroom hk.2 rfl⟩ (fun v1 w_1 pw_1 => ?_)
  obtain ⟨rfl, rfl⟩ := pw_1
  show JJ g w 5 [(0, .ref x), (1, .int a), (2, .int b), (3, .int c)] [.int 0]
  refine j_if_eq (tgt := 17) C d_c_Mo_step_1_5 (by decide) (fun c2 => ?_) (fun c2 => absurd (by decide) c2)
  refine j_blk 19 [(0, .ref x), (1, .int a), (2, .int b), (3, .int c)] [.int (-2)] C k_c_Mo_step_1_17_1 rfl ?_
  exact j_iret C Rm E d_c_Mo_step_1_19 ⟨rfl, rfl⟩ (jbnd hk.1 rfl) (jbnd hk.2 rfl)

theorem k_c_Mo_taken_1_0_2 : sblk b_Mo_taken_1 [(0, .aload_n 0, .null), (1, .iload_n 1, .null)] := sblk_of (by decide +kernel)
theorem d_c_Mo_taken_1_2 : decode b_Mo_taken_1 2 = .ok (.invokevirtual 364, 3) := by decide +kernel
theorem d_c_Mo_taken_1_5 : decode b_Mo_taken_1 5 = .ok (.ifCond .eq 12, 3) := by decide +kernel
theorem k_c_Mo_taken_1_17_1 : sblk b_Mo_taken_1 [(17, .bipush (-2), .int (-2))] := sblk_of (by decide +kernel)
theorem d_c_Mo_taken_1_19 : decode b_Mo_taken_1 19 = .ok (.ireturn, 1) := by decide +kernel
set_option maxHeartbeats 40000000 in
set_option maxRecDepth 100000 in
theorem c_Mo_taken_1 (l : Launch) (D : va_G) (B : Nat) (H0 : Heap) (w : jW) (x : Nat) (V : Nat → Value) (a : Int32) (b : Int32) (c : Int32) (hx : w.1 x = some (.inr (10, V))) (h0 : V 0 = .int 0) : jMet l D B H0 y_Mo_taken_1 b_Mo_taken_1 6 (some .int) 3 160 0 0 [.ref x, .int a, .int b, .int c] w (fun v w9 => v = some (.int (-2)) ∧ w = w9) := by
  refine j_met (by decide) (Nat.le_of_ble_eq_true rfl) (fun g C Rm Y E => ?_)
  have hk := jkz w
  show JJ g w 0 [(0, .ref x), (1, .int a), (2, .int b), (3, .int c)] []
  refine j_blk 2 [(0, .ref x), (1, .int a), (2, .int b), (3, .int c)] [.int a, .ref x] C k_c_Mo_taken_1_0_2 rfl ?_
  refine j_callV C Rm Y [.int a] [] (c_Mo_isProgram l D B H0 w a _ x hx h0) cl_Mo_364 (by rfl) (by rfl) hx d_c_Mo_taken_1_2 rfl rfl (Nat.le_of_ble_eq_true rfl) ⟨by decide, by decide⟩ ⟨jroom hk.1 rfl, jroom hk.2 rfl⟩ (fun v1 w_1 pw_1 => ?_)
  obtain ⟨rfl, rfl⟩ := pw_1
  show JJ g w 5 [(0, .ref x), (1, .int a), (2, .int b), (3, .int c)] [.int 0]
  refine j_if_eq (tgt := 17) C d_c_Mo_taken_1_5 (by decide) (fun c2 => ?_) (fun c2 => absurd (by decide) c2)
  refine j_blk 19 [(0, .ref x), (1, .int a), (2, .int b), (3, .int c)] [.int (-2)] C k_c_Mo_taken_1_17_1 rfl ?_
  exact j_iret C Rm E d_c_Mo_taken_1_19 ⟨rfl, rfl⟩ (jbnd hk.1 rfl) (jbnd hk.2 rfl)

theorem k_c_Mo_left_0_2 : sblk b_Mo_left [(0, .aload_n 0, .null), (1, .iload_n 1, .null)] := sblk_of (by decide +kernel)
theorem d_c_Mo_left_2 : decode b_Mo_left 2 = .ok (.invokevirtual 364, 3) := by decide +kernel
theorem d_c_Mo_left_5 : decode b_Mo_left 5 = .ok (.ifCond .eq 12, 3) := by decide +kernel
theorem d_c_Mo_left_17 : decode b_Mo_left 17 = .ok (.ldc2_w 370, 3) := by decide +kernel
theorem d_c_Mo_left_20 : decode b_Mo_left 20 = .ok (.lreturn, 1) := by decide +kernel
set_option maxHeartbeats 40000000 in
set_option maxRecDepth 100000 in
theorem c_Mo_left (l : Launch) (D : va_G) (B : Nat) (H0 : Heap) (w : jW) (x : Nat) (V : Nat → Value) (a : Int32) (b : Int32) (hx : w.1 x = some (.inr (10, V))) (h0 : V 0 = .int 0) : jMet l D B H0 y_Mo_left b_Mo_left 4 (some .long) 3 160 0 0 [.ref x, .int a, .int b] w (fun v w9 => v = some (.long (-4611686018427387904)) ∧ w = w9) := by
  refine j_met (by decide) (Nat.le_of_ble_eq_true rfl) (fun g C Rm Y E => ?_)
  have hk := jkz w
  show JJ g w 0 [(0, .ref x), (1, .int a), (2, .int b)] []
  refine j_blk 2 [(0, .ref x), (1, .int a), (2, .int b)] [.int a, .ref x] C k_c_Mo_left_0_2 rfl ?_
  refine j_callV C Rm Y [.int a] [] (c_Mo_isProgram l D B H0 w a _ x hx h0) cl_Mo_364 (by rfl) (by rfl) hx d_c_Mo_left_2 rfl rfl (Nat.le_of_ble_eq_true rfl) ⟨by decide, by decide⟩ ⟨jroom hk.1 rfl, jroom hk.2 rfl⟩ (fun v1 w_1 pw_1 => ?_)
  obtain ⟨rfl, rfl⟩ := pw_1
  show JJ g w 5 [(0, .ref x), (1, .int a), (2, .int b)] [.int 0]
  refine j_if_eq (tgt := 17) C d_c_Mo_left_5 (by decide) (fun c2 => ?_) (fun c2 => absurd (by decide) c2)
  refine j_ldc2 C d_c_Mo_left_17 ld_Mo_370 ?_
  exact j_lret C Rm E d_c_Mo_left_20 ⟨rfl, rfl⟩ (jbnd hk.1 rfl) (jbnd hk.2 rfl)

theorem k_c_Mo_odds_1_0_2 : sblk b_Mo_odds_1 [(0, .aload_n 0, .null), (1, .iload_n 1, .null)] := sblk_of (by decide +kernel)
theorem d_c_Mo_odds_1_2 : decode b_Mo_odds_1 2 = .ok (.invokevirtual 364, 3) := by decide +kernel
theorem d_c_Mo_odds_1_5 : decode b_Mo_odds_1 5 = .ok (.ifCond .eq 30, 3) := by decide +kernel
theorem d_c_Mo_odds_1_35 : decode b_Mo_odds_1 35 = .ok (.ldc2_w 370, 3) := by decide +kernel
theorem d_c_Mo_odds_1_38 : decode b_Mo_odds_1 38 = .ok (.lreturn, 1) := by decide +kernel
set_option maxHeartbeats 40000000 in
set_option maxRecDepth 100000 in
theorem c_Mo_odds_1 (l : Launch) (D : va_G) (B : Nat) (H0 : Heap) (w : jW) (x : Nat) (V : Nat → Value) (a : Int32) (b : Int32) (c : Int32) (d : Int32) (hx : w.1 x = some (.inr (10, V))) (h0 : V 0 = .int 0) : jMet l D B H0 y_Mo_odds_1 b_Mo_odds_1 6 (some .long) 3 160 0 0 [.ref x, .int a, .int b, .int c, .int d] w (fun v w9 => v = some (.long (-4611686018427387904)) ∧ w = w9) := by
  refine j_met (by decide) (Nat.le_of_ble_eq_true rfl) (fun g C Rm Y E => ?_)
  have hk := jkz w
  show JJ g w 0 [(0, .ref x), (1, .int a), (2, .int b), (3, .int c), (4, .int d)] []
  refine j_blk 2 [(0, .ref x), (1, .int a), (2, .int b), (3, .int c), (4, .int d)] [.int a, .ref x] C k_c_Mo_odds_1_0_2 rfl ?_
  refine j_callV C Rm Y [.int a] [] (c_Mo_isProgram l D B H0 w a _ x hx h0) cl_Mo_364 (by rfl) (by rfl) hx d_c_Mo_odds_1_2 rfl rfl (Nat.le_of_ble_eq_true rfl) ⟨by decide, by decide⟩ ⟨jroom hk.1 rfl, jroom hk.2 rfl⟩ (fun v1 w_1 pw_1 => ?_)
  obtain ⟨rfl, rfl⟩ := pw_1
  show JJ g w 5 [(0, .ref x), (1, .int a), (2, .int b), (3, .int c), (4, .int d)] [.int 0]
  refine j_if_eq (tgt := 35) C d_c_Mo_odds_1_5 (by decide) (fun c2 => ?_) (fun c2 => absurd (by decide) c2)
  refine j_ldc2 C d_c_Mo_odds_1_35 ld_Mo_370 ?_
  exact j_lret C Rm E d_c_Mo_odds_1_38 ⟨rfl, rfl⟩ (jbnd hk.1 rfl) (jbnd hk.2 rfl)

theorem k_c_Mo_state_0_2 : sblk b_Mo_state [(0, .aload_n 0, .null), (1, .iload_n 1, .null)] := sblk_of (by decide +kernel)
theorem d_c_Mo_state_2 : decode b_Mo_state 2 = .ok (.invokevirtual 364, 3) := by decide +kernel
theorem d_c_Mo_state_5 : decode b_Mo_state 5 = .ok (.ifCond .eq 23, 3) := by decide +kernel
theorem d_c_Mo_state_28 : decode b_Mo_state 28 = .ok (.ldc2_w 370, 3) := by decide +kernel
theorem d_c_Mo_state_31 : decode b_Mo_state 31 = .ok (.lreturn, 1) := by decide +kernel
set_option maxHeartbeats 40000000 in
set_option maxRecDepth 100000 in
theorem c_Mo_state (l : Launch) (D : va_G) (B : Nat) (H0 : Heap) (w : jW) (x : Nat) (V : Nat → Value) (a : Int32) (b : Int32) (c : Int32) (hx : w.1 x = some (.inr (10, V))) (h0 : V 0 = .int 0) : jMet l D B H0 y_Mo_state b_Mo_state 8 (some .long) 3 160 0 0 [.ref x, .int a, .int b, .int c] w (fun v w9 => v = some (.long (-4611686018427387904)) ∧ w = w9) := by
  refine j_met (by decide) (Nat.le_of_ble_eq_true rfl) (fun g C Rm Y E => ?_)
  have hk := jkz w
  show JJ g w 0 [(0, .ref x), (1, .int a), (2, .int b), (3, .int c)] []
  refine j_blk 2 [(0, .ref x), (1, .int a), (2, .int b), (3, .int c)] [.int a, .ref x] C k_c_Mo_state_0_2 rfl ?_
  refine j_callV C Rm Y [.int a] [] (c_Mo_isProgram l D B H0 w a _ x hx h0) cl_Mo_364 (by rfl) (by rfl) hx d_c_Mo_state_2 rfl rfl (Nat.le_of_ble_eq_true rfl) ⟨by decide, by decide⟩ ⟨jroom hk.1 rfl, jroom hk.2 rfl⟩ (fun v1 w_1 pw_1 => ?_)
  obtain ⟨rfl, rfl⟩ := pw_1
  show JJ g w 5 [(0, .ref x), (1, .int a), (2, .int b), (3, .int c)] [.int 0]
  refine j_if_eq (tgt := 28) C d_c_Mo_state_5 (by decide) (fun c2 => ?_) (fun c2 => absurd (by decide) c2)
  refine j_ldc2 C d_c_Mo_state_28 ld_Mo_370 ?_
  exact j_lret C Rm E d_c_Mo_state_31 ⟨rfl, rfl⟩ (jbnd hk.1 rfl) (jbnd hk.2 rfl)

theorem k_c_Mo_fold_1_0_2 : sblk b_Mo_fold_1 [(0, .aload_n 0, .null), (1, .iload_n 1, .null)] := sblk_of (by decide +kernel)
theorem d_c_Mo_fold_1_2 : decode b_Mo_fold_1 2 = .ok (.invokevirtual 364, 3) := by decide +kernel
theorem d_c_Mo_fold_1_5 : decode b_Mo_fold_1 5 = .ok (.ifCond .eq 29, 3) := by decide +kernel
theorem d_c_Mo_fold_1_34 : decode b_Mo_fold_1 34 = .ok (.ldc2_w 370, 3) := by decide +kernel
theorem d_c_Mo_fold_1_37 : decode b_Mo_fold_1 37 = .ok (.lreturn, 1) := by decide +kernel
set_option maxHeartbeats 40000000 in
set_option maxRecDepth 100000 in
theorem c_Mo_fold_1 (l : Launch) (D : va_G) (B : Nat) (H0 : Heap) (w : jW) (x : Nat) (V : Nat → Value) (a : Int32) (b : Int32) (c : Int32) (d : Int32) (hx : w.1 x = some (.inr (10, V))) (h0 : V 0 = .int 0) : jMet l D B H0 y_Mo_fold_1 b_Mo_fold_1 9 (some .long) 3 160 0 0 [.ref x, .int a, .int b, .int c, .int d] w (fun v w9 => v = some (.long (-4611686018427387904)) ∧ w = w9) := by
  refine j_met (by decide) (Nat.le_of_ble_eq_true rfl) (fun g C Rm Y E => ?_)
  have hk := jkz w
  show JJ g w 0 [(0, .ref x), (1, .int a), (2, .int b), (3, .int c), (4, .int d)] []
  refine j_blk 2 [(0, .ref x), (1, .int a), (2, .int b), (3, .int c), (4, .int d)] [.int a, .ref x] C k_c_Mo_fold_1_0_2 rfl ?_
  refine j_callV C Rm Y [.int a] [] (c_Mo_isProgram l D B H0 w a _ x hx h0) cl_Mo_364 (by rfl) (by rfl) hx d_c_Mo_fold_1_2 rfl rfl (Nat.le_of_ble_eq_true rfl) ⟨by decide, by decide⟩ ⟨jroom hk.1 rfl, jroom hk.2 rfl⟩ (fun v1 w_1 pw_1 => ?_)
  obtain ⟨rfl, rfl⟩ := pw_1
  show JJ g w 5 [(0, .ref x), (1, .int a), (2, .int b), (3, .int c), (4, .int d)] [.int 0]
  refine j_if_eq (tgt := 34) C d_c_Mo_fold_1_5 (by decide) (fun c2 => ?_) (fun c2 => absurd (by decide) c2)
  refine j_ldc2 C d_c_Mo_fold_1_34 ld_Mo_370 ?_
  exact j_lret C Rm E d_c_Mo_fold_1_37 ⟨rfl, rfl⟩ (jbnd hk.1 rfl) (jbnd hk.2 rfl)

theorem k_c_Mo_likeliest_0_2 : sblk b_Mo_likeliest [(0, .aload_n 0, .null), (1, .iload_n 1, .null)] := sblk_of (by decide +kernel)
theorem d_c_Mo_likeliest_2 : decode b_Mo_likeliest 2 = .ok (.invokevirtual 364, 3) := by decide +kernel
theorem d_c_Mo_likeliest_5 : decode b_Mo_likeliest 5 = .ok (.ifCond .eq 13, 3) := by decide +kernel
theorem k_c_Mo_likeliest_18_1 : sblk b_Mo_likeliest [(18, .bipush (-2), .int (-2))] := sblk_of (by decide +kernel)
theorem d_c_Mo_likeliest_20 : decode b_Mo_likeliest 20 = .ok (.ireturn, 1) := by decide +kernel
set_option maxHeartbeats 40000000 in
set_option maxRecDepth 100000 in
theorem c_Mo_likeliest (l : Launch) (D : va_G) (B : Nat) (H0 : Heap) (w : jW) (x : Nat) (V : Nat → Value) (a : Int32) (b : Int32) (hx : w.1 x = some (.inr (10, V))) (h0 : V 0 = .int 0) : jMet l D B H0 y_Mo_likeliest b_Mo_likeliest 12 (some .int) 3 160 0 0 [.ref x, .int a, .int b] w (fun v w9 => v = some (.int (-2)) ∧ w = w9) := by
  refine j_met (by decide) (Nat.le_of_ble_eq_true rfl) (fun g C Rm Y E => ?_)
  have hk := jkz w
  show JJ g w 0 [(0, .ref x), (1, .int a), (2, .int b)] []
  refine j_blk 2 [(0, .ref x), (1, .int a), (2, .int b)] [.int a, .ref x] C k_c_Mo_likeliest_0_2 rfl ?_
  refine j_callV C Rm Y [.int a] [] (c_Mo_isProgram l D B H0 w a _ x hx h0) cl_Mo_364 (by rfl) (by rfl) hx d_c_Mo_likeliest_2 rfl rfl (Nat.le_of_ble_eq_true rfl) ⟨by decide, by decide⟩ ⟨jroom hk.1 rfl, jroom hk.2 rfl⟩ (fun v1 w_1 pw_1 => ?_)
  obtain ⟨rfl, rfl⟩ := pw_1
  show JJ g w 5 [(0, .ref x), (1, .int a), (2, .int b)] [.int 0]
  refine j_if_eq (tgt := 18) C d_c_Mo_likeliest_5 (by decide) (fun c2 => ?_) (fun c2 => absurd (by decide) c2)
  refine j_blk 20 [(0, .ref x), (1, .int a), (2, .int b)] [.int (-2)] C k_c_Mo_likeliest_18_1 rfl ?_
  exact j_iret C Rm E d_c_Mo_likeliest_20 ⟨rfl, rfl⟩ (jbnd hk.1 rfl) (jbnd hk.2 rfl)

theorem k_c_Mo_apart_0_2 : sblk b_Mo_apart [(0, .aload_n 0, .null), (1, .iload_n 1, .null)] := sblk_of (by decide +kernel)
theorem d_c_Mo_apart_2 : decode b_Mo_apart 2 = .ok (.invokevirtual 364, 3) := by decide +kernel
theorem d_c_Mo_apart_5 : decode b_Mo_apart 5 = .ok (.ifCond .eq 17, 3) := by decide +kernel
theorem k_c_Mo_apart_22_1 : sblk b_Mo_apart [(22, .bipush (-2), .int (-2))] := sblk_of (by decide +kernel)
theorem d_c_Mo_apart_24 : decode b_Mo_apart 24 = .ok (.ireturn, 1) := by decide +kernel
set_option maxHeartbeats 40000000 in
set_option maxRecDepth 100000 in
theorem c_Mo_apart (l : Launch) (D : va_G) (B : Nat) (H0 : Heap) (w : jW) (x : Nat) (V : Nat → Value) (a : Int32) (b : Int32) (c : Int32) (hx : w.1 x = some (.inr (10, V))) (h0 : V 0 = .int 0) : jMet l D B H0 y_Mo_apart b_Mo_apart 12 (some .int) 3 160 0 0 [.ref x, .int a, .int b, .int c] w (fun v w9 => v = some (.int (-2)) ∧ w = w9) := by
  refine j_met (by decide) (Nat.le_of_ble_eq_true rfl) (fun g C Rm Y E => ?_)
  have hk := jkz w
  show JJ g w 0 [(0, .ref x), (1, .int a), (2, .int b), (3, .int c)] []
  refine j_blk 2 [(0, .ref x), (1, .int a), (2, .int b), (3, .int c)] [.int a, .ref x] C k_c_Mo_apart_0_2 rfl ?_
  refine j_callV C Rm Y [.int a] [] (c_Mo_isProgram l D B H0 w a _ x hx h0) cl_Mo_364 (by rfl) (by rfl) hx d_c_Mo_apart_2 rfl rfl (Nat.le_of_ble_eq_true rfl) ⟨by decide, by decide⟩ ⟨jroom hk.1 rfl, jroom hk.2 rfl⟩ (fun v1 w_1 pw_1 => ?_)
  obtain ⟨rfl, rfl⟩ := pw_1
  show JJ g w 5 [(0, .ref x), (1, .int a), (2, .int b), (3, .int c)] [.int 0]
  refine j_if_eq (tgt := 22) C d_c_Mo_apart_5 (by decide) (fun c2 => ?_) (fun c2 => absurd (by decide) c2)
  refine j_blk 24 [(0, .ref x), (1, .int a), (2, .int b), (3, .int c)] [.int (-2)] C k_c_Mo_apart_22_1 rfl ?_
  exact j_iret C Rm E d_c_Mo_apart_24 ⟨rfl, rfl⟩ (jbnd hk.1 rfl) (jbnd hk.2 rfl)

theorem k_c_Mo_needed_0_2 : sblk b_Mo_needed [(0, .aload_n 0, .null), (1, .iload_n 1, .null)] := sblk_of (by decide +kernel)
theorem d_c_Mo_needed_2 : decode b_Mo_needed 2 = .ok (.invokevirtual 364, 3) := by decide +kernel
theorem d_c_Mo_needed_5 : decode b_Mo_needed 5 = .ok (.ifCond .eq 29, 3) := by decide +kernel
theorem k_c_Mo_needed_34_1 : sblk b_Mo_needed [(34, .bipush (-2), .int (-2))] := sblk_of (by decide +kernel)
theorem d_c_Mo_needed_36 : decode b_Mo_needed 36 = .ok (.ireturn, 1) := by decide +kernel
set_option maxHeartbeats 40000000 in
set_option maxRecDepth 100000 in
theorem c_Mo_needed (l : Launch) (D : va_G) (B : Nat) (H0 : Heap) (w : jW) (x : Nat) (V : Nat → Value) (a : Int32) (b : Int32) (hx : w.1 x = some (.inr (10, V))) (h0 : V 0 = .int 0) : jMet l D B H0 y_Mo_needed b_Mo_needed 3 (some .int) 3 160 0 0 [.ref x, .int a, .int b] w (fun v w9 => v = some (.int (-2)) ∧ w = w9) := by
  refine j_met (by decide) (Nat.le_of_ble_eq_true rfl) (fun g C Rm Y E => ?_)
  have hk := jkz w
  show JJ g w 0 [(0, .ref x), (1, .int a), (2, .int b)] []
  refine j_blk 2 [(0, .ref x), (1, .int a), (2, .int b)] [.int a, .ref x] C k_c_Mo_needed_0_2 rfl ?_
  refine j_callV C Rm Y [.int a] [] (c_Mo_isProgram l D B H0 w a _ x hx h0) cl_Mo_364 (by rfl) (by rfl) hx d_c_Mo_needed_2 rfl rfl (Nat.le_of_ble_eq_true rfl) ⟨by decide, by decide⟩ ⟨jroom hk.1 rfl, jroom hk.2 rfl⟩ (fun v1 w_1 pw_1 => ?_)
  obtain ⟨rfl, rfl⟩ := pw_1
  show JJ g w 5 [(0, .ref x), (1, .int a), (2, .int b)] [.int 0]
  refine j_if_eq (tgt := 34) C d_c_Mo_needed_5 (by decide) (fun c2 => ?_) (fun c2 => absurd (by decide) c2)
  refine j_blk 36 [(0, .ref x), (1, .int a), (2, .int b)] [.int (-2)] C k_c_Mo_needed_34_1 rfl ?_
  exact j_iret C Rm E d_c_Mo_needed_36 ⟨rfl, rfl⟩ (jbnd hk.1 rfl) (jbnd hk.2 rfl)

theorem k_c_Mo_peak_0_2 : sblk b_Mo_peak [(0, .aload_n 0, .null), (1, .iload_n 1, .null)] := sblk_of (by decide +kernel)
theorem d_c_Mo_peak_2 : decode b_Mo_peak 2 = .ok (.invokevirtual 364, 3) := by decide +kernel
theorem d_c_Mo_peak_5 : decode b_Mo_peak 5 = .ok (.ifCond .eq 13, 3) := by decide +kernel
theorem k_c_Mo_peak_18_1 : sblk b_Mo_peak [(18, .bipush (-2), .int (-2))] := sblk_of (by decide +kernel)
theorem d_c_Mo_peak_20 : decode b_Mo_peak 20 = .ok (.ireturn, 1) := by decide +kernel
set_option maxHeartbeats 40000000 in
set_option maxRecDepth 100000 in
theorem c_Mo_peak (l : Launch) (D : va_G) (B : Nat) (H0 : Heap) (w : jW) (x : Nat) (V : Nat → Value) (a : Int32) (b : Int32) (hx : w.1 x = some (.inr (10, V))) (h0 : V 0 = .int 0) : jMet l D B H0 y_Mo_peak b_Mo_peak 4 (some .int) 3 160 0 0 [.ref x, .int a, .int b] w (fun v w9 => v = some (.int (-2)) ∧ w = w9) := by
  refine j_met (by decide) (Nat.le_of_ble_eq_true rfl) (fun g C Rm Y E => ?_)
  have hk := jkz w
  show JJ g w 0 [(0, .ref x), (1, .int a), (2, .int b)] []
  refine j_blk 2 [(0, .ref x), (1, .int a), (2, .int b)] [.int a, .ref x] C k_c_Mo_peak_0_2 rfl ?_
  refine j_callV C Rm Y [.int a] [] (c_Mo_isProgram l D B H0 w a _ x hx h0) cl_Mo_364 (by rfl) (by rfl) hx d_c_Mo_peak_2 rfl rfl (Nat.le_of_ble_eq_true rfl) ⟨by decide, by decide⟩ ⟨jroom hk.1 rfl, jroom hk.2 rfl⟩ (fun v1 w_1 pw_1 => ?_)
  obtain ⟨rfl, rfl⟩ := pw_1
  show JJ g w 5 [(0, .ref x), (1, .int a), (2, .int b)] [.int 0]
  refine j_if_eq (tgt := 18) C d_c_Mo_peak_5 (by decide) (fun c2 => ?_) (fun c2 => absurd (by decide) c2)
  refine j_blk 20 [(0, .ref x), (1, .int a), (2, .int b)] [.int (-2)] C k_c_Mo_peak_18_1 rfl ?_
  exact j_iret C Rm E d_c_Mo_peak_20 ⟨rfl, rfl⟩ (jbnd hk.1 rfl) (jbnd hk.2 rfl)

theorem k_c_Mo_alike_0_2 : sblk b_Mo_alike [(0, .aload_n 0, .null), (1, .iload_n 1, .null)] := sblk_of (by decide +kernel)
theorem d_c_Mo_alike_2 : decode b_Mo_alike 2 = .ok (.invokevirtual 364, 3) := by decide +kernel
theorem d_c_Mo_alike_5 : decode b_Mo_alike 5 = .ok (.ifCond .eq 11, 3) := by decide +kernel
theorem k_c_Mo_alike_16_1 : sblk b_Mo_alike [(16, .bipush (-2), .int (-2))] := sblk_of (by decide +kernel)
theorem d_c_Mo_alike_18 : decode b_Mo_alike 18 = .ok (.ireturn, 1) := by decide +kernel
set_option maxHeartbeats 40000000 in
set_option maxRecDepth 100000 in
theorem c_Mo_alike (l : Launch) (D : va_G) (B : Nat) (H0 : Heap) (w : jW) (x : Nat) (V : Nat → Value) (a : Int32) (b : Int32) (hx : w.1 x = some (.inr (10, V))) (h0 : V 0 = .int 0) : jMet l D B H0 y_Mo_alike b_Mo_alike 8 (some .int) 3 160 0 0 [.ref x, .int a, .int b] w (fun v w9 => v = some (.int (-2)) ∧ w = w9) := by
  refine j_met (by decide) (Nat.le_of_ble_eq_true rfl) (fun g C Rm Y E => ?_)
  have hk := jkz w
  show JJ g w 0 [(0, .ref x), (1, .int a), (2, .int b)] []
  refine j_blk 2 [(0, .ref x), (1, .int a), (2, .int b)] [.int a, .ref x] C k_c_Mo_alike_0_2 rfl ?_
  refine j_callV C Rm Y [.int a] [] (c_Mo_isProgram l D B H0 w a _ x hx h0) cl_Mo_364 (by rfl) (by rfl) hx d_c_Mo_alike_2 rfl rfl (Nat.le_of_ble_eq_true rfl) ⟨by decide, by decide⟩ ⟨jroom hk.1 rfl, jroom hk.2 rfl⟩ (fun v1 w_1 pw_1 => ?_)
  obtain ⟨rfl, rfl⟩ := pw_1
  show JJ g w 5 [(0, .ref x), (1, .int a), (2, .int b)] [.int 0]
  refine j_if_eq (tgt := 16) C d_c_Mo_alike_5 (by decide) (fun c2 => ?_) (fun c2 => absurd (by decide) c2)
  refine j_blk 18 [(0, .ref x), (1, .int a), (2, .int b)] [.int (-2)] C k_c_Mo_alike_16_1 rfl ?_
  exact j_iret C Rm E d_c_Mo_alike_18 ⟨rfl, rfl⟩ (jbnd hk.1 rfl) (jbnd hk.2 rfl)

theorem k_c_Mo_comes_0_2 : sblk b_Mo_comes [(0, .aload_n 0, .null), (1, .iload_n 1, .null)] := sblk_of (by decide +kernel)
theorem d_c_Mo_comes_2 : decode b_Mo_comes 2 = .ok (.invokevirtual 364, 3) := by decide +kernel
theorem d_c_Mo_comes_5 : decode b_Mo_comes 5 = .ok (.ifCond .eq 12, 3) := by decide +kernel
theorem k_c_Mo_comes_17_1 : sblk b_Mo_comes [(17, .bipush (-2), .int (-2))] := sblk_of (by decide +kernel)
theorem d_c_Mo_comes_19 : decode b_Mo_comes 19 = .ok (.ireturn, 1) := by decide +kernel
set_option maxHeartbeats 40000000 in
set_option maxRecDepth 100000 in
theorem c_Mo_comes (l : Launch) (D : va_G) (B : Nat) (H0 : Heap) (w : jW) (x : Nat) (V : Nat → Value) (a : Int32) (b : Int32) (hx : w.1 x = some (.inr (10, V))) (h0 : V 0 = .int 0) : jMet l D B H0 y_Mo_comes b_Mo_comes 3 (some .int) 3 160 0 0 [.ref x, .int a, .int b] w (fun v w9 => v = some (.int (-2)) ∧ w = w9) := by
  refine j_met (by decide) (Nat.le_of_ble_eq_true rfl) (fun g C Rm Y E => ?_)
  have hk := jkz w
  show JJ g w 0 [(0, .ref x), (1, .int a), (2, .int b)] []
  refine j_blk 2 [(0, .ref x), (1, .int a), (2, .int b)] [.int a, .ref x] C k_c_Mo_comes_0_2 rfl ?_
  refine j_callV C Rm Y [.int a] [] (c_Mo_isProgram l D B H0 w a _ x hx h0) cl_Mo_364 (by rfl) (by rfl) hx d_c_Mo_comes_2 rfl rfl (Nat.le_of_ble_eq_true rfl) ⟨by decide, by decide⟩ ⟨jroom hk.1 rfl, jroom hk.2 rfl⟩ (fun v1 w_1 pw_1 => ?_)
  obtain ⟨rfl, rfl⟩ := pw_1
  show JJ g w 5 [(0, .ref x), (1, .int a), (2, .int b)] [.int 0]
  refine j_if_eq (tgt := 17) C d_c_Mo_comes_5 (by decide) (fun c2 => ?_) (fun c2 => absurd (by decide) c2)
  refine j_blk 19 [(0, .ref x), (1, .int a), (2, .int b)] [.int (-2)] C k_c_Mo_comes_17_1 rfl ?_
  exact j_iret C Rm E d_c_Mo_comes_19 ⟨rfl, rfl⟩ (jbnd hk.1 rfl) (jbnd hk.2 rfl)

theorem k_c_Mo_often_0_2 : sblk b_Mo_often [(0, .aload_n 0, .null), (1, .iload_n 1, .null)] := sblk_of (by decide +kernel)
theorem d_c_Mo_often_2 : decode b_Mo_often 2 = .ok (.invokevirtual 364, 3) := by decide +kernel
theorem d_c_Mo_often_5 : decode b_Mo_often 5 = .ok (.ifCond .eq 42, 3) := by decide +kernel
theorem k_c_Mo_often_47_1 : sblk b_Mo_often [(47, .bipush (-2), .int (-2))] := sblk_of (by decide +kernel)
theorem d_c_Mo_often_49 : decode b_Mo_often 49 = .ok (.ireturn, 1) := by decide +kernel
set_option maxHeartbeats 40000000 in
set_option maxRecDepth 100000 in
theorem c_Mo_often (l : Launch) (D : va_G) (B : Nat) (H0 : Heap) (w : jW) (x : Nat) (V : Nat → Value) (a : Int32) (b : Int32) (c : Int32) (d : Int32) (e : Int32) (f : Int32) (hx : w.1 x = some (.inr (10, V))) (h0 : V 0 = .int 0) : jMet l D B H0 y_Mo_often b_Mo_often 11 (some .int) 3 160 0 0 [.ref x, .int a, .int b, .int c, .int d, .int e, .int f] w (fun v w9 => v = some (.int (-2)) ∧ w = w9) := by
  refine j_met (by decide) (Nat.le_of_ble_eq_true rfl) (fun g C Rm Y E => ?_)
  have hk := jkz w
  show JJ g w 0 [(0, .ref x), (1, .int a), (2, .int b), (3, .int c), (4, .int d), (5, .int e), (6, .int f)] []
  refine j_blk 2 [(0, .ref x), (1, .int a), (2, .int b), (3, .int c), (4, .int d), (5, .int e), (6, .int f)] [.int a, .ref x] C k_c_Mo_often_0_2 rfl ?_
  refine j_callV C Rm Y [.int a] [] (c_Mo_isProgram l D B H0 w a _ x hx h0) cl_Mo_364 (by rfl) (by rfl) hx d_c_Mo_often_2 rfl rfl (Nat.le_of_ble_eq_true rfl) ⟨by decide, by decide⟩ ⟨jroom hk.1 rfl, jroom hk.2 rfl⟩ (fun v1 w_1 pw_1 => ?_)
  obtain ⟨rfl, rfl⟩ := pw_1
  show JJ g w 5 [(0, .ref x), (1, .int a), (2, .int b), (3, .int c), (4, .int d), (5, .int e), (6, .int f)] [.int 0]
  refine j_if_eq (tgt := 47) C d_c_Mo_often_5 (by decide) (fun c2 => ?_) (fun c2 => absurd (by decide) c2)
  refine j_blk 49 [(0, .ref x), (1, .int a), (2, .int b), (3, .int c), (4, .int d), (5, .int e), (6, .int f)] [.int (-2)] C k_c_Mo_often_47_1 rfl ?_
  exact j_iret C Rm E d_c_Mo_often_49 ⟨rfl, rfl⟩ (jbnd hk.1 rfl) (jbnd hk.2 rfl)

theorem k_c_Mo_tells_0_1 : sblk b_Mo_tells [(0, .iload_n 1, .null)] := sblk_of (by decide +kernel)
theorem d_c_Mo_tells_1 : decode b_Mo_tells 1 = .ok (.invokestatic 422, 3) := by decide +kernel
theorem d_c_Mo_tells_4 : decode b_Mo_tells 4 = .ok (.ifCond .eq 28, 3) := by decide +kernel
theorem k_c_Mo_tells_32_1 : sblk b_Mo_tells [(32, .bipush (-2), .int (-2))] := sblk_of (by decide +kernel)
theorem d_c_Mo_tells_34 : decode b_Mo_tells 34 = .ok (.ireturn, 1) := by decide +kernel
theorem k_c_Mo_tells_7_2 : sblk b_Mo_tells [(7, .aload_n 0, .null), (8, .iload_n 2, .null)] := sblk_of (by decide +kernel)
theorem d_c_Mo_tells_9 : decode b_Mo_tells 9 = .ok (.invokevirtual 364, 3) := by decide +kernel
theorem d_c_Mo_tells_12 : decode b_Mo_tells 12 = .ok (.ifCond .eq 20, 3) := by decide +kernel
set_option maxHeartbeats 40000000 in
set_option maxRecDepth 100000 in
theorem c_Mo_tells (l : Launch) (D : va_G) (B : Nat) (H0 : Heap) (w : jW) (x : Nat) (V : Nat → Value) (a : Int32) (b : Int32) (c : Int32) (d : Int32) (hx : w.1 x = some (.inr (10, V))) (h0 : V 0 = .int 0) : jMet l D B H0 y_Mo_tells b_Mo_tells 10 (some .int) 3 160 0 0 [.ref x, .int a, .int b, .int c, .int d] w (fun v w9 => v = some (.int (-2)) ∧ w = w9) := by
  refine j_met (by decide) (Nat.le_of_ble_eq_true rfl) (fun g C Rm Y E => ?_)
  have hk := jkz w
  show JJ g w 0 [(0, .ref x), (1, .int a), (2, .int b), (3, .int c), (4, .int d)] []
  refine j_blk 1 [(0, .ref x), (1, .int a), (2, .int b), (3, .int c), (4, .int d)] [.int a] C k_c_Mo_tells_0_1 rfl ?_
  refine j_callS (As := [.int a]) C Rm Y [] (c_Mo_isSheet l D B H0 w a) cl_Mo_422 d_c_Mo_tells_1 rfl rfl (Nat.le_of_ble_eq_true rfl) ⟨by decide, by decide⟩ ⟨jroom hk.1 rfl, jroom hk.2 rfl⟩ (fun v1 w_1 pw_1 => ?_)
  obtain ⟨rfl, rfl⟩ := pw_1
  show JJ g w 4 [(0, .ref x), (1, .int a), (2, .int b), (3, .int c), (4, .int d)] [.int (if (0 : Int32).toInt ≤ a.toInt ∧ a.toInt ≤ (3 : Int32).toInt then 1 else 0)]
  refine j_if_eq (tgt := 32) C d_c_Mo_tells_4 (by decide) (fun c2 => ?_) (fun c2 => ?_)
  · have c2 := jbz.mp c2
    refine j_blk 34 [(0, .ref x), (1, .int a), (2, .int b), (3, .int c), (4, .int d)] [.int (-2)] C k_c_Mo_tells_32_1 rfl ?_
    exact j_iret C Rm E d_c_Mo_tells_34 ⟨rfl, rfl⟩ (jbnd hk.1 rfl) (jbnd hk.2 rfl)
  · have c2 := jbo.mp c2
    refine j_blk 9 [(0, .ref x), (1, .int a), (2, .int b), (3, .int c), (4, .int d)] [.int b, .ref x] C k_c_Mo_tells_7_2 rfl ?_
    refine j_callV C Rm Y [.int b] [] (c_Mo_isProgram l D B H0 w b _ x hx h0) cl_Mo_364 (by rfl) (by rfl) hx d_c_Mo_tells_9 rfl rfl (Nat.le_of_ble_eq_true rfl) ⟨by decide, by decide⟩ ⟨jroom hk.1 rfl, jroom hk.2 rfl⟩ (fun v3 w_2 pw_2 => ?_)
    obtain ⟨rfl, rfl⟩ := pw_2
    show JJ g w 12 [(0, .ref x), (1, .int a), (2, .int b), (3, .int c), (4, .int d)] [.int 0]
    refine j_if_eq (tgt := 32) C d_c_Mo_tells_12 (by decide) (fun c4 => ?_) (fun c4 => absurd (by decide) c4)
    refine j_blk 34 [(0, .ref x), (1, .int a), (2, .int b), (3, .int c), (4, .int d)] [.int (-2)] C k_c_Mo_tells_32_1 rfl ?_
    exact j_iret C Rm E d_c_Mo_tells_34 ⟨rfl, rfl⟩ (jbnd hk.1 rfl) (jbnd hk.2 rfl)

theorem k_c_Mo_film_0_1 : sblk b_Mo_film [(0, .iload_n 1, .null)] := sblk_of (by decide +kernel)
theorem d_c_Mo_film_1 : decode b_Mo_film 1 = .ok (.invokestatic 422, 3) := by decide +kernel
theorem d_c_Mo_film_4 : decode b_Mo_film 4 = .ok (.ifCond .eq 18, 3) := by decide +kernel
theorem k_c_Mo_film_22_1 : sblk b_Mo_film [(22, .bipush (-2), .int (-2))] := sblk_of (by decide +kernel)
theorem d_c_Mo_film_24 : decode b_Mo_film 24 = .ok (.ireturn, 1) := by decide +kernel
theorem k_c_Mo_film_7_2 : sblk b_Mo_film [(7, .aload_n 0, .null), (8, .iload_n 2, .null)] := sblk_of (by decide +kernel)
theorem d_c_Mo_film_9 : decode b_Mo_film 9 = .ok (.invokevirtual 364, 3) := by decide +kernel
theorem d_c_Mo_film_12 : decode b_Mo_film 12 = .ok (.ifCond .eq 10, 3) := by decide +kernel
set_option maxHeartbeats 40000000 in
set_option maxRecDepth 100000 in
theorem c_Mo_film (l : Launch) (D : va_G) (B : Nat) (H0 : Heap) (w : jW) (x : Nat) (V : Nat → Value) (a : Int32) (b : Int32) (c : Int32) (hx : w.1 x = some (.inr (10, V))) (h0 : V 0 = .int 0) : jMet l D B H0 y_Mo_film b_Mo_film 7 (some .int) 3 160 0 0 [.ref x, .int a, .int b, .int c] w (fun v w9 => v = some (.int (-2)) ∧ w = w9) := by
  refine j_met (by decide) (Nat.le_of_ble_eq_true rfl) (fun g C Rm Y E => ?_)
  have hk := jkz w
  show JJ g w 0 [(0, .ref x), (1, .int a), (2, .int b), (3, .int c)] []
  refine j_blk 1 [(0, .ref x), (1, .int a), (2, .int b), (3, .int c)] [.int a] C k_c_Mo_film_0_1 rfl ?_
  refine j_callS (As := [.int a]) C Rm Y [] (c_Mo_isSheet l D B H0 w a) cl_Mo_422 d_c_Mo_film_1 rfl rfl (Nat.le_of_ble_eq_true rfl) ⟨by decide, by decide⟩ ⟨jroom hk.1 rfl, jroom hk.2 rfl⟩ (fun v1 w_1 pw_1 => ?_)
  obtain ⟨rfl, rfl⟩ := pw_1
  show JJ g w 4 [(0, .ref x), (1, .int a), (2, .int b), (3, .int c)] [.int (if (0 : Int32).toInt ≤ a.toInt ∧ a.toInt ≤ (3 : Int32).toInt then 1 else 0)]
  refine j_if_eq (tgt := 22) C d_c_Mo_film_4 (by decide) (fun c2 => ?_) (fun c2 => ?_)
  · have c2 := jbz.mp c2
    refine j_blk 24 [(0, .ref x), (1, .int a), (2, .int b), (3, .int c)] [.int (-2)] C k_c_Mo_film_22_1 rfl ?_
    exact j_iret C Rm E d_c_Mo_film_24 ⟨rfl, rfl⟩ (jbnd hk.1 rfl) (jbnd hk.2 rfl)
  · have c2 := jbo.mp c2
    refine j_blk 9 [(0, .ref x), (1, .int a), (2, .int b), (3, .int c)] [.int b, .ref x] C k_c_Mo_film_7_2 rfl ?_
    refine j_callV C Rm Y [.int b] [] (c_Mo_isProgram l D B H0 w b _ x hx h0) cl_Mo_364 (by rfl) (by rfl) hx d_c_Mo_film_9 rfl rfl (Nat.le_of_ble_eq_true rfl) ⟨by decide, by decide⟩ ⟨jroom hk.1 rfl, jroom hk.2 rfl⟩ (fun v3 w_2 pw_2 => ?_)
    obtain ⟨rfl, rfl⟩ := pw_2
    show JJ g w 12 [(0, .ref x), (1, .int a), (2, .int b), (3, .int c)] [.int 0]
    refine j_if_eq (tgt := 22) C d_c_Mo_film_12 (by decide) (fun c4 => ?_) (fun c4 => absurd (by decide) c4)
    refine j_blk 24 [(0, .ref x), (1, .int a), (2, .int b), (3, .int c)] [.int (-2)] C k_c_Mo_film_22_1 rfl ?_
    exact j_iret C Rm E d_c_Mo_film_24 ⟨rfl, rfl⟩ (jbnd hk.1 rfl) (jbnd hk.2 rfl)
