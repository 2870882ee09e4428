/-! constructors (own work, by program) -/
theorem sj_0 : "[" ++ (FieldType.array (jrT 0)).toString = "[[I" := by decide +kernel
theorem sj_1 : "[" ++ (FieldType.array (jrT 1)).toString = "[[J" := by decide +kernel
theorem sj_2 : "[" ++ (FieldType.array (jrT 2)).toString = "[[Z" := by decide +kernel
theorem sj_3 : "[" ++ (FieldType.array (.array (jrT 1))).toString = "[[[J" := by decide +kernel
theorem k_c_Sheet_init_0_1 : sblk b_Sheet_init [(0, .aload_n 0, .null)] := sblk_of (by decide +kernel)
theorem d_c_Sheet_init_1 : decode b_Sheet_init 1 = .ok (.invokespecial 3, 3) := by decide +kernel
theorem k_c_Sheet_init_4_2 : sblk b_Sheet_init [(4, .aload_n 0, .null), (5, .bipush 40, .int 40)] := sblk_of (by decide +kernel)
theorem d_c_Sheet_init_7 : decode b_Sheet_init 7 = .ok (.newarray .int, 2) := by decide +kernel
theorem d_c_Sheet_init_9 : decode b_Sheet_init 9 = .ok (.putfield 9, 3) := by decide +kernel
theorem k_c_Sheet_init_12_2 : sblk b_Sheet_init [(12, .aload_n 0, .null), (13, .iconst (-1), .int (-1))] := sblk_of (by decide +kernel)
theorem d_c_Sheet_init_14 : decode b_Sheet_init 14 = .ok (.putfield 15, 3) := by decide +kernel
theorem d_c_Sheet_init_17 : decode b_Sheet_init 17 = .ok (.return_, 1) := by decide +kernel
set_option maxHeartbeats 40000000 in
set_option maxRecDepth 100000 in
theorem c_Sheet_init (l : Launch) (D : va_G) (B : Nat) (H0 : Heap) (w : jW) (a : Nat) (V : Nat → Value) (ha : w.1 a = some (.inr (5, V))) : jMet l D B H0 y_Sheet_init b_Sheet_init 1 none 1 40 1 40 [.ref a] w (fun v w9 => v = none ∧ (w9.2.1 = w.2.1 + 1 ∧ w9.2.2 = w.2.2 + 40) ∧ jfr (fun b => b ≠ a) w w9 ∧ ∃ (V9 : Nat → Value) (c1 : Nat), (∀ b e, w.1 b = some e → b < c1) ∧ w9.1 a = some (.inr (5, V9)) ∧ V9 0 = .ref c1 ∧ V9 1 = .int (-1) ∧ V9 2 = V 2 ∧ w9.1 c1 = some (aI D 40 (fun _ => 0))) := by
  refine j_met (by decide) (Nat.le_of_ble_eq_true rfl) (fun g C Rm Y E => ?_)
  have hin : (jGy g).name = "<init>" := congrArg MethodName.name Y.2.2.2
  have hk := jkz w
  have fr0 : jfr (fun b => b ≠ a) w w := jfr0
  show JJ g w 0 [(0, .ref a)] []
  refine j_blk 1 [(0, .ref a)] [.ref a] C k_c_Sheet_init_0_1 rfl ?_
  refine j_obj C Rm cl_Sheet_3 d_c_Sheet_init_1 (by decide) (by decide) ?_
  refine j_blk 7 [(0, .ref a)] [.int 40, .ref a] C k_c_Sheet_init_4_2 rfl ?_
  refine j_newa (n := 40) C Rm d_c_Sheet_init_7 rfl ac_int (by decide) (by decide) (by decide) (jroom hk.1 rfl) (jroom hk.2 rfl) (fun q1 f_q1 => ?_)
  refine jnv (fun w_1 ew_1 => ?_)
  have m_q1_w_1 : w_1.1 q1 = some (aI D 40 (fun _ => 0)) := jus ew_1
  have hk_w_1 := jk1 ew_1 hk
  have lt_q1 := jfrL fr0 f_q1
  have fr_w_1 := jfrN ew_1 fr0 f_q1
  have x_a_q1 := Nat.ne_of_lt (f_q1 _ _ ha)
  have m_a_w_1 := jun ew_1 ha x_a_q1
  refine j_putF C hin d_c_Sheet_init_9 ff_Sheet_9 m_a_w_1 rfl rfl ?_
  refine jnv (fun w_2 ew_2 => ?_)
  have m_a_w_2 : w_2.1 a = some (.inr (5, (updV V 0 (.ref q1)))) := jus ew_2
  have hk_w_2 := jk0 ew_2 hk_w_1
  have fr_w_2 := jfrW ew_2 fr_w_1 (fun b e hb _ => hb)
  refine j_blk 14 [(0, .ref a)] [.int (-1), .ref a] C k_c_Sheet_init_12_2 rfl ?_
  refine j_put C d_c_Sheet_init_14 fp_Sheet_15 m_a_w_2 rfl rfl ?_
  refine jnv (fun w_3 ew_3 => ?_)
  have m_a_w_3 : w_3.1 a = some (.inr (5, (updV (updV V 0 (.ref q1)) 1 (.int (-1))))) := jus ew_3
  have hk_w_3 := jk0 ew_3 hk_w_2
  have fr_w_3 := jfrW ew_3 fr_w_2 (fun b e hb _ => hb)
  have m_q1_w_2 := jun ew_2 m_q1_w_1 (Ne.symm x_a_q1)
  have m_q1_w_3 := jun ew_3 m_q1_w_2 (Ne.symm x_a_q1)
  exact j_vret C Rm E d_c_Sheet_init_17 ⟨rfl, hk_w_3, fr_w_3, _, q1, lt_q1, m_a_w_3, rfl, rfl, rfl, m_q1_w_3⟩ (jbnd hk_w_3.1 rfl) (jbnd hk_w_3.2 rfl)

theorem k_c_Read_init_0_1 : sblk b_Read_init [(0, .aload_n 0, .null)] := sblk_of (by decide +kernel)
theorem d_c_Read_init_1 : decode b_Read_init 1 = .ok (.invokespecial 3, 3) := by decide +kernel
theorem d_c_Read_init_4 : decode b_Read_init 4 = .ok (.return_, 1) := by decide +kernel
set_option maxHeartbeats 40000000 in
set_option maxRecDepth 100000 in
theorem c_Read_init (l : Launch) (D : va_G) (B : Nat) (H0 : Heap) (w : jW) (a : Nat) (V : Nat → Value) (ha : w.1 a = some (.inr (3, V))) : jMet l D B H0 y_Read_init b_Read_init 1 none 1 40 0 0 [.ref a] w (fun v w9 => v = none ∧ (w9.2.1 = w.2.1 + 0 ∧ w9.2.2 = w.2.2 + 0) ∧ jfr (fun b => b ≠ a) w w9 ∧ ∃ (V9 : Nat → Value), w9.1 a = some (.inr (3, V9)) ∧ V9 0 = V 0 ∧ V9 1 = V 1 ∧ V9 2 = V 2 ∧ V9 3 = V 3 ∧ V9 4 = V 4 ∧ V9 5 = V 5 ∧ V9 6 = V 6 ∧ V9 7 = V 7 ∧ V9 8 = V 8) := by
  refine j_met (by decide) (Nat.le_of_ble_eq_true rfl) (fun g C Rm Y E => ?_)
  have hin : (jGy g).name = "<init>" := congrArg MethodName.name Y.2.2.2
  have hk := jkz w
  have fr0 : jfr (fun b => b ≠ a) w w := jfr0
  show JJ g w 0 [(0, .ref a)] []
  refine j_blk 1 [(0, .ref a)] [.ref a] C k_c_Read_init_0_1 rfl ?_
  refine j_obj C Rm cl_Read_3 d_c_Read_init_1 (by decide) (by decide) ?_
  exact j_vret C Rm E d_c_Read_init_4 ⟨rfl, hk, fr0, _, ha, rfl, rfl, rfl, rfl, rfl, rfl, rfl, rfl, rfl⟩ (jbnd hk.1 rfl) (jbnd hk.2 rfl)

theorem k_c_Mixer_init_0_1 : sblk b_Mixer_init [(0, .aload_n 0, .null)] := sblk_of (by decide +kernel)
theorem d_c_Mixer_init_1 : decode b_Mixer_init 1 = .ok (.invokespecial 3, 3) := by decide +kernel
theorem k_c_Mixer_init_4_2 : sblk b_Mixer_init [(4, .aload_n 0, .null), (5, .sipush 300, .int 300)] := sblk_of (by decide +kernel)
theorem d_c_Mixer_init_8 : decode b_Mixer_init 8 = .ok (.newarray .int, 2) := by decide +kernel
theorem d_c_Mixer_init_10 : decode b_Mixer_init 10 = .ok (.putfield 9, 3) := by decide +kernel
theorem k_c_Mixer_init_13_2 : sblk b_Mixer_init [(13, .aload_n 0, .null), (14, .sipush 300, .int 300)] := sblk_of (by decide +kernel)
theorem d_c_Mixer_init_17 : decode b_Mixer_init 17 = .ok (.newarray .long, 2) := by decide +kernel
theorem d_c_Mixer_init_19 : decode b_Mixer_init 19 = .ok (.putfield 15, 3) := by decide +kernel
theorem k_c_Mixer_init_22_2 : sblk b_Mixer_init [(22, .aload_n 0, .null), (23, .sipush 1024, .int 1024)] := sblk_of (by decide +kernel)
theorem d_c_Mixer_init_26 : decode b_Mixer_init 26 = .ok (.newarray .int, 2) := by decide +kernel
theorem d_c_Mixer_init_28 : decode b_Mixer_init 28 = .ok (.putfield 19, 3) := by decide +kernel
theorem k_c_Mixer_init_31_2 : sblk b_Mixer_init [(31, .aload_n 0, .null), (32, .sipush 300, .int 300)] := sblk_of (by decide +kernel)
theorem d_c_Mixer_init_35 : decode b_Mixer_init 35 = .ok (.newarray .int, 2) := by decide +kernel
theorem d_c_Mixer_init_37 : decode b_Mixer_init 37 = .ok (.putfield 22, 3) := by decide +kernel
theorem d_c_Mixer_init_40 : decode b_Mixer_init 40 = .ok (.return_, 1) := by decide +kernel
set_option maxHeartbeats 40000000 in
set_option maxRecDepth 100000 in
theorem c_Mixer_init (l : Launch) (D : va_G) (B : Nat) (H0 : Heap) (w : jW) (a : Nat) (V : Nat → Value) (ha : w.1 a = some (.inr (1, V))) : jMet l D B H0 y_Mixer_init b_Mixer_init 1 none 1 40 4 1924 [.ref a] w (fun v w9 => v = none ∧ (w9.2.1 = w.2.1 + 4 ∧ w9.2.2 = w.2.2 + 1924) ∧ jfr (fun b => b ≠ a) w w9 ∧ ∃ (V9 : Nat → Value) (c1 c2 c3 c4 : Nat), (∀ b e, w.1 b = some e → b < c1) ∧ (∀ b e, w.1 b = some e → b < c2) ∧ (∀ b e, w.1 b = some e → b < c3) ∧ (∀ b e, w.1 b = some e → b < c4) ∧ w9.1 a = some (.inr (1, V9)) ∧ V9 0 = .ref c1 ∧ V9 1 = .ref c2 ∧ V9 2 = V 2 ∧ V9 3 = .ref c3 ∧ V9 4 = .ref c4 ∧ w9.1 c1 = some (aI D 300 (fun _ => 0)) ∧ w9.1 c2 = some (aJ D 300 (fun _ => 0)) ∧ w9.1 c3 = some (aI D 1024 (fun _ => 0)) ∧ w9.1 c4 = some (aI D 300 (fun _ => 0))) := by
  refine j_met (by decide) (Nat.le_of_ble_eq_true rfl) (fun g C Rm Y E => ?_)
  have hin : (jGy g).name = "<init>" := congrArg MethodName.name Y.2.2.2
  have hk := jkz w
  have fr0 : jfr (fun b => b ≠ a) w w := jfr0
  show JJ g w 0 [(0, .ref a)] []
  refine j_blk 1 [(0, .ref a)] [.ref a] C k_c_Mixer_init_0_1 rfl ?_
  refine j_obj C Rm cl_Mixer_3 d_c_Mixer_init_1 (by decide) (by decide) ?_
  refine j_blk 8 [(0, .ref a)] [.int 300, .ref a] C k_c_Mixer_init_4_2 rfl ?_
  refine j_newa (n := 300) C Rm d_c_Mixer_init_8 rfl ac_int (by decide) (by decide) (by decide) (jroom hk.1 rfl) (jroom hk.2 rfl) (fun q1 f_q1 => ?_)
  refine jnv (fun w_1 ew_1 => ?_)
  have m_q1_w_1 : w_1.1 q1 = some (aI D 300 (fun _ => 0)) := jus ew_1
  have hk_w_1 := jk1 ew_1 hk
  have lt_q1 := jfrL fr0 f_q1
  have fr_w_1 := jfrN ew_1 fr0 f_q1
  have x_a_q1 := Nat.ne_of_lt (f_q1 _ _ ha)
  have m_a_w_1 := jun ew_1 ha x_a_q1
  refine j_put C d_c_Mixer_init_10 fp_Mixer_9 m_a_w_1 rfl rfl ?_
  refine jnv (fun w_2 ew_2 => ?_)
  have m_a_w_2 : w_2.1 a = some (.inr (1, (updV V 0 (.ref q1)))) := jus ew_2
  have hk_w_2 := jk0 ew_2 hk_w_1
  have fr_w_2 := jfrW ew_2 fr_w_1 (fun b e hb _ => hb)
  refine j_blk 17 [(0, .ref a)] [.int 300, .ref a] C k_c_Mixer_init_13_2 rfl ?_
  refine j_newa (n := 300) C Rm d_c_Mixer_init_17 rfl ac_long (by decide) (by decide) (by decide) (jroom hk_w_2.1 rfl) (jroom hk_w_2.2 rfl) (fun q2 f_q2 => ?_)
  refine jnv (fun w_3 ew_3 => ?_)
  have m_q2_w_3 : w_3.1 q2 = some (aJ D 300 (fun _ => 0)) := jus ew_3
  have hk_w_3 := jk1 ew_3 hk_w_2
  have lt_q2 := jfrL fr_w_2 f_q2
  have fr_w_3 := jfrN ew_3 fr_w_2 f_q2
  have x_a_q2 := Nat.ne_of_lt (f_q2 _ _ m_a_w_2)
  have m_a_w_3 := jun ew_3 m_a_w_2 x_a_q2
  refine j_put C d_c_Mixer_init_19 fp_Mixer_15 m_a_w_3 rfl rfl ?_
  refine jnv (fun w_4 ew_4 => ?_)
  have m_a_w_4 : w_4.1 a = some (.inr (1, (updV (updV V 0 (.ref q1)) 1 (.ref q2)))) := jus ew_4
  have hk_w_4 := jk0 ew_4 hk_w_3
  have fr_w_4 := jfrW ew_4 fr_w_3 (fun b e hb _ => hb)
  refine j_blk 26 [(0, .ref a)] [.int 1024, .ref a] C k_c_Mixer_init_22_2 rfl ?_
  refine j_newa (n := 1024) C Rm d_c_Mixer_init_26 rfl ac_int (by decide) (by decide) (by decide) (jroom hk_w_4.1 rfl) (jroom hk_w_4.2 rfl) (fun q3 f_q3 => ?_)
  refine jnv (fun w_5 ew_5 => ?_)
  have m_q3_w_5 : w_5.1 q3 = some (aI D 1024 (fun _ => 0)) := jus ew_5
  have hk_w_5 := jk1 ew_5 hk_w_4
  have lt_q3 := jfrL fr_w_4 f_q3
  have fr_w_5 := jfrN ew_5 fr_w_4 f_q3
  have x_a_q3 := Nat.ne_of_lt (f_q3 _ _ m_a_w_4)
  have m_a_w_5 := jun ew_5 m_a_w_4 x_a_q3
  refine j_putF C hin d_c_Mixer_init_28 ff_Mixer_19 m_a_w_5 rfl rfl ?_
  refine jnv (fun w_6 ew_6 => ?_)
  have m_a_w_6 : w_6.1 a = some (.inr (1, (updV (updV (updV V 0 (.ref q1)) 1 (.ref q2)) 3 (.ref q3)))) := jus ew_6
  have hk_w_6 := jk0 ew_6 hk_w_5
  have fr_w_6 := jfrW ew_6 fr_w_5 (fun b e hb _ => hb)
  refine j_blk 35 [(0, .ref a)] [.int 300, .ref a] C k_c_Mixer_init_31_2 rfl ?_
  refine j_newa (n := 300) C Rm d_c_Mixer_init_35 rfl ac_int (by decide) (by decide) (by decide) (jroom hk_w_6.1 rfl) (jroom hk_w_6.2 rfl) (fun q4 f_q4 => ?_)
  refine jnv (fun w_7 ew_7 => ?_)
  have m_q4_w_7 : w_7.1 q4 = some (aI D 300 (fun _ => 0)) := jus ew_7
  have hk_w_7 := jk1 ew_7 hk_w_6
  have lt_q4 := jfrL fr_w_6 f_q4
  have fr_w_7 := jfrN ew_7 fr_w_6 f_q4
  have x_a_q4 := Nat.ne_of_lt (f_q4 _ _ m_a_w_6)
  have m_a_w_7 := jun ew_7 m_a_w_6 x_a_q4
  refine j_putF C hin d_c_Mixer_init_37 ff_Mixer_22 m_a_w_7 rfl rfl ?_
  refine jnv (fun w_8 ew_8 => ?_)
  have m_a_w_8 : w_8.1 a = some (.inr (1, (updV (updV (updV (updV V 0 (.ref q1)) 1 (.ref q2)) 3 (.ref q3)) 4 (.ref q4)))) := jus ew_8
  have hk_w_8 := jk0 ew_8 hk_w_7
  have fr_w_8 := jfrW ew_8 fr_w_7 (fun b e hb _ => hb)
  have m_q1_w_2 := jun ew_2 m_q1_w_1 (Ne.symm x_a_q1)
  have x_q1_q2 := Nat.ne_of_lt (f_q2 _ _ m_q1_w_2)
  have m_q1_w_3 := jun ew_3 m_q1_w_2 x_q1_q2
  have m_q1_w_4 := jun ew_4 m_q1_w_3 (Ne.symm x_a_q1)
  have x_q1_q3 := Nat.ne_of_lt (f_q3 _ _ m_q1_w_4)
  have m_q1_w_5 := jun ew_5 m_q1_w_4 x_q1_q3
  have m_q1_w_6 := jun ew_6 m_q1_w_5 (Ne.symm x_a_q1)
  have x_q1_q4 := Nat.ne_of_lt (f_q4 _ _ m_q1_w_6)
  have m_q1_w_7 := jun ew_7 m_q1_w_6 x_q1_q4
  have m_q1_w_8 := jun ew_8 m_q1_w_7 (Ne.symm x_a_q1)
  have m_q2_w_4 := jun ew_4 m_q2_w_3 (Ne.symm x_a_q2)
  have x_q2_q3 := Nat.ne_of_lt (f_q3 _ _ m_q2_w_4)
  have m_q2_w_5 := jun ew_5 m_q2_w_4 x_q2_q3
  have m_q2_w_6 := jun ew_6 m_q2_w_5 (Ne.symm x_a_q2)
  have x_q2_q4 := Nat.ne_of_lt (f_q4 _ _ m_q2_w_6)
  have m_q2_w_7 := jun ew_7 m_q2_w_6 x_q2_q4
  have m_q2_w_8 := jun ew_8 m_q2_w_7 (Ne.symm x_a_q2)
  have m_q3_w_6 := jun ew_6 m_q3_w_5 (Ne.symm x_a_q3)
  have x_q3_q4 := Nat.ne_of_lt (f_q4 _ _ m_q3_w_6)
  have m_q3_w_7 := jun ew_7 m_q3_w_6 x_q3_q4
  have m_q3_w_8 := jun ew_8 m_q3_w_7 (Ne.symm x_a_q3)
  have m_q4_w_8 := jun ew_8 m_q4_w_7 (Ne.symm x_a_q4)
  exact j_vret C Rm E d_c_Mixer_init_40 ⟨rfl, hk_w_8, fr_w_8, _, q1, q2, q3, q4, lt_q1, lt_q2, lt_q3, lt_q4, m_a_w_8, rfl, rfl, rfl, rfl, rfl, m_q1_w_8, m_q2_w_8, m_q3_w_8, m_q4_w_8⟩ (jbnd hk_w_8.1 rfl) (jbnd hk_w_8.2 rfl)

theorem k_c_Odds_init_0_1 : sblk b_Odds_init [(0, .aload_n 0, .null)] := sblk_of (by decide +kernel)
theorem d_c_Odds_init_1 : decode b_Odds_init 1 = .ok (.invokespecial 3, 3) := by decide +kernel
theorem k_c_Odds_init_4_2 : sblk b_Odds_init [(4, .aload_n 0, .null), (5, .sipush 301, .int 301)] := sblk_of (by decide +kernel)
theorem d_c_Odds_init_8 : decode b_Odds_init 8 = .ok (.newarray .int, 2) := by decide +kernel
theorem d_c_Odds_init_10 : decode b_Odds_init 10 = .ok (.putfield 9, 3) := by decide +kernel
theorem k_c_Odds_init_13_2 : sblk b_Odds_init [(13, .aload_n 0, .null), (14, .sipush 301, .int 301)] := sblk_of (by decide +kernel)
theorem d_c_Odds_init_17 : decode b_Odds_init 17 = .ok (.newarray .long, 2) := by decide +kernel
theorem d_c_Odds_init_19 : decode b_Odds_init 19 = .ok (.putfield 15, 3) := by decide +kernel
theorem d_c_Odds_init_22 : decode b_Odds_init 22 = .ok (.return_, 1) := by decide +kernel
set_option maxHeartbeats 40000000 in
set_option maxRecDepth 100000 in
theorem c_Odds_init (l : Launch) (D : va_G) (B : Nat) (H0 : Heap) (w : jW) (a : Nat) (V : Nat → Value) (ha : w.1 a = some (.inr (9, V))) : jMet l D B H0 y_Odds_init b_Odds_init 1 none 1 40 2 602 [.ref a] w (fun v w9 => v = none ∧ (w9.2.1 = w.2.1 + 2 ∧ w9.2.2 = w.2.2 + 602) ∧ jfr (fun b => b ≠ a) w w9 ∧ ∃ (V9 : Nat → Value) (c1 c2 : Nat), (∀ b e, w.1 b = some e → b < c1) ∧ (∀ b e, w.1 b = some e → b < c2) ∧ w9.1 a = some (.inr (9, V9)) ∧ V9 0 = .ref c1 ∧ V9 1 = .ref c2 ∧ V9 2 = V 2 ∧ w9.1 c1 = some (aI D 301 (fun _ => 0)) ∧ w9.1 c2 = some (aJ D 301 (fun _ => 0))) := by
  refine j_met (by decide) (Nat.le_of_ble_eq_true rfl) (fun g C Rm Y E => ?_)
  have hin : (jGy g).name = "<init>" := congrArg MethodName.name Y.2.2.2
  have hk := jkz w
  have fr0 : jfr (fun b => b ≠ a) w w := jfr0
  show JJ g w 0 [(0, .ref a)] []
  refine j_blk 1 [(0, .ref a)] [.ref a] C k_c_Odds_init_0_1 rfl ?_
  refine j_obj C Rm cl_Odds_3 d_c_Odds_init_1 (by decide) (by decide) ?_
  refine j_blk 8 [(0, .ref a)] [.int 301, .ref a] C k_c_Odds_init_4_2 rfl ?_
  refine j_newa (n := 301) C Rm d_c_Odds_init_8 rfl ac_int (by decide) (by decide) (by decide) (jroom hk.1 rfl) (jroom hk.2 rfl) (fun q1 f_q1 => ?_)
  refine jnv (fun w_1 ew_1 => ?_)
  have m_q1_w_1 : w_1.1 q1 = some (aI D 301 (fun _ => 0)) := jus ew_1
  have hk_w_1 := jk1 ew_1 hk
  have lt_q1 := jfrL fr0 f_q1
  have fr_w_1 := jfrN ew_1 fr0 f_q1
  have x_a_q1 := Nat.ne_of_lt (f_q1 _ _ ha)
  have m_a_w_1 := jun ew_1 ha x_a_q1
  refine j_putF C hin d_c_Odds_init_10 ff_Odds_9 m_a_w_1 rfl rfl ?_
  refine jnv (fun w_2 ew_2 => ?_)
  have m_a_w_2 : w_2.1 a = some (.inr (9, (updV V 0 (.ref q1)))) := jus ew_2
  have hk_w_2 := jk0 ew_2 hk_w_1
  have fr_w_2 := jfrW ew_2 fr_w_1 (fun b e hb _ => hb)
  refine j_blk 17 [(0, .ref a)] [.int 301, .ref a] C k_c_Odds_init_13_2 rfl ?_
  refine j_newa (n := 301) C Rm d_c_Odds_init_17 rfl ac_long (by decide) (by decide) (by decide) (jroom hk_w_2.1 rfl) (jroom hk_w_2.2 rfl) (fun q2 f_q2 => ?_)
  refine jnv (fun w_3 ew_3 => ?_)
  have m_q2_w_3 : w_3.1 q2 = some (aJ D 301 (fun _ => 0)) := jus ew_3
  have hk_w_3 := jk1 ew_3 hk_w_2
  have lt_q2 := jfrL fr_w_2 f_q2
  have fr_w_3 := jfrN ew_3 fr_w_2 f_q2
  have x_a_q2 := Nat.ne_of_lt (f_q2 _ _ m_a_w_2)
  have m_a_w_3 := jun ew_3 m_a_w_2 x_a_q2
  refine j_putF C hin d_c_Odds_init_19 ff_Odds_15 m_a_w_3 rfl rfl ?_
  refine jnv (fun w_4 ew_4 => ?_)
  have m_a_w_4 : w_4.1 a = some (.inr (9, (updV (updV V 0 (.ref q1)) 1 (.ref q2)))) := jus ew_4
  have hk_w_4 := jk0 ew_4 hk_w_3
  have fr_w_4 := jfrW ew_4 fr_w_3 (fun b e hb _ => hb)
  have m_q1_w_2 := jun ew_2 m_q1_w_1 (Ne.symm x_a_q1)
  have x_q1_q2 := Nat.ne_of_lt (f_q2 _ _ m_q1_w_2)
  have m_q1_w_3 := jun ew_3 m_q1_w_2 x_q1_q2
  have m_q1_w_4 := jun ew_4 m_q1_w_3 (Ne.symm x_a_q1)
  have m_q2_w_4 := jun ew_4 m_q2_w_3 (Ne.symm x_a_q2)
  exact j_vret C Rm E d_c_Odds_init_22 ⟨rfl, hk_w_4, fr_w_4, _, q1, q2, lt_q1, lt_q2, m_a_w_4, rfl, rfl, rfl, m_q1_w_4, m_q2_w_4⟩ (jbnd hk_w_4.1 rfl) (jbnd hk_w_4.2 rfl)

theorem k_c_Crowd_init_0_1 : sblk b_Crowd_init [(0, .aload_n 0, .null)] := sblk_of (by decide +kernel)
theorem d_c_Crowd_init_1 : decode b_Crowd_init 1 = .ok (.invokespecial 3, 3) := by decide +kernel
theorem k_c_Crowd_init_4_2 : sblk b_Crowd_init [(4, .aload_n 0, .null), (5, .sipush 300, .int 300)] := sblk_of (by decide +kernel)
theorem d_c_Crowd_init_8 : decode b_Crowd_init 8 = .ok (.newarray .int, 2) := by decide +kernel
theorem d_c_Crowd_init_10 : decode b_Crowd_init 10 = .ok (.putfield 9, 3) := by decide +kernel
theorem k_c_Crowd_init_13_2 : sblk b_Crowd_init [(13, .aload_n 0, .null), (14, .sipush 300, .int 300)] := sblk_of (by decide +kernel)
theorem d_c_Crowd_init_17 : decode b_Crowd_init 17 = .ok (.newarray .long, 2) := by decide +kernel
theorem d_c_Crowd_init_19 : decode b_Crowd_init 19 = .ok (.putfield 15, 3) := by decide +kernel
theorem d_c_Crowd_init_22 : decode b_Crowd_init 22 = .ok (.return_, 1) := by decide +kernel
set_option maxHeartbeats 40000000 in
set_option maxRecDepth 100000 in
theorem c_Crowd_init (l : Launch) (D : va_G) (B : Nat) (H0 : Heap) (w : jW) (a : Nat) (V : Nat → Value) (ha : w.1 a = some (.inr (0, V))) : jMet l D B H0 y_Crowd_init b_Crowd_init 1 none 1 40 2 600 [.ref a] w (fun v w9 => v = none ∧ (w9.2.1 = w.2.1 + 2 ∧ w9.2.2 = w.2.2 + 600) ∧ jfr (fun b => b ≠ a) w w9 ∧ ∃ (V9 : Nat → Value) (c1 c2 : Nat), (∀ b e, w.1 b = some e → b < c1) ∧ (∀ b e, w.1 b = some e → b < c2) ∧ w9.1 a = some (.inr (0, V9)) ∧ V9 0 = .ref c1 ∧ V9 1 = .ref c2 ∧ V9 2 = V 2 ∧ V9 3 = V 3 ∧ w9.1 c1 = some (aI D 300 (fun _ => 0)) ∧ w9.1 c2 = some (aJ D 300 (fun _ => 0))) := by
  refine j_met (by decide) (Nat.le_of_ble_eq_true rfl) (fun g C Rm Y E => ?_)
  have hin : (jGy g).name = "<init>" := congrArg MethodName.name Y.2.2.2
  have hk := jkz w
  have fr0 : jfr (fun b => b ≠ a) w w := jfr0
  show JJ g w 0 [(0, .ref a)] []
  refine j_blk 1 [(0, .ref a)] [.ref a] C k_c_Crowd_init_0_1 rfl ?_
  refine j_obj C Rm cl_Crowd_3 d_c_Crowd_init_1 (by decide) (by decide) ?_
  refine j_blk 8 [(0, .ref a)] [.int 300, .ref a] C k_c_Crowd_init_4_2 rfl ?_
  refine j_newa (n := 300) C Rm d_c_Crowd_init_8 rfl ac_int (by decide) (by decide) (by decide) (jroom hk.1 rfl) (jroom hk.2 rfl) (fun q1 f_q1 => ?_)
  refine jnv (fun w_1 ew_1 => ?_)
  have m_q1_w_1 : w_1.1 q1 = some (aI D 300 (fun _ => 0)) := jus ew_1
  have hk_w_1 := jk1 ew_1 hk
  have lt_q1 := jfrL fr0 f_q1
  have fr_w_1 := jfrN ew_1 fr0 f_q1
  have x_a_q1 := Nat.ne_of_lt (f_q1 _ _ ha)
  have m_a_w_1 := jun ew_1 ha x_a_q1
  refine j_put C d_c_Crowd_init_10 fp_Crowd_9 m_a_w_1 rfl rfl ?_
  refine jnv (fun w_2 ew_2 => ?_)
  have m_a_w_2 : w_2.1 a = some (.inr (0, (updV V 0 (.ref q1)))) := jus ew_2
  have hk_w_2 := jk0 ew_2 hk_w_1
  have fr_w_2 := jfrW ew_2 fr_w_1 (fun b e hb _ => hb)
  refine j_blk 17 [(0, .ref a)] [.int 300, .ref a] C k_c_Crowd_init_13_2 rfl ?_
  refine j_newa (n := 300) C Rm d_c_Crowd_init_17 rfl ac_long (by decide) (by decide) (by decide) (jroom hk_w_2.1 rfl) (jroom hk_w_2.2 rfl) (fun q2 f_q2 => ?_)
  refine jnv (fun w_3 ew_3 => ?_)
  have m_q2_w_3 : w_3.1 q2 = some (aJ D 300 (fun _ => 0)) := jus ew_3
  have hk_w_3 := jk1 ew_3 hk_w_2
  have lt_q2 := jfrL fr_w_2 f_q2
  have fr_w_3 := jfrN ew_3 fr_w_2 f_q2
  have x_a_q2 := Nat.ne_of_lt (f_q2 _ _ m_a_w_2)
  have m_a_w_3 := jun ew_3 m_a_w_2 x_a_q2
  refine j_put C d_c_Crowd_init_19 fp_Crowd_15 m_a_w_3 rfl rfl ?_
  refine jnv (fun w_4 ew_4 => ?_)
  have m_a_w_4 : w_4.1 a = some (.inr (0, (updV (updV V 0 (.ref q1)) 1 (.ref q2)))) := jus ew_4
  have hk_w_4 := jk0 ew_4 hk_w_3
  have fr_w_4 := jfrW ew_4 fr_w_3 (fun b e hb _ => hb)
  have m_q1_w_2 := jun ew_2 m_q1_w_1 (Ne.symm x_a_q1)
  have x_q1_q2 := Nat.ne_of_lt (f_q2 _ _ m_q1_w_2)
  have m_q1_w_3 := jun ew_3 m_q1_w_2 x_q1_q2
  have m_q1_w_4 := jun ew_4 m_q1_w_3 (Ne.symm x_a_q1)
  have m_q2_w_4 := jun ew_4 m_q2_w_3 (Ne.symm x_a_q2)
  exact j_vret C Rm E d_c_Crowd_init_22 ⟨rfl, hk_w_4, fr_w_4, _, q1, q2, lt_q1, lt_q2, m_a_w_4, rfl, rfl, rfl, rfl, m_q1_w_4, m_q2_w_4⟩ (jbnd hk_w_4.1 rfl) (jbnd hk_w_4.2 rfl)

theorem k_c_Step_init_0_1 : sblk b_Step_init [(0, .aload_n 0, .null)] := sblk_of (by decide +kernel)
theorem d_c_Step_init_1 : decode b_Step_init 1 = .ok (.invokespecial 3, 3) := by decide +kernel
theorem d_c_Step_init_4 : decode b_Step_init 4 = .ok (.return_, 1) := by decide +kernel
set_option maxHeartbeats 40000000 in
set_option maxRecDepth 100000 in
theorem c_Step_init (l : Launch) (D : va_G) (B : Nat) (H0 : Heap) (w : jW) (a : Nat) (V : Nat → Value) (ha : w.1 a = some (.inr (6, V))) : jMet l D B H0 y_Step_init b_Step_init 1 none 1 40 0 0 [.ref a] w (fun v w9 => v = none ∧ (w9.2.1 = w.2.1 + 0 ∧ w9.2.2 = w.2.2 + 0) ∧ jfr (fun b => b ≠ a) w w9 ∧ ∃ (V9 : Nat → Value), w9.1 a = some (.inr (6, V9)) ∧ V9 0 = V 0 ∧ V9 1 = V 1 ∧ V9 2 = V 2 ∧ V9 3 = V 3 ∧ V9 4 = V 4 ∧ V9 5 = V 5 ∧ V9 6 = V 6 ∧ V9 7 = V 7 ∧ V9 8 = V 8 ∧ V9 9 = V 9 ∧ V9 10 = V 10 ∧ V9 11 = V 11 ∧ V9 12 = V 12 ∧ V9 13 = V 13) := by
  refine j_met (by decide) (Nat.le_of_ble_eq_true rfl) (fun g C Rm Y E => ?_)
  have hin : (jGy g).name = "<init>" := congrArg MethodName.name Y.2.2.2
  have hk := jkz w
  have fr0 : jfr (fun b => b ≠ a) w w := jfr0
  show JJ g w 0 [(0, .ref a)] []
  refine j_blk 1 [(0, .ref a)] [.ref a] C k_c_Step_init_0_1 rfl ?_
  refine j_obj C Rm cl_Step_3 d_c_Step_init_1 (by decide) (by decide) ?_
  exact j_vret C Rm E d_c_Step_init_4 ⟨rfl, hk, fr0, _, ha, rfl, rfl, rfl, rfl, rfl, rfl, rfl, rfl, rfl, rfl, rfl, rfl, rfl, rfl⟩ (jbnd hk.1 rfl) (jbnd hk.2 rfl)

theorem k_c_Runs_init_0_1 : sblk b_Runs_init [(0, .aload_n 0, .null)] := sblk_of (by decide +kernel)
theorem d_c_Runs_init_1 : decode b_Runs_init 1 = .ok (.invokespecial 3, 3) := by decide +kernel
theorem k_c_Runs_init_4_2 : sblk b_Runs_init [(4, .aload_n 0, .null), (5, .bipush 10, .int 10)] := sblk_of (by decide +kernel)
theorem d_c_Runs_init_7 : decode b_Runs_init 7 = .ok (.newarray .int, 2) := by decide +kernel
theorem d_c_Runs_init_9 : decode b_Runs_init 9 = .ok (.putfield 9, 3) := by decide +kernel
theorem k_c_Runs_init_12_2 : sblk b_Runs_init [(12, .aload_n 0, .null), (13, .bipush 100, .int 100)] := sblk_of (by decide +kernel)
theorem d_c_Runs_init_15 : decode b_Runs_init 15 = .ok (.newarray .long, 2) := by decide +kernel
theorem d_c_Runs_init_17 : decode b_Runs_init 17 = .ok (.putfield 15, 3) := by decide +kernel
theorem k_c_Runs_init_20_2 : sblk b_Runs_init [(20, .aload_n 0, .null), (21, .bipush 10, .int 10)] := sblk_of (by decide +kernel)
theorem d_c_Runs_init_23 : decode b_Runs_init 23 = .ok (.newarray .long, 2) := by decide +kernel
theorem d_c_Runs_init_25 : decode b_Runs_init 25 = .ok (.putfield 19, 3) := by decide +kernel
theorem d_c_Runs_init_28 : decode b_Runs_init 28 = .ok (.return_, 1) := by decide +kernel
set_option maxHeartbeats 40000000 in
set_option maxRecDepth 100000 in
theorem c_Runs_init (l : Launch) (D : va_G) (B : Nat) (H0 : Heap) (w : jW) (a : Nat) (V : Nat → Value) (ha : w.1 a = some (.inr (4, V))) : jMet l D B H0 y_Runs_init b_Runs_init 1 none 1 40 3 120 [.ref a] w (fun v w9 => v = none ∧ (w9.2.1 = w.2.1 + 3 ∧ w9.2.2 = w.2.2 + 120) ∧ jfr (fun b => b ≠ a) w w9 ∧ ∃ (V9 : Nat → Value) (c1 c2 c3 : Nat), (∀ b e, w.1 b = some e → b < c1) ∧ (∀ b e, w.1 b = some e → b < c2) ∧ (∀ b e, w.1 b = some e → b < c3) ∧ w9.1 a = some (.inr (4, V9)) ∧ V9 0 = .ref c1 ∧ V9 1 = .ref c2 ∧ V9 2 = .ref c3 ∧ w9.1 c1 = some (aI D 10 (fun _ => 0)) ∧ w9.1 c2 = some (aJ D 100 (fun _ => 0)) ∧ w9.1 c3 = some (aJ D 10 (fun _ => 0))) := by
  refine j_met (by decide) (Nat.le_of_ble_eq_true rfl) (fun g C Rm Y E => ?_)
  have hin : (jGy g).name = "<init>" := congrArg MethodName.name Y.2.2.2
  have hk := jkz w
  have fr0 : jfr (fun b => b ≠ a) w w := jfr0
  show JJ g w 0 [(0, .ref a)] []
  refine j_blk 1 [(0, .ref a)] [.ref a] C k_c_Runs_init_0_1 rfl ?_
  refine j_obj C Rm cl_Runs_3 d_c_Runs_init_1 (by decide) (by decide) ?_
  refine j_blk 7 [(0, .ref a)] [.int 10, .ref a] C k_c_Runs_init_4_2 rfl ?_
  refine j_newa (n := 10) C Rm d_c_Runs_init_7 rfl ac_int (by decide) (by decide) (by decide) (jroom hk.1 rfl) (jroom hk.2 rfl) (fun q1 f_q1 => ?_)
  refine jnv (fun w_1 ew_1 => ?_)
  have m_q1_w_1 : w_1.1 q1 = some (aI D 10 (fun _ => 0)) := jus ew_1
  have hk_w_1 := jk1 ew_1 hk
  have lt_q1 := jfrL fr0 f_q1
  have fr_w_1 := jfrN ew_1 fr0 f_q1
  have x_a_q1 := Nat.ne_of_lt (f_q1 _ _ ha)
  have m_a_w_1 := jun ew_1 ha x_a_q1
  refine j_putF C hin d_c_Runs_init_9 ff_Runs_9 m_a_w_1 rfl rfl ?_
  refine jnv (fun w_2 ew_2 => ?_)
  have m_a_w_2 : w_2.1 a = some (.inr (4, (updV V 0 (.ref q1)))) := jus ew_2
  have hk_w_2 := jk0 ew_2 hk_w_1
  have fr_w_2 := jfrW ew_2 fr_w_1 (fun b e hb _ => hb)
  refine j_blk 15 [(0, .ref a)] [.int 100, .ref a] C k_c_Runs_init_12_2 rfl ?_
  refine j_newa (n := 100) C Rm d_c_Runs_init_15 rfl ac_long (by decide) (by decide) (by decide) (jroom hk_w_2.1 rfl) (jroom hk_w_2.2 rfl) (fun q2 f_q2 => ?_)
  refine jnv (fun w_3 ew_3 => ?_)
  have m_q2_w_3 : w_3.1 q2 = some (aJ D 100 (fun _ => 0)) := jus ew_3
  have hk_w_3 := jk1 ew_3 hk_w_2
  have lt_q2 := jfrL fr_w_2 f_q2
  have fr_w_3 := jfrN ew_3 fr_w_2 f_q2
  have x_a_q2 := Nat.ne_of_lt (f_q2 _ _ m_a_w_2)
  have m_a_w_3 := jun ew_3 m_a_w_2 x_a_q2
  refine j_putF C hin d_c_Runs_init_17 ff_Runs_15 m_a_w_3 rfl rfl ?_
  refine jnv (fun w_4 ew_4 => ?_)
  have m_a_w_4 : w_4.1 a = some (.inr (4, (updV (updV V 0 (.ref q1)) 1 (.ref q2)))) := jus ew_4
  have hk_w_4 := jk0 ew_4 hk_w_3
  have fr_w_4 := jfrW ew_4 fr_w_3 (fun b e hb _ => hb)
  refine j_blk 23 [(0, .ref a)] [.int 10, .ref a] C k_c_Runs_init_20_2 rfl ?_
  refine j_newa (n := 10) C Rm d_c_Runs_init_23 rfl ac_long (by decide) (by decide) (by decide) (jroom hk_w_4.1 rfl) (jroom hk_w_4.2 rfl) (fun q3 f_q3 => ?_)
  refine jnv (fun w_5 ew_5 => ?_)
  have m_q3_w_5 : w_5.1 q3 = some (aJ D 10 (fun _ => 0)) := jus ew_5
  have hk_w_5 := jk1 ew_5 hk_w_4
  have lt_q3 := jfrL fr_w_4 f_q3
  have fr_w_5 := jfrN ew_5 fr_w_4 f_q3
  have x_a_q3 := Nat.ne_of_lt (f_q3 _ _ m_a_w_4)
  have m_a_w_5 := jun ew_5 m_a_w_4 x_a_q3
  refine j_putF C hin d_c_Runs_init_25 ff_Runs_19 m_a_w_5 rfl rfl ?_
  refine jnv (fun w_6 ew_6 => ?_)
  have m_a_w_6 : w_6.1 a = some (.inr (4, (updV (updV (updV V 0 (.ref q1)) 1 (.ref q2)) 2 (.ref q3)))) := jus ew_6
  have hk_w_6 := jk0 ew_6 hk_w_5
  have fr_w_6 := jfrW ew_6 fr_w_5 (fun b e hb _ => hb)
  have m_q1_w_2 := jun ew_2 m_q1_w_1 (Ne.symm x_a_q1)
  have x_q1_q2 := Nat.ne_of_lt (f_q2 _ _ m_q1_w_2)
  have m_q1_w_3 := jun ew_3 m_q1_w_2 x_q1_q2
  have m_q1_w_4 := jun ew_4 m_q1_w_3 (Ne.symm x_a_q1)
  have x_q1_q3 := Nat.ne_of_lt (f_q3 _ _ m_q1_w_4)
  have m_q1_w_5 := jun ew_5 m_q1_w_4 x_q1_q3
  have m_q1_w_6 := jun ew_6 m_q1_w_5 (Ne.symm x_a_q1)
  have m_q2_w_4 := jun ew_4 m_q2_w_3 (Ne.symm x_a_q2)
  have x_q2_q3 := Nat.ne_of_lt (f_q3 _ _ m_q2_w_4)
  have m_q2_w_5 := jun ew_5 m_q2_w_4 x_q2_q3
  have m_q2_w_6 := jun ew_6 m_q2_w_5 (Ne.symm x_a_q2)
  have m_q3_w_6 := jun ew_6 m_q3_w_5 (Ne.symm x_a_q3)
  exact j_vret C Rm E d_c_Runs_init_28 ⟨rfl, hk_w_6, fr_w_6, _, q1, q2, q3, lt_q1, lt_q2, lt_q3, m_a_w_6, rfl, rfl, rfl, m_q1_w_6, m_q2_w_6, m_q3_w_6⟩ (jbnd hk_w_6.1 rfl) (jbnd hk_w_6.2 rfl)

theorem k_c_Walk_init_0_1 : sblk b_Walk_init [(0, .aload_n 0, .null)] := sblk_of (by decide +kernel)
theorem d_c_Walk_init_1 : decode b_Walk_init 1 = .ok (.invokespecial 3, 3) := by decide +kernel
theorem k_c_Walk_init_4_1 : sblk b_Walk_init [(4, .aload_n 0, .null)] := sblk_of (by decide +kernel)
theorem d_c_Walk_init_5 : decode b_Walk_init 5 = .ok (.new 9, 3) := by decide +kernel
theorem k_c_Walk_init_8_1 : sblk b_Walk_init [(8, .dup, .null)] := sblk_of (by decide +kernel)
theorem d_c_Walk_init_9 : decode b_Walk_init 9 = .ok (.invokespecial 11, 3) := by decide +kernel
theorem d_c_Walk_init_12 : decode b_Walk_init 12 = .ok (.putfield 12, 3) := by decide +kernel
theorem k_c_Walk_init_15_2 : sblk b_Walk_init [(15, .aload_n 0, .null), (16, .bipush 40, .int 40)] := sblk_of (by decide +kernel)
theorem d_c_Walk_init_18 : decode b_Walk_init 18 = .ok (.anewarray 18, 3) := by decide +kernel
theorem d_c_Walk_init_21 : decode b_Walk_init 21 = .ok (.putfield 20, 3) := by decide +kernel
theorem d_c_Walk_init_24 : decode b_Walk_init 24 = .ok (.return_, 1) := by decide +kernel
set_option maxHeartbeats 40000000 in
set_option maxRecDepth 100000 in
theorem c_Walk_init (l : Launch) (D : va_G) (B : Nat) (H0 : Heap) (w : jW) (a : Nat) (V : Nat → Value) (ha : w.1 a = some (.inr (7, V))) : jMet l D B H0 y_Walk_init b_Walk_init 1 none 2 80 6 1969 [.ref a] w (fun v w9 => v = none ∧ (w9.2.1 = w.2.1 + 6 ∧ w9.2.2 = w.2.2 + 1969) ∧ jfr (fun b => b ≠ a) w w9 ∧ ∃ (V9 : Nat → Value) (x1 c1 c2 c3 c4 sp : Nat), (∀ b e, w.1 b = some e → b < x1) ∧ (∀ b e, w.1 b = some e → b < c1) ∧ (∀ b e, w.1 b = some e → b < c2) ∧ (∀ b e, w.1 b = some e → b < c3) ∧ (∀ b e, w.1 b = some e → b < c4) ∧ (∀ b e, w.1 b = some e → b < sp) ∧ w9.1 a = some (.inr (7, V9)) ∧ V9 0 = .ref x1 ∧ V9 1 = .ref sp ∧ V9 2 = V 2 ∧ V9 3 = V 3 ∧ w9.1 c1 = some (aI D 300 (fun _ => 0)) ∧ w9.1 c2 = some (aJ D 300 (fun _ => 0)) ∧ w9.1 c3 = some (aI D 1024 (fun _ => 0)) ∧ w9.1 c4 = some (aI D 300 (fun _ => 0)) ∧ w9.1 sp = some (aR D 7 40 (fun _ => none))) := by
  refine j_met (by decide) (Nat.le_of_ble_eq_true rfl) (fun g C Rm Y E => ?_)
  have hin : (jGy g).name = "<init>" := congrArg MethodName.name Y.2.2.2
  have hk := jkz w
  have fr0 : jfr (fun b => b ≠ a) w w := jfr0
  show JJ g w 0 [(0, .ref a)] []
  refine j_blk 1 [(0, .ref a)] [.ref a] C k_c_Walk_init_0_1 rfl ?_
  refine j_obj C Rm cl_Walk_3 d_c_Walk_init_1 (by decide) (by decide) ?_
  refine j_blk 5 [(0, .ref a)] [.ref a] C k_c_Walk_init_4_1 rfl ?_
  refine j_new C Rm d_c_Walk_init_5 nw_Walk_9 (jroom hk.1 rfl) (jroom hk.2 rfl) (fun q1 f_q1 => ?_)
  refine jnv (fun w_1 ew_1 => ?_)
  have m_q1_w_1 : w_1.1 q1 = some (.inr (1, v0_1)) := jus ew_1
  have hk_w_1 := jk1 ew_1 hk
  have lt_q1 := jfrL fr0 f_q1
  have fr_w_1 := jfrN ew_1 fr0 f_q1
  refine j_blk 9 [(0, .ref a)] [.ref q1, .ref q1, .ref a] C k_c_Walk_init_8_1 rfl ?_
  refine j_callIn C Rm Y [] [.ref q1, .ref a] (c_Mixer_init l D B H0 w_1 q1 v0_1 m_q1_w_1) cl_Walk_11 d_c_Walk_init_9 rfl rfl (Nat.le_of_ble_eq_true rfl) ⟨by decide, by decide⟩ ⟨jroom hk_w_1.1 rfl, jroom hk_w_1.2 rfl⟩ (fun v2 w_2 pw_2 => ?_)
  obtain ⟨rfl, hc_w_2, G_w_2, V_w_2, q3, q4, q5, q6, ltq3_w_2, ltq4_w_2, ltq5_w_2, ltq6_w_2, mo_w_2, hV0_w_2, hV1_w_2, hV2_w_2, hV3_w_2, hV4_w_2, mmq3_w_2, mmq4_w_2, mmq5_w_2, mmq6_w_2⟩ := pw_2
  have hk_w_2 := jkT hk_w_1 hc_w_2
  have lt_q3 := jfrL fr_w_1 ltq3_w_2
  have lt_q4 := jfrL fr_w_1 ltq4_w_2
  have lt_q5 := jfrL fr_w_1 ltq5_w_2
  have lt_q6 := jfrL fr_w_1 ltq6_w_2
  have fr_w_2 := jfrT fr_w_1 G_w_2 (fun b _ _ he => Nat.ne_of_lt (lt_q1 b _ he))
  show JJ g w_2 12 [(0, .ref a)] [.ref q1, .ref a]
  have x_a_q1 := Nat.ne_of_lt (f_q1 _ _ ha)
  have m_a_w_1 := jun ew_1 ha x_a_q1
  have m_a_w_2 := (G_w_2 _ _ m_a_w_1).1 x_a_q1
  refine j_putF C hin d_c_Walk_init_12 ff_Walk_12 m_a_w_2 rfl rfl ?_
  refine jnv (fun w_3 ew_3 => ?_)
  have m_a_w_3 : w_3.1 a = some (.inr (7, (updV V 0 (.ref q1)))) := jus ew_3
  have hk_w_3 := jk0 ew_3 hk_w_2
  have fr_w_3 := jfrW ew_3 fr_w_2 (fun b e hb _ => hb)
  refine j_blk 18 [(0, .ref a)] [.int 40, .ref a] C k_c_Walk_init_15_2 rfl ?_
  refine j_anew (t := 7) (n := 40) C Rm d_c_Walk_init_18 rfl (by decide) ca_Walk_18 (by decide) (by decide) (by decide) (jroom hk_w_3.1 rfl) (jroom hk_w_3.2 rfl) (fun q7 f_q7 => ?_)
  refine jnv (fun w_4 ew_4 => ?_)
  have m_q7_w_4 : w_4.1 q7 = some (aR D 7 40 (fun _ => none)) := jus ew_4
  have hk_w_4 := jk1 ew_4 hk_w_3
  have lt_q7 := jfrL fr_w_3 f_q7
  have fr_w_4 := jfrN ew_4 fr_w_3 f_q7
  have x_a_q7 := Nat.ne_of_lt (f_q7 _ _ m_a_w_3)
  have m_a_w_4 := jun ew_4 m_a_w_3 x_a_q7
  refine j_putF C hin d_c_Walk_init_21 ff_Walk_20 m_a_w_4 rfl rfl ?_
  refine jnv (fun w_5 ew_5 => ?_)
  have m_a_w_5 : w_5.1 a = some (.inr (7, (updV (updV V 0 (.ref q1)) 1 (.ref q7)))) := jus ew_5
  have hk_w_5 := jk0 ew_5 hk_w_4
  have fr_w_5 := jfrW ew_5 fr_w_4 (fun b e hb _ => hb)
  have m_q3_w_3 := jun ew_3 mmq3_w_2 (jneAO mmq3_w_2 m_a_w_2)
  have x_q3_q7 := Nat.ne_of_lt (f_q7 _ _ m_q3_w_3)
  have m_q3_w_4 := jun ew_4 m_q3_w_3 x_q3_q7
  have m_q3_w_5 := jun ew_5 m_q3_w_4 (jneAO m_q3_w_4 m_a_w_4)
  have m_q4_w_3 := jun ew_3 mmq4_w_2 (jneAO mmq4_w_2 m_a_w_2)
  have x_q4_q7 := Nat.ne_of_lt (f_q7 _ _ m_q4_w_3)
  have m_q4_w_4 := jun ew_4 m_q4_w_3 x_q4_q7
  have m_q4_w_5 := jun ew_5 m_q4_w_4 (jneAO m_q4_w_4 m_a_w_4)
  have m_q5_w_3 := jun ew_3 mmq5_w_2 (jneAO mmq5_w_2 m_a_w_2)
  have x_q5_q7 := Nat.ne_of_lt (f_q7 _ _ m_q5_w_3)
  have m_q5_w_4 := jun ew_4 m_q5_w_3 x_q5_q7
  have m_q5_w_5 := jun ew_5 m_q5_w_4 (jneAO m_q5_w_4 m_a_w_4)
  have m_q6_w_3 := jun ew_3 mmq6_w_2 (jneAO mmq6_w_2 m_a_w_2)
  have x_q6_q7 := Nat.ne_of_lt (f_q7 _ _ m_q6_w_3)
  have m_q6_w_4 := jun ew_4 m_q6_w_3 x_q6_q7
  have m_q6_w_5 := jun ew_5 m_q6_w_4 (jneAO m_q6_w_4 m_a_w_4)
  have m_q7_w_5 := jun ew_5 m_q7_w_4 (Ne.symm x_a_q7)
  exact j_vret C Rm E d_c_Walk_init_24 ⟨rfl, hk_w_5, fr_w_5, _, q1, q3, q4, q5, q6, q7, lt_q1, lt_q3, lt_q4, lt_q5, lt_q6, lt_q7, m_a_w_5, rfl, rfl, rfl, rfl, m_q3_w_5, m_q4_w_5, m_q5_w_5, m_q6_w_5, m_q7_w_5⟩ (jbnd hk_w_5.1 rfl) (jbnd hk_w_5.2 rfl)
