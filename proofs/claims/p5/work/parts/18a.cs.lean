/-! the two objects (own work, by program) -/
theorem k_c_CS_init_0_1 : sblk b_CS_init [(0, .aload_n 0, .null)] := sblk_of (by decide +kernel)
theorem d_c_CS_init_1 : decode b_CS_init 1 = .ok (.invokespecial 3, 3) := by decide +kernel
theorem k_c_CS_init_4_2 : sblk b_CS_init [(4, .aload_n 0, .null), (5, .bipush 120, .int 120)] := sblk_of (by decide +kernel)
theorem d_c_CS_init_7 : decode b_CS_init 7 = .ok (.newarray .int, 2) := by decide +kernel
theorem d_c_CS_init_9 : decode b_CS_init 9 = .ok (.putfield 9, 3) := by decide +kernel
theorem k_c_CS_init_12_2 : sblk b_CS_init [(12, .aload_n 0, .null), (13, .bipush 6, .int 6)] := sblk_of (by decide +kernel)
theorem d_c_CS_init_15 : decode b_CS_init 15 = .ok (.anewarray 13, 3) := by decide +kernel
theorem d_c_CS_init_18 : decode b_CS_init 18 = .ok (.putfield 15, 3) := by decide +kernel
theorem k_c_CS_init_21_2 : sblk b_CS_init [(21, .aload_n 0, .null), (22, .iconst 4, .int 4)] := sblk_of (by decide +kernel)
theorem d_c_CS_init_23 : decode b_CS_init 23 = .ok (.anewarray 19, 3) := by decide +kernel
theorem d_c_CS_init_26 : decode b_CS_init 26 = .ok (.putfield 21, 3) := by decide +kernel
theorem k_c_CS_init_29_1 : sblk b_CS_init [(29, .aload_n 0, .null)] := sblk_of (by decide +kernel)
theorem d_c_CS_init_30 : decode b_CS_init 30 = .ok (.new 25, 3) := by decide +kernel
theorem k_c_CS_init_33_1 : sblk b_CS_init [(33, .dup, .null)] := sblk_of (by decide +kernel)
theorem d_c_CS_init_34 : decode b_CS_init 34 = .ok (.invokespecial 27, 3) := by decide +kernel
theorem d_c_CS_init_37 : decode b_CS_init 37 = .ok (.putfield 28, 3) := by decide +kernel
theorem k_c_CS_init_40_1 : sblk b_CS_init [(40, .aload_n 0, .null)] := sblk_of (by decide +kernel)
theorem d_c_CS_init_41 : decode b_CS_init 41 = .ok (.new 32, 3) := by decide +kernel
theorem k_c_CS_init_44_1 : sblk b_CS_init [(44, .dup, .null)] := sblk_of (by decide +kernel)
theorem d_c_CS_init_45 : decode b_CS_init 45 = .ok (.invokespecial 34, 3) := by decide +kernel
theorem d_c_CS_init_48 : decode b_CS_init 48 = .ok (.putfield 35, 3) := by decide +kernel
theorem k_c_CS_init_51_2 : sblk b_CS_init [(51, .aload_n 0, .null), (52, .bipush 10, .int 10)] := sblk_of (by decide +kernel)
theorem d_c_CS_init_54 : decode b_CS_init 54 = .ok (.newarray .long, 2) := by decide +kernel
theorem d_c_CS_init_56 : decode b_CS_init 56 = .ok (.putfield 39, 3) := by decide +kernel
theorem k_c_CS_init_59_2 : sblk b_CS_init [(59, .aload_n 0, .null), (60, .bipush 10, .int 10)] := sblk_of (by decide +kernel)
theorem d_c_CS_init_62 : decode b_CS_init 62 = .ok (.newarray .long, 2) := by decide +kernel
theorem d_c_CS_init_64 : decode b_CS_init 64 = .ok (.putfield 43, 3) := by decide +kernel
theorem k_c_CS_init_67_4 : sblk b_CS_init [(67, .iconst 0, .int 0), (68, .istore_n 1, .null), (69, .iload_n 1, .null), (70, .iconst 4, .int 4)] := sblk_of (by decide +kernel)
theorem d_c_CS_init_71 : decode b_CS_init 71 = .ok (.if_icmp .ge 22, 3) := by decide +kernel
theorem k_c_CS_init_74_1 : sblk b_CS_init [(74, .aload_n 0, .null)] := sblk_of (by decide +kernel)
theorem d_c_CS_init_75 : decode b_CS_init 75 = .ok (.getfield 21, 3) := by decide +kernel
theorem k_c_CS_init_78_1 : sblk b_CS_init [(78, .iload_n 1, .null)] := sblk_of (by decide +kernel)
theorem d_c_CS_init_79 : decode b_CS_init 79 = .ok (.new 19, 3) := by decide +kernel
theorem k_c_CS_init_82_1 : sblk b_CS_init [(82, .dup, .null)] := sblk_of (by decide +kernel)
theorem d_c_CS_init_83 : decode b_CS_init 83 = .ok (.invokespecial 46, 3) := by decide +kernel
theorem d_c_CS_init_86 : decode b_CS_init 86 = .ok (.aastore, 1) := by decide +kernel
theorem k_c_CS_init_87_2 : sblk b_CS_init [(87, .iinc 1 1, .int 1), (90, .goto (-21), .retAddr 69)] := sblk_of (by decide +kernel)
theorem k_c_CS_init_69_2 : sblk b_CS_init [(69, .iload_n 1, .null), (70, .iconst 4, .int 4)] := sblk_of (by decide +kernel)
theorem d_c_CS_init_93 : decode b_CS_init 93 = .ok (.return_, 1) := by decide +kernel
set_option maxHeartbeats 4000000 in
set_option maxRecDepth 100000 in
theorem c_CS_init (l : Launch) (D : va_G) (B : Nat) (H0 : Heap) (w : jW) (a : Nat) (V : Nat → Value) (ha : w.1 a = some (.inr (8, V))) : jMet l D B H0 y_CS_init b_CS_init 2 none 3 160 21 2304 [.ref a] w (fun v w9 => v = none ∧ (w9.2.1 = w.2.1 + 21 ∧ w9.2.2 = w.2.2 + 2304) ∧ jfr (fun b => b ≠ a) w w9 ∧ ∃ (V9 : Nat → Value) (tp pg sh rd wk f1 f2 : Nat) (F : Nat → Option Nat) (Vr : Nat → Value), (∀ b e, w.1 b = some e → b < tp) ∧ (∀ b e, w.1 b = some e → b < pg) ∧ (∀ b e, w.1 b = some e → b < sh) ∧ (∀ b e, w.1 b = some e → b < rd) ∧ (∀ b e, w.1 b = some e → b < wk) ∧ (∀ b e, w.1 b = some e → b < f1) ∧ (∀ b e, w.1 b = some e → b < f2) ∧ w9.1 a = some (.inr (8, V9)) ∧ V9 0 = .ref tp ∧ V9 1 = V 1 ∧ V9 2 = .ref pg ∧ V9 3 = V 3 ∧ V9 4 = V 4 ∧ V9 5 = V 5 ∧ V9 6 = V 6 ∧ V9 7 = V 7 ∧ V9 8 = .ref sh ∧ V9 9 = .ref rd ∧ V9 10 = .ref wk ∧ V9 11 = .ref f1 ∧ V9 12 = .ref f2 ∧ w9.1 tp = some (aI D 120 (fun _ => 0)) ∧ w9.1 pg = some (aR D 8 6 (fun _ => none)) ∧ w9.1 sh = some (aR D 9 4 F) ∧ w9.1 rd = some (.inr (3, Vr)) ∧ w9.1 f1 = some (aJ D 10 (fun _ => 0)) ∧ w9.1 f2 = some (aJ D 10 (fun _ => 0)) ∧ (∀ j, j < 4 → ∃ (s e : Nat) (Vs : Nat → Value), F j = some s ∧ w9.1 s = some (.inr (5, Vs)) ∧ Vs 0 = .ref e ∧ Vs 1 = .int (-1) ∧ Vs 2 = .int 0 ∧ w9.1 e = some (aI D 40 (fun _ => 0)) ∧ (∀ b x, w.1 b = some x → b < s ∧ b < e))) := by
  refine j_met (by decide) (Nat.le_of_ble_eq_true rfl) (fun g C Rm Y E => ?_)
  have hin : (jGy g).name = "<init>" := congrArg MethodName.name Y.2.2.2
  have hk := jkz w
  have fr0 : jfr (fun b => b ≠ a) w w := jfr0
  show JJ g w 0 [(0, .ref a)] []
  refine j_blk 1 [(0, .ref a)] [.ref a] C k_c_CS_init_0_1 rfl ?_
  refine j_obj C Rm cl_CS_3 d_c_CS_init_1 (by decide) (by decide) ?_
  refine j_blk 7 [(0, .ref a)] [.int 120, .ref a] C k_c_CS_init_4_2 rfl ?_
  refine j_newa (n := 120) C Rm d_c_CS_init_7 rfl ac_int (by decide) (by decide) (by decide) (jroom hk.1 rfl) (jroom hk.2 rfl) (fun q1 f_q1 => ?_)
  refine jnv (fun w_1 ew_1 => ?_)
  have m_q1_w_1 : w_1.1 q1 = some (aI D 120 (fun _ => 0)) := jus ew_1
  have hk_w_1 := jk1 ew_1 hk
  have lt_q1 := jfrL fr0 f_q1
  have fr_w_1 := jfrN ew_1 fr0 f_q1
  have x_a_q1 := Nat.ne_of_lt (f_q1 _ _ ha)
  have m_a_w_1 := jun ew_1 ha x_a_q1
  refine j_putF C hin d_c_CS_init_9 ff_CS_9 m_a_w_1 rfl rfl ?_
  refine jnv (fun w_2 ew_2 => ?_)
  have m_a_w_2 : w_2.1 a = some (.inr (8, (updV V 0 (.ref q1)))) := jus ew_2
  have hk_w_2 := jk0 ew_2 hk_w_1
  have fr_w_2 := jfrW ew_2 fr_w_1 (fun b e hb _ => hb)
  refine j_blk 15 [(0, .ref a)] [.int 6, .ref a] C k_c_CS_init_12_2 rfl ?_
  refine j_anew (t := 8) (n := 6) C Rm d_c_CS_init_15 rfl (by decide) ca_CS_13 (by decide) (by decide) (by decide) (jroom hk_w_2.1 rfl) (jroom hk_w_2.2 rfl) (fun q2 f_q2 => ?_)
  refine jnv (fun w_3 ew_3 => ?_)
  have m_q2_w_3 : w_3.1 q2 = some (aR D 8 6 (fun _ => none)) := jus ew_3
  have hk_w_3 := jk1 ew_3 hk_w_2
  have lt_q2 := jfrL fr_w_2 f_q2
  have fr_w_3 := jfrN ew_3 fr_w_2 f_q2
  have x_a_q2 := Nat.ne_of_lt (f_q2 _ _ m_a_w_2)
  have m_a_w_3 := jun ew_3 m_a_w_2 x_a_q2
  refine j_putF C hin d_c_CS_init_18 ff_CS_15 m_a_w_3 rfl rfl ?_
  refine jnv (fun w_4 ew_4 => ?_)
  have m_a_w_4 : w_4.1 a = some (.inr (8, (updV (updV V 0 (.ref q1)) 2 (.ref q2)))) := jus ew_4
  have hk_w_4 := jk0 ew_4 hk_w_3
  have fr_w_4 := jfrW ew_4 fr_w_3 (fun b e hb _ => hb)
  refine j_blk 23 [(0, .ref a)] [.int 4, .ref a] C k_c_CS_init_21_2 rfl ?_
  refine j_anew (t := 9) (n := 4) C Rm d_c_CS_init_23 rfl (by decide) ca_CS_19 (by decide) (by decide) (by decide) (jroom hk_w_4.1 rfl) (jroom hk_w_4.2 rfl) (fun q3 f_q3 => ?_)
  refine jnv (fun w_5 ew_5 => ?_)
  have m_q3_w_5 : w_5.1 q3 = some (aR D 9 4 (fun _ => none)) := jus ew_5
  have hk_w_5 := jk1 ew_5 hk_w_4
  have lt_q3 := jfrL fr_w_4 f_q3
  have fr_w_5 := jfrN ew_5 fr_w_4 f_q3
  have x_a_q3 := Nat.ne_of_lt (f_q3 _ _ m_a_w_4)
  have m_a_w_5 := jun ew_5 m_a_w_4 x_a_q3
  refine j_putF C hin d_c_CS_init_26 ff_CS_21 m_a_w_5 rfl rfl ?_
  refine jnv (fun w_6 ew_6 => ?_)
  have m_a_w_6 : w_6.1 a = some (.inr (8, (updV (updV (updV V 0 (.ref q1)) 2 (.ref q2)) 8 (.ref q3)))) := jus ew_6
  have hk_w_6 := jk0 ew_6 hk_w_5
  have fr_w_6 := jfrW ew_6 fr_w_5 (fun b e hb _ => hb)
  refine j_blk 30 [(0, .ref a)] [.ref a] C k_c_CS_init_29_1 rfl ?_
  refine j_new C Rm d_c_CS_init_30 nw_CS_25 (jroom hk_w_6.1 rfl) (jroom hk_w_6.2 rfl) (fun q4 f_q4 => ?_)
  refine jnv (fun w_7 ew_7 => ?_)
  have m_q4_w_7 : w_7.1 q4 = some (.inr (3, v0_3)) := jus ew_7
  have hk_w_7 := jk1 ew_7 hk_w_6
  have lt_q4 := jfrL fr_w_6 f_q4
  have fr_w_7 := jfrN ew_7 fr_w_6 f_q4
  refine j_blk 34 [(0, .ref a)] [.ref q4, .ref q4, .ref a] C k_c_CS_init_33_1 rfl ?_
  refine j_callIn C Rm Y [] [.ref q4, .ref a] (c_Read_init l D B H0 w_7 q4 v0_3 m_q4_w_7) cl_CS_27 d_c_CS_init_34 rfl rfl (Nat.le_of_ble_eq_true rfl) ⟨by decide, by decide⟩ ⟨jroom hk_w_7.1 rfl, jroom hk_w_7.2 rfl⟩ (fun v5 w_8 pw_8 => ?_)
  obtain ⟨rfl, hc_w_8, G_w_8, V_w_8, mo_w_8, hV0_w_8, hV1_w_8, hV2_w_8, hV3_w_8, hV4_w_8, hV5_w_8, hV6_w_8, hV7_w_8, hV8_w_8⟩ := pw_8
  have hk_w_8 := jkT hk_w_7 hc_w_8
  have fr_w_8 := jfrT fr_w_7 G_w_8 (fun b _ _ he => Nat.ne_of_lt (lt_q4 b _ he))
  show JJ g w_8 37 [(0, .ref a)] [.ref q4, .ref a]
  have x_a_q4 := Nat.ne_of_lt (f_q4 _ _ m_a_w_6)
  have m_a_w_7 := jun ew_7 m_a_w_6 x_a_q4
  have m_a_w_8 := (G_w_8 _ _ m_a_w_7).1 x_a_q4
  refine j_putF C hin d_c_CS_init_37 ff_CS_28 m_a_w_8 rfl rfl ?_
  refine jnv (fun w_9 ew_9 => ?_)
  have m_a_w_9 : w_9.1 a = some (.inr (8, (updV (updV (updV (updV V 0 (.ref q1)) 2 (.ref q2)) 8 (.ref q3)) 9 (.ref q4)))) := jus ew_9
  have hk_w_9 := jk0 ew_9 hk_w_8
  have fr_w_9 := jfrW ew_9 fr_w_8 (fun b e hb _ => hb)
  refine j_blk 41 [(0, .ref a)] [.ref a] C k_c_CS_init_40_1 rfl ?_
  refine j_new C Rm d_c_CS_init_41 nw_CS_32 (jroom hk_w_9.1 rfl) (jroom hk_w_9.2 rfl) (fun q6 f_q6 => ?_)
  refine jnv (fun w_10 ew_10 => ?_)
  have m_q6_w_10 : w_10.1 q6 = some (.inr (7, v0_7)) := jus ew_10
  have hk_w_10 := jk1 ew_10 hk_w_9
  have lt_q6 := jfrL fr_w_9 f_q6
  have fr_w_10 := jfrN ew_10 fr_w_9 f_q6
  refine j_blk 45 [(0, .ref a)] [.ref q6, .ref q6, .ref a] C k_c_CS_init_44_1 rfl ?_
  refine j_callIn C Rm Y [] [.ref q6, .ref a] (c_Walk_init l D B H0 w_10 q6 v0_7 m_q6_w_10) cl_CS_34 d_c_CS_init_45 rfl rfl (Nat.le_of_ble_eq_true rfl) ⟨by decide, by decide⟩ ⟨jroom hk_w_10.1 rfl, jroom hk_w_10.2 rfl⟩ (fun v7 w_11 pw_11 => ?_)
  obtain ⟨rfl, hc_w_11, G_w_11, V_w_11, q8, q9, q10, q11, q12, q13, ltq8_w_11, ltq9_w_11, ltq10_w_11, ltq11_w_11, ltq12_w_11, ltq13_w_11, mo_w_11, hV0_w_11, hV1_w_11, hV2_w_11, hV3_w_11, mmq9_w_11, mmq10_w_11, mmq11_w_11, mmq12_w_11, mmq13_w_11⟩ := pw_11
  have hk_w_11 := jkT hk_w_10 hc_w_11
  have lt_q8 := jfrL fr_w_10 ltq8_w_11
  have lt_q9 := jfrL fr_w_10 ltq9_w_11
  have lt_q10 := jfrL fr_w_10 ltq10_w_11
  have lt_q11 := jfrL fr_w_10 ltq11_w_11
  have lt_q12 := jfrL fr_w_10 ltq12_w_11
  have lt_q13 := jfrL fr_w_10 ltq13_w_11
  have fr_w_11 := jfrT fr_w_10 G_w_11 (fun b _ _ he => Nat.ne_of_lt (lt_q6 b _ he))
  show JJ g w_11 48 [(0, .ref a)] [.ref q6, .ref a]
  have x_a_q6 := Nat.ne_of_lt (f_q6 _ _ m_a_w_9)
  have m_a_w_10 := jun ew_10 m_a_w_9 x_a_q6
  have m_a_w_11 := (G_w_11 _ _ m_a_w_10).1 x_a_q6
  refine j_putF C hin d_c_CS_init_48 ff_CS_35 m_a_w_11 rfl rfl ?_
  refine jnv (fun w_12 ew_12 => ?_)
  have m_a_w_12 : w_12.1 a = some (.inr (8, (updV (updV (updV (updV (updV V 0 (.ref q1)) 2 (.ref q2)) 8 (.ref q3)) 9 (.ref q4)) 10 (.ref q6)))) := jus ew_12
  have hk_w_12 := jk0 ew_12 hk_w_11
  have fr_w_12 := jfrW ew_12 fr_w_11 (fun b e hb _ => hb)
  refine j_blk 54 [(0, .ref a)] [.int 10, .ref a] C k_c_CS_init_51_2 rfl ?_
  refine j_newa (n := 10) C Rm d_c_CS_init_54 rfl ac_long (by decide) (by decide) (by decide) (jroom hk_w_12.1 rfl) (jroom hk_w_12.2 rfl) (fun q14 f_q14 => ?_)
  refine jnv (fun w_13 ew_13 => ?_)
  have m_q14_w_13 : w_13.1 q14 = some (aJ D 10 (fun _ => 0)) := jus ew_13
  have hk_w_13 := jk1 ew_13 hk_w_12
  have lt_q14 := jfrL fr_w_12 f_q14
  have fr_w_13 := jfrN ew_13 fr_w_12 f_q14
  have x_a_q14 := Nat.ne_of_lt (f_q14 _ _ m_a_w_12)
  have m_a_w_13 := jun ew_13 m_a_w_12 x_a_q14
  refine j_putF C hin d_c_CS_init_56 ff_CS_39 m_a_w_13 rfl rfl ?_
  refine jnv (fun w_14 ew_14 => ?_)
  have m_a_w_14 : w_14.1 a = some (.inr (8, (updV (updV (updV (updV (updV (updV V 0 (.ref q1)) 2 (.ref q2)) 8 (.ref q3)) 9 (.ref q4)) 10 (.ref q6)) 11 (.ref q14)))) := jus ew_14
  have hk_w_14 := jk0 ew_14 hk_w_13
  have fr_w_14 := jfrW ew_14 fr_w_13 (fun b e hb _ => hb)
  refine j_blk 62 [(0, .ref a)] [.int 10, .ref a] C k_c_CS_init_59_2 rfl ?_
  refine j_newa (n := 10) C Rm d_c_CS_init_62 rfl ac_long (by decide) (by decide) (by decide) (jroom hk_w_14.1 rfl) (jroom hk_w_14.2 rfl) (fun q15 f_q15 => ?_)
  refine jnv (fun w_15 ew_15 => ?_)
  have m_q15_w_15 : w_15.1 q15 = some (aJ D 10 (fun _ => 0)) := jus ew_15
  have hk_w_15 := jk1 ew_15 hk_w_14
  have lt_q15 := jfrL fr_w_14 f_q15
  have fr_w_15 := jfrN ew_15 fr_w_14 f_q15
  have x_a_q15 := Nat.ne_of_lt (f_q15 _ _ m_a_w_14)
  have m_a_w_15 := jun ew_15 m_a_w_14 x_a_q15
  refine j_putF C hin d_c_CS_init_64 ff_CS_43 m_a_w_15 rfl rfl ?_
  refine jnv (fun w_16 ew_16 => ?_)
  have m_a_w_16 : w_16.1 a = some (.inr (8, (updV (updV (updV (updV (updV (updV (updV V 0 (.ref q1)) 2 (.ref q2)) 8 (.ref q3)) 9 (.ref q4)) 10 (.ref q6)) 11 (.ref q14)) 12 (.ref q15)))) := jus ew_16
  have hk_w_16 := jk0 ew_16 hk_w_15
  have fr_w_16 := jfrW ew_16 fr_w_15 (fun b e hb _ => hb)
  refine j_blk 71 [(1, .int 0), (0, .ref a)] [.int 4, .int 0] C k_c_CS_init_67_4 rfl ?_
  refine j_icmp_ge (tgt := 93) C d_c_CS_init_71 (by decide) (fun c16 => absurd c16 (by decide)) (fun c16 => ?_)
  refine j_blk 75 [(1, .int 0), (0, .ref a)] [.ref a] C k_c_CS_init_74_1 rfl ?_
  refine j_get C d_c_CS_init_75 fg_CS_21 m_a_w_16 rfl ?_
  refine j_blk 79 [(1, .int 0), (0, .ref a)] [.int 0, .ref q3] C k_c_CS_init_78_1 rfl ?_
  refine j_new C Rm d_c_CS_init_79 nw_CS_19 (jroom hk_w_16.1 rfl) (jroom hk_w_16.2 rfl) (fun q17 f_q17 => ?_)
  refine jnv (fun w_17 ew_17 => ?_)
  have m_q17_w_17 : w_17.1 q17 = some (.inr (5, v0_5)) := jus ew_17
  have hk_w_17 := jk1 ew_17 hk_w_16
  have lt_q17 := jfrL fr_w_16 f_q17
  have fr_w_17 := jfrN ew_17 fr_w_16 f_q17
  refine j_blk 83 [(1, .int 0), (0, .ref a)] [.ref q17, .ref q17, .int 0, .ref q3] C k_c_CS_init_82_1 rfl ?_
  refine j_callIn C Rm Y [] [.ref q17, .int 0, .ref q3] (c_Sheet_init l D B H0 w_17 q17 v0_5 m_q17_w_17) cl_CS_46 d_c_CS_init_83 rfl rfl (Nat.le_of_ble_eq_true rfl) ⟨by decide, by decide⟩ ⟨jroom hk_w_17.1 rfl, jroom hk_w_17.2 rfl⟩ (fun v18 w_18 pw_18 => ?_)
  obtain ⟨rfl, hc_w_18, G_w_18, V_w_18, q19, ltq19_w_18, mo_w_18, hV0_w_18, hV1_w_18, hV2_w_18, mmq19_w_18⟩ := pw_18
  have hk_w_18 := jkT hk_w_17 hc_w_18
  have lt_q19 := jfrL fr_w_17 ltq19_w_18
  have fr_w_18 := jfrT fr_w_17 G_w_18 (fun b _ _ he => Nat.ne_of_lt (lt_q17 b _ he))
  show JJ g w_18 86 [(1, .int 0), (0, .ref a)] [.ref q17, .int 0, .ref q3]
  have m_q3_w_6 := jun ew_6 m_q3_w_5 (Ne.symm x_a_q3)
  have x_q3_q4 := Nat.ne_of_lt (f_q4 _ _ m_q3_w_6)
  have m_q3_w_7 := jun ew_7 m_q3_w_6 x_q3_q4
  have m_q3_w_8 := (G_w_8 _ _ m_q3_w_7).1 x_q3_q4
  have m_q3_w_9 := jun ew_9 m_q3_w_8 (Ne.symm x_a_q3)
  have x_q3_q6 := Nat.ne_of_lt (f_q6 _ _ m_q3_w_9)
  have m_q3_w_10 := jun ew_10 m_q3_w_9 x_q3_q6
  have m_q3_w_11 := (G_w_11 _ _ m_q3_w_10).1 x_q3_q6
  have m_q3_w_12 := jun ew_12 m_q3_w_11 (Ne.symm x_a_q3)
  have x_q3_q14 := Nat.ne_of_lt (f_q14 _ _ m_q3_w_12)
  have m_q3_w_13 := jun ew_13 m_q3_w_12 x_q3_q14
  have m_q3_w_14 := jun ew_14 m_q3_w_13 (Ne.symm x_a_q3)
  have x_q3_q15 := Nat.ne_of_lt (f_q15 _ _ m_q3_w_14)
  have m_q3_w_15 := jun ew_15 m_q3_w_14 x_q3_q15
  have m_q3_w_16 := jun ew_16 m_q3_w_15 (Ne.symm x_a_q3)
  have x_q3_q17 := Nat.ne_of_lt (f_q17 _ _ m_q3_w_16)
  have m_q3_w_17 := jun ew_17 m_q3_w_16 x_q3_q17
  have m_q3_w_18 := (G_w_18 _ _ m_q3_w_17).1 x_q3_q17
  refine j_aast C d_c_CS_init_86 (by rfl) (by rfl) m_q3_w_18 mo_w_18 (jin (by decide) (by decide)) ?_
  refine jnv (fun w_19 ew_19 => ?_)
  have m_q3_w_19 : w_19.1 q3 = some (aR D 9 4 (va_up (fun _ => none) 0 (some q17))) := jus ew_19
  have hk_w_19 := jk0 ew_19 hk_w_18
  have fr_w_19 := jfrW ew_19 fr_w_18 (fun b _ _ he => Nat.ne_of_lt (lt_q3 b _ he))
  refine j_blk 69 [(1, .int 1), (0, .ref a)] [] C k_c_CS_init_87_2 rfl ?_
  refine j_blk 71 [(1, .int 1), (0, .ref a)] [.int 4, .int 1] C k_c_CS_init_69_2 rfl ?_
  refine j_icmp_ge (tgt := 93) C d_c_CS_init_71 (by decide) (fun c20 => absurd c20 (by decide)) (fun c20 => ?_)
  refine j_blk 75 [(1, .int 1), (0, .ref a)] [.ref a] C k_c_CS_init_74_1 rfl ?_
  have x_a_q17 := Nat.ne_of_lt (f_q17 _ _ m_a_w_16)
  have m_a_w_17 := jun ew_17 m_a_w_16 x_a_q17
  have m_a_w_18 := (G_w_18 _ _ m_a_w_17).1 x_a_q17
  have m_a_w_19 := jun ew_19 m_a_w_18 x_a_q3
  refine j_get C d_c_CS_init_75 fg_CS_21 m_a_w_19 rfl ?_
  refine j_blk 79 [(1, .int 1), (0, .ref a)] [.int 1, .ref q3] C k_c_CS_init_78_1 rfl ?_
  refine j_new C Rm d_c_CS_init_79 nw_CS_19 (jroom hk_w_19.1 rfl) (jroom hk_w_19.2 rfl) (fun q21 f_q21 => ?_)
  refine jnv (fun w_20 ew_20 => ?_)
  have m_q21_w_20 : w_20.1 q21 = some (.inr (5, v0_5)) := jus ew_20
  have hk_w_20 := jk1 ew_20 hk_w_19
  have lt_q21 := jfrL fr_w_19 f_q21
  have fr_w_20 := jfrN ew_20 fr_w_19 f_q21
  refine j_blk 83 [(1, .int 1), (0, .ref a)] [.ref q21, .ref q21, .int 1, .ref q3] C k_c_CS_init_82_1 rfl ?_
  refine j_callIn C Rm Y [] [.ref q21, .int 1, .ref q3] (c_Sheet_init l D B H0 w_20 q21 v0_5 m_q21_w_20) cl_CS_46 d_c_CS_init_83 rfl rfl (Nat.le_of_ble_eq_true rfl) ⟨by decide, by decide⟩ ⟨jroom hk_w_20.1 rfl, jroom hk_w_20.2 rfl⟩ (fun v22 w_21 pw_21 => ?_)
  obtain ⟨rfl, hc_w_21, G_w_21, V_w_21, q23, ltq23_w_21, mo_w_21, hV0_w_21, hV1_w_21, hV2_w_21, mmq23_w_21⟩ := pw_21
  have hk_w_21 := jkT hk_w_20 hc_w_21
  have lt_q23 := jfrL fr_w_20 ltq23_w_21
  have fr_w_21 := jfrT fr_w_20 G_w_21 (fun b _ _ he => Nat.ne_of_lt (lt_q21 b _ he))
  show JJ g w_21 86 [(1, .int 1), (0, .ref a)] [.ref q21, .int 1, .ref q3]
  have x_q3_q21 := Nat.ne_of_lt (f_q21 _ _ m_q3_w_19)
  have m_q3_w_20 := jun ew_20 m_q3_w_19 x_q3_q21
  have m_q3_w_21 := (G_w_21 _ _ m_q3_w_20).1 x_q3_q21
  refine j_aast C d_c_CS_init_86 (by rfl) (by rfl) m_q3_w_21 mo_w_21 (jin (by decide) (by decide)) ?_
  refine jnv (fun w_22 ew_22 => ?_)
  have m_q3_w_22 : w_22.1 q3 = some (aR D 9 4 (va_up (va_up (fun _ => none) 0 (some q17)) 1 (some q21))) := jus ew_22
  have hk_w_22 := jk0 ew_22 hk_w_21
  have fr_w_22 := jfrW ew_22 fr_w_21 (fun b _ _ he => Nat.ne_of_lt (lt_q3 b _ he))
  refine j_blk 69 [(1, .int 2), (0, .ref a)] [] C k_c_CS_init_87_2 rfl ?_
  refine j_blk 71 [(1, .int 2), (0, .ref a)] [.int 4, .int 2] C k_c_CS_init_69_2 rfl ?_
  refine j_icmp_ge (tgt := 93) C d_c_CS_init_71 (by decide) (fun c24 => absurd c24 (by decide)) (fun c24 => ?_)
  refine j_blk 75 [(1, .int 2), (0, .ref a)] [.ref a] C k_c_CS_init_74_1 rfl ?_
  have x_a_q21 := Nat.ne_of_lt (f_q21 _ _ m_a_w_19)
  have m_a_w_20 := jun ew_20 m_a_w_19 x_a_q21
  have m_a_w_21 := (G_w_21 _ _ m_a_w_20).1 x_a_q21
  have m_a_w_22 := jun ew_22 m_a_w_21 x_a_q3
  refine j_get C d_c_CS_init_75 fg_CS_21 m_a_w_22 rfl ?_
  refine j_blk 79 [(1, .int 2), (0, .ref a)] [.int 2, .ref q3] C k_c_CS_init_78_1 rfl ?_
  refine j_new C Rm d_c_CS_init_79 nw_CS_19 (jroom hk_w_22.1 rfl) (jroom hk_w_22.2 rfl) (fun q25 f_q25 => ?_)
  refine jnv (fun w_23 ew_23 => ?_)
  have m_q25_w_23 : w_23.1 q25 = some (.inr (5, v0_5)) := jus ew_23
  have hk_w_23 := jk1 ew_23 hk_w_22
  have lt_q25 := jfrL fr_w_22 f_q25
  have fr_w_23 := jfrN ew_23 fr_w_22 f_q25
  refine j_blk 83 [(1, .int 2), (0, .ref a)] [.ref q25, .ref q25, .int 2, .ref q3] C k_c_CS_init_82_1 rfl ?_
  refine j_callIn C Rm Y [] [.ref q25, .int 2, .ref q3] (c_Sheet_init l D B H0 w_23 q25 v0_5 m_q25_w_23) cl_CS_46 d_c_CS_init_83 rfl rfl (Nat.le_of_ble_eq_true rfl) ⟨by decide, by decide⟩ ⟨jroom hk_w_23.1 rfl, jroom hk_w_23.2 rfl⟩ (fun v26 w_24 pw_24 => ?_)
  obtain ⟨rfl, hc_w_24, G_w_24, V_w_24, q27, ltq27_w_24, mo_w_24, hV0_w_24, hV1_w_24, hV2_w_24, mmq27_w_24⟩ := pw_24
  have hk_w_24 := jkT hk_w_23 hc_w_24
  have lt_q27 := jfrL fr_w_23 ltq27_w_24
  have fr_w_24 := jfrT fr_w_23 G_w_24 (fun b _ _ he => Nat.ne_of_lt (lt_q25 b _ he))
  show JJ g w_24 86 [(1, .int 2), (0, .ref a)] [.ref q25, .int 2, .ref q3]
  have x_q3_q25 := Nat.ne_of_lt (f_q25 _ _ m_q3_w_22)
  have m_q3_w_23 := jun ew_23 m_q3_w_22 x_q3_q25
  have m_q3_w_24 := (G_w_24 _ _ m_q3_w_23).1 x_q3_q25
  refine j_aast C d_c_CS_init_86 (by rfl) (by rfl) m_q3_w_24 mo_w_24 (jin (by decide) (by decide)) ?_
  refine jnv (fun w_25 ew_25 => ?_)
  have m_q3_w_25 : w_25.1 q3 = some (aR D 9 4 (va_up (va_up (va_up (fun _ => none) 0 (some q17)) 1 (some q21)) 2 (some q25))) := jus ew_25
  have hk_w_25 := jk0 ew_25 hk_w_24
  have fr_w_25 := jfrW ew_25 fr_w_24 (fun b _ _ he => Nat.ne_of_lt (lt_q3 b _ he))
  refine j_blk 69 [(1, .int 3), (0, .ref a)] [] C k_c_CS_init_87_2 rfl ?_
  refine j_blk 71 [(1, .int 3), (0, .ref a)] [.int 4, .int 3] C k_c_CS_init_69_2 rfl ?_
  refine j_icmp_ge (tgt := 93) C d_c_CS_init_71 (by decide) (fun c28 => absurd c28 (by decide)) (fun c28 => ?_)
  refine j_blk 75 [(1, .int 3), (0, .ref a)] [.ref a] C k_c_CS_init_74_1 rfl ?_
  have x_a_q25 := Nat.ne_of_lt (f_q25 _ _ m_a_w_22)
  have m_a_w_23 := jun ew_23 m_a_w_22 x_a_q25
  have m_a_w_24 := (G_w_24 _ _ m_a_w_23).1 x_a_q25
  have m_a_w_25 := jun ew_25 m_a_w_24 x_a_q3
  refine j_get C d_c_CS_init_75 fg_CS_21 m_a_w_25 rfl ?_
  refine j_blk 79 [(1, .int 3), (0, .ref a)] [.int 3, .ref q3] C k_c_CS_init_78_1 rfl ?_
  refine j_new C Rm d_c_CS_init_79 nw_CS_19 (jroom hk_w_25.1 rfl) (jroom hk_w_25.2 rfl) (fun q29 f_q29 => ?_)
  refine jnv (fun w_26 ew_26 => ?_)
  have m_q29_w_26 : w_26.1 q29 = some (.inr (5, v0_5)) := jus ew_26
  have hk_w_26 := jk1 ew_26 hk_w_25
  have lt_q29 := jfrL fr_w_25 f_q29
  have fr_w_26 := jfrN ew_26 fr_w_25 f_q29
  refine j_blk 83 [(1, .int 3), (0, .ref a)] [.ref q29, .ref q29, .int 3, .ref q3] C k_c_CS_init_82_1 rfl ?_
  refine j_callIn C Rm Y [] [.ref q29, .int 3, .ref q3] (c_Sheet_init l D B H0 w_26 q29 v0_5 m_q29_w_26) cl_CS_46 d_c_CS_init_83 rfl rfl (Nat.le_of_ble_eq_true rfl) ⟨by decide, by decide⟩ ⟨jroom hk_w_26.1 rfl, jroom hk_w_26.2 rfl⟩ (fun v30 w_27 pw_27 => ?_)
  obtain ⟨rfl, hc_w_27, G_w_27, V_w_27, q31, ltq31_w_27, mo_w_27, hV0_w_27, hV1_w_27, hV2_w_27, mmq31_w_27⟩ := pw_27
  have hk_w_27 := jkT hk_w_26 hc_w_27
  have lt_q31 := jfrL fr_w_26 ltq31_w_27
  have fr_w_27 := jfrT fr_w_26 G_w_27 (fun b _ _ he => Nat.ne_of_lt (lt_q29 b _ he))
  show JJ g w_27 86 [(1, .int 3), (0, .ref a)] [.ref q29, .int 3, .ref q3]
  have x_q3_q29 := Nat.ne_of_lt (f_q29 _ _ m_q3_w_25)
  have m_q3_w_26 := jun ew_26 m_q3_w_25 x_q3_q29
  have m_q3_w_27 := (G_w_27 _ _ m_q3_w_26).1 x_q3_q29
  refine j_aast C d_c_CS_init_86 (by rfl) (by rfl) m_q3_w_27 mo_w_27 (jin (by decide) (by decide)) ?_
  refine jnv (fun w_28 ew_28 => ?_)
  have m_q3_w_28 : w_28.1 q3 = some (aR D 9 4 (va_up (va_up (va_up (va_up (fun _ => none) 0 (some q17)) 1 (some q21)) 2 (some q25)) 3 (some q29))) := jus ew_28
  have hk_w_28 := jk0 ew_28 hk_w_27
  have fr_w_28 := jfrW ew_28 fr_w_27 (fun b _ _ he => Nat.ne_of_lt (lt_q3 b _ he))
  refine j_blk 69 [(1, .int 4), (0, .ref a)] [] C k_c_CS_init_87_2 rfl ?_
  refine j_blk 71 [(1, .int 4), (0, .ref a)] [.int 4, .int 4] C k_c_CS_init_69_2 rfl ?_
  refine j_icmp_ge (tgt := 93) C d_c_CS_init_71 (by decide) (fun c32 => ?_) (fun c32 => absurd (by decide) c32)
  have m_q17_w_19 := jun ew_19 mo_w_18 (Ne.symm x_q3_q17)
  have x_q17_q21 := Nat.ne_of_lt (f_q21 _ _ m_q17_w_19)
  have m_q17_w_20 := jun ew_20 m_q17_w_19 x_q17_q21
  have m_q17_w_21 := (G_w_21 _ _ m_q17_w_20).1 x_q17_q21
  have m_q17_w_22 := jun ew_22 m_q17_w_21 (Ne.symm x_q3_q17)
  have x_q17_q25 := Nat.ne_of_lt (f_q25 _ _ m_q17_w_22)
  have m_q17_w_23 := jun ew_23 m_q17_w_22 x_q17_q25
  have m_q17_w_24 := (G_w_24 _ _ m_q17_w_23).1 x_q17_q25
  have m_q17_w_25 := jun ew_25 m_q17_w_24 (Ne.symm x_q3_q17)
  have x_q17_q29 := Nat.ne_of_lt (f_q29 _ _ m_q17_w_25)
  have m_q17_w_26 := jun ew_26 m_q17_w_25 x_q17_q29
  have m_q17_w_27 := (G_w_27 _ _ m_q17_w_26).1 x_q17_q29
  have m_q17_w_28 := jun ew_28 m_q17_w_27 (Ne.symm x_q3_q17)
  have m_q19_w_19 := jun ew_19 mmq19_w_18 (jneN mmq19_w_18 m_q3_w_18 rfl)
  have x_q19_q21 := Nat.ne_of_lt (f_q21 _ _ m_q19_w_19)
  have m_q19_w_20 := jun ew_20 m_q19_w_19 x_q19_q21
  have m_q19_w_21 := (G_w_21 _ _ m_q19_w_20).1 x_q19_q21
  have m_q19_w_22 := jun ew_22 m_q19_w_21 (jneN m_q19_w_21 m_q3_w_21 rfl)
  have x_q19_q25 := Nat.ne_of_lt (f_q25 _ _ m_q19_w_22)
  have m_q19_w_23 := jun ew_23 m_q19_w_22 x_q19_q25
  have m_q19_w_24 := (G_w_24 _ _ m_q19_w_23).1 x_q19_q25
  have m_q19_w_25 := jun ew_25 m_q19_w_24 (jneN m_q19_w_24 m_q3_w_24 rfl)
  have x_q19_q29 := Nat.ne_of_lt (f_q29 _ _ m_q19_w_25)
  have m_q19_w_26 := jun ew_26 m_q19_w_25 x_q19_q29
  have m_q19_w_27 := (G_w_27 _ _ m_q19_w_26).1 x_q19_q29
  have m_q19_w_28 := jun ew_28 m_q19_w_27 (jneN m_q19_w_27 m_q3_w_27 rfl)
  have m_q21_w_22 := jun ew_22 mo_w_21 (Ne.symm x_q3_q21)
  have x_q21_q25 := Nat.ne_of_lt (f_q25 _ _ m_q21_w_22)
  have m_q21_w_23 := jun ew_23 m_q21_w_22 x_q21_q25
  have m_q21_w_24 := (G_w_24 _ _ m_q21_w_23).1 x_q21_q25
  have m_q21_w_25 := jun ew_25 m_q21_w_24 (Ne.symm x_q3_q21)
  have x_q21_q29 := Nat.ne_of_lt (f_q29 _ _ m_q21_w_25)
  have m_q21_w_26 := jun ew_26 m_q21_w_25 x_q21_q29
  have m_q21_w_27 := (G_w_27 _ _ m_q21_w_26).1 x_q21_q29
  have m_q21_w_28 := jun ew_28 m_q21_w_27 (Ne.symm x_q3_q21)
  have m_q23_w_22 := jun ew_22 mmq23_w_21 (jneN mmq23_w_21 m_q3_w_21 rfl)
  have x_q23_q25 := Nat.ne_of_lt (f_q25 _ _ m_q23_w_22)
  have m_q23_w_23 := jun ew_23 m_q23_w_22 x_q23_q25
  have m_q23_w_24 := (G_w_24 _ _ m_q23_w_23).1 x_q23_q25
  have m_q23_w_25 := jun ew_25 m_q23_w_24 (jneN m_q23_w_24 m_q3_w_24 rfl)
  have x_q23_q29 := Nat.ne_of_lt (f_q29 _ _ m_q23_w_25)
  have m_q23_w_26 := jun ew_26 m_q23_w_25 x_q23_q29
  have m_q23_w_27 := (G_w_27 _ _ m_q23_w_26).1 x_q23_q29
  have m_q23_w_28 := jun ew_28 m_q23_w_27 (jneN m_q23_w_27 m_q3_w_27 rfl)
  have m_q25_w_25 := jun ew_25 mo_w_24 (Ne.symm x_q3_q25)
  have x_q25_q29 := Nat.ne_of_lt (f_q29 _ _ m_q25_w_25)
  have m_q25_w_26 := jun ew_26 m_q25_w_25 x_q25_q29
  have m_q25_w_27 := (G_w_27 _ _ m_q25_w_26).1 x_q25_q29
  have m_q25_w_28 := jun ew_28 m_q25_w_27 (Ne.symm x_q3_q25)
  have m_q27_w_25 := jun ew_25 mmq27_w_24 (jneN mmq27_w_24 m_q3_w_24 rfl)
  have x_q27_q29 := Nat.ne_of_lt (f_q29 _ _ m_q27_w_25)
  have m_q27_w_26 := jun ew_26 m_q27_w_25 x_q27_q29
  have m_q27_w_27 := (G_w_27 _ _ m_q27_w_26).1 x_q27_q29
  have m_q27_w_28 := jun ew_28 m_q27_w_27 (jneN m_q27_w_27 m_q3_w_27 rfl)
  have m_q29_w_28 := jun ew_28 mo_w_27 (Ne.symm x_q3_q29)
  have m_q31_w_28 := jun ew_28 mmq31_w_27 (jneN mmq31_w_27 m_q3_w_27 rfl)
  have x_a_q29 := Nat.ne_of_lt (f_q29 _ _ m_a_w_25)
  have m_a_w_26 := jun ew_26 m_a_w_25 x_a_q29
  have m_a_w_27 := (G_w_27 _ _ m_a_w_26).1 x_a_q29
  have m_a_w_28 := jun ew_28 m_a_w_27 x_a_q3
  have m_q1_w_2 := jun ew_2 m_q1_w_1 (Ne.symm x_a_q1)
  have x_q1_q2 := Nat.ne_of_lt (f_q2 _ _ m_q1_w_2)
  have m_q1_w_3 := jun ew_3 m_q1_w_2 x_q1_q2
  have m_q1_w_4 := jun ew_4 m_q1_w_3 (Ne.symm x_a_q1)
  have x_q1_q3 := Nat.ne_of_lt (f_q3 _ _ m_q1_w_4)
  have m_q1_w_5 := jun ew_5 m_q1_w_4 x_q1_q3
  have m_q1_w_6 := jun ew_6 m_q1_w_5 (Ne.symm x_a_q1)
  have x_q1_q4 := Nat.ne_of_lt (f_q4 _ _ m_q1_w_6)
  have m_q1_w_7 := jun ew_7 m_q1_w_6 x_q1_q4
  have m_q1_w_8 := (G_w_8 _ _ m_q1_w_7).1 x_q1_q4
  have m_q1_w_9 := jun ew_9 m_q1_w_8 (Ne.symm x_a_q1)
  have x_q1_q6 := Nat.ne_of_lt (f_q6 _ _ m_q1_w_9)
  have m_q1_w_10 := jun ew_10 m_q1_w_9 x_q1_q6
  have m_q1_w_11 := (G_w_11 _ _ m_q1_w_10).1 x_q1_q6
  have m_q1_w_12 := jun ew_12 m_q1_w_11 (Ne.symm x_a_q1)
  have x_q1_q14 := Nat.ne_of_lt (f_q14 _ _ m_q1_w_12)
  have m_q1_w_13 := jun ew_13 m_q1_w_12 x_q1_q14
  have m_q1_w_14 := jun ew_14 m_q1_w_13 (Ne.symm x_a_q1)
  have x_q1_q15 := Nat.ne_of_lt (f_q15 _ _ m_q1_w_14)
  have m_q1_w_15 := jun ew_15 m_q1_w_14 x_q1_q15
  have m_q1_w_16 := jun ew_16 m_q1_w_15 (Ne.symm x_a_q1)
  have x_q1_q17 := Nat.ne_of_lt (f_q17 _ _ m_q1_w_16)
  have m_q1_w_17 := jun ew_17 m_q1_w_16 x_q1_q17
  have m_q1_w_18 := (G_w_18 _ _ m_q1_w_17).1 x_q1_q17
  have m_q1_w_19 := jun ew_19 m_q1_w_18 x_q1_q3
  have x_q1_q21 := Nat.ne_of_lt (f_q21 _ _ m_q1_w_19)
  have m_q1_w_20 := jun ew_20 m_q1_w_19 x_q1_q21
  have m_q1_w_21 := (G_w_21 _ _ m_q1_w_20).1 x_q1_q21
  have m_q1_w_22 := jun ew_22 m_q1_w_21 x_q1_q3
  have x_q1_q25 := Nat.ne_of_lt (f_q25 _ _ m_q1_w_22)
  have m_q1_w_23 := jun ew_23 m_q1_w_22 x_q1_q25
  have m_q1_w_24 := (G_w_24 _ _ m_q1_w_23).1 x_q1_q25
  have m_q1_w_25 := jun ew_25 m_q1_w_24 x_q1_q3
  have x_q1_q29 := Nat.ne_of_lt (f_q29 _ _ m_q1_w_25)
  have m_q1_w_26 := jun ew_26 m_q1_w_25 x_q1_q29
  have m_q1_w_27 := (G_w_27 _ _ m_q1_w_26).1 x_q1_q29
  have m_q1_w_28 := jun ew_28 m_q1_w_27 x_q1_q3
  have m_q2_w_4 := jun ew_4 m_q2_w_3 (Ne.symm x_a_q2)
  have x_q2_q3 := Nat.ne_of_lt (f_q3 _ _ m_q2_w_4)
  have m_q2_w_5 := jun ew_5 m_q2_w_4 x_q2_q3
  have m_q2_w_6 := jun ew_6 m_q2_w_5 (Ne.symm x_a_q2)
  have x_q2_q4 := Nat.ne_of_lt (f_q4 _ _ m_q2_w_6)
  have m_q2_w_7 := jun ew_7 m_q2_w_6 x_q2_q4
  have m_q2_w_8 := (G_w_8 _ _ m_q2_w_7).1 x_q2_q4
  have m_q2_w_9 := jun ew_9 m_q2_w_8 (Ne.symm x_a_q2)
  have x_q2_q6 := Nat.ne_of_lt (f_q6 _ _ m_q2_w_9)
  have m_q2_w_10 := jun ew_10 m_q2_w_9 x_q2_q6
  have m_q2_w_11 := (G_w_11 _ _ m_q2_w_10).1 x_q2_q6
  have m_q2_w_12 := jun ew_12 m_q2_w_11 (Ne.symm x_a_q2)
  have x_q2_q14 := Nat.ne_of_lt (f_q14 _ _ m_q2_w_12)
  have m_q2_w_13 := jun ew_13 m_q2_w_12 x_q2_q14
  have m_q2_w_14 := jun ew_14 m_q2_w_13 (Ne.symm x_a_q2)
  have x_q2_q15 := Nat.ne_of_lt (f_q15 _ _ m_q2_w_14)
  have m_q2_w_15 := jun ew_15 m_q2_w_14 x_q2_q15
  have m_q2_w_16 := jun ew_16 m_q2_w_15 (Ne.symm x_a_q2)
  have x_q2_q17 := Nat.ne_of_lt (f_q17 _ _ m_q2_w_16)
  have m_q2_w_17 := jun ew_17 m_q2_w_16 x_q2_q17
  have m_q2_w_18 := (G_w_18 _ _ m_q2_w_17).1 x_q2_q17
  have m_q2_w_19 := jun ew_19 m_q2_w_18 x_q2_q3
  have x_q2_q21 := Nat.ne_of_lt (f_q21 _ _ m_q2_w_19)
  have m_q2_w_20 := jun ew_20 m_q2_w_19 x_q2_q21
  have m_q2_w_21 := (G_w_21 _ _ m_q2_w_20).1 x_q2_q21
  have m_q2_w_22 := jun ew_22 m_q2_w_21 x_q2_q3
  have x_q2_q25 := Nat.ne_of_lt (f_q25 _ _ m_q2_w_22)
  have m_q2_w_23 := jun ew_23 m_q2_w_22 x_q2_q25
  have m_q2_w_24 := (G_w_24 _ _ m_q2_w_23).1 x_q2_q25
  have m_q2_w_25 := jun ew_25 m_q2_w_24 x_q2_q3
  have x_q2_q29 := Nat.ne_of_lt (f_q29 _ _ m_q2_w_25)
  have m_q2_w_26 := jun ew_26 m_q2_w_25 x_q2_q29
  have m_q2_w_27 := (G_w_27 _ _ m_q2_w_26).1 x_q2_q29
  have m_q2_w_28 := jun ew_28 m_q2_w_27 x_q2_q3
  have m_q4_w_9 := jun ew_9 mo_w_8 (Ne.symm x_a_q4)
  have x_q4_q6 := Nat.ne_of_lt (f_q6 _ _ m_q4_w_9)
  have m_q4_w_10 := jun ew_10 m_q4_w_9 x_q4_q6
  have m_q4_w_11 := (G_w_11 _ _ m_q4_w_10).1 x_q4_q6
  have m_q4_w_12 := jun ew_12 m_q4_w_11 (Ne.symm x_a_q4)
  have x_q4_q14 := Nat.ne_of_lt (f_q14 _ _ m_q4_w_12)
  have m_q4_w_13 := jun ew_13 m_q4_w_12 x_q4_q14
  have m_q4_w_14 := jun ew_14 m_q4_w_13 (Ne.symm x_a_q4)
  have x_q4_q15 := Nat.ne_of_lt (f_q15 _ _ m_q4_w_14)
  have m_q4_w_15 := jun ew_15 m_q4_w_14 x_q4_q15
  have m_q4_w_16 := jun ew_16 m_q4_w_15 (Ne.symm x_a_q4)
  have x_q4_q17 := Nat.ne_of_lt (f_q17 _ _ m_q4_w_16)
  have m_q4_w_17 := jun ew_17 m_q4_w_16 x_q4_q17
  have m_q4_w_18 := (G_w_18 _ _ m_q4_w_17).1 x_q4_q17
  have m_q4_w_19 := jun ew_19 m_q4_w_18 (Ne.symm x_q3_q4)
  have x_q4_q21 := Nat.ne_of_lt (f_q21 _ _ m_q4_w_19)
  have m_q4_w_20 := jun ew_20 m_q4_w_19 x_q4_q21
  have m_q4_w_21 := (G_w_21 _ _ m_q4_w_20).1 x_q4_q21
  have m_q4_w_22 := jun ew_22 m_q4_w_21 (Ne.symm x_q3_q4)
  have x_q4_q25 := Nat.ne_of_lt (f_q25 _ _ m_q4_w_22)
  have m_q4_w_23 := jun ew_23 m_q4_w_22 x_q4_q25
  have m_q4_w_24 := (G_w_24 _ _ m_q4_w_23).1 x_q4_q25
  have m_q4_w_25 := jun ew_25 m_q4_w_24 (Ne.symm x_q3_q4)
  have x_q4_q29 := Nat.ne_of_lt (f_q29 _ _ m_q4_w_25)
  have m_q4_w_26 := jun ew_26 m_q4_w_25 x_q4_q29
  have m_q4_w_27 := (G_w_27 _ _ m_q4_w_26).1 x_q4_q29
  have m_q4_w_28 := jun ew_28 m_q4_w_27 (Ne.symm x_q3_q4)
  have m_q14_w_14 := jun ew_14 m_q14_w_13 (Ne.symm x_a_q14)
  have x_q14_q15 := Nat.ne_of_lt (f_q15 _ _ m_q14_w_14)
  have m_q14_w_15 := jun ew_15 m_q14_w_14 x_q14_q15
  have m_q14_w_16 := jun ew_16 m_q14_w_15 (Ne.symm x_a_q14)
  have x_q14_q17 := Nat.ne_of_lt (f_q17 _ _ m_q14_w_16)
  have m_q14_w_17 := jun ew_17 m_q14_w_16 x_q14_q17
  have m_q14_w_18 := (G_w_18 _ _ m_q14_w_17).1 x_q14_q17
  have m_q14_w_19 := jun ew_19 m_q14_w_18 (Ne.symm x_q3_q14)
  have x_q14_q21 := Nat.ne_of_lt (f_q21 _ _ m_q14_w_19)
  have m_q14_w_20 := jun ew_20 m_q14_w_19 x_q14_q21
  have m_q14_w_21 := (G_w_21 _ _ m_q14_w_20).1 x_q14_q21
  have m_q14_w_22 := jun ew_22 m_q14_w_21 (Ne.symm x_q3_q14)
  have x_q14_q25 := Nat.ne_of_lt (f_q25 _ _ m_q14_w_22)
  have m_q14_w_23 := jun ew_23 m_q14_w_22 x_q14_q25
  have m_q14_w_24 := (G_w_24 _ _ m_q14_w_23).1 x_q14_q25
  have m_q14_w_25 := jun ew_25 m_q14_w_24 (Ne.symm x_q3_q14)
  have x_q14_q29 := Nat.ne_of_lt (f_q29 _ _ m_q14_w_25)
  have m_q14_w_26 := jun ew_26 m_q14_w_25 x_q14_q29
  have m_q14_w_27 := (G_w_27 _ _ m_q14_w_26).1 x_q14_q29
  have m_q14_w_28 := jun ew_28 m_q14_w_27 (Ne.symm x_q3_q14)
  have m_q15_w_16 := jun ew_16 m_q15_w_15 (Ne.symm x_a_q15)
  have x_q15_q17 := Nat.ne_of_lt (f_q17 _ _ m_q15_w_16)
  have m_q15_w_17 := jun ew_17 m_q15_w_16 x_q15_q17
  have m_q15_w_18 := (G_w_18 _ _ m_q15_w_17).1 x_q15_q17
  have m_q15_w_19 := jun ew_19 m_q15_w_18 (Ne.symm x_q3_q15)
  have x_q15_q21 := Nat.ne_of_lt (f_q21 _ _ m_q15_w_19)
  have m_q15_w_20 := jun ew_20 m_q15_w_19 x_q15_q21
  have m_q15_w_21 := (G_w_21 _ _ m_q15_w_20).1 x_q15_q21
  have m_q15_w_22 := jun ew_22 m_q15_w_21 (Ne.symm x_q3_q15)
  have x_q15_q25 := Nat.ne_of_lt (f_q25 _ _ m_q15_w_22)
  have m_q15_w_23 := jun ew_23 m_q15_w_22 x_q15_q25
  have m_q15_w_24 := (G_w_24 _ _ m_q15_w_23).1 x_q15_q25
  have m_q15_w_25 := jun ew_25 m_q15_w_24 (Ne.symm x_q3_q15)
  have x_q15_q29 := Nat.ne_of_lt (f_q29 _ _ m_q15_w_25)
  have m_q15_w_26 := jun ew_26 m_q15_w_25 x_q15_q29
  have m_q15_w_27 := (G_w_27 _ _ m_q15_w_26).1 x_q15_q29
  have m_q15_w_28 := jun ew_28 m_q15_w_27 (Ne.symm x_q3_q15)
  exact j_vret C Rm E d_c_CS_init_93 ⟨rfl, hk_w_28, fr_w_28, _, q1, q2, q3, q4, q6, q14, q15, _, _, lt_q1, lt_q2, lt_q3, lt_q4, lt_q6, lt_q14, lt_q15, m_a_w_28, rfl, rfl, rfl, rfl, rfl, rfl, rfl, rfl, rfl, rfl, rfl, rfl, rfl, m_q1_w_28, m_q2_w_28, m_q3_w_28, m_q4_w_28, m_q14_w_28, m_q15_w_28, (fun j hj => match j, hj with | 0, _ => ⟨q17, q19, _, rfl, m_q17_w_28, hV0_w_18, hV1_w_18, hV2_w_18, m_q19_w_28, fun b x hb => ⟨lt_q17 b x hb, lt_q19 b x hb⟩⟩ | 1, _ => ⟨q21, q23, _, rfl, m_q21_w_28, hV0_w_21, hV1_w_21, hV2_w_21, m_q23_w_28, fun b x hb => ⟨lt_q21 b x hb, lt_q23 b x hb⟩⟩ | 2, _ => ⟨q25, q27, _, rfl, m_q25_w_28, hV0_w_24, hV1_w_24, hV2_w_24, m_q27_w_28, fun b x hb => ⟨lt_q25 b x hb, lt_q27 b x hb⟩⟩ | 3, _ => ⟨q29, q31, _, rfl, m_q29_w_28, hV0_w_27, hV1_w_27, hV2_w_27, m_q31_w_28, fun b x hb => ⟨lt_q29 b x hb, lt_q31 b x hb⟩⟩)⟩ (jbnd hk_w_28.1 rfl) (jbnd hk_w_28.2 rfl)
