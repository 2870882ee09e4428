/-! program() on fresh objects (own work, by program) -/
theorem jl_lt16 {k : Nat} (h : ¬ (16 : Int32) ≤ nI k) (hk : k ≤ 16) : k < 16 := by rw [jle, kt_16, nI_toInt (show k < 2 ^ 31 by omega)] at h; omega
theorem jl_fu16 {k n : Nat} (h : 16 < k + (n + 1)) : 16 < k + 1 + n := by omega
theorem jl_eq16 {k : Nat} (h : (16 : Int32) ≤ nI k) (hk : k ≤ 16) : k = 16 := by rw [jle, kt_16, nI_toInt (show k < 2 ^ 31 by omega)] at h; omega
theorem jl_lt10 {k : Nat} (h : ¬ (10 : Int32) ≤ nI k) (hk : k ≤ 10) : k < 10 := by rw [jle, kt_10, nI_toInt (show k < 2 ^ 31 by omega)] at h; omega
theorem jl_fu10 {k n : Nat} (h : 10 < k + (n + 1)) : 10 < k + 1 + n := by omega
theorem jl_eq10 {k : Nat} (h : (10 : Int32) ≤ nI k) (hk : k ≤ 10) : k = 10 := by rw [jle, kt_10, nI_toInt (show k < 2 ^ 31 by omega)] at h; omega
theorem k_c_Prog_init_0_1 : sblk b_Prog_init [(0, .aload_n 0, .null)] := sblk_of (by decide +kernel)
theorem d_c_Prog_init_1 : decode b_Prog_init 1 = .ok (.invokespecial 3, 3) := by decide +kernel
theorem k_c_Prog_init_4_2 : sblk b_Prog_init [(4, .aload_n 0, .null), (5, .bipush 16, .int 16)] := sblk_of (by decide +kernel)
theorem d_c_Prog_init_7 : decode b_Prog_init 7 = .ok (.anewarray 9, 3) := by decide +kernel
theorem d_c_Prog_init_10 : decode b_Prog_init 10 = .ok (.putfield 11, 3) := by decide +kernel
theorem k_c_Prog_init_13_2 : sblk b_Prog_init [(13, .aload_n 0, .null), (14, .bipush 120, .int 120)] := sblk_of (by decide +kernel)
theorem d_c_Prog_init_16 : decode b_Prog_init 16 = .ok (.newarray .int, 2) := by decide +kernel
theorem d_c_Prog_init_18 : decode b_Prog_init 18 = .ok (.putfield 17, 3) := by decide +kernel
theorem k_c_Prog_init_21_2 : sblk b_Prog_init [(21, .aload_n 0, .null), (22, .bipush 60, .int 60)] := sblk_of (by decide +kernel)
theorem d_c_Prog_init_24 : decode b_Prog_init 24 = .ok (.newarray .int, 2) := by decide +kernel
theorem d_c_Prog_init_26 : decode b_Prog_init 26 = .ok (.putfield 21, 3) := by decide +kernel
theorem k_c_Prog_init_29_2 : sblk b_Prog_init [(29, .aload_n 0, .null), (30, .bipush 60, .int 60)] := sblk_of (by decide +kernel)
theorem d_c_Prog_init_32 : decode b_Prog_init 32 = .ok (.newarray .int, 2) := by decide +kernel
theorem d_c_Prog_init_34 : decode b_Prog_init 34 = .ok (.putfield 24, 3) := by decide +kernel
theorem k_c_Prog_init_37_2 : sblk b_Prog_init [(37, .aload_n 0, .null), (38, .bipush 120, .int 120)] := sblk_of (by decide +kernel)
theorem d_c_Prog_init_40 : decode b_Prog_init 40 = .ok (.newarray .int, 2) := by decide +kernel
theorem d_c_Prog_init_42 : decode b_Prog_init 42 = .ok (.putfield 27, 3) := by decide +kernel
theorem k_c_Prog_init_45_1 : sblk b_Prog_init [(45, .aload_n 0, .null)] := sblk_of (by decide +kernel)
theorem d_c_Prog_init_46 : decode b_Prog_init 46 = .ok (.new 30, 3) := by decide +kernel
theorem k_c_Prog_init_49_1 : sblk b_Prog_init [(49, .dup, .null)] := sblk_of (by decide +kernel)
theorem d_c_Prog_init_50 : decode b_Prog_init 50 = .ok (.invokespecial 32, 3) := by decide +kernel
theorem d_c_Prog_init_53 : decode b_Prog_init 53 = .ok (.putfield 33, 3) := by decide +kernel
theorem k_c_Prog_init_56_2 : sblk b_Prog_init [(56, .aload_n 0, .null), (57, .iconst (-1), .int (-1))] := sblk_of (by decide +kernel)
theorem d_c_Prog_init_58 : decode b_Prog_init 58 = .ok (.putfield 37, 3) := by decide +kernel
theorem k_c_Prog_init_61_2 : sblk b_Prog_init [(61, .iconst 0, .int 0), (62, .istore_n 1, .null)] := sblk_of (by decide +kernel)
theorem k_c_Prog_init_63_2 : sblk b_Prog_init [(63, .iload_n 1, .null), (64, .bipush 16, .int 16)] := sblk_of (by decide +kernel)
theorem d_c_Prog_init_66 : decode b_Prog_init 66 = .ok (.if_icmp .ge 22, 3) := by decide +kernel
theorem d_c_Prog_init_88 : decode b_Prog_init 88 = .ok (.return_, 1) := by decide +kernel
theorem k_c_Prog_init_69_1 : sblk b_Prog_init [(69, .aload_n 0, .null)] := sblk_of (by decide +kernel)
theorem d_c_Prog_init_70 : decode b_Prog_init 70 = .ok (.getfield 11, 3) := by decide +kernel
theorem k_c_Prog_init_73_1 : sblk b_Prog_init [(73, .iload_n 1, .null)] := sblk_of (by decide +kernel)
theorem d_c_Prog_init_74 : decode b_Prog_init 74 = .ok (.new 9, 3) := by decide +kernel
theorem k_c_Prog_init_77_1 : sblk b_Prog_init [(77, .dup, .null)] := sblk_of (by decide +kernel)
theorem d_c_Prog_init_78 : decode b_Prog_init 78 = .ok (.invokespecial 41, 3) := by decide +kernel
theorem d_c_Prog_init_81 : decode b_Prog_init 81 = .ok (.aastore, 1) := by decide +kernel
theorem k_c_Prog_init_82_2 : sblk b_Prog_init [(82, .iinc 1 1, .int 1), (85, .goto (-22), .retAddr 63)] := sblk_of (by decide +kernel)
set_option maxHeartbeats 40000000 in
set_option maxRecDepth 100000 in
theorem c_Prog_init (l : Launch) (D : va_G) (B : Nat) (H0 : Heap) (w : jW) (a : Nat) (V : Nat → Value) (ha : w.1 a = some (.inr (2, V))) : jMet l D B H0 y_Prog_init b_Prog_init 2 none 2 80 25 723 [.ref a] w (fun v w9 => v = none ∧ (w9.2.1 = w.2.1 + 25 ∧ w9.2.2 = w.2.2 + 723) ∧ jfr (fun b => b ≠ a) w w9 ∧ ∃ (V9 : Nat → Value) (sp cd lv lw sk ru r1 r2 r3 : Nat) (Vr : Nat → Value) (F : Nat → Option Nat), (∀ b e, w.1 b = some e → b < sp) ∧ (∀ b e, w.1 b = some e → b < cd) ∧ (∀ b e, w.1 b = some e → b < lv) ∧ (∀ b e, w.1 b = some e → b < lw) ∧ (∀ b e, w.1 b = some e → b < sk) ∧ (∀ b e, w.1 b = some e → b < ru) ∧ (∀ b e, w.1 b = some e → b < r1) ∧ (∀ b e, w.1 b = some e → b < r2) ∧ (∀ b e, w.1 b = some e → b < r3) ∧ w9.1 a = some (.inr (2, V9)) ∧ V9 0 = .ref sp ∧ V9 1 = V 1 ∧ V9 2 = .ref cd ∧ V9 3 = V 3 ∧ V9 4 = .ref lv ∧ V9 5 = .ref lw ∧ V9 6 = V 6 ∧ V9 7 = .ref sk ∧ V9 8 = V 8 ∧ V9 9 = V 9 ∧ V9 10 = V 10 ∧ V9 11 = V 11 ∧ V9 12 = .ref ru ∧ V9 13 = V 13 ∧ V9 14 = .int (-1) ∧ V9 15 = V 15 ∧ w9.1 ru = some (.inr (4, Vr)) ∧ Vr 0 = .ref r1 ∧ Vr 1 = .ref r2 ∧ Vr 2 = .ref r3 ∧ w9.1 cd = some (aI D 120 (fun _ => 0)) ∧ w9.1 lv = some (aI D 60 (fun _ => 0)) ∧ w9.1 lw = some (aI D 60 (fun _ => 0)) ∧ w9.1 sk = some (aI D 120 (fun _ => 0)) ∧ w9.1 r1 = some (aI D 10 (fun _ => 0)) ∧ w9.1 r2 = some (aJ D 100 (fun _ => 0)) ∧ w9.1 r3 = some (aJ D 10 (fun _ => 0)) ∧ w9.1 sp = some (aR D 10 16 F)) := by
  refine j_met (by decide) (Nat.le_of_ble_eq_true rfl) (fun g C Rm Y E => ?_)
  have hin : (jGy g).name = "<init>" := congrArg MethodName.name Y.2.2.2
  have hk := jkz w
  have fr0 : jfr (fun b => b ≠ a) w w := jfr0
  show JJ g w 0 [(0, .ref a)] []
  refine j_blk 1 [(0, .ref a)] [.ref a] C k_c_Prog_init_0_1 rfl ?_
  refine j_obj C Rm cl_Prog_3 d_c_Prog_init_1 (by decide) (by decide) ?_
  refine j_blk 7 [(0, .ref a)] [.int 16, .ref a] C k_c_Prog_init_4_2 rfl ?_
  refine j_anew (t := 10) (n := 16) C Rm d_c_Prog_init_7 rfl (by decide) ca_Prog_9 (by decide) (by decide) (by decide) (jroom hk.1 rfl) (jroom hk.2 rfl) (fun q1 f_q1 => ?_)
  refine jnv (fun w_1 ew_1 => ?_)
  have m_q1_w_1 : w_1.1 q1 = some (aR D 10 16 (fun _ => none)) := jus ew_1
  have hk_w_1 := jk1 ew_1 hk
  have lt_q1 := jfrL fr0 f_q1
  have fr_w_1 := jfrN ew_1 fr0 f_q1
  have x_a_q1 := Nat.ne_of_lt (f_q1 _ _ ha)
  have m_a_w_1 := jun ew_1 ha x_a_q1
  refine j_putF C hin d_c_Prog_init_10 ff_Prog_11 m_a_w_1 rfl rfl ?_
  refine jnv (fun w_2 ew_2 => ?_)
  have m_a_w_2 : w_2.1 a = some (.inr (2, (updV V 0 (.ref q1)))) := jus ew_2
  have hk_w_2 := jk0 ew_2 hk_w_1
  have fr_w_2 := jfrW ew_2 fr_w_1 (fun b e hb _ => hb)
  refine j_blk 16 [(0, .ref a)] [.int 120, .ref a] C k_c_Prog_init_13_2 rfl ?_
  refine j_newa (n := 120) C Rm d_c_Prog_init_16 rfl ac_int (by decide) (by decide) (by decide) (jroom hk_w_2.1 rfl) (jroom hk_w_2.2 rfl) (fun q2 f_q2 => ?_)
  refine jnv (fun w_3 ew_3 => ?_)
  have m_q2_w_3 : w_3.1 q2 = some (aI D 120 (fun _ => 0)) := jus ew_3
  have hk_w_3 := jk1 ew_3 hk_w_2
  have lt_q2 := jfrL fr_w_2 f_q2
  have fr_w_3 := jfrN ew_3 fr_w_2 f_q2
  have x_a_q2 := Nat.ne_of_lt (f_q2 _ _ m_a_w_2)
  have m_a_w_3 := jun ew_3 m_a_w_2 x_a_q2
  refine j_putF C hin d_c_Prog_init_18 ff_Prog_17 m_a_w_3 rfl rfl ?_
  refine jnv (fun w_4 ew_4 => ?_)
  have m_a_w_4 : w_4.1 a = some (.inr (2, (updV (updV V 0 (.ref q1)) 2 (.ref q2)))) := jus ew_4
  have hk_w_4 := jk0 ew_4 hk_w_3
  have fr_w_4 := jfrW ew_4 fr_w_3 (fun b e hb _ => hb)
  refine j_blk 24 [(0, .ref a)] [.int 60, .ref a] C k_c_Prog_init_21_2 rfl ?_
  refine j_newa (n := 60) C Rm d_c_Prog_init_24 rfl ac_int (by decide) (by decide) (by decide) (jroom hk_w_4.1 rfl) (jroom hk_w_4.2 rfl) (fun q3 f_q3 => ?_)
  refine jnv (fun w_5 ew_5 => ?_)
  have m_q3_w_5 : w_5.1 q3 = some (aI D 60 (fun _ => 0)) := jus ew_5
  have hk_w_5 := jk1 ew_5 hk_w_4
  have lt_q3 := jfrL fr_w_4 f_q3
  have fr_w_5 := jfrN ew_5 fr_w_4 f_q3
  have x_a_q3 := Nat.ne_of_lt (f_q3 _ _ m_a_w_4)
  have m_a_w_5 := jun ew_5 m_a_w_4 x_a_q3
  refine j_putF C hin d_c_Prog_init_26 ff_Prog_21 m_a_w_5 rfl rfl ?_
  refine jnv (fun w_6 ew_6 => ?_)
  have m_a_w_6 : w_6.1 a = some (.inr (2, (updV (updV (updV V 0 (.ref q1)) 2 (.ref q2)) 4 (.ref q3)))) := jus ew_6
  have hk_w_6 := jk0 ew_6 hk_w_5
  have fr_w_6 := jfrW ew_6 fr_w_5 (fun b e hb _ => hb)
  refine j_blk 32 [(0, .ref a)] [.int 60, .ref a] C k_c_Prog_init_29_2 rfl ?_
  refine j_newa (n := 60) C Rm d_c_Prog_init_32 rfl ac_int (by decide) (by decide) (by decide) (jroom hk_w_6.1 rfl) (jroom hk_w_6.2 rfl) (fun q4 f_q4 => ?_)
  refine jnv (fun w_7 ew_7 => ?_)
  have m_q4_w_7 : w_7.1 q4 = some (aI D 60 (fun _ => 0)) := jus ew_7
  have hk_w_7 := jk1 ew_7 hk_w_6
  have lt_q4 := jfrL fr_w_6 f_q4
  have fr_w_7 := jfrN ew_7 fr_w_6 f_q4
  have x_a_q4 := Nat.ne_of_lt (f_q4 _ _ m_a_w_6)
  have m_a_w_7 := jun ew_7 m_a_w_6 x_a_q4
  refine j_putF C hin d_c_Prog_init_34 ff_Prog_24 m_a_w_7 rfl rfl ?_
  refine jnv (fun w_8 ew_8 => ?_)
  have m_a_w_8 : w_8.1 a = some (.inr (2, (updV (updV (updV (updV V 0 (.ref q1)) 2 (.ref q2)) 4 (.ref q3)) 5 (.ref q4)))) := jus ew_8
  have hk_w_8 := jk0 ew_8 hk_w_7
  have fr_w_8 := jfrW ew_8 fr_w_7 (fun b e hb _ => hb)
  refine j_blk 40 [(0, .ref a)] [.int 120, .ref a] C k_c_Prog_init_37_2 rfl ?_
  refine j_newa (n := 120) C Rm d_c_Prog_init_40 rfl ac_int (by decide) (by decide) (by decide) (jroom hk_w_8.1 rfl) (jroom hk_w_8.2 rfl) (fun q5 f_q5 => ?_)
  refine jnv (fun w_9 ew_9 => ?_)
  have m_q5_w_9 : w_9.1 q5 = some (aI D 120 (fun _ => 0)) := jus ew_9
  have hk_w_9 := jk1 ew_9 hk_w_8
  have lt_q5 := jfrL fr_w_8 f_q5
  have fr_w_9 := jfrN ew_9 fr_w_8 f_q5
  have x_a_q5 := Nat.ne_of_lt (f_q5 _ _ m_a_w_8)
  have m_a_w_9 := jun ew_9 m_a_w_8 x_a_q5
  refine j_putF C hin d_c_Prog_init_42 ff_Prog_27 m_a_w_9 rfl rfl ?_
  refine jnv (fun w_10 ew_10 => ?_)
  have m_a_w_10 : w_10.1 a = some (.inr (2, (updV (updV (updV (updV (updV V 0 (.ref q1)) 2 (.ref q2)) 4 (.ref q3)) 5 (.ref q4)) 7 (.ref q5)))) := jus ew_10
  have hk_w_10 := jk0 ew_10 hk_w_9
  have fr_w_10 := jfrW ew_10 fr_w_9 (fun b e hb _ => hb)
  refine j_blk 46 [(0, .ref a)] [.ref a] C k_c_Prog_init_45_1 rfl ?_
  refine j_new C Rm d_c_Prog_init_46 nw_Prog_30 (jroom hk_w_10.1 rfl) (jroom hk_w_10.2 rfl) (fun q6 f_q6 => ?_)
  refine jnv (fun w_11 ew_11 => ?_)
  have m_q6_w_11 : w_11.1 q6 = some (.inr (4, v0_4)) := jus ew_11
  have hk_w_11 := jk1 ew_11 hk_w_10
  have lt_q6 := jfrL fr_w_10 f_q6
  have fr_w_11 := jfrN ew_11 fr_w_10 f_q6
  refine j_blk 50 [(0, .ref a)] [.ref q6, .ref q6, .ref a] C k_c_Prog_init_49_1 rfl ?_
  refine j_callIn C Rm Y [] [.ref q6, .ref a] (c_Runs_init l D B H0 w_11 q6 v0_4 m_q6_w_11) cl_Prog_32 d_c_Prog_init_50 rfl rfl (Nat.le_of_ble_eq_true rfl) ⟨by decide, by decide⟩ ⟨jroom hk_w_11.1 rfl, jroom hk_w_11.2 rfl⟩ (fun v7 w_12 pw_12 => ?_)
  obtain ⟨rfl, hc_w_12, G_w_12, V_w_12, q8, q9, q10, ltq8_w_12, ltq9_w_12, ltq10_w_12, mo_w_12, hV0_w_12, hV1_w_12, hV2_w_12, mmq8_w_12, mmq9_w_12, mmq10_w_12⟩ := pw_12
  have hk_w_12 := jkT hk_w_11 hc_w_12
  have lt_q8 := jfrL fr_w_11 ltq8_w_12
  have lt_q9 := jfrL fr_w_11 ltq9_w_12
  have lt_q10 := jfrL fr_w_11 ltq10_w_12
  have fr_w_12 := jfrT fr_w_11 G_w_12 (fun b _ _ he => Nat.ne_of_lt (lt_q6 b _ he))
  show JJ g w_12 53 [(0, .ref a)] [.ref q6, .ref a]
  have x_a_q6 := Nat.ne_of_lt (f_q6 _ _ m_a_w_10)
  have m_a_w_11 := jun ew_11 m_a_w_10 x_a_q6
  have m_a_w_12 := (G_w_12 _ _ m_a_w_11).1 x_a_q6
  refine j_putF C hin d_c_Prog_init_53 ff_Prog_33 m_a_w_12 rfl rfl ?_
  refine jnv (fun w_13 ew_13 => ?_)
  have m_a_w_13 : w_13.1 a = some (.inr (2, (updV (updV (updV (updV (updV (updV V 0 (.ref q1)) 2 (.ref q2)) 4 (.ref q3)) 5 (.ref q4)) 7 (.ref q5)) 12 (.ref q6)))) := jus ew_13
  have hk_w_13 := jk0 ew_13 hk_w_12
  have fr_w_13 := jfrW ew_13 fr_w_12 (fun b e hb _ => hb)
  refine j_blk 58 [(0, .ref a)] [.int (-1), .ref a] C k_c_Prog_init_56_2 rfl ?_
  refine j_put C d_c_Prog_init_58 fp_Prog_37 m_a_w_13 rfl rfl ?_
  refine jnv (fun w_14 ew_14 => ?_)
  have m_a_w_14 : w_14.1 a = some (.inr (2, (updV (updV (updV (updV (updV (updV (updV V 0 (.ref q1)) 2 (.ref q2)) 4 (.ref q3)) 5 (.ref q4)) 7 (.ref q5)) 12 (.ref q6)) 14 (.int (-1))))) := jus ew_14
  have hk_w_14 := jk0 ew_14 hk_w_13
  have fr_w_14 := jfrW ew_14 fr_w_13 (fun b e hb _ => hb)
  refine j_blk 63 [(1, .int 0), (0, .ref a)] [] C k_c_Prog_init_61_2 rfl ?_
  have m_q1_w_2 := jun ew_2 m_q1_w_1 (Ne.symm x_a_q1)
  have x_q1_q2 := Nat.ne_of_lt (f_q2 _ _ m_q1_w_2)
  have m_q1_w_3 := jun ew_3 m_q1_w_2 x_q1_q2
  have m_q1_w_4 := jun ew_4 m_q1_w_3 (Ne.symm x_a_q1)
  have x_q1_q3 := Nat.ne_of_lt (f_q3 _ _ m_q1_w_4)
  have m_q1_w_5 := jun ew_5 m_q1_w_4 x_q1_q3
  have m_q1_w_6 := jun ew_6 m_q1_w_5 (Ne.symm x_a_q1)
  have x_q1_q4 := Nat.ne_of_lt (f_q4 _ _ m_q1_w_6)
  have m_q1_w_7 := jun ew_7 m_q1_w_6 x_q1_q4
  have m_q1_w_8 := jun ew_8 m_q1_w_7 (Ne.symm x_a_q1)
  have x_q1_q5 := Nat.ne_of_lt (f_q5 _ _ m_q1_w_8)
  have m_q1_w_9 := jun ew_9 m_q1_w_8 x_q1_q5
  have m_q1_w_10 := jun ew_10 m_q1_w_9 (Ne.symm x_a_q1)
  have x_q1_q6 := Nat.ne_of_lt (f_q6 _ _ m_q1_w_10)
  have m_q1_w_11 := jun ew_11 m_q1_w_10 x_q1_q6
  have m_q1_w_12 := (G_w_12 _ _ m_q1_w_11).1 x_q1_q6
  have m_q1_w_13 := jun ew_13 m_q1_w_12 (Ne.symm x_a_q1)
  have m_q1_w_14 := jun ew_14 m_q1_w_13 (Ne.symm x_a_q1)
  have m_q2_w_4 := jun ew_4 m_q2_w_3 (Ne.symm x_a_q2)
  have x_q2_q3 := Nat.ne_of_lt (f_q3 _ _ m_q2_w_4)
  have m_q2_w_5 := jun ew_5 m_q2_w_4 x_q2_q3
  have m_q2_w_6 := jun ew_6 m_q2_w_5 (Ne.symm x_a_q2)
  have x_q2_q4 := Nat.ne_of_lt (f_q4 _ _ m_q2_w_6)
  have m_q2_w_7 := jun ew_7 m_q2_w_6 x_q2_q4
  have m_q2_w_8 := jun ew_8 m_q2_w_7 (Ne.symm x_a_q2)
  have x_q2_q5 := Nat.ne_of_lt (f_q5 _ _ m_q2_w_8)
  have m_q2_w_9 := jun ew_9 m_q2_w_8 x_q2_q5
  have m_q2_w_10 := jun ew_10 m_q2_w_9 (Ne.symm x_a_q2)
  have x_q2_q6 := Nat.ne_of_lt (f_q6 _ _ m_q2_w_10)
  have m_q2_w_11 := jun ew_11 m_q2_w_10 x_q2_q6
  have m_q2_w_12 := (G_w_12 _ _ m_q2_w_11).1 x_q2_q6
  have m_q2_w_13 := jun ew_13 m_q2_w_12 (Ne.symm x_a_q2)
  have m_q2_w_14 := jun ew_14 m_q2_w_13 (Ne.symm x_a_q2)
  have m_q3_w_6 := jun ew_6 m_q3_w_5 (Ne.symm x_a_q3)
  have x_q3_q4 := Nat.ne_of_lt (f_q4 _ _ m_q3_w_6)
  have m_q3_w_7 := jun ew_7 m_q3_w_6 x_q3_q4
  have m_q3_w_8 := jun ew_8 m_q3_w_7 (Ne.symm x_a_q3)
  have x_q3_q5 := Nat.ne_of_lt (f_q5 _ _ m_q3_w_8)
  have m_q3_w_9 := jun ew_9 m_q3_w_8 x_q3_q5
  have m_q3_w_10 := jun ew_10 m_q3_w_9 (Ne.symm x_a_q3)
  have x_q3_q6 := Nat.ne_of_lt (f_q6 _ _ m_q3_w_10)
  have m_q3_w_11 := jun ew_11 m_q3_w_10 x_q3_q6
  have m_q3_w_12 := (G_w_12 _ _ m_q3_w_11).1 x_q3_q6
  have m_q3_w_13 := jun ew_13 m_q3_w_12 (Ne.symm x_a_q3)
  have m_q3_w_14 := jun ew_14 m_q3_w_13 (Ne.symm x_a_q3)
  have m_q4_w_8 := jun ew_8 m_q4_w_7 (Ne.symm x_a_q4)
  have x_q4_q5 := Nat.ne_of_lt (f_q5 _ _ m_q4_w_8)
  have m_q4_w_9 := jun ew_9 m_q4_w_8 x_q4_q5
  have m_q4_w_10 := jun ew_10 m_q4_w_9 (Ne.symm x_a_q4)
  have x_q4_q6 := Nat.ne_of_lt (f_q6 _ _ m_q4_w_10)
  have m_q4_w_11 := jun ew_11 m_q4_w_10 x_q4_q6
  have m_q4_w_12 := (G_w_12 _ _ m_q4_w_11).1 x_q4_q6
  have m_q4_w_13 := jun ew_13 m_q4_w_12 (Ne.symm x_a_q4)
  have m_q4_w_14 := jun ew_14 m_q4_w_13 (Ne.symm x_a_q4)
  have m_q5_w_10 := jun ew_10 m_q5_w_9 (Ne.symm x_a_q5)
  have x_q5_q6 := Nat.ne_of_lt (f_q6 _ _ m_q5_w_10)
  have m_q5_w_11 := jun ew_11 m_q5_w_10 x_q5_q6
  have m_q5_w_12 := (G_w_12 _ _ m_q5_w_11).1 x_q5_q6
  have m_q5_w_13 := jun ew_13 m_q5_w_12 (Ne.symm x_a_q5)
  have m_q5_w_14 := jun ew_14 m_q5_w_13 (Ne.symm x_a_q5)
  have m_q6_w_13 := jun ew_13 mo_w_12 (Ne.symm x_a_q6)
  have m_q6_w_14 := jun ew_14 m_q6_w_13 (Ne.symm x_a_q6)
  have m_q8_w_13 := jun ew_13 mmq8_w_12 (jneAO mmq8_w_12 m_a_w_12)
  have m_q8_w_14 := jun ew_14 m_q8_w_13 (jneAO m_q8_w_13 m_a_w_13)
  have m_q9_w_13 := jun ew_13 mmq9_w_12 (jneAO mmq9_w_12 m_a_w_12)
  have m_q9_w_14 := jun ew_14 m_q9_w_13 (jneAO m_q9_w_13 m_a_w_13)
  have m_q10_w_13 := jun ew_13 mmq10_w_12 (jneAO mmq10_w_12 m_a_w_12)
  have m_q10_w_14 := jun ew_14 m_q10_w_13 (jneAO m_q10_w_13 m_a_w_13)
  have lp11 : ∀ (nn kk : Nat) (w1 : jW) (F : Nat → Option Nat), kk ≤ 16 → 16 < kk + nn → w1.1 q1 = some (aR D 10 16 F) → jfr (fun b => b ≠ q1) w_14 w1 → (w1.2.1 = w.2.1 + (9 + 1 * kk) ∧ w1.2.2 = w.2.2 + (499 + 14 * kk)) → JJ g w1 63 [(1, .int (nI kk)), (0, .ref a)] [] := by
    intro nn
    induction nn with
    | zero => intro kk w1 F h1 h2; exact absurd h2 (Nat.not_lt.mpr h1)
    | succ nn ih =>
      intro kk w1 F hk1 hk2 hF hfr hc1
      have hcz : w1.2.1 = w.2.1 + (9 + 1 * kk + 0) ∧ w1.2.2 = w.2.2 + (499 + 14 * kk + 0) := hc1
      have fo := jfrT fr_w_14 hfr (fun b e hb hv => (fun b _ _ he => Nat.ne_of_lt (lt_q1 b _ he)) b e hb hv)
      refine j_blk 66 [(1, .int (nI kk)), (0, .ref a)] [.int 16, .int (nI kk)] C k_c_Prog_init_63_2 rfl ?_
      refine j_icmp_ge (tgt := 88) C d_c_Prog_init_66 (by decide) (fun c12 => ?_) (fun c12 => ?_)
      · have hkN : kk = 16 := jl_eq16 c12 hk1
        subst hkN
        have m_a_w1 := (hfr _ _ m_a_w_14).1 x_a_q1
        have m_q6_w1 := (hfr _ _ m_q6_w_14).1 (Ne.symm x_q1_q6)
        have m_q2_w1 := (hfr _ _ m_q2_w_14).1 (Ne.symm x_q1_q2)
        have m_q3_w1 := (hfr _ _ m_q3_w_14).1 (Ne.symm x_q1_q3)
        have m_q4_w1 := (hfr _ _ m_q4_w_14).1 (Ne.symm x_q1_q4)
        have m_q5_w1 := (hfr _ _ m_q5_w_14).1 (Ne.symm x_q1_q5)
        have m_q8_w1 := (hfr _ _ m_q8_w_14).1 (jneN m_q8_w_14 m_q1_w_14 rfl)
        have m_q9_w1 := (hfr _ _ m_q9_w_14).1 (jneN m_q9_w_14 m_q1_w_14 rfl)
        have m_q10_w1 := (hfr _ _ m_q10_w_14).1 (jneN m_q10_w_14 m_q1_w_14 rfl)
        exact j_vret C Rm E d_c_Prog_init_88 ⟨rfl, ⟨hc1.1, hc1.2⟩, fo, _, q1, q2, q3, q4, q5, q6, q8, q9, q10, _, F, lt_q1, lt_q2, lt_q3, lt_q4, lt_q5, lt_q6, lt_q8, lt_q9, lt_q10, m_a_w1, rfl, rfl, rfl, rfl, rfl, rfl, rfl, rfl, rfl, rfl, rfl, rfl, rfl, rfl, rfl, rfl, m_q6_w1, hV0_w_12, hV1_w_12, hV2_w_12, m_q2_w1, m_q3_w1, m_q4_w1, m_q5_w1, m_q8_w1, m_q9_w1, m_q10_w1, hF⟩ (jbnd hc1.1 rfl) (jbnd hc1.2 rfl)
      · refine j_blk 70 [(1, .int (nI kk)), (0, .ref a)] [.ref a] C k_c_Prog_init_69_1 rfl ?_
        have m_a_w1 := (hfr _ _ m_a_w_14).1 x_a_q1
        refine j_get C d_c_Prog_init_70 fg_Prog_11 m_a_w1 rfl ?_
        refine j_blk 74 [(1, .int (nI kk)), (0, .ref a)] [.int (nI kk), .ref q1] C k_c_Prog_init_73_1 rfl ?_
        refine j_new C Rm d_c_Prog_init_74 nw_Prog_9 (jl_r 15 (Nat.le_of_lt_succ (jl_lt16 c12 hk1)) hcz.1 rfl) (jl_r 15 (Nat.le_of_lt_succ (jl_lt16 c12 hk1)) hcz.2 rfl) (fun q13 f_q13 => ?_)
        refine jnv (fun w_15 ew_15 => ?_)
        have m_q13_w_15 : w_15.1 q13 = some (.inr (6, v0_6)) := jus ew_15
        have hk_w_15 := jk1 ew_15 hcz
        have lt_q13 := jfrL hfr f_q13
        have fr_w_15 := jfrN ew_15 hfr f_q13
        refine j_blk 78 [(1, .int (nI kk)), (0, .ref a)] [.ref q13, .ref q13, .int (nI kk), .ref q1] C k_c_Prog_init_77_1 rfl ?_
        refine j_callIn C Rm Y [] [.ref q13, .int (nI kk), .ref q1] (c_Step_init l D B H0 w_15 q13 v0_6 m_q13_w_15) cl_Prog_41 d_c_Prog_init_78 rfl rfl (Nat.le_of_ble_eq_true rfl) ⟨by decide, by decide⟩ ⟨(jl_r 15 (Nat.le_of_lt_succ (jl_lt16 c12 hk1)) hk_w_15.1 rfl), (jl_r 15 (Nat.le_of_lt_succ (jl_lt16 c12 hk1)) hk_w_15.2 rfl)⟩ (fun v14 w_16 pw_16 => ?_)
        obtain ⟨rfl, hc_w_16, G_w_16, V_w_16, mo_w_16, hV0_w_16, hV1_w_16, hV2_w_16, hV3_w_16, hV4_w_16, hV5_w_16, hV6_w_16, hV7_w_16, hV8_w_16, hV9_w_16, hV10_w_16, hV11_w_16, hV12_w_16, hV13_w_16⟩ := pw_16
        have hk_w_16 := jkT hk_w_15 hc_w_16
        have fr_w_16 := jfrT fr_w_15 G_w_16 (fun b _ _ he => Nat.ne_of_lt (lt_q13 b _ he))
        show JJ g w_16 81 [(1, .int (nI kk)), (0, .ref a)] [.ref q13, .int (nI kk), .ref q1]
        have x_q1_q13 := Nat.ne_of_lt (f_q13 _ _ hF)
        have m_q1_w_15 := jun ew_15 hF x_q1_q13
        have m_q1_w_16 := (G_w_16 _ _ m_q1_w_15).1 x_q1_q13
        refine j_aast C d_c_Prog_init_81 (by rfl) (by rfl) m_q1_w_16 mo_w_16 (vp_in_nI (jl_lt16 c12 hk1) (by decide)) ?_
        refine jnv (fun w_17 ew_17 => ?_)
        have m_q1_w_17 : w_17.1 q1 = some (aR D 10 16 (va_up F (Int32.toNatClampNeg (nI kk)) (some q13))) := jus ew_17
        have hk_w_17 := jk0 ew_17 hk_w_16
        have fr_w_17 := jfrW ew_17 fr_w_16 (fun b e hb _ => hb)
        refine j_blk 63 [(1, .int ((nI kk) + 1)), (0, .ref a)] [] C k_c_Prog_init_82_2 rfl ?_
        rw [nI_1]
        exact ih (kk + 1) w_17 _ (jl_lt16 c12 hk1) (jl_fu16 hk2) m_q1_w_17 fr_w_17 ⟨jl_c 9 1 kk hk_w_17.1, jl_c 499 14 kk hk_w_17.2⟩
  have hB := hk_w_14
  exact lp11 17 0 w_14 _ (by decide) (by decide) m_q1_w_14 jfr0 ⟨hB.1, hB.2⟩

theorem k_c_Runs_clear_0_2 : sblk b_Runs_clear [(0, .iconst 0, .int 0), (1, .istore_n 1, .null)] := sblk_of (by decide +kernel)
theorem k_c_Runs_clear_2_2 : sblk b_Runs_clear [(2, .iload_n 1, .null), (3, .bipush 10, .int 10)] := sblk_of (by decide +kernel)
theorem d_c_Runs_clear_5 : decode b_Runs_clear 5 = .ok (.if_icmp .ge 16, 3) := by decide +kernel
theorem d_c_Runs_clear_21 : decode b_Runs_clear 21 = .ok (.return_, 1) := by decide +kernel
theorem k_c_Runs_clear_8_1 : sblk b_Runs_clear [(8, .aload_n 0, .null)] := sblk_of (by decide +kernel)
theorem d_c_Runs_clear_9 : decode b_Runs_clear 9 = .ok (.getfield 9, 3) := by decide +kernel
theorem k_c_Runs_clear_12_2 : sblk b_Runs_clear [(12, .iload_n 1, .null), (13, .iconst 0, .int 0)] := sblk_of (by decide +kernel)
theorem d_c_Runs_clear_14 : decode b_Runs_clear 14 = .ok (.iastore, 1) := by decide +kernel
theorem k_c_Runs_clear_15_2 : sblk b_Runs_clear [(15, .iinc 1 1, .int 1), (18, .goto (-16), .retAddr 2)] := sblk_of (by decide +kernel)
set_option maxHeartbeats 40000000 in
set_option maxRecDepth 100000 in
theorem c_Runs_clear (l : Launch) (D : va_G) (B : Nat) (H0 : Heap) (w : jW) (u r : Nat) (V : Nat → Value) (f : Nat → Int32) (hu : w.1 u = some (.inr (4, V))) (h0 : V 0 = .ref r) (hr : w.1 r = some (aI D 10 f)) : jMet l D B H0 y_Runs_clear b_Runs_clear 2 none 0 0 0 0 [.ref u] w (fun v w9 => v = none ∧ (w9.2.1 = w.2.1 + 0 ∧ w9.2.2 = w.2.2 + 0) ∧ jfr (fun b => b ≠ r) w w9) := by
  refine j_met (by decide) (Nat.le_of_ble_eq_true rfl) (fun g C Rm Y E => ?_)
  have hk := jkz w
  have fr0 : jfr (fun b => b ≠ r) w w := jfr0
  show JJ g w 0 [(0, .ref u)] []
  refine j_blk 2 [(1, .int 0), (0, .ref u)] [] C k_c_Runs_clear_0_2 rfl ?_
  have lp1 : ∀ (nn kk : Nat) (w1 : jW) (F : Nat → Int32), kk ≤ 10 → 10 < kk + nn → w1.1 r = some (aI D 10 F) → jfr (fun b => b ≠ r) w w1 → (w1.2.1 = w.2.1 + 0 ∧ w1.2.2 = w.2.2 + 0) → JJ g w1 2 [(1, .int (nI kk)), (0, .ref u)] [] := by
    intro nn
    induction nn with
    | zero => intro kk w1 F h1 h2; exact absurd h2 (Nat.not_lt.mpr h1)
    | succ nn ih =>
      intro kk w1 F hk1 hk2 hF hfr hc1
      have hkl2 := jkT hk hc1
      have frl3 := jfrT fr0 hfr (fun b e hb hv => (fun b e hb _ => hb) b e hb hv)
      refine j_blk 5 [(1, .int (nI kk)), (0, .ref u)] [.int 10, .int (nI kk)] C k_c_Runs_clear_2_2 rfl ?_
      refine j_icmp_ge (tgt := 21) C d_c_Runs_clear_5 (by decide) (fun c4 => ?_) (fun c4 => ?_)
      · exact j_vret C Rm E d_c_Runs_clear_21 ⟨rfl, hkl2, frl3⟩ (jbnd hkl2.1 rfl) (jbnd hkl2.2 rfl)
      · refine j_blk 9 [(1, .int (nI kk)), (0, .ref u)] [.ref u] C k_c_Runs_clear_8_1 rfl ?_
        have m_u_w1 := (hfr _ _ hu).1 (jneOA hu hr)
        refine j_get C d_c_Runs_clear_9 fg_Runs_9 m_u_w1 h0 ?_
        refine j_blk 14 [(1, .int (nI kk)), (0, .ref u)] [.int 0, .int (nI kk), .ref r] C k_c_Runs_clear_12_2 rfl ?_
        refine j_iast C d_c_Runs_clear_14 hF (vp_in_nI (jl_lt10 c4 hk1) (by decide)) ?_
        refine jnv (fun w_1 ew_1 => ?_)
        have m_r_w_1 : w_1.1 r = some (aI D 10 (upd F (Int32.toNatClampNeg (nI kk)) 0)) := jus ew_1
        have hk_w_1 := jk0 ew_1 hkl2
        have fr_w_1 := jfrW ew_1 frl3 (fun b e hb _ => hb)
        refine j_blk 2 [(1, .int ((nI kk) + 1)), (0, .ref u)] [] C k_c_Runs_clear_15_2 rfl ?_
        rw [nI_1]
        have g5 := jfrW ew_1 hfr (fun b e hb _ => hb)
        have g6 := jk0 ew_1 hc1
        exact ih (kk + 1) w_1 _ (jl_lt10 c4 hk1) (jl_fu10 hk2) m_r_w_1 g5 g6
  exact lp1 11 0 w _ (by decide) (by decide) hr jfr0 ⟨rfl, rfl⟩

theorem k_c_Prog_clear_0_2 : sblk b_Prog_clear [(0, .aload_n 0, .null), (1, .iconst 0, .int 0)] := sblk_of (by decide +kernel)
theorem d_c_Prog_clear_2 : decode b_Prog_clear 2 = .ok (.putfield 42, 3) := by decide +kernel
theorem k_c_Prog_clear_5_2 : sblk b_Prog_clear [(5, .aload_n 0, .null), (6, .iconst 0, .int 0)] := sblk_of (by decide +kernel)
theorem d_c_Prog_clear_7 : decode b_Prog_clear 7 = .ok (.putfield 45, 3) := by decide +kernel
theorem k_c_Prog_clear_10_2 : sblk b_Prog_clear [(10, .aload_n 0, .null), (11, .iconst 0, .int 0)] := sblk_of (by decide +kernel)
theorem d_c_Prog_clear_12 : decode b_Prog_clear 12 = .ok (.putfield 48, 3) := by decide +kernel
theorem k_c_Prog_clear_15_2 : sblk b_Prog_clear [(15, .aload_n 0, .null), (16, .iconst (-1), .int (-1))] := sblk_of (by decide +kernel)
theorem d_c_Prog_clear_17 : decode b_Prog_clear 17 = .ok (.putfield 37, 3) := by decide +kernel
theorem k_c_Prog_clear_20_1 : sblk b_Prog_clear [(20, .aload_n 0, .null)] := sblk_of (by decide +kernel)
theorem d_c_Prog_clear_21 : decode b_Prog_clear 21 = .ok (.getfield 33, 3) := by decide +kernel
theorem d_c_Prog_clear_24 : decode b_Prog_clear 24 = .ok (.invokevirtual 51, 3) := by decide +kernel
theorem d_c_Prog_clear_27 : decode b_Prog_clear 27 = .ok (.return_, 1) := by decide +kernel
set_option maxHeartbeats 40000000 in
set_option maxRecDepth 100000 in
theorem c_Prog_clear (l : Launch) (D : va_G) (B : Nat) (H0 : Heap) (w : jW) (p u r : Nat) (V Vu : Nat → Value) (f : Nat → Int32) (hp : w.1 p = some (.inr (2, V))) (h12 : V 12 = .ref u) (hu : w.1 u = some (.inr (4, Vu))) (u0 : Vu 0 = .ref r) (hr : w.1 r = some (aI D 10 f)) : jMet l D B H0 y_Prog_clear b_Prog_clear 1 none 1 40 0 0 [.ref p] w (fun v w9 => v = none ∧ (w9.2.1 = w.2.1 + 0 ∧ w9.2.2 = w.2.2 + 0) ∧ jfr (fun b => b ≠ p ∧ b ≠ r) w w9) := by
  refine j_met (by decide) (Nat.le_of_ble_eq_true rfl) (fun g C Rm Y E => ?_)
  have hk := jkz w
  have fr0 : jfr (fun b => b ≠ p ∧ b ≠ r) w w := jfr0
  show JJ g w 0 [(0, .ref p)] []
  refine j_blk 2 [(0, .ref p)] [.int 0, .ref p] C k_c_Prog_clear_0_2 rfl ?_
  refine j_put C d_c_Prog_clear_2 fp_Prog_42 hp rfl rfl ?_
  refine jnv (fun w_1 ew_1 => ?_)
  have m_p_w_1 : w_1.1 p = some (.inr (2, (updV V 1 (.int 0)))) := jus ew_1
  have hk_w_1 := jk0 ew_1 hk
  have fr_w_1 := jfrW ew_1 fr0 (fun b e hb _ => hb.1)
  refine j_blk 7 [(0, .ref p)] [.int 0, .ref p] C k_c_Prog_clear_5_2 rfl ?_
  refine j_put C d_c_Prog_clear_7 fp_Prog_45 m_p_w_1 rfl rfl ?_
  refine jnv (fun w_2 ew_2 => ?_)
  have m_p_w_2 : w_2.1 p = some (.inr (2, (updV (updV V 1 (.int 0)) 3 (.int 0)))) := jus ew_2
  have hk_w_2 := jk0 ew_2 hk_w_1
  have fr_w_2 := jfrW ew_2 fr_w_1 (fun b e hb _ => hb.1)
  refine j_blk 12 [(0, .ref p)] [.int 0, .ref p] C k_c_Prog_clear_10_2 rfl ?_
  refine j_put C d_c_Prog_clear_12 fp_Prog_48 m_p_w_2 rfl rfl ?_
  refine jnv (fun w_3 ew_3 => ?_)
  have m_p_w_3 : w_3.1 p = some (.inr (2, (updV (updV (updV V 1 (.int 0)) 3 (.int 0)) 6 (.int 0)))) := jus ew_3
  have hk_w_3 := jk0 ew_3 hk_w_2
  have fr_w_3 := jfrW ew_3 fr_w_2 (fun b e hb _ => hb.1)
  refine j_blk 17 [(0, .ref p)] [.int (-1), .ref p] C k_c_Prog_clear_15_2 rfl ?_
  refine j_put C d_c_Prog_clear_17 fp_Prog_37 m_p_w_3 rfl rfl ?_
  refine jnv (fun w_4 ew_4 => ?_)
  have m_p_w_4 : w_4.1 p = some (.inr (2, (updV (updV (updV (updV V 1 (.int 0)) 3 (.int 0)) 6 (.int 0)) 14 (.int (-1))))) := jus ew_4
  have hk_w_4 := jk0 ew_4 hk_w_3
  have fr_w_4 := jfrW ew_4 fr_w_3 (fun b e hb _ => hb.1)
  refine j_blk 21 [(0, .ref p)] [.ref p] C k_c_Prog_clear_20_1 rfl ?_
  refine j_get C d_c_Prog_clear_21 fg_Prog_33 m_p_w_4 h12 ?_
  have m_u_w_1 := jun ew_1 hu (jneO hu hp (by decide))
  have m_u_w_2 := jun ew_2 m_u_w_1 (jneO m_u_w_1 m_p_w_1 (by decide))
  have m_u_w_3 := jun ew_3 m_u_w_2 (jneO m_u_w_2 m_p_w_2 (by decide))
  have m_u_w_4 := jun ew_4 m_u_w_3 (jneO m_u_w_3 m_p_w_3 (by decide))
  have m_r_w_1 := jun ew_1 hr (jneAO hr hp)
  have m_r_w_2 := jun ew_2 m_r_w_1 (jneAO m_r_w_1 m_p_w_1)
  have m_r_w_3 := jun ew_3 m_r_w_2 (jneAO m_r_w_2 m_p_w_2)
  have m_r_w_4 := jun ew_4 m_r_w_3 (jneAO m_r_w_3 m_p_w_3)
  refine j_callV C Rm Y [] [] (c_Runs_clear l D B H0 w_4 u r Vu f m_u_w_4 u0 m_r_w_4) cl_Prog_51 (by rfl) (by rfl) m_u_w_4 d_c_Prog_clear_24 rfl rfl (Nat.le_of_ble_eq_true rfl) ⟨by decide, by decide⟩ ⟨jroom hk_w_4.1 rfl, jroom hk_w_4.2 rfl⟩ (fun v1 w_5 pw_5 => ?_)
  obtain ⟨rfl, hc_w_5, G_w_5⟩ := pw_5
  have hk_w_5 := jkT hk_w_4 hc_w_5
  have fr_w_5 := jfrT fr_w_4 G_w_5 (fun b e hb _ => hb.2)
  show JJ g w_5 27 [(0, .ref p)] []
  exact j_vret C Rm E d_c_Prog_clear_27 ⟨rfl, hk_w_5, fr_w_5⟩ (jbnd hk_w_5.1 rfl) (jbnd hk_w_5.2 rfl)

theorem k_c_Read_advance0_0_1 : sblk b_Read_advance [(0, .aload_n 0, .null)] := sblk_of (by decide +kernel)
theorem d_c_Read_advance0_1 : decode b_Read_advance 1 = .ok (.getfield 37, 3) := by decide +kernel
theorem k_c_Read_advance0_4_1 : sblk b_Read_advance [(4, .aload_n 0, .null)] := sblk_of (by decide +kernel)
theorem d_c_Read_advance0_5 : decode b_Read_advance 5 = .ok (.getfield 21, 3) := by decide +kernel
theorem d_c_Read_advance0_8 : decode b_Read_advance 8 = .ok (.if_icmp .ge 42, 3) := by decide +kernel
theorem k_c_Read_advance0_50_2 : sblk b_Read_advance [(50, .aload_n 0, .null), (51, .aload_n 0, .null)] := sblk_of (by decide +kernel)
theorem d_c_Read_advance0_52 : decode b_Read_advance 52 = .ok (.getfield 37, 3) := by decide +kernel
theorem d_c_Read_advance0_55 : decode b_Read_advance 55 = .ok (.putfield 53, 3) := by decide +kernel
theorem k_c_Read_advance0_58_2 : sblk b_Read_advance [(58, .aload_n 0, .null), (59, .iconst 0, .int 0)] := sblk_of (by decide +kernel)
theorem d_c_Read_advance0_60 : decode b_Read_advance 60 = .ok (.putfield 64, 3) := by decide +kernel
theorem k_c_Read_advance0_63_1 : sblk b_Read_advance [(63, .aload_n 0, .null)] := sblk_of (by decide +kernel)
theorem d_c_Read_advance0_64 : decode b_Read_advance 64 = .ok (.getfield 37, 3) := by decide +kernel
theorem k_c_Read_advance0_67_1 : sblk b_Read_advance [(67, .aload_n 0, .null)] := sblk_of (by decide +kernel)
theorem d_c_Read_advance0_68 : decode b_Read_advance 68 = .ok (.getfield 21, 3) := by decide +kernel
theorem d_c_Read_advance0_71 : decode b_Read_advance 71 = .ok (.if_icmp .lt 11, 3) := by decide +kernel
theorem k_c_Read_advance0_74_2 : sblk b_Read_advance [(74, .aload_n 0, .null), (75, .iconst 0, .int 0)] := sblk_of (by decide +kernel)
theorem d_c_Read_advance0_76 : decode b_Read_advance 76 = .ok (.putfield 50, 3) := by decide +kernel
theorem k_c_Read_advance0_79_1 : sblk b_Read_advance [(79, .goto 49, .retAddr 128)] := sblk_of (by decide +kernel)
theorem d_c_Read_advance0_128 : decode b_Read_advance 128 = .ok (.return_, 1) := by decide +kernel
set_option maxHeartbeats 40000000 in
set_option maxRecDepth 100000 in
theorem c_Read_advance0 (l : Launch) (D : va_G) (B : Nat) (H0 : Heap) (w : jW) (x : Nat) (V : Nat → Value) (hx : w.1 x = some (.inr (3, V))) (h1 : V 1 = .int 0) (h4 : V 4 = .int 0) : jMet l D B H0 y_Read_advance b_Read_advance 1 none 0 0 0 0 [.ref x] w (fun v w9 => v = none ∧ (w9.2.1 = w.2.1 + 0 ∧ w9.2.2 = w.2.2 + 0) ∧ jfr (fun b => b ≠ x) w w9 ∧ w9.1 x = some (.inr (3, (updV (updV (updV V 6 (.int 0)) 8 (.int 0)) 7 (.int 0))))) := by
  refine j_met (by decide) (Nat.le_of_ble_eq_true rfl) (fun g C Rm Y E => ?_)
  have hk := jkz w
  have fr0 : jfr (fun b => b ≠ x) w w := jfr0
  show JJ g w 0 [(0, .ref x)] []
  refine j_blk 1 [(0, .ref x)] [.ref x] C k_c_Read_advance0_0_1 rfl ?_
  refine j_get C d_c_Read_advance0_1 fg_Read_37 hx h4 ?_
  refine j_blk 5 [(0, .ref x)] [.ref x, .int 0] C k_c_Read_advance0_4_1 rfl ?_
  refine j_get C d_c_Read_advance0_5 fg_Read_21 hx h1 ?_
  refine j_icmp_ge (tgt := 50) C d_c_Read_advance0_8 (by decide) (fun c1 => ?_) (fun c1 => absurd (by decide) c1)
  refine j_blk 52 [(0, .ref x)] [.ref x, .ref x] C k_c_Read_advance0_50_2 rfl ?_
  refine j_get C d_c_Read_advance0_52 fg_Read_37 hx h4 ?_
  refine j_put C d_c_Read_advance0_55 fp_Read_53 hx rfl rfl ?_
  refine jnv (fun w_1 ew_1 => ?_)
  have m_x_w_1 : w_1.1 x = some (.inr (3, (updV V 6 (.int 0)))) := jus ew_1
  have hk_w_1 := jk0 ew_1 hk
  have fr_w_1 := jfrW ew_1 fr0 (fun b e hb _ => hb)
  refine j_blk 60 [(0, .ref x)] [.int 0, .ref x] C k_c_Read_advance0_58_2 rfl ?_
  refine j_put C d_c_Read_advance0_60 fp_Read_64 m_x_w_1 rfl rfl ?_
  refine jnv (fun w_2 ew_2 => ?_)
  have m_x_w_2 : w_2.1 x = some (.inr (3, (updV (updV V 6 (.int 0)) 8 (.int 0)))) := jus ew_2
  have hk_w_2 := jk0 ew_2 hk_w_1
  have fr_w_2 := jfrW ew_2 fr_w_1 (fun b e hb _ => hb)
  refine j_blk 64 [(0, .ref x)] [.ref x] C k_c_Read_advance0_63_1 rfl ?_
  refine j_get C d_c_Read_advance0_64 fg_Read_37 m_x_w_2 h4 ?_
  refine j_blk 68 [(0, .ref x)] [.ref x, .int 0] C k_c_Read_advance0_67_1 rfl ?_
  refine j_get C d_c_Read_advance0_68 fg_Read_21 m_x_w_2 h1 ?_
  refine j_icmp_lt (tgt := 82) C d_c_Read_advance0_71 (by decide) (fun c2 => absurd c2 (by decide)) (fun c2 => ?_)
  refine j_blk 76 [(0, .ref x)] [.int 0, .ref x] C k_c_Read_advance0_74_2 rfl ?_
  refine j_put C d_c_Read_advance0_76 fp_Read_50 m_x_w_2 rfl rfl ?_
  refine jnv (fun w_3 ew_3 => ?_)
  have m_x_w_3 : w_3.1 x = some (.inr (3, (updV (updV (updV V 6 (.int 0)) 8 (.int 0)) 7 (.int 0)))) := jus ew_3
  have hk_w_3 := jk0 ew_3 hk_w_2
  have fr_w_3 := jfrW ew_3 fr_w_2 (fun b e hb _ => hb)
  refine j_blk 128 [(0, .ref x)] [] C k_c_Read_advance0_79_1 rfl ?_
  exact j_vret C Rm E d_c_Read_advance0_128 ⟨rfl, hk_w_3, fr_w_3, m_x_w_3⟩ (jbnd hk_w_3.1 rfl) (jbnd hk_w_3.2 rfl)

theorem k_c_Read_readStep0_0_1 : sblk b_Read_readStep [(0, .aload_n 0, .null)] := sblk_of (by decide +kernel)
theorem d_c_Read_readStep0_1 : decode b_Read_readStep 1 = .ok (.getfield 50, 3) := by decide +kernel
theorem k_c_Read_readStep0_4_1 : sblk b_Read_readStep [(4, .iconst 2, .int 2)] := sblk_of (by decide +kernel)
theorem d_c_Read_readStep0_5 : decode b_Read_readStep 5 = .ok (.if_icmp .ne 15, 3) := by decide +kernel
theorem k_c_Read_readStep0_20_1 : sblk b_Read_readStep [(20, .iconst 0, .int 0)] := sblk_of (by decide +kernel)
theorem d_c_Read_readStep0_21 : decode b_Read_readStep 21 = .ok (.ireturn, 1) := by decide +kernel
set_option maxHeartbeats 40000000 in
set_option maxRecDepth 100000 in
theorem c_Read_readStep0 (l : Launch) (D : va_G) (B : Nat) (H0 : Heap) (w : jW) (x : Nat) (V : Nat → Value) (hx : w.1 x = some (.inr (3, V))) (h7 : V 7 = .int 0) : jMet l D B H0 y_Read_readStep b_Read_readStep 4 (some .boolean) 0 0 0 0 [.ref x] w (fun v w9 => v = some (.int 0) ∧ w = w9) := by
  refine j_met (by decide) (Nat.le_of_ble_eq_true rfl) (fun g C Rm Y E => ?_)
  have hk := jkz w
  have fr0 : jfr (fun b => b ≠ x) w w := jfr0
  show JJ g w 0 [(0, .ref x)] []
  refine j_blk 1 [(0, .ref x)] [.ref x] C k_c_Read_readStep0_0_1 rfl ?_
  refine j_get C d_c_Read_readStep0_1 fg_Read_50 hx h7 ?_
  refine j_blk 5 [(0, .ref x)] [.int 2, .int 0] C k_c_Read_readStep0_4_1 rfl ?_
  refine j_icmp_ne (tgt := 20) C d_c_Read_readStep0_5 (by decide) (fun c1 => ?_) (fun c1 => absurd c1 (by decide))
  refine j_blk 21 [(0, .ref x)] [.int 0] C k_c_Read_readStep0_20_1 rfl ?_
  exact j_zret C Rm E rfl d_c_Read_readStep0_21 ⟨rfl, rfl⟩ (jbnd hk.1 rfl) (jbnd hk.2 rfl)

theorem k_c_Read_readBlock0_0_1 : sblk b_Read_readBlock [(0, .aload_n 0, .null)] := sblk_of (by decide +kernel)
theorem d_c_Read_readBlock0_1 : decode b_Read_readBlock 1 = .ok (.invokevirtual 56, 3) := by decide +kernel
theorem d_c_Read_readBlock0_4 : decode b_Read_readBlock 4 = .ok (.ifCond .ne 5, 3) := by decide +kernel
theorem k_c_Read_readBlock0_7_1 : sblk b_Read_readBlock [(7, .iconst 0, .int 0)] := sblk_of (by decide +kernel)
theorem d_c_Read_readBlock0_8 : decode b_Read_readBlock 8 = .ok (.ireturn, 1) := by decide +kernel
set_option maxHeartbeats 40000000 in
set_option maxRecDepth 100000 in
theorem c_Read_readBlock0 (l : Launch) (D : va_G) (B : Nat) (H0 : Heap) (w : jW) (x : Nat) (V : Nat → Value) (hx : w.1 x = some (.inr (3, V))) (h7 : V 7 = .int 0) : jMet l D B H0 y_Read_readBlock b_Read_readBlock 2 (some .boolean) 1 40 0 0 [.ref x] w (fun v w9 => v = some (.int 0) ∧ w = w9) := by
  refine j_met (by decide) (Nat.le_of_ble_eq_true rfl) (fun g C Rm Y E => ?_)
  have hk := jkz w
  have fr0 : jfr (fun b => b ≠ x) w w := jfr0
  show JJ g w 0 [(0, .ref x)] []
  refine j_blk 1 [(0, .ref x)] [.ref x] C k_c_Read_readBlock0_0_1 rfl ?_
  refine j_callV C Rm Y [] [] (c_Read_readStep0 l D B H0 w x V hx h7) cl_Read_56 (by rfl) (by rfl) hx d_c_Read_readBlock0_1 rfl rfl (Nat.le_of_ble_eq_true rfl) ⟨by decide, by decide⟩ ⟨jroom hk.1 rfl, jroom hk.2 rfl⟩ (fun v1 w_1 pw_1 => ?_)
  obtain ⟨rfl, rfl⟩ := pw_1
  show JJ g w 4 [(0, .ref x)] [.int 0]
  refine j_if_ne (tgt := 9) C d_c_Read_readBlock0_4 (by decide) (fun c2 => absurd (by decide) c2) (fun c2 => ?_)
  refine j_blk 8 [(0, .ref x)] [.int 0] C k_c_Read_readBlock0_7_1 rfl ?_
  exact j_zret C Rm E rfl d_c_Read_readBlock0_8 ⟨rfl, rfl⟩ (jbnd hk.1 rfl) (jbnd hk.2 rfl)

theorem k_c_Read_faultOf0_0_2 : sblk b_Read_faultOf [(0, .aload_n 0, .null), (1, .aload_n 1, .null)] := sblk_of (by decide +kernel)
theorem d_c_Read_faultOf0_2 : decode b_Read_faultOf 2 = .ok (.putfield 9, 3) := by decide +kernel
theorem k_c_Read_faultOf0_5_3 : sblk b_Read_faultOf [(5, .aload_n 0, .null), (6, .iload_n 2, .null), (7, .aload_n 1, .null)] := sblk_of (by decide +kernel)
theorem d_c_Read_faultOf0_8 : decode b_Read_faultOf 8 = .ok (.arraylength, 1) := by decide +kernel
theorem d_c_Read_faultOf0_9 : decode b_Read_faultOf 9 = .ok (.invokestatic 15, 3) := by decide +kernel
theorem d_c_Read_faultOf0_12 : decode b_Read_faultOf 12 = .ok (.putfield 21, 3) := by decide +kernel
theorem k_c_Read_faultOf0_15_2 : sblk b_Read_faultOf [(15, .aload_n 0, .null), (16, .aload_n 3, .null)] := sblk_of (by decide +kernel)
theorem d_c_Read_faultOf0_17 : decode b_Read_faultOf 17 = .ok (.putfield 25, 3) := by decide +kernel
theorem k_c_Read_faultOf0_20_1 : sblk b_Read_faultOf [(20, .aload_n 0, .null)] := sblk_of (by decide +kernel)
theorem d_c_Read_faultOf0_21 : decode b_Read_faultOf 21 = .ok (.getfield 25, 3) := by decide +kernel
theorem d_c_Read_faultOf0_24 : decode b_Read_faultOf 24 = .ok (.invokevirtual 29, 3) := by decide +kernel
theorem k_c_Read_faultOf0_27_2 : sblk b_Read_faultOf [(27, .aload_n 0, .null), (28, .iload 4, .null)] := sblk_of (by decide +kernel)
theorem d_c_Read_faultOf0_30 : decode b_Read_faultOf 30 = .ok (.putfield 34, 3) := by decide +kernel
theorem k_c_Read_faultOf0_33_2 : sblk b_Read_faultOf [(33, .aload_n 0, .null), (34, .iconst 0, .int 0)] := sblk_of (by decide +kernel)
theorem d_c_Read_faultOf0_35 : decode b_Read_faultOf 35 = .ok (.putfield 37, 3) := by decide +kernel
theorem k_c_Read_faultOf0_38_2 : sblk b_Read_faultOf [(38, .aload_n 0, .null), (39, .iconst 0, .int 0)] := sblk_of (by decide +kernel)
theorem d_c_Read_faultOf0_40 : decode b_Read_faultOf 40 = .ok (.putfield 40, 3) := by decide +kernel
theorem k_c_Read_faultOf0_43_1 : sblk b_Read_faultOf [(43, .aload_n 0, .null)] := sblk_of (by decide +kernel)
theorem d_c_Read_faultOf0_44 : decode b_Read_faultOf 44 = .ok (.invokevirtual 43, 3) := by decide +kernel
theorem k_c_Read_faultOf0_47_1 : sblk b_Read_faultOf [(47, .aload_n 0, .null)] := sblk_of (by decide +kernel)
theorem d_c_Read_faultOf0_48 : decode b_Read_faultOf 48 = .ok (.invokevirtual 46, 3) := by decide +kernel
theorem d_c_Read_faultOf0_51 : decode b_Read_faultOf 51 = .ok (.ifCond .eq 14, 3) := by decide +kernel
theorem k_c_Read_faultOf0_65_1 : sblk b_Read_faultOf [(65, .aload_n 0, .null)] := sblk_of (by decide +kernel)
theorem d_c_Read_faultOf0_66 : decode b_Read_faultOf 66 = .ok (.getfield 53, 3) := by decide +kernel
theorem d_c_Read_faultOf0_69 : decode b_Read_faultOf 69 = .ok (.ireturn, 1) := by decide +kernel
set_option maxHeartbeats 40000000 in
set_option maxRecDepth 100000 in
theorem c_Read_faultOf0 (l : Launch) (D : va_G) (B : Nat) (H0 : Heap) (w : jW) (x tp p u r : Nat) (Vx V Vu : Nat → Value) (f : Nat → Int32) (g0 : Nat → Int32) (hx : w.1 x = some (.inr (3, Vx))) (ht : w.1 tp = some (aI D 120 g0)) (hp : w.1 p = some (.inr (2, V))) (h12 : V 12 = .ref u) (hu : w.1 u = some (.inr (4, Vu))) (u0 : Vu 0 = .ref r) (hr : w.1 r = some (aI D 10 f)) : jMet l D B H0 y_Read_faultOf b_Read_faultOf 5 (some .int) 2 80 0 0 [.ref x, .ref tp, .int 0, .ref p, .int 0] w (fun v w9 => v = some (.int 0) ∧ (w9.2.1 = w.2.1 + 0 ∧ w9.2.2 = w.2.2 + 0) ∧ jfr (fun b => b ≠ x ∧ b ≠ p ∧ b ≠ r) w w9) := by
  refine j_met (by decide) (Nat.le_of_ble_eq_true rfl) (fun g C Rm Y E => ?_)
  have hk := jkz w
  have fr0 : jfr (fun b => b ≠ x ∧ b ≠ p ∧ b ≠ r) w w := jfr0
  show JJ g w 0 [(0, .ref x), (1, .ref tp), (2, .int 0), (3, .ref p), (4, .int 0)] []
  refine j_blk 2 [(0, .ref x), (1, .ref tp), (2, .int 0), (3, .ref p), (4, .int 0)] [.ref tp, .ref x] C k_c_Read_faultOf0_0_2 rfl ?_
  refine j_put C d_c_Read_faultOf0_2 fp_Read_9 hx rfl rfl ?_
  refine jnv (fun w_1 ew_1 => ?_)
  have m_x_w_1 : w_1.1 x = some (.inr (3, (updV Vx 0 (.ref tp)))) := jus ew_1
  have hk_w_1 := jk0 ew_1 hk
  have fr_w_1 := jfrW ew_1 fr0 (fun b e hb _ => hb.1)
  refine j_blk 8 [(0, .ref x), (1, .ref tp), (2, .int 0), (3, .ref p), (4, .int 0)] [.ref tp, .int 0, .ref x] C k_c_Read_faultOf0_5_3 rfl ?_
  have m_tp_w_1 := jun ew_1 ht (jneAO ht hx)
  refine j_alen (t := 0) C d_c_Read_faultOf0_8 (by rfl) m_tp_w_1 rfl ?_
  show JJ g w_1 9 [(0, .ref x), (1, .ref tp), (2, .int 0), (3, .ref p), (4, .int 0)] [.int 120, .int 0, .ref x]
  refine j_mmin C Rm cl_Read_15 d_c_Read_faultOf0_9 (by decide) (Nat.le_of_ble_eq_true rfl) (jbnd hk_w_1.1 rfl) (jbnd hk_w_1.2 rfl) ?_
  rw [if_neg (by decide : ¬ ((120 : Int32) < 0))]
  refine j_put C d_c_Read_faultOf0_12 fp_Read_21 m_x_w_1 rfl rfl ?_
  refine jnv (fun w_2 ew_2 => ?_)
  have m_x_w_2 : w_2.1 x = some (.inr (3, (updV (updV Vx 0 (.ref tp)) 1 (.int 0)))) := jus ew_2
  have hk_w_2 := jk0 ew_2 hk_w_1
  have fr_w_2 := jfrW ew_2 fr_w_1 (fun b e hb _ => hb.1)
  refine j_blk 17 [(0, .ref x), (1, .ref tp), (2, .int 0), (3, .ref p), (4, .int 0)] [.ref p, .ref x] C k_c_Read_faultOf0_15_2 rfl ?_
  refine j_put C d_c_Read_faultOf0_17 fp_Read_25 m_x_w_2 rfl rfl ?_
  refine jnv (fun w_3 ew_3 => ?_)
  have m_x_w_3 : w_3.1 x = some (.inr (3, (updV (updV (updV Vx 0 (.ref tp)) 1 (.int 0)) 2 (.ref p)))) := jus ew_3
  have hk_w_3 := jk0 ew_3 hk_w_2
  have fr_w_3 := jfrW ew_3 fr_w_2 (fun b e hb _ => hb.1)
  refine j_blk 21 [(0, .ref x), (1, .ref tp), (2, .int 0), (3, .ref p), (4, .int 0)] [.ref x] C k_c_Read_faultOf0_20_1 rfl ?_
  refine j_get C d_c_Read_faultOf0_21 fg_Read_25 m_x_w_3 rfl ?_
  have m_p_w_1 := jun ew_1 hp (jneO hp hx (by decide))
  have m_p_w_2 := jun ew_2 m_p_w_1 (jneO m_p_w_1 m_x_w_1 (by decide))
  have m_p_w_3 := jun ew_3 m_p_w_2 (jneO m_p_w_2 m_x_w_2 (by decide))
  have m_u_w_1 := jun ew_1 hu (jneO hu hx (by decide))
  have m_u_w_2 := jun ew_2 m_u_w_1 (jneO m_u_w_1 m_x_w_1 (by decide))
  have m_u_w_3 := jun ew_3 m_u_w_2 (jneO m_u_w_2 m_x_w_2 (by decide))
  have m_r_w_1 := jun ew_1 hr (jneAO hr hx)
  have m_r_w_2 := jun ew_2 m_r_w_1 (jneAO m_r_w_1 m_x_w_1)
  have m_r_w_3 := jun ew_3 m_r_w_2 (jneAO m_r_w_2 m_x_w_2)
  refine j_callV C Rm Y [] [] (c_Prog_clear l D B H0 w_3 p u r V Vu f m_p_w_3 h12 m_u_w_3 u0 m_r_w_3) cl_Read_29 (by rfl) (by rfl) m_p_w_3 d_c_Read_faultOf0_24 rfl rfl (Nat.le_of_ble_eq_true rfl) ⟨by decide, by decide⟩ ⟨jroom hk_w_3.1 rfl, jroom hk_w_3.2 rfl⟩ (fun v1 w_4 pw_4 => ?_)
  obtain ⟨rfl, hc_w_4, G_w_4⟩ := pw_4
  have hk_w_4 := jkT hk_w_3 hc_w_4
  have fr_w_4 := jfrT fr_w_3 G_w_4 (fun b e hb hv => ⟨(fun b e hb _ => hb.2.1) b e hb hv, (fun b e hb _ => hb.2.2) b e hb hv⟩)
  show JJ g w_4 27 [(0, .ref x), (1, .ref tp), (2, .int 0), (3, .ref p), (4, .int 0)] []
  refine j_blk 30 [(0, .ref x), (1, .ref tp), (2, .int 0), (3, .ref p), (4, .int 0)] [.int 0, .ref x] C k_c_Read_faultOf0_27_2 rfl ?_
  have m_x_w_4 := (G_w_4 _ _ m_x_w_3).1 ⟨(jneO m_x_w_3 m_p_w_3 (by decide)), (jneOA m_x_w_3 m_r_w_3)⟩
  refine j_put C d_c_Read_faultOf0_30 fp_Read_34 m_x_w_4 rfl rfl ?_
  refine jnv (fun w_5 ew_5 => ?_)
  have m_x_w_5 : w_5.1 x = some (.inr (3, (updV (updV (updV (updV Vx 0 (.ref tp)) 1 (.int 0)) 2 (.ref p)) 3 (.int 0)))) := jus ew_5
  have hk_w_5 := jk0 ew_5 hk_w_4
  have fr_w_5 := jfrW ew_5 fr_w_4 (fun b e hb _ => hb.1)
  refine j_blk 35 [(0, .ref x), (1, .ref tp), (2, .int 0), (3, .ref p), (4, .int 0)] [.int 0, .ref x] C k_c_Read_faultOf0_33_2 rfl ?_
  refine j_put C d_c_Read_faultOf0_35 fp_Read_37 m_x_w_5 rfl rfl ?_
  refine jnv (fun w_6 ew_6 => ?_)
  have m_x_w_6 : w_6.1 x = some (.inr (3, (updV (updV (updV (updV (updV Vx 0 (.ref tp)) 1 (.int 0)) 2 (.ref p)) 3 (.int 0)) 4 (.int 0)))) := jus ew_6
  have hk_w_6 := jk0 ew_6 hk_w_5
  have fr_w_6 := jfrW ew_6 fr_w_5 (fun b e hb _ => hb.1)
  refine j_blk 40 [(0, .ref x), (1, .ref tp), (2, .int 0), (3, .ref p), (4, .int 0)] [.int 0, .ref x] C k_c_Read_faultOf0_38_2 rfl ?_
  refine j_put C d_c_Read_faultOf0_40 fp_Read_40 m_x_w_6 rfl rfl ?_
  refine jnv (fun w_7 ew_7 => ?_)
  have m_x_w_7 : w_7.1 x = some (.inr (3, (updV (updV (updV (updV (updV (updV Vx 0 (.ref tp)) 1 (.int 0)) 2 (.ref p)) 3 (.int 0)) 4 (.int 0)) 5 (.int 0)))) := jus ew_7
  have hk_w_7 := jk0 ew_7 hk_w_6
  have fr_w_7 := jfrW ew_7 fr_w_6 (fun b e hb _ => hb.1)
  refine j_blk 44 [(0, .ref x), (1, .ref tp), (2, .int 0), (3, .ref p), (4, .int 0)] [.ref x] C k_c_Read_faultOf0_43_1 rfl ?_
  refine j_callV C Rm Y [] [] (c_Read_advance0 l D B H0 w_7 x (updV (updV (updV (updV (updV (updV Vx 0 (.ref tp)) 1 (.int 0)) 2 (.ref p)) 3 (.int 0)) 4 (.int 0)) 5 (.int 0)) m_x_w_7 rfl rfl) cl_Read_43 (by rfl) (by rfl) m_x_w_7 d_c_Read_faultOf0_44 rfl rfl (Nat.le_of_ble_eq_true rfl) ⟨by decide, by decide⟩ ⟨jroom hk_w_7.1 rfl, jroom hk_w_7.2 rfl⟩ (fun v2 w_8 pw_8 => ?_)
  obtain ⟨rfl, hc_w_8, G_w_8, mx_w_8⟩ := pw_8
  have hk_w_8 := jkT hk_w_7 hc_w_8
  have fr_w_8 := jfrT fr_w_7 G_w_8 (fun b e hb _ => hb.1)
  show JJ g w_8 47 [(0, .ref x), (1, .ref tp), (2, .int 0), (3, .ref p), (4, .int 0)] []
  refine j_blk 48 [(0, .ref x), (1, .ref tp), (2, .int 0), (3, .ref p), (4, .int 0)] [.ref x] C k_c_Read_faultOf0_47_1 rfl ?_
  refine j_callV C Rm Y [] [] (c_Read_readBlock0 l D B H0 w_8 x (updV (updV (updV (updV (updV (updV (updV (updV (updV Vx 0 (.ref tp)) 1 (.int 0)) 2 (.ref p)) 3 (.int 0)) 4 (.int 0)) 5 (.int 0)) 6 (.int 0)) 8 (.int 0)) 7 (.int 0)) mx_w_8 rfl) cl_Read_46 (by rfl) (by rfl) mx_w_8 d_c_Read_faultOf0_48 rfl rfl (Nat.le_of_ble_eq_true rfl) ⟨by decide, by decide⟩ ⟨jroom hk_w_8.1 rfl, jroom hk_w_8.2 rfl⟩ (fun v3 w_9 pw_9 => ?_)
  obtain ⟨rfl, rfl⟩ := pw_9
  show JJ g w_8 51 [(0, .ref x), (1, .ref tp), (2, .int 0), (3, .ref p), (4, .int 0)] [.int 0]
  refine j_if_eq (tgt := 65) C d_c_Read_faultOf0_51 (by decide) (fun c4 => ?_) (fun c4 => absurd (by decide) c4)
  refine j_blk 66 [(0, .ref x), (1, .ref tp), (2, .int 0), (3, .ref p), (4, .int 0)] [.ref x] C k_c_Read_faultOf0_65_1 rfl ?_
  refine j_get C d_c_Read_faultOf0_66 fg_Read_53 mx_w_8 rfl ?_
  exact j_iret C Rm E d_c_Read_faultOf0_69 ⟨rfl, hk_w_8, fr_w_8⟩ (jbnd hk_w_8.1 rfl) (jbnd hk_w_8.2 rfl)

theorem k_c_CS_program_0_1 : sblk b_CS_program [(0, .aload_n 0, .null)] := sblk_of (by decide +kernel)
theorem d_c_CS_program_1 : decode b_CS_program 1 = .ok (.getfield 59, 3) := by decide +kernel
theorem k_c_CS_program_4_1 : sblk b_CS_program [(4, .bipush 6, .int 6)] := sblk_of (by decide +kernel)
theorem d_c_CS_program_6 : decode b_CS_program 6 = .ok (.if_icmp .lt 6, 3) := by decide +kernel
theorem k_c_CS_program_12_1 : sblk b_CS_program [(12, .aload_n 0, .null)] := sblk_of (by decide +kernel)
theorem d_c_CS_program_13 : decode b_CS_program 13 = .ok (.getfield 15, 3) := by decide +kernel
theorem k_c_CS_program_16_1 : sblk b_CS_program [(16, .aload_n 0, .null)] := sblk_of (by decide +kernel)
theorem d_c_CS_program_17 : decode b_CS_program 17 = .ok (.getfield 59, 3) := by decide +kernel
theorem d_c_CS_program_20 : decode b_CS_program 20 = .ok (.aaload, 1) := by decide +kernel
theorem k_c_CS_program_21_2 : sblk b_CS_program [(21, .astore_n 1, .null), (22, .aload_n 1, .null)] := sblk_of (by decide +kernel)
theorem d_c_CS_program_23 : decode b_CS_program 23 = .ok (.ifnonnull 21, 3) := by decide +kernel
theorem d_c_CS_program_26 : decode b_CS_program 26 = .ok (.new 13, 3) := by decide +kernel
theorem k_c_CS_program_29_1 : sblk b_CS_program [(29, .dup, .null)] := sblk_of (by decide +kernel)
theorem d_c_CS_program_30 : decode b_CS_program 30 = .ok (.invokespecial 62, 3) := by decide +kernel
theorem k_c_CS_program_33_2 : sblk b_CS_program [(33, .astore_n 1, .null), (34, .aload_n 0, .null)] := sblk_of (by decide +kernel)
theorem d_c_CS_program_35 : decode b_CS_program 35 = .ok (.getfield 15, 3) := by decide +kernel
theorem k_c_CS_program_38_1 : sblk b_CS_program [(38, .aload_n 0, .null)] := sblk_of (by decide +kernel)
theorem d_c_CS_program_39 : decode b_CS_program 39 = .ok (.getfield 59, 3) := by decide +kernel
theorem k_c_CS_program_42_1 : sblk b_CS_program [(42, .aload_n 1, .null)] := sblk_of (by decide +kernel)
theorem d_c_CS_program_43 : decode b_CS_program 43 = .ok (.aastore, 1) := by decide +kernel
theorem k_c_CS_program_44_1 : sblk b_CS_program [(44, .aload_n 0, .null)] := sblk_of (by decide +kernel)
theorem d_c_CS_program_45 : decode b_CS_program 45 = .ok (.getfield 28, 3) := by decide +kernel
theorem k_c_CS_program_48_1 : sblk b_CS_program [(48, .aload_n 0, .null)] := sblk_of (by decide +kernel)
theorem d_c_CS_program_49 : decode b_CS_program 49 = .ok (.getfield 9, 3) := by decide +kernel
theorem k_c_CS_program_52_1 : sblk b_CS_program [(52, .aload_n 0, .null)] := sblk_of (by decide +kernel)
theorem d_c_CS_program_53 : decode b_CS_program 53 = .ok (.getfield 51, 3) := by decide +kernel
theorem k_c_CS_program_56_2 : sblk b_CS_program [(56, .aload_n 1, .null), (57, .aload_n 0, .null)] := sblk_of (by decide +kernel)
theorem d_c_CS_program_58 : decode b_CS_program 58 = .ok (.getfield 59, 3) := by decide +kernel
theorem d_c_CS_program_61 : decode b_CS_program 61 = .ok (.invokevirtual 63, 3) := by decide +kernel
theorem k_c_CS_program_64_3 : sblk b_CS_program [(64, .istore_n 2, .null), (65, .aload_n 0, .null), (66, .iconst 0, .int 0)] := sblk_of (by decide +kernel)
theorem d_c_CS_program_67 : decode b_CS_program 67 = .ok (.putfield 51, 3) := by decide +kernel
theorem k_c_CS_program_70_2 : sblk b_CS_program [(70, .iload_n 2, .null), (71, .iconst (-1), .int (-1))] := sblk_of (by decide +kernel)
theorem d_c_CS_program_72 : decode b_CS_program 72 = .ok (.if_icmp .eq 8, 3) := by decide +kernel
theorem k_c_CS_program_75_3 : sblk b_CS_program [(75, .bipush (-100), .int (-100)), (77, .iload_n 2, .null), (78, .isub, .null)] := sblk_of (by decide +kernel)
theorem d_c_CS_program_79 : decode b_CS_program 79 = .ok (.ireturn, 1) := by decide +kernel
set_option maxHeartbeats 40000000 in
set_option maxRecDepth 100000 in
theorem c_CS_program (l : Launch) (D : va_G) (B : Nat) (H0 : Heap) (w : jW) (x tp pg rd q : Nat) (V Vr : Nat → Value) (hx : w.1 x = some (.inr (8, V))) (h0 : V 0 = .ref tp) (h1 : V 1 = .int 0) (h2 : V 2 = .ref pg) (h3 : V 3 = .int 0) (h9 : V 9 = .ref rd) (ht : w.1 tp = some (aI D 120 (fun _ => 0))) (hpg : w.1 pg = some (aR D 8 6 (fun _ => none))) (hrd : w.1 rd = some (.inr (3, Vr))) (xq : x < q) (pq : pg < q) (rq : rd < q) : jMet l D B H0 y_CS_program b_CS_program 3 (some .int) 4 240 26 739 [.ref x] w (fun v w9 => v = some (.int (-100)) ∧ (w9.2.1 = w.2.1 + 26 ∧ w9.2.2 = w.2.2 + 739) ∧ jfr (fun b => q ≤ b) w w9) := by
  refine j_met (by decide) (Nat.le_of_ble_eq_true rfl) (fun g C Rm Y E => ?_)
  have hk := jkz w
  have fr0 : jfr (fun b => q ≤ b) w w := jfr0
  show JJ g w 0 [(0, .ref x)] []
  refine j_blk 1 [(0, .ref x)] [.ref x] C k_c_CS_program_0_1 rfl ?_
  refine j_get C d_c_CS_program_1 fg_CS_59 hx h3 ?_
  refine j_blk 6 [(0, .ref x)] [.int 6, .int 0] C k_c_CS_program_4_1 rfl ?_
  refine j_icmp_lt (tgt := 12) C d_c_CS_program_6 (by decide) (fun c1 => ?_) (fun c1 => absurd (by decide) c1)
  refine j_blk 13 [(0, .ref x)] [.ref x] C k_c_CS_program_12_1 rfl ?_
  refine j_get C d_c_CS_program_13 fg_CS_15 hx h2 ?_
  refine j_blk 17 [(0, .ref x)] [.ref x, .ref pg] C k_c_CS_program_16_1 rfl ?_
  refine j_get C d_c_CS_program_17 fg_CS_59 hx h3 ?_
  refine j_aald (v := .null) C d_c_CS_program_20 (by rfl) rfl hpg (jin (by decide) (by decide)) rfl ?_
  refine j_blk 23 [(1, .null), (0, .ref x)] [.null] C k_c_CS_program_21_2 rfl ?_
  refine j_ifnonnullN C d_c_CS_program_23 ?_
  refine j_new C Rm d_c_CS_program_26 nw_CS_13 (jroom hk.1 rfl) (jroom hk.2 rfl) (fun q2 f_q2 => ?_)
  refine jnv (fun w_1 ew_1 => ?_)
  have m_q2_w_1 : w_1.1 q2 = some (.inr (2, v0_2)) := jus ew_1
  have hk_w_1 := jk1 ew_1 hk
  have lt_q2 := jfrL fr0 f_q2
  have fr_w_1 := jfrN ew_1 fr0 f_q2
  refine j_blk 30 [(1, .null), (0, .ref x)] [.ref q2, .ref q2] C k_c_CS_program_29_1 rfl ?_
  refine j_callI C Rm Y [] [.ref q2] (c_Prog_init l D B H0 w_1 q2 v0_2 m_q2_w_1) cl_CS_62 d_c_CS_program_30 rfl rfl (Nat.le_of_ble_eq_true rfl) ⟨by decide, by decide⟩ ⟨jroom hk_w_1.1 rfl, jroom hk_w_1.2 rfl⟩ (fun v3 w_2 pw_2 => ?_)
  obtain ⟨rfl, hc_w_2, G_w_2, V_w_2, q4, q5, q6, q7, q8, q9, q10, q11, q12, Vr_w_2, F_w_2, ltq4, ltq5, ltq6, ltq7, ltq8, ltq9, ltq10, ltq11, ltq12, mo_w_2, hV0_w_2, hV1_w_2, hV2_w_2, hV3_w_2, hV4_w_2, hV5_w_2, hV6_w_2, hV7_w_2, hV8_w_2, hV9_w_2, hV10_w_2, hV11_w_2, hV12_w_2, hV13_w_2, hV14_w_2, hV15_w_2, mr_w_2, u0_w_2, u1_w_2, u2_w_2, mmq5, mmq6, mmq7, mmq8, mmq10, mmq11, mmq12, mmq4⟩ := pw_2
  have hk_w_2 := jkT hk_w_1 hc_w_2
  have lt_q4 := jfrL fr_w_1 ltq4
  have lt_q5 := jfrL fr_w_1 ltq5
  have lt_q6 := jfrL fr_w_1 ltq6
  have lt_q7 := jfrL fr_w_1 ltq7
  have lt_q8 := jfrL fr_w_1 ltq8
  have lt_q9 := jfrL fr_w_1 ltq9
  have lt_q10 := jfrL fr_w_1 ltq10
  have lt_q11 := jfrL fr_w_1 ltq11
  have lt_q12 := jfrL fr_w_1 ltq12
  have fr_w_2 := jfrT fr_w_1 G_w_2 (fun b _ _ he => Nat.ne_of_lt (lt_q2 b _ he))
  show JJ g w_2 33 [(1, .null), (0, .ref x)] [.ref q2]
  refine j_blk 35 [(1, .ref q2), (0, .ref x)] [.ref x] C k_c_CS_program_33_2 rfl ?_
  have x_x_q2 := Nat.ne_of_lt (f_q2 _ _ hx)
  have m_x_w_1 := jun ew_1 hx x_x_q2
  have m_x_w_2 := (G_w_2 _ _ m_x_w_1).1 x_x_q2
  refine j_get C d_c_CS_program_35 fg_CS_15 m_x_w_2 h2 ?_
  refine j_blk 39 [(1, .ref q2), (0, .ref x)] [.ref x, .ref pg] C k_c_CS_program_38_1 rfl ?_
  refine j_get C d_c_CS_program_39 fg_CS_59 m_x_w_2 h3 ?_
  refine j_blk 43 [(1, .ref q2), (0, .ref x)] [.ref q2, .int 0, .ref pg] C k_c_CS_program_42_1 rfl ?_
  have x_pg_q2 := Nat.ne_of_lt (f_q2 _ _ hpg)
  have m_pg_w_1 := jun ew_1 hpg x_pg_q2
  have m_pg_w_2 := (G_w_2 _ _ m_pg_w_1).1 x_pg_q2
  refine j_aast C d_c_CS_program_43 (by rfl) (by rfl) m_pg_w_2 mo_w_2 (jin (by decide) (by decide)) ?_
  refine jnv (fun w_3 ew_3 => ?_)
  have m_pg_w_3 : w_3.1 pg = some (aR D 8 6 (va_up (fun _ => none) 0 (some q2))) := jus ew_3
  have hk_w_3 := jk0 ew_3 hk_w_2
  have fr_w_3 := jfrW ew_3 fr_w_2 (fun b e hb _ => Nat.ne_of_gt (Nat.lt_of_lt_of_le pq hb))
  refine j_blk 45 [(1, .ref q2), (0, .ref x)] [.ref x] C k_c_CS_program_44_1 rfl ?_
  have m_x_w_3 := jun ew_3 m_x_w_2 (jneOA m_x_w_2 m_pg_w_2)
  refine j_get C d_c_CS_program_45 fg_CS_28 m_x_w_3 h9 ?_
  refine j_blk 49 [(1, .ref q2), (0, .ref x)] [.ref x, .ref rd] C k_c_CS_program_48_1 rfl ?_
  refine j_get C d_c_CS_program_49 fg_CS_9 m_x_w_3 h0 ?_
  refine j_blk 53 [(1, .ref q2), (0, .ref x)] [.ref x, .ref tp, .ref rd] C k_c_CS_program_52_1 rfl ?_
  refine j_get C d_c_CS_program_53 fg_CS_51 m_x_w_3 h1 ?_
  refine j_blk 58 [(1, .ref q2), (0, .ref x)] [.ref x, .ref q2, .int 0, .ref tp, .ref rd] C k_c_CS_program_56_2 rfl ?_
  refine j_get C d_c_CS_program_58 fg_CS_59 m_x_w_3 h3 ?_
  have x_rd_q2 := Nat.ne_of_lt (f_q2 _ _ hrd)
  have m_rd_w_1 := jun ew_1 hrd x_rd_q2
  have m_rd_w_2 := (G_w_2 _ _ m_rd_w_1).1 x_rd_q2
  have m_rd_w_3 := jun ew_3 m_rd_w_2 (jneOA m_rd_w_2 m_pg_w_2)
  have x_tp_q2 := Nat.ne_of_lt (f_q2 _ _ ht)
  have m_tp_w_1 := jun ew_1 ht x_tp_q2
  have m_tp_w_2 := (G_w_2 _ _ m_tp_w_1).1 x_tp_q2
  have m_tp_w_3 := jun ew_3 m_tp_w_2 (jneN m_tp_w_2 m_pg_w_2 rfl)
  have m_q2_w_3 := jun ew_3 mo_w_2 (Ne.symm x_pg_q2)
  have m_q9_w_3 := jun ew_3 mr_w_2 (jneOA mr_w_2 m_pg_w_2)
  have m_q10_w_3 := jun ew_3 mmq10 (jneN mmq10 m_pg_w_2 rfl)
  refine j_callV C Rm Y [.ref tp, .int 0, .ref q2, .int 0] [] (c_Read_faultOf0 l D B H0 w_3 rd tp q2 q9 q10 Vr V_w_2 Vr_w_2 (fun _ => 0) (fun _ => 0) m_rd_w_3 m_tp_w_3 m_q2_w_3 hV12_w_2 m_q9_w_3 u0_w_2 m_q10_w_3) cl_CS_63 (by rfl) (by rfl) m_rd_w_3 d_c_CS_program_61 rfl rfl (Nat.le_of_ble_eq_true rfl) ⟨by decide, by decide⟩ ⟨jroom hk_w_3.1 rfl, jroom hk_w_3.2 rfl⟩ (fun v13 w_4 pw_4 => ?_)
  obtain ⟨rfl, hc_w_4, G_w_4⟩ := pw_4
  have hk_w_4 := jkT hk_w_3 hc_w_4
  have fr_w_4 := jfrT fr_w_3 G_w_4 (fun b e hb hv => ⟨(fun b e hb _ => Nat.ne_of_gt (Nat.lt_of_lt_of_le rq hb)) b e hb hv, (fun b _ _ he => Nat.ne_of_lt (lt_q2 b _ he)) b e hb hv, (fun b _ _ he => Nat.ne_of_lt (lt_q10 b _ he)) b e hb hv⟩)
  show JJ g w_4 64 [(1, .ref q2), (0, .ref x)] [.int 0]
  refine j_blk 67 [(2, .int 0), (1, .ref q2), (0, .ref x)] [.int 0, .ref x] C k_c_CS_program_64_3 rfl ?_
  have m_x_w_4 := (G_w_4 _ _ m_x_w_3).1 ⟨(jneO m_x_w_3 m_rd_w_3 (by decide)), x_x_q2, (jneOA m_x_w_3 m_q10_w_3)⟩
  refine j_put C d_c_CS_program_67 fp_CS_51 m_x_w_4 rfl rfl ?_
  refine jnv (fun w_5 ew_5 => ?_)
  have m_x_w_5 : w_5.1 x = some (.inr (8, (updV V 1 (.int 0)))) := jus ew_5
  have hk_w_5 := jk0 ew_5 hk_w_4
  have fr_w_5 := jfrW ew_5 fr_w_4 (fun b e hb _ => Nat.ne_of_gt (Nat.lt_of_lt_of_le xq hb))
  refine j_blk 72 [(2, .int 0), (1, .ref q2), (0, .ref x)] [.int (-1), .int 0] C k_c_CS_program_70_2 rfl ?_
  refine j_icmp_eq (tgt := 80) C d_c_CS_program_72 (by decide) (fun c14 => absurd c14 (by decide)) (fun c14 => ?_)
  refine j_blk 79 [(2, .int 0), (1, .ref q2), (0, .ref x)] [.int (-100)] C k_c_CS_program_75_3 rfl ?_
  exact j_iret C Rm E d_c_CS_program_79 ⟨rfl, ⟨hk_w_5.1, hk_w_5.2⟩, fr_w_5⟩ (jbnd hk_w_5.1 rfl) (jbnd hk_w_5.2 rfl)

theorem k_c_Mo_byteAt0_0_2 : sblk b_Mo_byteAt [(0, .iload_n 1, .null), (1, .aload_n 0, .null)] := sblk_of (by decide +kernel)
theorem d_c_Mo_byteAt0_2 : decode b_Mo_byteAt 2 = .ok (.getfield 116, 3) := by decide +kernel
theorem d_c_Mo_byteAt0_5 : decode b_Mo_byteAt 5 = .ok (.if_icmp .ge 12, 3) := by decide +kernel
theorem k_c_Mo_byteAt0_17_1 : sblk b_Mo_byteAt [(17, .iconst (-1), .int (-1))] := sblk_of (by decide +kernel)
theorem d_c_Mo_byteAt0_18 : decode b_Mo_byteAt 18 = .ok (.ireturn, 1) := by decide +kernel
set_option maxHeartbeats 40000000 in
set_option maxRecDepth 100000 in
theorem c_Mo_byteAt0 (l : Launch) (D : va_G) (B : Nat) (H0 : Heap) (w : jW) (x : Nat) (V : Nat → Value) (hx : w.1 x = some (.inr (10, V))) (h22 : V 22 = .int 0) : jMet l D B H0 y_Mo_byteAt b_Mo_byteAt 2 (some .int) 0 0 0 0 [.ref x, .int 0] w (fun v w9 => v = some (.int (-1)) ∧ w = w9) := by
  refine j_met (by decide) (Nat.le_of_ble_eq_true rfl) (fun g C Rm Y E => ?_)
  have hk := jkz w
  have fr0 : jfr (fun b => b ≠ x) w w := jfr0
  show JJ g w 0 [(0, .ref x), (1, .int 0)] []
  refine j_blk 2 [(0, .ref x), (1, .int 0)] [.ref x, .int 0] C k_c_Mo_byteAt0_0_2 rfl ?_
  refine j_get C d_c_Mo_byteAt0_2 fg_Mo_116 hx h22 ?_
  refine j_icmp_ge (tgt := 17) C d_c_Mo_byteAt0_5 (by decide) (fun c1 => ?_) (fun c1 => absurd (by decide) c1)
  refine j_blk 18 [(0, .ref x), (1, .int 0)] [.int (-1)] C k_c_Mo_byteAt0_17_1 rfl ?_
  exact j_iret C Rm E d_c_Mo_byteAt0_18 ⟨rfl, rfl⟩ (jbnd hk.1 rfl) (jbnd hk.2 rfl)

theorem k_c_Mo_next0_0_1 : sblk b_Mo_next [(0, .aload_n 0, .null)] := sblk_of (by decide +kernel)
theorem d_c_Mo_next0_1 : decode b_Mo_next 1 = .ok (.getfield 155, 3) := by decide +kernel
theorem d_c_Mo_next0_4 : decode b_Mo_next 4 = .ok (.ifCond .eq 4, 3) := by decide +kernel
theorem k_c_Mo_next0_8_2 : sblk b_Mo_next [(8, .aload_n 0, .null), (9, .aload_n 0, .null)] := sblk_of (by decide +kernel)
theorem d_c_Mo_next0_10 : decode b_Mo_next 10 = .ok (.getfield 125, 3) := by decide +kernel
theorem d_c_Mo_next0_13 : decode b_Mo_next 13 = .ok (.invokevirtual 135, 3) := by decide +kernel
theorem k_c_Mo_next0_16_1 : sblk b_Mo_next [(16, .bipush 32, .int 32)] := sblk_of (by decide +kernel)
theorem d_c_Mo_next0_18 : decode b_Mo_next 18 = .ok (.if_icmp .eq 16, 3) := by decide +kernel
theorem k_c_Mo_next0_21_2 : sblk b_Mo_next [(21, .aload_n 0, .null), (22, .aload_n 0, .null)] := sblk_of (by decide +kernel)
theorem d_c_Mo_next0_23 : decode b_Mo_next 23 = .ok (.getfield 125, 3) := by decide +kernel
theorem d_c_Mo_next0_26 : decode b_Mo_next 26 = .ok (.invokevirtual 135, 3) := by decide +kernel
theorem k_c_Mo_next0_29_1 : sblk b_Mo_next [(29, .bipush 10, .int 10)] := sblk_of (by decide +kernel)
theorem d_c_Mo_next0_31 : decode b_Mo_next 31 = .ok (.if_icmp .ne 16, 3) := by decide +kernel
theorem k_c_Mo_next0_47_2 : sblk b_Mo_next [(47, .aload_n 0, .null), (48, .aload_n 0, .null)] := sblk_of (by decide +kernel)
theorem d_c_Mo_next0_49 : decode b_Mo_next 49 = .ok (.getfield 125, 3) := by decide +kernel
theorem d_c_Mo_next0_52 : decode b_Mo_next 52 = .ok (.putfield 128, 3) := by decide +kernel
theorem k_c_Mo_next0_55_2 : sblk b_Mo_next [(55, .aload_n 0, .null), (56, .aload_n 0, .null)] := sblk_of (by decide +kernel)
theorem d_c_Mo_next0_57 : decode b_Mo_next 57 = .ok (.getfield 125, 3) := by decide +kernel
theorem d_c_Mo_next0_60 : decode b_Mo_next 60 = .ok (.invokevirtual 135, 3) := by decide +kernel
theorem k_c_Mo_next0_63_3 : sblk b_Mo_next [(63, .istore_n 1, .null), (64, .iload_n 1, .null), (65, .iconst (-1), .int (-1))] := sblk_of (by decide +kernel)
theorem d_c_Mo_next0_66 : decode b_Mo_next 66 = .ok (.if_icmp .ne 11, 3) := by decide +kernel
theorem k_c_Mo_next0_69_2 : sblk b_Mo_next [(69, .aload_n 0, .null), (70, .iconst 0, .int 0)] := sblk_of (by decide +kernel)
theorem d_c_Mo_next0_71 : decode b_Mo_next 71 = .ok (.putfield 159, 3) := by decide +kernel
theorem k_c_Mo_next0_74_1 : sblk b_Mo_next [(74, .goto 273, .retAddr 347)] := sblk_of (by decide +kernel)
theorem d_c_Mo_next0_347 : decode b_Mo_next 347 = .ok (.return_, 1) := by decide +kernel
set_option maxHeartbeats 40000000 in
set_option maxRecDepth 100000 in
theorem c_Mo_next0 (l : Launch) (D : va_G) (B : Nat) (H0 : Heap) (w : jW) (x : Nat) (V : Nat → Value) (hx : w.1 x = some (.inr (10, V))) (h31 : V 31 = .int 0) (h23 : V 23 = .int 0) (h22 : V 22 = .int 0) : jMet l D B H0 y_Mo_next b_Mo_next 3 none 1 40 0 0 [.ref x] w (fun v w9 => v = none ∧ (w9.2.1 = w.2.1 + 0 ∧ w9.2.2 = w.2.2 + 0) ∧ jfr (fun b => b ≠ x) w w9 ∧ w9.1 x = some (.inr (10, (updV (updV V 24 (.int 0)) 25 (.int 0))))) := by
  refine j_met (by decide) (Nat.le_of_ble_eq_true rfl) (fun g C Rm Y E => ?_)
  have hk := jkz w
  have fr0 : jfr (fun b => b ≠ x) w w := jfr0
  show JJ g w 0 [(0, .ref x)] []
  refine j_blk 1 [(0, .ref x)] [.ref x] C k_c_Mo_next0_0_1 rfl ?_
  refine j_get C d_c_Mo_next0_1 fg_Mo_155 hx h31 ?_
  refine j_if_eq (tgt := 8) C d_c_Mo_next0_4 (by decide) (fun c1 => ?_) (fun c1 => absurd (by decide) c1)
  refine j_blk 10 [(0, .ref x)] [.ref x, .ref x] C k_c_Mo_next0_8_2 rfl ?_
  refine j_get C d_c_Mo_next0_10 fg_Mo_125 hx h23 ?_
  refine j_callV C Rm Y [.int 0] [] (c_Mo_byteAt0 l D B H0 w x V hx h22) cl_Mo_135 (by rfl) (by rfl) hx d_c_Mo_next0_13 rfl rfl (Nat.le_of_ble_eq_true rfl) ⟨by decide, by decide⟩ ⟨jroom hk.1 rfl, jroom hk.2 rfl⟩ (fun v2 w_1 pw_1 => ?_)
  obtain ⟨rfl, rfl⟩ := pw_1
  show JJ g w 16 [(0, .ref x)] [.int (-1)]
  refine j_blk 18 [(0, .ref x)] [.int 32, .int (-1)] C k_c_Mo_next0_16_1 rfl ?_
  refine j_icmp_eq (tgt := 34) C d_c_Mo_next0_18 (by decide) (fun c3 => absurd c3 (by decide)) (fun c3 => ?_)
  refine j_blk 23 [(0, .ref x)] [.ref x, .ref x] C k_c_Mo_next0_21_2 rfl ?_
  refine j_get C d_c_Mo_next0_23 fg_Mo_125 hx h23 ?_
  refine j_callV C Rm Y [.int 0] [] (c_Mo_byteAt0 l D B H0 w x V hx h22) cl_Mo_135 (by rfl) (by rfl) hx d_c_Mo_next0_26 rfl rfl (Nat.le_of_ble_eq_true rfl) ⟨by decide, by decide⟩ ⟨jroom hk.1 rfl, jroom hk.2 rfl⟩ (fun v4 w_2 pw_2 => ?_)
  obtain ⟨rfl, rfl⟩ := pw_2
  show JJ g w 29 [(0, .ref x)] [.int (-1)]
  refine j_blk 31 [(0, .ref x)] [.int 10, .int (-1)] C k_c_Mo_next0_29_1 rfl ?_
  refine j_icmp_ne (tgt := 47) C d_c_Mo_next0_31 (by decide) (fun c5 => ?_) (fun c5 => absurd c5 (by decide))
  refine j_blk 49 [(0, .ref x)] [.ref x, .ref x] C k_c_Mo_next0_47_2 rfl ?_
  refine j_get C d_c_Mo_next0_49 fg_Mo_125 hx h23 ?_
  refine j_put C d_c_Mo_next0_52 fp_Mo_128 hx rfl rfl ?_
  refine jnv (fun w_3 ew_3 => ?_)
  have m_x_w_3 : w_3.1 x = some (.inr (10, (updV V 24 (.int 0)))) := jus ew_3
  have hk_w_3 := jk0 ew_3 hk
  have fr_w_3 := jfrW ew_3 fr0 (fun b e hb _ => hb)
  refine j_blk 57 [(0, .ref x)] [.ref x, .ref x] C k_c_Mo_next0_55_2 rfl ?_
  refine j_get C d_c_Mo_next0_57 fg_Mo_125 m_x_w_3 h23 ?_
  refine j_callV C Rm Y [.int 0] [] (c_Mo_byteAt0 l D B H0 w_3 x (updV V 24 (.int 0)) m_x_w_3 h22) cl_Mo_135 (by rfl) (by rfl) m_x_w_3 d_c_Mo_next0_60 rfl rfl (Nat.le_of_ble_eq_true rfl) ⟨by decide, by decide⟩ ⟨jroom hk_w_3.1 rfl, jroom hk_w_3.2 rfl⟩ (fun v6 w_4 pw_4 => ?_)
  obtain ⟨rfl, rfl⟩ := pw_4
  show JJ g w_3 63 [(0, .ref x)] [.int (-1)]
  refine j_blk 66 [(1, .int (-1)), (0, .ref x)] [.int (-1), .int (-1)] C k_c_Mo_next0_63_3 rfl ?_
  refine j_icmp_ne (tgt := 77) C d_c_Mo_next0_66 (by decide) (fun c7 => absurd (by decide) c7) (fun c7 => ?_)
  refine j_blk 71 [(1, .int (-1)), (0, .ref x)] [.int 0, .ref x] C k_c_Mo_next0_69_2 rfl ?_
  refine j_put C d_c_Mo_next0_71 fp_Mo_159 m_x_w_3 rfl rfl ?_
  refine jnv (fun w_5 ew_5 => ?_)
  have m_x_w_5 : w_5.1 x = some (.inr (10, (updV (updV V 24 (.int 0)) 25 (.int 0)))) := jus ew_5
  have hk_w_5 := jk0 ew_5 hk_w_3
  have fr_w_5 := jfrW ew_5 fr_w_3 (fun b e hb _ => hb)
  refine j_blk 347 [(1, .int (-1)), (0, .ref x)] [] C k_c_Mo_next0_74_1 rfl ?_
  exact j_vret C Rm E d_c_Mo_next0_347 ⟨rfl, hk_w_5, fr_w_5, m_x_w_5⟩ (jbnd hk_w_5.1 rfl) (jbnd hk_w_5.2 rfl)

theorem k_c_Mo_step0_0_1 : sblk b_Mo_step_0 [(0, .aload_n 0, .null)] := sblk_of (by decide +kernel)
theorem d_c_Mo_step0_1 : decode b_Mo_step_0 1 = .ok (.getfield 155, 3) := by decide +kernel
theorem d_c_Mo_step0_4 : decode b_Mo_step_0 4 = .ok (.ifCond .ne 20, 3) := by decide +kernel
theorem k_c_Mo_step0_7_1 : sblk b_Mo_step_0 [(7, .aload_n 0, .null)] := sblk_of (by decide +kernel)
theorem d_c_Mo_step0_8 : decode b_Mo_step_0 8 = .ok (.getfield 159, 3) := by decide +kernel
theorem k_c_Mo_step0_11_1 : sblk b_Mo_step_0 [(11, .iconst 2, .int 2)] := sblk_of (by decide +kernel)
theorem d_c_Mo_step0_12 : decode b_Mo_step_0 12 = .ok (.if_icmp .ne 12, 3) := by decide +kernel
theorem k_c_Mo_step0_24_2 : sblk b_Mo_step_0 [(24, .aload_n 0, .null), (25, .iconst 1, .int 1)] := sblk_of (by decide +kernel)
theorem d_c_Mo_step0_26 : decode b_Mo_step_0 26 = .ok (.putfield 155, 3) := by decide +kernel
theorem d_c_Mo_step0_29 : decode b_Mo_step_0 29 = .ok (.return_, 1) := by decide +kernel
set_option maxHeartbeats 40000000 in
set_option maxRecDepth 100000 in
theorem c_Mo_step0 (l : Launch) (D : va_G) (B : Nat) (H0 : Heap) (w : jW) (x : Nat) (V : Nat → Value) (hx : w.1 x = some (.inr (10, V))) (h31 : V 31 = .int 0) (h25 : V 25 = .int 0) : jMet l D B H0 y_Mo_step_0 b_Mo_step_0 4 none 0 0 0 0 [.ref x] w (fun v w9 => v = none ∧ (w9.2.1 = w.2.1 + 0 ∧ w9.2.2 = w.2.2 + 0) ∧ jfr (fun b => b ≠ x) w w9 ∧ w9.1 x = some (.inr (10, (updV V 31 (.int 1))))) := by
  refine j_met (by decide) (Nat.le_of_ble_eq_true rfl) (fun g C Rm Y E => ?_)
  have hk := jkz w
  have fr0 : jfr (fun b => b ≠ x) w w := jfr0
  show JJ g w 0 [(0, .ref x)] []
  refine j_blk 1 [(0, .ref x)] [.ref x] C k_c_Mo_step0_0_1 rfl ?_
  refine j_get C d_c_Mo_step0_1 fg_Mo_155 hx h31 ?_
  refine j_if_ne (tgt := 24) C d_c_Mo_step0_4 (by decide) (fun c1 => absurd (by decide) c1) (fun c1 => ?_)
  refine j_blk 8 [(0, .ref x)] [.ref x] C k_c_Mo_step0_7_1 rfl ?_
  refine j_get C d_c_Mo_step0_8 fg_Mo_159 hx h25 ?_
  refine j_blk 12 [(0, .ref x)] [.int 2, .int 0] C k_c_Mo_step0_11_1 rfl ?_
  refine j_icmp_ne (tgt := 24) C d_c_Mo_step0_12 (by decide) (fun c2 => ?_) (fun c2 => absurd c2 (by decide))
  refine j_blk 26 [(0, .ref x)] [.int 1, .ref x] C k_c_Mo_step0_24_2 rfl ?_
  refine j_put C d_c_Mo_step0_26 fp_Mo_155 hx rfl rfl ?_
  refine jnv (fun w_1 ew_1 => ?_)
  have m_x_w_1 : w_1.1 x = some (.inr (10, (updV V 31 (.int 1)))) := jus ew_1
  have hk_w_1 := jk0 ew_1 hk
  have fr_w_1 := jfrW ew_1 fr0 (fun b e hb _ => hb)
  exact j_vret C Rm E d_c_Mo_step0_29 ⟨rfl, hk_w_1, fr_w_1, m_x_w_1⟩ (jbnd hk_w_1.1 rfl) (jbnd hk_w_1.2 rfl)

theorem k_c_Mo_isSign0_0_1 : sblk b_Mo_isSign [(0, .aload_n 0, .null)] := sblk_of (by decide +kernel)
theorem d_c_Mo_isSign0_1 : decode b_Mo_isSign 1 = .ok (.getfield 155, 3) := by decide +kernel
theorem d_c_Mo_isSign0_4 : decode b_Mo_isSign 4 = .ok (.ifCond .ne 23, 3) := by decide +kernel
theorem k_c_Mo_isSign0_27_1 : sblk b_Mo_isSign [(27, .iconst 0, .int 0)] := sblk_of (by decide +kernel)
theorem d_c_Mo_isSign0_28 : decode b_Mo_isSign 28 = .ok (.ireturn, 1) := by decide +kernel
set_option maxHeartbeats 40000000 in
set_option maxRecDepth 100000 in
theorem c_Mo_isSign0 (l : Launch) (D : va_G) (B : Nat) (H0 : Heap) (w : jW) (x : Nat) (V : Nat → Value) (hx : w.1 x = some (.inr (10, V))) (h31 : V 31 = .int 1) : jMet l D B H0 y_Mo_isSign b_Mo_isSign 2 (some .boolean) 0 0 0 0 [.ref x, .int 59] w (fun v w9 => v = some (.int 0) ∧ w = w9) := by
  refine j_met (by decide) (Nat.le_of_ble_eq_true rfl) (fun g C Rm Y E => ?_)
  have hk := jkz w
  have fr0 : jfr (fun b => b ≠ x) w w := jfr0
  show JJ g w 0 [(0, .ref x), (1, .int 59)] []
  refine j_blk 1 [(0, .ref x), (1, .int 59)] [.ref x] C k_c_Mo_isSign0_0_1 rfl ?_
  refine j_get C d_c_Mo_isSign0_1 fg_Mo_155 hx h31 ?_
  refine j_if_ne (tgt := 27) C d_c_Mo_isSign0_4 (by decide) (fun c1 => ?_) (fun c1 => absurd c1 (by decide))
  refine j_blk 28 [(0, .ref x), (1, .int 59)] [.int 0] C k_c_Mo_isSign0_27_1 rfl ?_
  exact j_zret C Rm E rfl d_c_Mo_isSign0_28 ⟨rfl, rfl⟩ (jbnd hk.1 rfl) (jbnd hk.2 rfl)

theorem k_c_Mo_block0_0_1 : sblk b_Mo_block [(0, .aload_n 0, .null)] := sblk_of (by decide +kernel)
theorem d_c_Mo_block0_1 : decode b_Mo_block 1 = .ok (.invokevirtual 179, 3) := by decide +kernel
theorem k_c_Mo_block0_4_2 : sblk b_Mo_block [(4, .aload_n 0, .null), (5, .bipush 59, .int 59)] := sblk_of (by decide +kernel)
theorem d_c_Mo_block0_7 : decode b_Mo_block 7 = .ok (.invokevirtual 173, 3) := by decide +kernel
theorem d_c_Mo_block0_10 : decode b_Mo_block 10 = .ok (.ifCond .eq 14, 3) := by decide +kernel
theorem d_c_Mo_block0_24 : decode b_Mo_block 24 = .ok (.return_, 1) := by decide +kernel
set_option maxHeartbeats 40000000 in
set_option maxRecDepth 100000 in
theorem c_Mo_block0 (l : Launch) (D : va_G) (B : Nat) (H0 : Heap) (w : jW) (x : Nat) (V : Nat → Value) (hx : w.1 x = some (.inr (10, V))) (h31 : V 31 = .int 0) (h25 : V 25 = .int 0) : jMet l D B H0 y_Mo_block b_Mo_block 1 none 1 40 0 0 [.ref x] w (fun v w9 => v = none ∧ (w9.2.1 = w.2.1 + 0 ∧ w9.2.2 = w.2.2 + 0) ∧ jfr (fun b => b ≠ x) w w9 ∧ w9.1 x = some (.inr (10, (updV V 31 (.int 1))))) := by
  refine j_met (by decide) (Nat.le_of_ble_eq_true rfl) (fun g C Rm Y E => ?_)
  have hk := jkz w
  have fr0 : jfr (fun b => b ≠ x) w w := jfr0
  show JJ g w 0 [(0, .ref x)] []
  refine j_blk 1 [(0, .ref x)] [.ref x] C k_c_Mo_block0_0_1 rfl ?_
  refine j_callV C Rm Y [] [] (c_Mo_step0 l D B H0 w x V hx h31 h25) cl_Mo_179 (by rfl) (by rfl) hx d_c_Mo_block0_1 rfl rfl (Nat.le_of_ble_eq_true rfl) ⟨by decide, by decide⟩ ⟨jroom hk.1 rfl, jroom hk.2 rfl⟩ (fun v1 w_1 pw_1 => ?_)
  obtain ⟨rfl, hc_w_1, G_w_1, mx_w_1⟩ := pw_1
  have hk_w_1 := jkT hk hc_w_1
  have fr_w_1 := jfrT fr0 G_w_1 (fun b e hb _ => hb)
  show JJ g w_1 4 [(0, .ref x)] []
  refine j_blk 7 [(0, .ref x)] [.int 59, .ref x] C k_c_Mo_block0_4_2 rfl ?_
  refine j_callV C Rm Y [.int 59] [] (c_Mo_isSign0 l D B H0 w_1 x (updV V 31 (.int 1)) mx_w_1 rfl) cl_Mo_173 (by rfl) (by rfl) mx_w_1 d_c_Mo_block0_7 rfl rfl (Nat.le_of_ble_eq_true rfl) ⟨by decide, by decide⟩ ⟨jroom hk_w_1.1 rfl, jroom hk_w_1.2 rfl⟩ (fun v2 w_2 pw_2 => ?_)
  obtain ⟨rfl, rfl⟩ := pw_2
  show JJ g w_1 10 [(0, .ref x)] [.int 0]
  refine j_if_eq (tgt := 24) C d_c_Mo_block0_10 (by decide) (fun c3 => ?_) (fun c3 => absurd (by decide) c3)
  exact j_vret C Rm E d_c_Mo_block0_24 ⟨rfl, hk_w_1, fr_w_1, mx_w_1⟩ (jbnd hk_w_1.1 rfl) (jbnd hk_w_1.2 rfl)

theorem k_c_Mo_program0_0_1 : sblk b_Mo_program [(0, .aload_n 0, .null)] := sblk_of (by decide +kernel)
theorem d_c_Mo_program0_1 : decode b_Mo_program 1 = .ok (.getfield 105, 3) := by decide +kernel
theorem k_c_Mo_program0_4_1 : sblk b_Mo_program [(4, .bipush 6, .int 6)] := sblk_of (by decide +kernel)
theorem d_c_Mo_program0_6 : decode b_Mo_program 6 = .ok (.if_icmp .ne 6, 3) := by decide +kernel
theorem k_c_Mo_program0_12_2 : sblk b_Mo_program [(12, .aload_n 0, .null), (13, .iconst 0, .int 0)] := sblk_of (by decide +kernel)
theorem d_c_Mo_program0_14 : decode b_Mo_program 14 = .ok (.putfield 125, 3) := by decide +kernel
theorem k_c_Mo_program0_17_2 : sblk b_Mo_program [(17, .aload_n 0, .null), (18, .iconst 0, .int 0)] := sblk_of (by decide +kernel)
theorem d_c_Mo_program0_19 : decode b_Mo_program 19 = .ok (.putfield 182, 3) := by decide +kernel
theorem k_c_Mo_program0_22_2 : sblk b_Mo_program [(22, .aload_n 0, .null), (23, .iconst 0, .int 0)] := sblk_of (by decide +kernel)
theorem d_c_Mo_program0_24 : decode b_Mo_program 24 = .ok (.putfield 192, 3) := by decide +kernel
theorem k_c_Mo_program0_27_2 : sblk b_Mo_program [(27, .aload_n 0, .null), (28, .iconst 0, .int 0)] := sblk_of (by decide +kernel)
theorem d_c_Mo_program0_29 : decode b_Mo_program 29 = .ok (.putfield 195, 3) := by decide +kernel
theorem k_c_Mo_program0_32_2 : sblk b_Mo_program [(32, .aload_n 0, .null), (33, .iconst 0, .int 0)] := sblk_of (by decide +kernel)
theorem d_c_Mo_program0_34 : decode b_Mo_program 34 = .ok (.putfield 212, 3) := by decide +kernel
theorem k_c_Mo_program0_37_2 : sblk b_Mo_program [(37, .aload_n 0, .null), (38, .iconst 0, .int 0)] := sblk_of (by decide +kernel)
theorem d_c_Mo_program0_39 : decode b_Mo_program 39 = .ok (.putfield 155, 3) := by decide +kernel
theorem k_c_Mo_program0_42_1 : sblk b_Mo_program [(42, .aload_n 0, .null)] := sblk_of (by decide +kernel)
theorem d_c_Mo_program0_43 : decode b_Mo_program 43 = .ok (.invokevirtual 176, 3) := by decide +kernel
theorem k_c_Mo_program0_46_1 : sblk b_Mo_program [(46, .aload_n 0, .null)] := sblk_of (by decide +kernel)
theorem d_c_Mo_program0_47 : decode b_Mo_program 47 = .ok (.invokevirtual 185, 3) := by decide +kernel
theorem k_c_Mo_program0_50_2 : sblk b_Mo_program [(50, .aload_n 0, .null), (51, .dup, .null)] := sblk_of (by decide +kernel)
theorem d_c_Mo_program0_52 : decode b_Mo_program 52 = .ok (.getfield 155, 3) := by decide +kernel
theorem k_c_Mo_program0_55_1 : sblk b_Mo_program [(55, .aload_n 0, .null)] := sblk_of (by decide +kernel)
theorem d_c_Mo_program0_56 : decode b_Mo_program 56 = .ok (.getfield 159, 3) := by decide +kernel
theorem d_c_Mo_program0_59 : decode b_Mo_program 59 = .ok (.ifCond .eq 7, 3) := by decide +kernel
theorem k_c_Mo_program0_66_2 : sblk b_Mo_program [(66, .iconst 0, .int 0), (67, .ior, .null)] := sblk_of (by decide +kernel)
theorem d_c_Mo_program0_68 : decode b_Mo_program 68 = .ok (.putfield 155, 3) := by decide +kernel
theorem k_c_Mo_program0_71_2 : sblk b_Mo_program [(71, .aload_n 0, .null), (72, .iconst 0, .int 0)] := sblk_of (by decide +kernel)
theorem d_c_Mo_program0_73 : decode b_Mo_program 73 = .ok (.putfield 116, 3) := by decide +kernel
theorem k_c_Mo_program0_76_1 : sblk b_Mo_program [(76, .aload_n 0, .null)] := sblk_of (by decide +kernel)
theorem d_c_Mo_program0_77 : decode b_Mo_program 77 = .ok (.getfield 155, 3) := by decide +kernel
theorem d_c_Mo_program0_80 : decode b_Mo_program 80 = .ok (.ifCond .eq 11, 3) := by decide +kernel
theorem k_c_Mo_program0_83_2 : sblk b_Mo_program [(83, .bipush (-100), .int (-100)), (85, .aload_n 0, .null)] := sblk_of (by decide +kernel)
theorem d_c_Mo_program0_86 : decode b_Mo_program 86 = .ok (.getfield 128, 3) := by decide +kernel
theorem k_c_Mo_program0_89_1 : sblk b_Mo_program [(89, .isub, .null)] := sblk_of (by decide +kernel)
theorem d_c_Mo_program0_90 : decode b_Mo_program 90 = .ok (.ireturn, 1) := by decide +kernel
set_option maxHeartbeats 40000000 in
set_option maxRecDepth 100000 in
theorem c_Mo_program0 (l : Launch) (D : va_G) (B : Nat) (H0 : Heap) (w : jW) (x : Nat) (V : Nat → Value) (hx : w.1 x = some (.inr (10, V))) (h0 : V 0 = .int 0) (h22 : V 22 = .int 0) : jMet l D B H0 y_Mo_program b_Mo_program 2 (some .int) 2 80 0 0 [.ref x] w (fun v w9 => v = some (.int (-100)) ∧ (w9.2.1 = w.2.1 + 0 ∧ w9.2.2 = w.2.2 + 0) ∧ jfr (fun b => b ≠ x) w w9 ∧ w9.1 x = some (.inr (10, (updV (updV (updV (updV (updV (updV (updV (updV (updV (updV (updV V 23 (.int 0)) 27 (.int 0)) 28 (.int 0)) 29 (.int 0)) 30 (.int 0)) 31 (.int 0)) 24 (.int 0)) 25 (.int 0)) 31 (.int 1)) 31 (.int 1)) 22 (.int 0))))) := by
  refine j_met (by decide) (Nat.le_of_ble_eq_true rfl) (fun g C Rm Y E => ?_)
  have hk := jkz w
  have fr0 : jfr (fun b => b ≠ x) w w := jfr0
  show JJ g w 0 [(0, .ref x)] []
  refine j_blk 1 [(0, .ref x)] [.ref x] C k_c_Mo_program0_0_1 rfl ?_
  refine j_get C d_c_Mo_program0_1 fg_Mo_105 hx h0 ?_
  refine j_blk 6 [(0, .ref x)] [.int 6, .int 0] C k_c_Mo_program0_4_1 rfl ?_
  refine j_icmp_ne (tgt := 12) C d_c_Mo_program0_6 (by decide) (fun c1 => ?_) (fun c1 => absurd c1 (by decide))
  refine j_blk 14 [(0, .ref x)] [.int 0, .ref x] C k_c_Mo_program0_12_2 rfl ?_
  refine j_put C d_c_Mo_program0_14 fp_Mo_125 hx rfl rfl ?_
  refine jnv (fun w_1 ew_1 => ?_)
  have m_x_w_1 : w_1.1 x = some (.inr (10, (updV V 23 (.int 0)))) := jus ew_1
  have hk_w_1 := jk0 ew_1 hk
  have fr_w_1 := jfrW ew_1 fr0 (fun b e hb _ => hb)
  refine j_blk 19 [(0, .ref x)] [.int 0, .ref x] C k_c_Mo_program0_17_2 rfl ?_
  refine j_put C d_c_Mo_program0_19 fp_Mo_182 m_x_w_1 rfl rfl ?_
  refine jnv (fun w_2 ew_2 => ?_)
  have m_x_w_2 : w_2.1 x = some (.inr (10, (updV (updV V 23 (.int 0)) 27 (.int 0)))) := jus ew_2
  have hk_w_2 := jk0 ew_2 hk_w_1
  have fr_w_2 := jfrW ew_2 fr_w_1 (fun b e hb _ => hb)
  refine j_blk 24 [(0, .ref x)] [.int 0, .ref x] C k_c_Mo_program0_22_2 rfl ?_
  refine j_put C d_c_Mo_program0_24 fp_Mo_192 m_x_w_2 rfl rfl ?_
  refine jnv (fun w_3 ew_3 => ?_)
  have m_x_w_3 : w_3.1 x = some (.inr (10, (updV (updV (updV V 23 (.int 0)) 27 (.int 0)) 28 (.int 0)))) := jus ew_3
  have hk_w_3 := jk0 ew_3 hk_w_2
  have fr_w_3 := jfrW ew_3 fr_w_2 (fun b e hb _ => hb)
  refine j_blk 29 [(0, .ref x)] [.int 0, .ref x] C k_c_Mo_program0_27_2 rfl ?_
  refine j_put C d_c_Mo_program0_29 fp_Mo_195 m_x_w_3 rfl rfl ?_
  refine jnv (fun w_4 ew_4 => ?_)
  have m_x_w_4 : w_4.1 x = some (.inr (10, (updV (updV (updV (updV V 23 (.int 0)) 27 (.int 0)) 28 (.int 0)) 29 (.int 0)))) := jus ew_4
  have hk_w_4 := jk0 ew_4 hk_w_3
  have fr_w_4 := jfrW ew_4 fr_w_3 (fun b e hb _ => hb)
  refine j_blk 34 [(0, .ref x)] [.int 0, .ref x] C k_c_Mo_program0_32_2 rfl ?_
  refine j_put C d_c_Mo_program0_34 fp_Mo_212 m_x_w_4 rfl rfl ?_
  refine jnv (fun w_5 ew_5 => ?_)
  have m_x_w_5 : w_5.1 x = some (.inr (10, (updV (updV (updV (updV (updV V 23 (.int 0)) 27 (.int 0)) 28 (.int 0)) 29 (.int 0)) 30 (.int 0)))) := jus ew_5
  have hk_w_5 := jk0 ew_5 hk_w_4
  have fr_w_5 := jfrW ew_5 fr_w_4 (fun b e hb _ => hb)
  refine j_blk 39 [(0, .ref x)] [.int 0, .ref x] C k_c_Mo_program0_37_2 rfl ?_
  refine j_put C d_c_Mo_program0_39 fp_Mo_155 m_x_w_5 rfl rfl ?_
  refine jnv (fun w_6 ew_6 => ?_)
  have m_x_w_6 : w_6.1 x = some (.inr (10, (updV (updV (updV (updV (updV (updV V 23 (.int 0)) 27 (.int 0)) 28 (.int 0)) 29 (.int 0)) 30 (.int 0)) 31 (.int 0)))) := jus ew_6
  have hk_w_6 := jk0 ew_6 hk_w_5
  have fr_w_6 := jfrW ew_6 fr_w_5 (fun b e hb _ => hb)
  refine j_blk 43 [(0, .ref x)] [.ref x] C k_c_Mo_program0_42_1 rfl ?_
  refine j_callV C Rm Y [] [] (c_Mo_next0 l D B H0 w_6 x (updV (updV (updV (updV (updV (updV V 23 (.int 0)) 27 (.int 0)) 28 (.int 0)) 29 (.int 0)) 30 (.int 0)) 31 (.int 0)) m_x_w_6 rfl rfl h22) cl_Mo_176 (by rfl) (by rfl) m_x_w_6 d_c_Mo_program0_43 rfl rfl (Nat.le_of_ble_eq_true rfl) ⟨by decide, by decide⟩ ⟨jroom hk_w_6.1 rfl, jroom hk_w_6.2 rfl⟩ (fun v2 w_7 pw_7 => ?_)
  obtain ⟨rfl, hc_w_7, G_w_7, mx_w_7⟩ := pw_7
  have hk_w_7 := jkT hk_w_6 hc_w_7
  have fr_w_7 := jfrT fr_w_6 G_w_7 (fun b e hb _ => hb)
  show JJ g w_7 46 [(0, .ref x)] []
  refine j_blk 47 [(0, .ref x)] [.ref x] C k_c_Mo_program0_46_1 rfl ?_
  refine j_callV C Rm Y [] [] (c_Mo_block0 l D B H0 w_7 x (updV (updV (updV (updV (updV (updV (updV (updV V 23 (.int 0)) 27 (.int 0)) 28 (.int 0)) 29 (.int 0)) 30 (.int 0)) 31 (.int 0)) 24 (.int 0)) 25 (.int 0)) mx_w_7 rfl rfl) cl_Mo_185 (by rfl) (by rfl) mx_w_7 d_c_Mo_program0_47 rfl rfl (Nat.le_of_ble_eq_true rfl) ⟨by decide, by decide⟩ ⟨jroom hk_w_7.1 rfl, jroom hk_w_7.2 rfl⟩ (fun v3 w_8 pw_8 => ?_)
  obtain ⟨rfl, hc_w_8, G_w_8, mx_w_8⟩ := pw_8
  have hk_w_8 := jkT hk_w_7 hc_w_8
  have fr_w_8 := jfrT fr_w_7 G_w_8 (fun b e hb _ => hb)
  show JJ g w_8 50 [(0, .ref x)] []
  refine j_blk 52 [(0, .ref x)] [.ref x, .ref x] C k_c_Mo_program0_50_2 rfl ?_
  refine j_get C d_c_Mo_program0_52 fg_Mo_155 mx_w_8 rfl ?_
  refine j_blk 56 [(0, .ref x)] [.ref x, .int 1, .ref x] C k_c_Mo_program0_55_1 rfl ?_
  refine j_get C d_c_Mo_program0_56 fg_Mo_159 mx_w_8 rfl ?_
  refine j_if_eq (tgt := 66) C d_c_Mo_program0_59 (by decide) (fun c4 => ?_) (fun c4 => absurd (by decide) c4)
  refine j_blk 68 [(0, .ref x)] [.int 1, .ref x] C k_c_Mo_program0_66_2 rfl ?_
  refine j_put C d_c_Mo_program0_68 fp_Mo_155 mx_w_8 rfl rfl ?_
  refine jnv (fun w_9 ew_9 => ?_)
  have m_x_w_9 : w_9.1 x = some (.inr (10, (updV (updV (updV (updV (updV (updV (updV (updV (updV (updV V 23 (.int 0)) 27 (.int 0)) 28 (.int 0)) 29 (.int 0)) 30 (.int 0)) 31 (.int 0)) 24 (.int 0)) 25 (.int 0)) 31 (.int 1)) 31 (.int 1)))) := jus ew_9
  have hk_w_9 := jk0 ew_9 hk_w_8
  have fr_w_9 := jfrW ew_9 fr_w_8 (fun b e hb _ => hb)
  refine j_blk 73 [(0, .ref x)] [.int 0, .ref x] C k_c_Mo_program0_71_2 rfl ?_
  refine j_put C d_c_Mo_program0_73 fp_Mo_116 m_x_w_9 rfl rfl ?_
  refine jnv (fun w_10 ew_10 => ?_)
  have m_x_w_10 : w_10.1 x = some (.inr (10, (updV (updV (updV (updV (updV (updV (updV (updV (updV (updV (updV V 23 (.int 0)) 27 (.int 0)) 28 (.int 0)) 29 (.int 0)) 30 (.int 0)) 31 (.int 0)) 24 (.int 0)) 25 (.int 0)) 31 (.int 1)) 31 (.int 1)) 22 (.int 0)))) := jus ew_10
  have hk_w_10 := jk0 ew_10 hk_w_9
  have fr_w_10 := jfrW ew_10 fr_w_9 (fun b e hb _ => hb)
  refine j_blk 77 [(0, .ref x)] [.ref x] C k_c_Mo_program0_76_1 rfl ?_
  refine j_get C d_c_Mo_program0_77 fg_Mo_155 m_x_w_10 rfl ?_
  refine j_if_eq (tgt := 91) C d_c_Mo_program0_80 (by decide) (fun c5 => absurd c5 (by decide)) (fun c5 => ?_)
  refine j_blk 86 [(0, .ref x)] [.ref x, .int (-100)] C k_c_Mo_program0_83_2 rfl ?_
  refine j_get C d_c_Mo_program0_86 fg_Mo_128 m_x_w_10 rfl ?_
  refine j_blk 90 [(0, .ref x)] [.int (-100)] C k_c_Mo_program0_89_1 rfl ?_
  exact j_iret C Rm E d_c_Mo_program0_90 ⟨rfl, hk_w_10, fr_w_10, m_x_w_10⟩ (jbnd hk_w_10.1 rfl) (jbnd hk_w_10.2 rfl)
