/-! a Program as it is made: its steps in order, its lots apart (own work, by program) -/
theorem jord {w w1 : jW} {F : Nat → Option Nat} {n q : Nat} (hel : jels w w1 F n) (hor : (∀ i j : Nat, i < j → j < n → ∀ si sj : Nat, F i = some si → F j = some sj → si < sj)) (hq : ∀ s e, w1.1 s = some e → s < q) (hn : n < 16) : ∀ i j : Nat, i < j → j < n + 1 → ∀ si sj : Nat, va_up F (Int32.toNatClampNeg (nI n)) (some q) i = some si → va_up F (Int32.toNatClampNeg (nI n)) (some q) j = some sj → si < sj := fun i j hij hj si sj h1 h2 => by
  rw [nI_clampX (show n < 2 ^ 31 by omega)] at h1 h2
  rw [va_up_ne _ _ (show i ≠ n by omega)] at h1
  by_cases e : j = n
  · rw [e, va_up_self] at h2
    cases h2
    obtain ⟨s, Vs, a1, a2, a3, a4⟩ := hel i (by omega)
    rw [a1] at h1
    cases h1
    exact hq _ _ a3
  · rw [va_up_ne _ _ e] at h2
    exact hor i j hij (by omega) si sj h1 h2
set_option maxHeartbeats 40000000 in
set_option maxRecDepth 100000 in
theorem c_Prog_init2 (l : Launch) (D : va_G) (B : Nat) (H0 : Heap) (w : jW) (a : Nat) (V : Nat → Value) (ha : w.1 a = some (.inr (2, V))) : jMet l D B H0 y_Prog_init b_Prog_init 2 none 2 80 25 723 [.ref a] w (fun v w9 => v = none ∧ (w9.2.1 = w.2.1 + 25 ∧ w9.2.2 = w.2.2 + 723) ∧ jfr (fun b => b ≠ a) w w9 ∧ ∃ (V9 : Nat → Value) (sp cd lv lw sk ru r1 r2 r3 : Nat) (Vr : Nat → Value) (F : Nat → Option Nat), (∀ b e, w.1 b = some e → b < sp) ∧ (∀ b e, w.1 b = some e → b < cd) ∧ (∀ b e, w.1 b = some e → b < lv) ∧ (∀ b e, w.1 b = some e → b < lw) ∧ (∀ b e, w.1 b = some e → b < sk) ∧ (∀ b e, w.1 b = some e → b < ru) ∧ (∀ b e, w.1 b = some e → b < r1) ∧ (∀ b e, w.1 b = some e → b < r2) ∧ (∀ b e, w.1 b = some e → b < r3) ∧ w9.1 a = some (.inr (2, V9)) ∧ V9 0 = .ref sp ∧ V9 1 = V 1 ∧ V9 2 = .ref cd ∧ V9 3 = V 3 ∧ V9 4 = .ref lv ∧ V9 5 = .ref lw ∧ V9 6 = V 6 ∧ V9 7 = .ref sk ∧ V9 8 = V 8 ∧ V9 9 = V 9 ∧ V9 10 = V 10 ∧ V9 11 = V 11 ∧ V9 12 = .ref ru ∧ V9 13 = V 13 ∧ V9 14 = .int (-1) ∧ V9 15 = V 15 ∧ w9.1 ru = some (.inr (4, Vr)) ∧ Vr 0 = .ref r1 ∧ Vr 1 = .ref r2 ∧ Vr 2 = .ref r3 ∧ w9.1 cd = some (aI D 120 (fun _ => 0)) ∧ w9.1 lv = some (aI D 60 (fun _ => 0)) ∧ w9.1 lw = some (aI D 60 (fun _ => 0)) ∧ w9.1 sk = some (aI D 120 (fun _ => 0)) ∧ w9.1 r1 = some (aI D 10 (fun _ => 0)) ∧ w9.1 r2 = some (aJ D 100 (fun _ => 0)) ∧ w9.1 r3 = some (aJ D 10 (fun _ => 0)) ∧ w9.1 sp = some (aR D 10 16 F) ∧ jels w w9 F 16 ∧ cd ≠ sk ∧ (∀ i j : Nat, i < j → j < 16 → ∀ si sj : Nat, F i = some si → F j = some sj → si < sj) ∧ lv ≠ lw) := by
  refine j_met (by decide) (Nat.le_of_ble_eq_true rfl) (fun g C Rm Y E => ?_)
  have hin : (jGy g).name = "<init>" := congrArg MethodName.name Y.2.2.2
  have hk := jkz w
  have fr0 : jfr (fun b => b ≠ a) w w := jfr0
  show JJ g w 0 [(0, .ref a)] []
  refine j_blk 1 [(0, .ref a)] [.ref a] C k_c_Prog_init_0_1 rfl ?_
  refine j_obj C Rm cl_Prog_3 d_c_Prog_init_1 (by decide) (by decide) ?_
  refine j_blk 7 [(0, .ref a)] [.int 16, .ref a] C k_c_Prog_init_4_2 rfl ?_
  refine j_anew (t := 10) (n := 16) C Rm d_c_Prog_init_7 rfl (by decide) ca_Prog_9 (by decide) (by decide) (by decide) (jroom hk.1 rfl) (jroom hk.2 rfl) (fun q1 f_q1 => ?_)
  refine jnv (fun w_1 ew_1 => ?_)
  have m_q1_w_1 : w_1.1 q1 = some (aR D 10 16 (fun _ => none)) := jus ew_1
  have hk_w_1 := jk1 ew_1 hk
  have lt_q1 := jfrL fr0 f_q1
  have fr_w_1 := jfrN ew_1 fr0 f_q1
  have x_a_q1 := Nat.ne_of_lt (f_q1 _ _ ha)
  have m_a_w_1 := jun ew_1 ha x_a_q1
  refine j_putF C hin d_c_Prog_init_10 ff_Prog_11 m_a_w_1 rfl rfl ?_
  refine jnv (fun w_2 ew_2 => ?_)
  have m_a_w_2 : w_2.1 a = some (.inr (2, (updV V 0 (.ref q1)))) := jus ew_2
  have hk_w_2 := jk0 ew_2 hk_w_1
  have fr_w_2 := jfrW ew_2 fr_w_1 (fun b e hb _ => hb)
  refine j_blk 16 [(0, .ref a)] [.int 120, .ref a] C k_c_Prog_init_13_2 rfl ?_
  refine j_newa (n := 120) C Rm d_c_Prog_init_16 rfl ac_int (by decide) (by decide) (by decide) (jroom hk_w_2.1 rfl) (jroom hk_w_2.2 rfl) (fun q2 f_q2 => ?_)
  refine jnv (fun w_3 ew_3 => ?_)
  have m_q2_w_3 : w_3.1 q2 = some (aI D 120 (fun _ => 0)) := jus ew_3
  have hk_w_3 := jk1 ew_3 hk_w_2
  have lt_q2 := jfrL fr_w_2 f_q2
  have fr_w_3 := jfrN ew_3 fr_w_2 f_q2
  have x_a_q2 := Nat.ne_of_lt (f_q2 _ _ m_a_w_2)
  have m_a_w_3 := jun ew_3 m_a_w_2 x_a_q2
  refine j_putF C hin d_c_Prog_init_18 ff_Prog_17 m_a_w_3 rfl rfl ?_
  refine jnv (fun w_4 ew_4 => ?_)
  have m_a_w_4 : w_4.1 a = some (.inr (2, (updV (updV V 0 (.ref q1)) 2 (.ref q2)))) := jus ew_4
  have hk_w_4 := jk0 ew_4 hk_w_3
  have fr_w_4 := jfrW ew_4 fr_w_3 (fun b e hb _ => hb)
  refine j_blk 24 [(0, .ref a)] [.int 60, .ref a] C k_c_Prog_init_21_2 rfl ?_
  refine j_newa (n := 60) C Rm d_c_Prog_init_24 rfl ac_int (by decide) (by decide) (by decide) (jroom hk_w_4.1 rfl) (jroom hk_w_4.2 rfl) (fun q3 f_q3 => ?_)
  refine jnv (fun w_5 ew_5 => ?_)
  have m_q3_w_5 : w_5.1 q3 = some (aI D 60 (fun _ => 0)) := jus ew_5
  have hk_w_5 := jk1 ew_5 hk_w_4
  have lt_q3 := jfrL fr_w_4 f_q3
  have fr_w_5 := jfrN ew_5 fr_w_4 f_q3
  have x_a_q3 := Nat.ne_of_lt (f_q3 _ _ m_a_w_4)
  have m_a_w_5 := jun ew_5 m_a_w_4 x_a_q3
  refine j_putF C hin d_c_Prog_init_26 ff_Prog_21 m_a_w_5 rfl rfl ?_
  refine jnv (fun w_6 ew_6 => ?_)
  have m_a_w_6 : w_6.1 a = some (.inr (2, (updV (updV (updV V 0 (.ref q1)) 2 (.ref q2)) 4 (.ref q3)))) := jus ew_6
  have hk_w_6 := jk0 ew_6 hk_w_5
  have fr_w_6 := jfrW ew_6 fr_w_5 (fun b e hb _ => hb)
  refine j_blk 32 [(0, .ref a)] [.int 60, .ref a] C k_c_Prog_init_29_2 rfl ?_
  refine j_newa (n := 60) C Rm d_c_Prog_init_32 rfl ac_int (by decide) (by decide) (by decide) (jroom hk_w_6.1 rfl) (jroom hk_w_6.2 rfl) (fun q4 f_q4 => ?_)
  refine jnv (fun w_7 ew_7 => ?_)
  have m_q4_w_7 : w_7.1 q4 = some (aI D 60 (fun _ => 0)) := jus ew_7
  have hk_w_7 := jk1 ew_7 hk_w_6
  have lt_q4 := jfrL fr_w_6 f_q4
  have fr_w_7 := jfrN ew_7 fr_w_6 f_q4
  have x_a_q4 := Nat.ne_of_lt (f_q4 _ _ m_a_w_6)
  have m_a_w_7 := jun ew_7 m_a_w_6 x_a_q4
  refine j_putF C hin d_c_Prog_init_34 ff_Prog_24 m_a_w_7 rfl rfl ?_
  refine jnv (fun w_8 ew_8 => ?_)
  have m_a_w_8 : w_8.1 a = some (.inr (2, (updV (updV (updV (updV V 0 (.ref q1)) 2 (.ref q2)) 4 (.ref q3)) 5 (.ref q4)))) := jus ew_8
  have hk_w_8 := jk0 ew_8 hk_w_7
  have fr_w_8 := jfrW ew_8 fr_w_7 (fun b e hb _ => hb)
  refine j_blk 40 [(0, .ref a)] [.int 120, .ref a] C k_c_Prog_init_37_2 rfl ?_
  refine j_newa (n := 120) C Rm d_c_Prog_init_40 rfl ac_int (by decide) (by decide) (by decide) (jroom hk_w_8.1 rfl) (jroom hk_w_8.2 rfl) (fun q5 f_q5 => ?_)
  refine jnv (fun w_9 ew_9 => ?_)
  have m_q5_w_9 : w_9.1 q5 = some (aI D 120 (fun _ => 0)) := jus ew_9
  have hk_w_9 := jk1 ew_9 hk_w_8
  have lt_q5 := jfrL fr_w_8 f_q5
  have fr_w_9 := jfrN ew_9 fr_w_8 f_q5
  have x_a_q5 := Nat.ne_of_lt (f_q5 _ _ m_a_w_8)
  have m_a_w_9 := jun ew_9 m_a_w_8 x_a_q5
  refine j_putF C hin d_c_Prog_init_42 ff_Prog_27 m_a_w_9 rfl rfl ?_
  refine jnv (fun w_10 ew_10 => ?_)
  have m_a_w_10 : w_10.1 a = some (.inr (2, (updV (updV (updV (updV (updV V 0 (.ref q1)) 2 (.ref q2)) 4 (.ref q3)) 5 (.ref q4)) 7 (.ref q5)))) := jus ew_10
  have hk_w_10 := jk0 ew_10 hk_w_9
  have fr_w_10 := jfrW ew_10 fr_w_9 (fun b e hb _ => hb)
  refine j_blk 46 [(0, .ref a)] [.ref a] C k_c_Prog_init_45_1 rfl ?_
  refine j_new C Rm d_c_Prog_init_46 nw_Prog_30 (jroom hk_w_10.1 rfl) (jroom hk_w_10.2 rfl) (fun q6 f_q6 => ?_)
  refine jnv (fun w_11 ew_11 => ?_)
  have m_q6_w_11 : w_11.1 q6 = some (.inr (4, v0_4)) := jus ew_11
  have hk_w_11 := jk1 ew_11 hk_w_10
  have lt_q6 := jfrL fr_w_10 f_q6
  have fr_w_11 := jfrN ew_11 fr_w_10 f_q6
  refine j_blk 50 [(0, .ref a)] [.ref q6, .ref q6, .ref a] C k_c_Prog_init_49_1 rfl ?_
  refine j_callIn C Rm Y [] [.ref q6, .ref a] (c_Runs_init l D B H0 w_11 q6 v0_4 m_q6_w_11) cl_Prog_32 d_c_Prog_init_50 rfl rfl (Nat.le_of_ble_eq_true rfl) ⟨by decide, by decide⟩ ⟨jroom hk_w_11.1 rfl, jroom hk_w_11.2 rfl⟩ (fun v7 w_12 pw_12 => ?_)
  obtain ⟨rfl, hc_w_12, G_w_12, V_w_12, q8, q9, q10, ltq8_w_12, ltq9_w_12, ltq10_w_12, mo_w_12, hV0_w_12, hV1_w_12, hV2_w_12, mmq8_w_12, mmq9_w_12, mmq10_w_12⟩ := pw_12
  have hk_w_12 := jkT hk_w_11 hc_w_12
  have lt_q8 := jfrL fr_w_11 ltq8_w_12
  have lt_q9 := jfrL fr_w_11 ltq9_w_12
  have lt_q10 := jfrL fr_w_11 ltq10_w_12
  have fr_w_12 := jfrT fr_w_11 G_w_12 (fun b _ _ he => Nat.ne_of_lt (lt_q6 b _ he))
  show JJ g w_12 53 [(0, .ref a)] [.ref q6, .ref a]
  have x_a_q6 := Nat.ne_of_lt (f_q6 _ _ m_a_w_10)
  have m_a_w_11 := jun ew_11 m_a_w_10 x_a_q6
  have m_a_w_12 := (G_w_12 _ _ m_a_w_11).1 x_a_q6
  refine j_putF C hin d_c_Prog_init_53 ff_Prog_33 m_a_w_12 rfl rfl ?_
  refine jnv (fun w_13 ew_13 => ?_)
  have m_a_w_13 : w_13.1 a = some (.inr (2, (updV (updV (updV (updV (updV (updV V 0 (.ref q1)) 2 (.ref q2)) 4 (.ref q3)) 5 (.ref q4)) 7 (.ref q5)) 12 (.ref q6)))) := jus ew_13
  have hk_w_13 := jk0 ew_13 hk_w_12
  have fr_w_13 := jfrW ew_13 fr_w_12 (fun b e hb _ => hb)
  refine j_blk 58 [(0, .ref a)] [.int (-1), .ref a] C k_c_Prog_init_56_2 rfl ?_
  refine j_put C d_c_Prog_init_58 fp_Prog_37 m_a_w_13 rfl rfl ?_
  refine jnv (fun w_14 ew_14 => ?_)
  have m_a_w_14 : w_14.1 a = some (.inr (2, (updV (updV (updV (updV (updV (updV (updV V 0 (.ref q1)) 2 (.ref q2)) 4 (.ref q3)) 5 (.ref q4)) 7 (.ref q5)) 12 (.ref q6)) 14 (.int (-1))))) := jus ew_14
  have hk_w_14 := jk0 ew_14 hk_w_13
  have fr_w_14 := jfrW ew_14 fr_w_13 (fun b e hb _ => hb)
  refine j_blk 63 [(1, .int 0), (0, .ref a)] [] C k_c_Prog_init_61_2 rfl ?_
  have m_q1_w_2 := jun ew_2 m_q1_w_1 (Ne.symm x_a_q1)
  have x_q1_q2 := Nat.ne_of_lt (f_q2 _ _ m_q1_w_2)
  have m_q1_w_3 := jun ew_3 m_q1_w_2 x_q1_q2
  have m_q1_w_4 := jun ew_4 m_q1_w_3 (Ne.symm x_a_q1)
  have x_q1_q3 := Nat.ne_of_lt (f_q3 _ _ m_q1_w_4)
  have m_q1_w_5 := jun ew_5 m_q1_w_4 x_q1_q3
  have m_q1_w_6 := jun ew_6 m_q1_w_5 (Ne.symm x_a_q1)
  have x_q1_q4 := Nat.ne_of_lt (f_q4 _ _ m_q1_w_6)
  have m_q1_w_7 := jun ew_7 m_q1_w_6 x_q1_q4
  have m_q1_w_8 := jun ew_8 m_q1_w_7 (Ne.symm x_a_q1)
  have x_q1_q5 := Nat.ne_of_lt (f_q5 _ _ m_q1_w_8)
  have m_q1_w_9 := jun ew_9 m_q1_w_8 x_q1_q5
  have m_q1_w_10 := jun ew_10 m_q1_w_9 (Ne.symm x_a_q1)
  have x_q1_q6 := Nat.ne_of_lt (f_q6 _ _ m_q1_w_10)
  have m_q1_w_11 := jun ew_11 m_q1_w_10 x_q1_q6
  have m_q1_w_12 := (G_w_12 _ _ m_q1_w_11).1 x_q1_q6
  have m_q1_w_13 := jun ew_13 m_q1_w_12 (Ne.symm x_a_q1)
  have m_q1_w_14 := jun ew_14 m_q1_w_13 (Ne.symm x_a_q1)
  have m_q2_w_4 := jun ew_4 m_q2_w_3 (Ne.symm x_a_q2)
  have x_q2_q3 := Nat.ne_of_lt (f_q3 _ _ m_q2_w_4)
  have m_q2_w_5 := jun ew_5 m_q2_w_4 x_q2_q3
  have m_q2_w_6 := jun ew_6 m_q2_w_5 (Ne.symm x_a_q2)
  have x_q2_q4 := Nat.ne_of_lt (f_q4 _ _ m_q2_w_6)
  have m_q2_w_7 := jun ew_7 m_q2_w_6 x_q2_q4
  have m_q2_w_8 := jun ew_8 m_q2_w_7 (Ne.symm x_a_q2)
  have x_q2_q5 := Nat.ne_of_lt (f_q5 _ _ m_q2_w_8)
  have m_q2_w_9 := jun ew_9 m_q2_w_8 x_q2_q5
  have m_q2_w_10 := jun ew_10 m_q2_w_9 (Ne.symm x_a_q2)
  have x_q2_q6 := Nat.ne_of_lt (f_q6 _ _ m_q2_w_10)
  have m_q2_w_11 := jun ew_11 m_q2_w_10 x_q2_q6
  have m_q2_w_12 := (G_w_12 _ _ m_q2_w_11).1 x_q2_q6
  have m_q2_w_13 := jun ew_13 m_q2_w_12 (Ne.symm x_a_q2)
  have m_q2_w_14 := jun ew_14 m_q2_w_13 (Ne.symm x_a_q2)
  have m_q3_w_6 := jun ew_6 m_q3_w_5 (Ne.symm x_a_q3)
  have x_q3_q4 := Nat.ne_of_lt (f_q4 _ _ m_q3_w_6)
  have m_q3_w_7 := jun ew_7 m_q3_w_6 x_q3_q4
  have m_q3_w_8 := jun ew_8 m_q3_w_7 (Ne.symm x_a_q3)
  have x_q3_q5 := Nat.ne_of_lt (f_q5 _ _ m_q3_w_8)
  have m_q3_w_9 := jun ew_9 m_q3_w_8 x_q3_q5
  have m_q3_w_10 := jun ew_10 m_q3_w_9 (Ne.symm x_a_q3)
  have x_q3_q6 := Nat.ne_of_lt (f_q6 _ _ m_q3_w_10)
  have m_q3_w_11 := jun ew_11 m_q3_w_10 x_q3_q6
  have m_q3_w_12 := (G_w_12 _ _ m_q3_w_11).1 x_q3_q6
  have m_q3_w_13 := jun ew_13 m_q3_w_12 (Ne.symm x_a_q3)
  have m_q3_w_14 := jun ew_14 m_q3_w_13 (Ne.symm x_a_q3)
  have m_q4_w_8 := jun ew_8 m_q4_w_7 (Ne.symm x_a_q4)
  have x_q4_q5 := Nat.ne_of_lt (f_q5 _ _ m_q4_w_8)
  have m_q4_w_9 := jun ew_9 m_q4_w_8 x_q4_q5
  have m_q4_w_10 := jun ew_10 m_q4_w_9 (Ne.symm x_a_q4)
  have x_q4_q6 := Nat.ne_of_lt (f_q6 _ _ m_q4_w_10)
  have m_q4_w_11 := jun ew_11 m_q4_w_10 x_q4_q6
  have m_q4_w_12 := (G_w_12 _ _ m_q4_w_11).1 x_q4_q6
  have m_q4_w_13 := jun ew_13 m_q4_w_12 (Ne.symm x_a_q4)
  have m_q4_w_14 := jun ew_14 m_q4_w_13 (Ne.symm x_a_q4)
  have m_q5_w_10 := jun ew_10 m_q5_w_9 (Ne.symm x_a_q5)
  have x_q5_q6 := Nat.ne_of_lt (f_q6 _ _ m_q5_w_10)
  have m_q5_w_11 := jun ew_11 m_q5_w_10 x_q5_q6
  have m_q5_w_12 := (G_w_12 _ _ m_q5_w_11).1 x_q5_q6
  have m_q5_w_13 := jun ew_13 m_q5_w_12 (Ne.symm x_a_q5)
  have m_q5_w_14 := jun ew_14 m_q5_w_13 (Ne.symm x_a_q5)
  have m_q6_w_13 := jun ew_13 mo_w_12 (Ne.symm x_a_q6)
  have m_q6_w_14 := jun ew_14 m_q6_w_13 (Ne.symm x_a_q6)
  have m_q8_w_13 := jun ew_13 mmq8_w_12 (jneAO mmq8_w_12 m_a_w_12)
  have m_q8_w_14 := jun ew_14 m_q8_w_13 (jneAO m_q8_w_13 m_a_w_13)
  have m_q9_w_13 := jun ew_13 mmq9_w_12 (jneAO mmq9_w_12 m_a_w_12)
  have m_q9_w_14 := jun ew_14 m_q9_w_13 (jneAO m_q9_w_13 m_a_w_13)
  have m_q10_w_13 := jun ew_13 mmq10_w_12 (jneAO mmq10_w_12 m_a_w_12)
  have m_q10_w_14 := jun ew_14 m_q10_w_13 (jneAO m_q10_w_13 m_a_w_13)
  have lp11 : ∀ (nn kk : Nat) (w1 : jW) (F : Nat → Option Nat), kk ≤ 16 → 16 < kk + nn → w1.1 q1 = some (aR D 10 16 F) → jfr (fun b => b ≠ q1) w_14 w1 → jels w w1 F kk → (∀ i j : Nat, i < j → j < kk → ∀ si sj : Nat, F i = some si → F j = some sj → si < sj) → (w1.2.1 = w.2.1 + (9 + 1 * kk) ∧ w1.2.2 = w.2.2 + (499 + 14 * kk)) → JJ g w1 63 [(1, .int (nI kk)), (0, .ref a)] [] := by
    intro nn
    induction nn with
    | zero => intro kk w1 F h1 h2; exact absurd h2 (Nat.not_lt.mpr h1)
    | succ nn ih =>
      intro kk w1 F hk1 hk2 hF hfr hel hor hc1
      have hcz : w1.2.1 = w.2.1 + (9 + 1 * kk + 0) ∧ w1.2.2 = w.2.2 + (499 + 14 * kk + 0) := hc1
      have fo := jfrT fr_w_14 hfr (fun b e hb hv => (fun b _ _ he => Nat.ne_of_lt (lt_q1 b _ he)) b e hb hv)
      refine j_blk 66 [(1, .int (nI kk)), (0, .ref a)] [.int 16, .int (nI kk)] C k_c_Prog_init_63_2 rfl ?_
      refine j_icmp_ge (tgt := 88) C d_c_Prog_init_66 (by decide) (fun c12 => ?_) (fun c12 => ?_)
      · have hkN : kk = 16 := jl_eq16 c12 hk1
        subst hkN
        have m_a_w1 := (hfr _ _ m_a_w_14).1 x_a_q1
        have m_q6_w1 := (hfr _ _ m_q6_w_14).1 (Ne.symm x_q1_q6)
        have m_q2_w1 := (hfr _ _ m_q2_w_14).1 (Ne.symm x_q1_q2)
        have m_q3_w1 := (hfr _ _ m_q3_w_14).1 (Ne.symm x_q1_q3)
        have m_q4_w1 := (hfr _ _ m_q4_w_14).1 (Ne.symm x_q1_q4)
        have m_q5_w1 := (hfr _ _ m_q5_w_14).1 (Ne.symm x_q1_q5)
        have m_q8_w1 := (hfr _ _ m_q8_w_14).1 (jneN m_q8_w_14 m_q1_w_14 rfl)
        have m_q9_w1 := (hfr _ _ m_q9_w_14).1 (jneN m_q9_w_14 m_q1_w_14 rfl)
        have m_q10_w1 := (hfr _ _ m_q10_w_14).1 (jneN m_q10_w_14 m_q1_w_14 rfl)
        exact j_vret C Rm E d_c_Prog_init_88 ⟨rfl, ⟨hc1.1, hc1.2⟩, fo, _, q1, q2, q3, q4, q5, q6, q8, q9, q10, _, F, lt_q1, lt_q2, lt_q3, lt_q4, lt_q5, lt_q6, lt_q8, lt_q9, lt_q10, m_a_w1, rfl, rfl, rfl, rfl, rfl, rfl, rfl, rfl, rfl, rfl, rfl, rfl, rfl, rfl, rfl, rfl, m_q6_w1, hV0_w_12, hV1_w_12, hV2_w_12, m_q2_w1, m_q3_w1, m_q4_w1, m_q5_w1, m_q8_w1, m_q9_w1, m_q10_w1, hF, hel, x_q2_q5, hor, x_q3_q4⟩ (jbnd hc1.1 rfl) (jbnd hc1.2 rfl)
      · refine j_blk 70 [(1, .int (nI kk)), (0, .ref a)] [.ref a] C k_c_Prog_init_69_1 rfl ?_
        have m_a_w1 := (hfr _ _ m_a_w_14).1 x_a_q1
        refine j_get C d_c_Prog_init_70 fg_Prog_11 m_a_w1 rfl ?_
        refine j_blk 74 [(1, .int (nI kk)), (0, .ref a)] [.int (nI kk), .ref q1] C k_c_Prog_init_73_1 rfl ?_
        refine j_new C Rm d_c_Prog_init_74 nw_Prog_9 (jl_r 15 (Nat.le_of_lt_succ (jl_lt16 c12 hk1)) hcz.1 rfl) (jl_r 15 (Nat.le_of_lt_succ (jl_lt16 c12 hk1)) hcz.2 rfl) (fun q13 f_q13 => ?_)
        refine jnv (fun w_15 ew_15 => ?_)
        have m_q13_w_15 : w_15.1 q13 = some (.inr (6, v0_6)) := jus ew_15
        have hk_w_15 := jk1 ew_15 hcz
        have lt_q13 := jfrL hfr f_q13
        have fr_w_15 := jfrN ew_15 hfr f_q13
        refine j_blk 78 [(1, .int (nI kk)), (0, .ref a)] [.ref q13, .ref q13, .int (nI kk), .ref q1] C k_c_Prog_init_77_1 rfl ?_
        refine j_callIn C Rm Y [] [.ref q13, .int (nI kk), .ref q1] (c_Step_init l D B H0 w_15 q13 v0_6 m_q13_w_15) cl_Prog_41 d_c_Prog_init_78 rfl rfl (Nat.le_of_ble_eq_true rfl) ⟨by decide, by decide⟩ ⟨(jl_r 15 (Nat.le_of_lt_succ (jl_lt16 c12 hk1)) hk_w_15.1 rfl), (jl_r 15 (Nat.le_of_lt_succ (jl_lt16 c12 hk1)) hk_w_15.2 rfl)⟩ (fun v14 w_16 pw_16 => ?_)
        obtain ⟨rfl, hc_w_16, G_w_16, V_w_16, mo_w_16, hV0_w_16, hV1_w_16, hV2_w_16, hV3_w_16, hV4_w_16, hV5_w_16, hV6_w_16, hV7_w_16, hV8_w_16, hV9_w_16, hV10_w_16, hV11_w_16, hV12_w_16, hV13_w_16⟩ := pw_16
        have hk_w_16 := jkT hk_w_15 hc_w_16
        have fr_w_16 := jfrT fr_w_15 G_w_16 (fun b _ _ he => Nat.ne_of_lt (lt_q13 b _ he))
        show JJ g w_16 81 [(1, .int (nI kk)), (0, .ref a)] [.ref q13, .int (nI kk), .ref q1]
        have x_q1_q13 := Nat.ne_of_lt (f_q13 _ _ hF)
        have m_q1_w_15 := jun ew_15 hF x_q1_q13
        have m_q1_w_16 := (G_w_16 _ _ m_q1_w_15).1 x_q1_q13
        refine j_aast C d_c_Prog_init_81 (by rfl) (by rfl) m_q1_w_16 mo_w_16 (vp_in_nI (jl_lt16 c12 hk1) (by decide)) ?_
        refine jnv (fun w_17 ew_17 => ?_)
        have m_q1_w_17 : w_17.1 q1 = some (aR D 10 16 (va_up F (Int32.toNatClampNeg (nI kk)) (some q13))) := jus ew_17
        have hk_w_17 := jk0 ew_17 hk_w_16
        have fr_w_17 := jfrW ew_17 fr_w_16 (fun b e hb _ => hb)
        refine j_blk 63 [(1, .int ((nI kk) + 1)), (0, .ref a)] [] C k_c_Prog_init_82_2 rfl ?_
        rw [nI_1]
        have el_16 : jels w w_16 F kk := fun j hj => by
          obtain ⟨s, Vs, h1, h2, h3, h4⟩ := hel j hj
          have hne := Nat.ne_of_lt (f_q13 s _ h3)
          exact ⟨s, Vs, h1, h2, (G_w_16 s _ (jun ew_15 h3 hne)).1 hne, h4⟩
        have el_17 := el_16.mono (fun s e hs hn => jun ew_17 hs (jneOA hs m_q1_w_16))
        have q13_17 := jun ew_17 mo_w_16 (jneOA mo_w_16 m_q1_w_16)
        exact ih (kk + 1) w_17 _ (jl_lt16 c12 hk1) (jl_fu16 hk2) m_q1_w_17 fr_w_17 (el_17.snoc (jl_lt16 c12 hk1) q13_17 (fun b e hb => by exact jfrL fo f_q13 b e hb) (fun k hk => match k, hk with | 0, _ => hV0_w_16 | 1, _ => hV1_w_16 | 2, _ => hV2_w_16 | 3, _ => hV3_w_16 | 4, _ => hV4_w_16 | 5, _ => hV5_w_16 | 6, _ => hV6_w_16 | 7, _ => hV7_w_16 | 8, _ => hV8_w_16 | 9, _ => hV9_w_16 | 10, _ => hV10_w_16 | 11, _ => hV11_w_16 | 12, _ => hV12_w_16 | 13, _ => hV13_w_16)) (jord hel hor (fun s e h => f_q13 s e h) (jl_lt16 c12 hk1)) ⟨jl_c 9 1 kk hk_w_17.1, jl_c 499 14 kk hk_w_17.2⟩
  have hB := hk_w_14
  exact lp11 17 0 w_14 _ (by decide) (by decide) m_q1_w_14 jfr0 (fun j hj => absurd hj (Nat.not_lt_zero _)) (fun i j _ hj => absurd hj (Nat.not_lt_zero _)) ⟨hB.1, hB.2⟩

