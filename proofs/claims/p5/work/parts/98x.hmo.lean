/-! FUNCTIONS OF METHODS: the class (own work, by program) -/
def f_Step_begin (A : mA) (o : Nat) (a0 : Int) (a1 : Int) : Option (Int × mA) := (some (0, (mu (mu (mu (mu (mu (mu (mu (mu (mu (mu (mu (mu (mu (mu A 6 o 0 a0) 6 o 4 a1) 6 o 1 (-1)) 6 o 2 (-1)) 6 o 3 1) 6 o 5 0) 6 o 6 0) 6 o 7 0) 6 o 8 1) 6 o 9 0) 6 o 10 0) 6 o 11 0) 6 o 12 0) 6 o 13 (-1))))
theorem f_hx_Step_begin_0_2 : mblkB b_Step_begin [(0, .aload_n 0, vi 0), (1, .iload_n 1, vi 0)] = true := by decide +kernel
theorem e_hx_Step_begin_2 : decode b_Step_begin 2 = .ok (.putfield 9, 3) := by decide +kernel
theorem f_hx_Step_begin_5_2 : mblkB b_Step_begin [(5, .aload_n 0, vi 0), (6, .iload_n 2, vi 0)] = true := by decide +kernel
theorem e_hx_Step_begin_7 : decode b_Step_begin 7 = .ok (.putfield 15, 3) := by decide +kernel
theorem f_hx_Step_begin_10_2 : mblkB b_Step_begin [(10, .aload_n 0, vi 0), (11, .iconst (-1), vi (-1))] = true := by decide +kernel
theorem e_hx_Step_begin_12 : decode b_Step_begin 12 = .ok (.putfield 18, 3) := by decide +kernel
theorem f_hx_Step_begin_15_2 : mblkB b_Step_begin [(15, .aload_n 0, vi 0), (16, .iconst (-1), vi (-1))] = true := by decide +kernel
theorem e_hx_Step_begin_17 : decode b_Step_begin 17 = .ok (.putfield 21, 3) := by decide +kernel
theorem f_hx_Step_begin_20_2 : mblkB b_Step_begin [(20, .aload_n 0, vi 0), (21, .iconst 1, vi 1)] = true := by decide +kernel
theorem e_hx_Step_begin_22 : decode b_Step_begin 22 = .ok (.putfield 24, 3) := by decide +kernel
theorem f_hx_Step_begin_25_2 : mblkB b_Step_begin [(25, .aload_n 0, vi 0), (26, .iconst 0, vi 0)] = true := by decide +kernel
theorem e_hx_Step_begin_27 : decode b_Step_begin 27 = .ok (.putfield 27, 3) := by decide +kernel
theorem f_hx_Step_begin_30_2 : mblkB b_Step_begin [(30, .aload_n 0, vi 0), (31, .iconst 0, vi 0)] = true := by decide +kernel
theorem e_hx_Step_begin_32 : decode b_Step_begin 32 = .ok (.putfield 30, 3) := by decide +kernel
theorem f_hx_Step_begin_35_2 : mblkB b_Step_begin [(35, .aload_n 0, vi 0), (36, .iconst 0, vi 0)] = true := by decide +kernel
theorem e_hx_Step_begin_37 : decode b_Step_begin 37 = .ok (.putfield 33, 3) := by decide +kernel
theorem f_hx_Step_begin_40_2 : mblkB b_Step_begin [(40, .aload_n 0, vi 0), (41, .iconst 1, vi 1)] = true := by decide +kernel
theorem e_hx_Step_begin_42 : decode b_Step_begin 42 = .ok (.putfield 36, 3) := by decide +kernel
theorem f_hx_Step_begin_45_2 : mblkB b_Step_begin [(45, .aload_n 0, vi 0), (46, .iconst 0, vi 0)] = true := by decide +kernel
theorem e_hx_Step_begin_47 : decode b_Step_begin 47 = .ok (.putfield 39, 3) := by decide +kernel
theorem f_hx_Step_begin_50_2 : mblkB b_Step_begin [(50, .aload_n 0, vi 0), (51, .iconst 0, vi 0)] = true := by decide +kernel
theorem e_hx_Step_begin_52 : decode b_Step_begin 52 = .ok (.putfield 42, 3) := by decide +kernel
theorem f_hx_Step_begin_55_2 : mblkB b_Step_begin [(55, .aload_n 0, vi 0), (56, .iconst 0, vi 0)] = true := by decide +kernel
theorem e_hx_Step_begin_57 : decode b_Step_begin 57 = .ok (.putfield 45, 3) := by decide +kernel
theorem f_hx_Step_begin_60_2 : mblkB b_Step_begin [(60, .aload_n 0, vi 0), (61, .iconst 0, vi 0)] = true := by decide +kernel
theorem e_hx_Step_begin_62 : decode b_Step_begin 62 = .ok (.putfield 48, 3) := by decide +kernel
theorem f_hx_Step_begin_65_1 : mblkB b_Step_begin [(65, .aload_n 0, vi 0)] = true := by decide +kernel
theorem e_hx_Step_begin_66 : decode b_Step_begin 66 = .ok (.aconst_null, 1) := by decide +kernel
theorem e_hx_Step_begin_67 : decode b_Step_begin 67 = .ok (.putfield 52, 3) := by decide +kernel
theorem e_hx_Step_begin_70 : decode b_Step_begin 70 = .ok (.return_, 1) := by decide +kernel
set_option maxHeartbeats 4000000 in
set_option maxRecDepth 20000 in
theorem hx_Step_begin  : ∀ (l : Launch) (D : va_G) (B : Nat) (H0 : Heap) (G : tG) (A : mA) (o : Nat) (a0 : Int) (a1 : Int) (h_o : G o = some 6)  (r9 : Int) (A9 : mA), f_Step_begin  A o a0 a1 = some (r9, A9) → hMet l D B H0 G y_Step_begin b_Step_begin 3 none 0 0 [vr 6 o, vi a0, vi a1] A (fun v A' => v = none ∧ A' = A9) := by
  intro l D B H0 G A o a0 a1 h_o r9 A9 h
  refine h_met (by decide) rfl (fun g q C Rm Y E => ?_)
  show HM g D G q A 0 [(0, vr 6 o), (1, vi a0), (2, vi a1)] []
  unfold f_Step_begin at h
  refine h_blk 2 [(0, vr 6 o), (1, vi a0), (2, vi a1)] [vi a0, vr 6 o] C f_hx_Step_begin_0_2 rfl ?_
  refine h_puti C e_hx_Step_begin_2 fp_Step_9 h_o rfl rfl rfl ?_
  refine h_blk 7 [(0, vr 6 o), (1, vi a0), (2, vi a1)] [vi a1, vr 6 o] C f_hx_Step_begin_5_2 rfl ?_
  refine h_puti C e_hx_Step_begin_7 fp_Step_15 h_o rfl rfl rfl ?_
  refine h_blk 12 [(0, vr 6 o), (1, vi a0), (2, vi a1)] [vi (-1), vr 6 o] C f_hx_Step_begin_10_2 rfl ?_
  refine h_puti C e_hx_Step_begin_12 fp_Step_18 h_o rfl rfl rfl ?_
  refine h_blk 17 [(0, vr 6 o), (1, vi a0), (2, vi a1)] [vi (-1), vr 6 o] C f_hx_Step_begin_15_2 rfl ?_
  refine h_puti C e_hx_Step_begin_17 fp_Step_21 h_o rfl rfl rfl ?_
  refine h_blk 22 [(0, vr 6 o), (1, vi a0), (2, vi a1)] [vi 1, vr 6 o] C f_hx_Step_begin_20_2 rfl ?_
  refine h_puti C e_hx_Step_begin_22 fp_Step_24 h_o rfl rfl rfl ?_
  refine h_blk 27 [(0, vr 6 o), (1, vi a0), (2, vi a1)] [vi 0, vr 6 o] C f_hx_Step_begin_25_2 rfl ?_
  refine h_puti C e_hx_Step_begin_27 fp_Step_27 h_o rfl rfl rfl ?_
  refine h_blk 32 [(0, vr 6 o), (1, vi a0), (2, vi a1)] [vi 0, vr 6 o] C f_hx_Step_begin_30_2 rfl ?_
  refine h_puti C e_hx_Step_begin_32 fp_Step_30 h_o rfl rfl rfl ?_
  refine h_blk 37 [(0, vr 6 o), (1, vi a0), (2, vi a1)] [vi 0, vr 6 o] C f_hx_Step_begin_35_2 rfl ?_
  refine h_puti C e_hx_Step_begin_37 fp_Step_33 h_o rfl rfl rfl ?_
  refine h_blk 42 [(0, vr 6 o), (1, vi a0), (2, vi a1)] [vi 1, vr 6 o] C f_hx_Step_begin_40_2 rfl ?_
  refine h_puti C e_hx_Step_begin_42 fp_Step_36 h_o rfl rfl rfl ?_
  refine h_blk 47 [(0, vr 6 o), (1, vi a0), (2, vi a1)] [vi 0, vr 6 o] C f_hx_Step_begin_45_2 rfl ?_
  refine h_puti C e_hx_Step_begin_47 fp_Step_39 h_o rfl rfl rfl ?_
  refine h_blk 52 [(0, vr 6 o), (1, vi a0), (2, vi a1)] [vi 0, vr 6 o] C f_hx_Step_begin_50_2 rfl ?_
  refine h_puti C e_hx_Step_begin_52 fp_Step_42 h_o rfl rfl rfl ?_
  refine h_blk 57 [(0, vr 6 o), (1, vi a0), (2, vi a1)] [vi 0, vr 6 o] C f_hx_Step_begin_55_2 rfl ?_
  refine h_puti C e_hx_Step_begin_57 fp_Step_45 h_o rfl rfl rfl ?_
  refine h_blk 62 [(0, vr 6 o), (1, vi a0), (2, vi a1)] [vi 0, vr 6 o] C f_hx_Step_begin_60_2 rfl ?_
  refine h_putz C e_hx_Step_begin_62 fp_Step_48 h_o rfl rfl rfl (Or.inl rfl) ?_
  refine h_blk 66 [(0, vr 6 o), (1, vi a0), (2, vi a1)] [vr 6 o] C f_hx_Step_begin_65_1 rfl ?_
  refine h_null C e_hx_Step_begin_66 e_hx_Step_begin_67 fp_Step_52 ⟨rfl, rfl⟩ h_o rfl rfl rfl ?_
  exact h_vret C Rm E e_hx_Step_begin_70 (fin0 h)

def f_Runs_clear_2 : Nat → mA → Nat → Int → Option (Int × mA)
  | 0, _, _, _ => none
  | n + 1, A, b0, b1 => (if g32 b1 then (if 10 ≤ b1 then (some (0, A)) else (if (0 ≤ b1 ∧ b1 < ((10 : Nat) : Int)) then (f_Runs_clear_2  n (mu A 28 ((A 4 b0 0).toNat) b1.toNat 0) b0 (b1 + 1)) else none)) else none)
def f_Runs_clear (A : mA) (o : Nat) : Option (Int × mA) := (f_Runs_clear_2  20 A o 0)
theorem f_hx_Runs_clear_0_2 : mblkB b_Runs_clear [(0, .iconst 0, vi 0), (1, .istore_n 1, vi 0)] = true := by decide +kernel
theorem f_hx_Runs_clear_2_2 : mblkB b_Runs_clear [(2, .iload_n 1, vi 0), (3, .bipush 10, vi 10)] = true := by decide +kernel
theorem e_hx_Runs_clear_5 : decode b_Runs_clear 5 = .ok (.if_icmp .ge 16, 3) := by decide +kernel
theorem e_hx_Runs_clear_21 : decode b_Runs_clear 21 = .ok (.return_, 1) := by decide +kernel
theorem f_hx_Runs_clear_8_1 : mblkB b_Runs_clear [(8, .aload_n 0, vi 0)] = true := by decide +kernel
theorem e_hx_Runs_clear_9 : decode b_Runs_clear 9 = .ok (.getfield 9, 3) := by decide +kernel
theorem f_hx_Runs_clear_12_2 : mblkB b_Runs_clear [(12, .iload_n 1, vi 0), (13, .iconst 0, vi 0)] = true := by decide +kernel
theorem e_hx_Runs_clear_14 : decode b_Runs_clear 14 = .ok (.iastore, 1) := by decide +kernel
theorem f_hx_Runs_clear_15_2 : mblkB b_Runs_clear [(15, .iinc 1 1, vi 1), (18, .goto (-16), vi 2)] = true := by decide +kernel
set_option maxHeartbeats 4000000 in
set_option maxRecDepth 20000 in
theorem hx_Runs_clear  : ∀ (l : Launch) (D : va_G) (B : Nat) (H0 : Heap) (G : tG) (A : mA) (o : Nat) (h_o : G o = some 4)  (r9 : Int) (A9 : mA), f_Runs_clear  A o = some (r9, A9) → hMet l D B H0 G y_Runs_clear b_Runs_clear 2 none 0 0 [vr 4 o] A (fun v A' => v = none ∧ A' = A9) := by
  intro l D B H0 G A o h_o r9 A9 h
  refine h_met (by decide) rfl (fun g q C Rm Y E => ?_)
  have hd_2 : ∀ (n : Nat) (A : mA) (b0 : Nat) (b1 : Int) , G b0 = some 4 → f_Runs_clear_2  n A b0 b1 = some (r9, A9) → HM g D G q A 2 [(0, vr 4 b0), (1, vi b1)] [] := by
    intro n
    induction n with
    | zero => intro A b0 b1 h_b0 h; cases h
    | succ n ih =>
      intro A b0 b1 h_b0 h
      unfold f_Runs_clear_2 at h
      refine h_blk 5 [(0, vr 4 b0), (1, vi b1)] [vi 10, vi b1] C f_hx_Runs_clear_2_2 rfl ?_
      obtain ⟨c1, h⟩ := igd h
      refine h_icmp_ge (tgt := 21) C e_hx_Runs_clear_5 (by decide) c1 (by decide) (fun c2 => ?_) (fun c2 => ?_)
      · have h := ifp c2 h
        exact h_vret C Rm E e_hx_Runs_clear_21 (fin0 h)
      · have h := ifn c2 h
        refine h_blk 9 [(0, vr 4 b0), (1, vi b1)] [vr 4 b0] C f_hx_Runs_clear_8_1 rfl ?_
        refine h_getr4 C e_hx_Runs_clear_9 fg_Runs_9 h_b0 rfl rfl rfl rfl (fun g3 => ?_)
        refine h_blk 14 [(0, vr 4 b0), (1, vi b1)] [vi 0, vi b1, vr 28 ((A 4 b0 0).toNat)] C f_hx_Runs_clear_12_2 rfl ?_
        obtain ⟨c4, h⟩ := igd h
        refine h_iast C e_hx_Runs_clear_14 g3 rfl rfl (by decide) c4.1 c4.2 ?_
        refine h_blk 2 [(1, vi (b1 + 1)), (0, vr 4 b0)] [] C f_hx_Runs_clear_15_2 rfl ?_
        refine h_loc [(0, vr 4 b0), (1, vi (b1 + 1))] ⟨rfl, rfl, trivial⟩ ?_
        exact ih (mu A 28 ((A 4 b0 0).toNat) b1.toNat 0) b0 (b1 + 1) (h_b0) h
  show HM g D G q A 0 [(0, vr 4 o)] []
  unfold f_Runs_clear at h
  refine h_blk 2 [(1, vi 0), (0, vr 4 o)] [] C f_hx_Runs_clear_0_2 rfl ?_
  refine h_loc [(0, vr 4 o), (1, vi 0)] ⟨rfl, rfl, trivial⟩ ?_
  exact hd_2 _ A o 0 (h_o) h

def f_Prog_clear (A : mA) (o : Nat) : Option (Int × mA) := (Option.bind (f_Runs_clear (mu (mu (mu (mu A 2 o 1 0) 2 o 3 0) 2 o 6 0) 2 o 14 (-1)) ((A 2 o 12).toNat)) (fun q2 => (some (0, q2.2))))
theorem f_hx_Prog_clear_0_2 : mblkB b_Prog_clear [(0, .aload_n 0, vi 0), (1, .iconst 0, vi 0)] = true := by decide +kernel
theorem e_hx_Prog_clear_2 : decode b_Prog_clear 2 = .ok (.putfield 42, 3) := by decide +kernel
theorem f_hx_Prog_clear_5_2 : mblkB b_Prog_clear [(5, .aload_n 0, vi 0), (6, .iconst 0, vi 0)] = true := by decide +kernel
theorem e_hx_Prog_clear_7 : decode b_Prog_clear 7 = .ok (.putfield 45, 3) := by decide +kernel
theorem f_hx_Prog_clear_10_2 : mblkB b_Prog_clear [(10, .aload_n 0, vi 0), (11, .iconst 0, vi 0)] = true := by decide +kernel
theorem e_hx_Prog_clear_12 : decode b_Prog_clear 12 = .ok (.putfield 48, 3) := by decide +kernel
theorem f_hx_Prog_clear_15_2 : mblkB b_Prog_clear [(15, .aload_n 0, vi 0), (16, .iconst (-1), vi (-1))] = true := by decide +kernel
theorem e_hx_Prog_clear_17 : decode b_Prog_clear 17 = .ok (.putfield 37, 3) := by decide +kernel
theorem f_hx_Prog_clear_20_1 : mblkB b_Prog_clear [(20, .aload_n 0, vi 0)] = true := by decide +kernel
theorem e_hx_Prog_clear_21 : decode b_Prog_clear 21 = .ok (.getfield 33, 3) := by decide +kernel
theorem e_hx_Prog_clear_24 : decode b_Prog_clear 24 = .ok (.invokevirtual 51, 3) := by decide +kernel
theorem e_hx_Prog_clear_27 : decode b_Prog_clear 27 = .ok (.return_, 1) := by decide +kernel
set_option maxHeartbeats 4000000 in
set_option maxRecDepth 20000 in
theorem hx_Prog_clear  : ∀ (l : Launch) (D : va_G) (B : Nat) (H0 : Heap) (G : tG) (A : mA) (o : Nat) (h_o : G o = some 2)  (r9 : Int) (A9 : mA), f_Prog_clear  A o = some (r9, A9) → hMet l D B H0 G y_Prog_clear b_Prog_clear 1 none 1 21 [vr 2 o] A (fun v A' => v = none ∧ A' = A9) := by
  intro l D B H0 G A o h_o r9 A9 h
  refine h_met (by decide) rfl (fun g q C Rm Y E => ?_)
  show HM g D G q A 0 [(0, vr 2 o)] []
  unfold f_Prog_clear at h
  refine h_blk 2 [(0, vr 2 o)] [vi 0, vr 2 o] C f_hx_Prog_clear_0_2 rfl ?_
  refine h_puti C e_hx_Prog_clear_2 fp_Prog_42 h_o rfl rfl rfl ?_
  refine h_blk 7 [(0, vr 2 o)] [vi 0, vr 2 o] C f_hx_Prog_clear_5_2 rfl ?_
  refine h_puti C e_hx_Prog_clear_7 fp_Prog_45 h_o rfl rfl rfl ?_
  refine h_blk 12 [(0, vr 2 o)] [vi 0, vr 2 o] C f_hx_Prog_clear_10_2 rfl ?_
  refine h_puti C e_hx_Prog_clear_12 fp_Prog_48 h_o rfl rfl rfl ?_
  refine h_blk 17 [(0, vr 2 o)] [vi (-1), vr 2 o] C f_hx_Prog_clear_15_2 rfl ?_
  refine h_puti C e_hx_Prog_clear_17 fp_Prog_37 h_o rfl rfl rfl ?_
  refine h_blk 21 [(0, vr 2 o)] [vr 2 o] C f_hx_Prog_clear_20_1 rfl ?_
  refine h_getr4 C e_hx_Prog_clear_21 fg_Prog_33 h_o rfl rfl rfl rfl (fun g1 => ?_)
  obtain ⟨q2, e3, h⟩ := obd h
  refine h_callV C Rm Y [] [] (hx_Runs_clear l D B H0 G _ ((A 2 o 12).toNat) g1 _ _ e3) cl_Prog_51 g1 rfl rfl rfl e_hx_Prog_clear_24 rfl rfl rfl ⟨by decide, by decide⟩ ?_
  rintro _ _ ⟨rfl, rfl⟩
  show HM g D G q q2.2 27 [(0, vr 2 o)] []
  exact h_vret C Rm E e_hx_Prog_clear_27 (fin0 h)

def f_Prog_stepAt (A : mA) (o : Nat) (a0 : Int) : Option (Int × mA) := (if g32 a0 then (if a0 < 0 then (some ((((A 25 ((A 2 o 0).toNat) 0).toNat : Nat) : Int), A)) else (if 16 ≤ a0 then (some ((((A 25 ((A 2 o 0).toNat) 0).toNat : Nat) : Int), A)) else (if (0 ≤ a0 ∧ a0 < ((16 : Nat) : Int)) then (some ((((A 25 ((A 2 o 0).toNat) a0.toNat).toNat : Nat) : Int), A)) else none))) else none)
theorem f_hx_Prog_stepAt_0_1 : mblkB b_Prog_stepAt [(0, .aload_n 0, vi 0)] = true := by decide +kernel
theorem e_hx_Prog_stepAt_1 : decode b_Prog_stepAt 1 = .ok (.getfield 11, 3) := by decide +kernel
theorem f_hx_Prog_stepAt_4_1 : mblkB b_Prog_stepAt [(4, .iload_n 1, vi 0)] = true := by decide +kernel
theorem e_hx_Prog_stepAt_5 : decode b_Prog_stepAt 5 = .ok (.ifCond .lt 13, 3) := by decide +kernel
theorem f_hx_Prog_stepAt_18_1 : mblkB b_Prog_stepAt [(18, .iconst 0, vi 0)] = true := by decide +kernel
theorem e_hx_Prog_stepAt_19 : decode b_Prog_stepAt 19 = .ok (.aaload, 1) := by decide +kernel
theorem e_hx_Prog_stepAt_20 : decode b_Prog_stepAt 20 = .ok (.areturn, 1) := by decide +kernel
theorem f_hx_Prog_stepAt_8_2 : mblkB b_Prog_stepAt [(8, .iload_n 1, vi 0), (9, .bipush 16, vi 16)] = true := by decide +kernel
theorem e_hx_Prog_stepAt_11 : decode b_Prog_stepAt 11 = .ok (.if_icmp .ge 7, 3) := by decide +kernel
theorem f_hx_Prog_stepAt_14_2 : mblkB b_Prog_stepAt [(14, .iload_n 1, vi 0), (15, .goto 4, vi 19)] = true := by decide +kernel
set_option maxHeartbeats 4000000 in
set_option maxRecDepth 20000 in
theorem hx_Prog_stepAt  : ∀ (l : Launch) (D : va_G) (B : Nat) (H0 : Heap) (G : tG) (A : mA) (o : Nat) (a0 : Int) (h_o : G o = some 2)  (r9 : Int) (A9 : mA), f_Prog_stepAt  A o a0 = some (r9, A9) → hMet l D B H0 G y_Prog_stepAt b_Prog_stepAt 2 (some (.object "ChanceSteps$Step")) 0 0 [vr 2 o, vi a0] A (fun v A' => v = some (vr 6 r9.toNat) ∧ A' = A9 ∧ G r9.toNat = some 6) := by
  intro l D B H0 G A o a0 h_o r9 A9 h
  refine h_met (by decide) rfl (fun g q C Rm Y E => ?_)
  show HM g D G q A 0 [(0, vr 2 o), (1, vi a0)] []
  unfold f_Prog_stepAt at h
  refine h_blk 1 [(0, vr 2 o), (1, vi a0)] [vr 2 o] C f_hx_Prog_stepAt_0_1 rfl ?_
  refine h_getr4 C e_hx_Prog_stepAt_1 fg_Prog_11 h_o rfl rfl rfl rfl (fun g1 => ?_)
  refine h_blk 5 [(0, vr 2 o), (1, vi a0)] [vi a0, vr 25 ((A 2 o 0).toNat)] C f_hx_Prog_stepAt_4_1 rfl ?_
  obtain ⟨c2, h⟩ := igd h
  refine h_if_lt (tgt := 18) C e_hx_Prog_stepAt_5 (by decide) c2 (fun c3 => ?_) (fun c3 => ?_)
  · have h := ifp c3 h
    refine h_blk 19 [(0, vr 2 o), (1, vi a0)] [vi 0, vr 25 ((A 2 o 0).toNat)] C f_hx_Prog_stepAt_18_1 rfl ?_
    refine h_aald4 C e_hx_Prog_stepAt_19 rfl rfl g1 rfl rfl rfl rfl (by decide) (by decide) (by decide) (fun g4 => ?_)
    exact h_aret C Rm E e_hx_Prog_stepAt_20 (finR h g4)
  · have h := ifn c3 h
    refine h_blk 11 [(0, vr 2 o), (1, vi a0)] [vi 16, vi a0, vr 25 ((A 2 o 0).toNat)] C f_hx_Prog_stepAt_8_2 rfl ?_
    refine h_icmp_ge (tgt := 18) C e_hx_Prog_stepAt_11 (by decide) c2 (by decide) (fun c5 => ?_) (fun c5 => ?_)
    · have h := ifp c5 h
      refine h_blk 19 [(0, vr 2 o), (1, vi a0)] [vi 0, vr 25 ((A 2 o 0).toNat)] C f_hx_Prog_stepAt_18_1 rfl ?_
      refine h_aald4 C e_hx_Prog_stepAt_19 rfl rfl g1 rfl rfl rfl rfl (by decide) (by decide) (by decide) (fun g6 => ?_)
      exact h_aret C Rm E e_hx_Prog_stepAt_20 (finR h g6)
    · have h := ifn c5 h
      refine h_blk 19 [(0, vr 2 o), (1, vi a0)] [vi a0, vr 25 ((A 2 o 0).toNat)] C f_hx_Prog_stepAt_14_2 rfl ?_
      obtain ⟨c7, h⟩ := igd h
      refine h_aald4 C e_hx_Prog_stepAt_19 rfl rfl g1 rfl rfl rfl rfl (by decide) c7.1 c7.2 (fun g8 => ?_)
      exact h_aret C Rm E e_hx_Prog_stepAt_20 (finR h g8)

def f_Prog_beginStep (A : mA) (o : Nat) (a0 : Int) (a1 : Int) : Option (Int × mA) := (Option.bind (f_Prog_stepAt A o (A 2 o 1)) (fun q1 => (Option.bind (f_Step_begin q1.2 q1.1.toNat a0 a1) (fun q4 => (if g32 (q4.2 2 o 1) then (if 16 ≤ (q4.2 2 o 1) then (some (((q1.1.toNat : Nat) : Int), (mu q4.2 2 o 1 (q4.2 2 o 1)))) else (some (((q1.1.toNat : Nat) : Int), (mu q4.2 2 o 1 ((q4.2 2 o 1) + 1))))) else none)))))
theorem f_hx_Prog_beginStep_0_2 : mblkB b_Prog_beginStep [(0, .aload_n 0, vi 0), (1, .aload_n 0, vi 0)] = true := by decide +kernel
theorem e_hx_Prog_beginStep_2 : decode b_Prog_beginStep 2 = .ok (.getfield 42, 3) := by decide +kernel
theorem e_hx_Prog_beginStep_5 : decode b_Prog_beginStep 5 = .ok (.invokevirtual 54, 3) := by decide +kernel
theorem f_hx_Prog_beginStep_8_4 : mblkB b_Prog_beginStep [(8, .astore_n 3, vi 0), (9, .aload_n 3, vi 0), (10, .iload_n 1, vi 0), (11, .iload_n 2, vi 0)] = true := by decide +kernel
theorem e_hx_Prog_beginStep_12 : decode b_Prog_beginStep 12 = .ok (.invokevirtual 58, 3) := by decide +kernel
theorem f_hx_Prog_beginStep_15_2 : mblkB b_Prog_beginStep [(15, .aload_n 0, vi 0), (16, .aload_n 0, vi 0)] = true := by decide +kernel
theorem e_hx_Prog_beginStep_17 : decode b_Prog_beginStep 17 = .ok (.getfield 42, 3) := by decide +kernel
theorem f_hx_Prog_beginStep_20_1 : mblkB b_Prog_beginStep [(20, .bipush 16, vi 16)] = true := by decide +kernel
theorem e_hx_Prog_beginStep_22 : decode b_Prog_beginStep 22 = .ok (.if_icmp .ge 12, 3) := by decide +kernel
theorem f_hx_Prog_beginStep_34_1 : mblkB b_Prog_beginStep [(34, .aload_n 0, vi 0)] = true := by decide +kernel
theorem e_hx_Prog_beginStep_35 : decode b_Prog_beginStep 35 = .ok (.getfield 42, 3) := by decide +kernel
theorem e_hx_Prog_beginStep_38 : decode b_Prog_beginStep 38 = .ok (.putfield 42, 3) := by decide +kernel
theorem f_hx_Prog_beginStep_41_1 : mblkB b_Prog_beginStep [(41, .aload_n 3, vi 0)] = true := by decide +kernel
theorem e_hx_Prog_beginStep_42 : decode b_Prog_beginStep 42 = .ok (.areturn, 1) := by decide +kernel
theorem f_hx_Prog_beginStep_25_1 : mblkB b_Prog_beginStep [(25, .aload_n 0, vi 0)] = true := by decide +kernel
theorem e_hx_Prog_beginStep_26 : decode b_Prog_beginStep 26 = .ok (.getfield 42, 3) := by decide +kernel
theorem f_hx_Prog_beginStep_29_3 : mblkB b_Prog_beginStep [(29, .iconst 1, vi 1), (30, .iadd, vi 0), (31, .goto 7, vi 38)] = true := by decide +kernel
set_option maxHeartbeats 4000000 in
set_option maxRecDepth 20000 in
theorem hx_Prog_beginStep  : ∀ (l : Launch) (D : va_G) (B : Nat) (H0 : Heap) (G : tG) (A : mA) (o : Nat) (a0 : Int) (a1 : Int) (h_o : G o = some 2)  (r9 : Int) (A9 : mA), f_Prog_beginStep  A o a0 a1 = some (r9, A9) → hMet l D B H0 G y_Prog_beginStep b_Prog_beginStep 4 (some (.object "ChanceSteps$Step")) 1 22 [vr 2 o, vi a0, vi a1] A (fun v A' => v = some (vr 6 r9.toNat) ∧ A' = A9 ∧ G r9.toNat = some 6) := by
  intro l D B H0 G A o a0 a1 h_o r9 A9 h
  refine h_met (by decide) rfl (fun g q C Rm Y E => ?_)
  show HM g D G q A 0 [(0, vr 2 o), (1, vi a0), (2, vi a1)] []
  unfold f_Prog_beginStep at h
  refine h_blk 2 [(0, vr 2 o), (1, vi a0), (2, vi a1)] [vr 2 o, vr 2 o] C f_hx_Prog_beginStep_0_2 rfl ?_
  refine h_geti C e_hx_Prog_beginStep_2 fg_Prog_42 h_o rfl rfl rfl (A 2 o 1) rfl ?_
  obtain ⟨q1, e2, h⟩ := obd h
  refine h_callV C Rm Y [vi (A 2 o 1)] [] (hx_Prog_stepAt l D B H0 G _ o (A 2 o 1) h_o _ _ e2) cl_Prog_54 h_o rfl rfl rfl e_hx_Prog_beginStep_5 rfl rfl rfl ⟨by decide, by decide⟩ ?_
  rintro _ _ ⟨rfl, rfl, g3⟩
  show HM g D G q q1.2 8 [(0, vr 2 o), (1, vi a0), (2, vi a1)] [vr 6 q1.1.toNat]
  refine h_blk 12 [(3, vr 6 q1.1.toNat), (0, vr 2 o), (1, vi a0), (2, vi a1)] [vi a1, vi a0, vr 6 q1.1.toNat] C f_hx_Prog_beginStep_8_4 rfl ?_
  obtain ⟨q4, e5, h⟩ := obd h
  refine h_callV C Rm Y [vi a0, vi a1] [] (hx_Step_begin l D B H0 G _ q1.1.toNat a0 a1 g3 _ _ e5) cl_Prog_58 g3 rfl rfl rfl e_hx_Prog_beginStep_12 rfl rfl rfl ⟨by decide, by decide⟩ ?_
  rintro _ _ ⟨rfl, rfl⟩
  show HM g D G q q4.2 15 [(3, vr 6 q1.1.toNat), (0, vr 2 o), (1, vi a0), (2, vi a1)] []
  refine h_blk 17 [(3, vr 6 q1.1.toNat), (0, vr 2 o), (1, vi a0), (2, vi a1)] [vr 2 o, vr 2 o] C f_hx_Prog_beginStep_15_2 rfl ?_
  refine h_geti C e_hx_Prog_beginStep_17 fg_Prog_42 h_o rfl rfl rfl (q4.2 2 o 1) rfl ?_
  refine h_blk 22 [(3, vr 6 q1.1.toNat), (0, vr 2 o), (1, vi a0), (2, vi a1)] [vi 16, vi (q4.2 2 o 1), vr 2 o] C f_hx_Prog_beginStep_20_1 rfl ?_
  obtain ⟨c6, h⟩ := igd h
  refine h_icmp_ge (tgt := 34) C e_hx_Prog_beginStep_22 (by decide) c6 (by decide) (fun c7 => ?_) (fun c7 => ?_)
  · have h := ifp c7 h
    refine h_blk 35 [(3, vr 6 q1.1.toNat), (0, vr 2 o), (1, vi a0), (2, vi a1)] [vr 2 o, vr 2 o] C f_hx_Prog_beginStep_34_1 rfl ?_
    refine h_geti C e_hx_Prog_beginStep_35 fg_Prog_42 h_o rfl rfl rfl (q4.2 2 o 1) rfl ?_
    refine h_puti C e_hx_Prog_beginStep_38 fp_Prog_42 h_o rfl rfl rfl ?_
    refine h_blk 42 [(3, vr 6 q1.1.toNat), (0, vr 2 o), (1, vi a0), (2, vi a1)] [vr 6 q1.1.toNat] C f_hx_Prog_beginStep_41_1 rfl ?_
    exact h_aret C Rm E e_hx_Prog_beginStep_42 (finR h g3)
  · have h := ifn c7 h
    refine h_blk 26 [(3, vr 6 q1.1.toNat), (0, vr 2 o), (1, vi a0), (2, vi a1)] [vr 2 o, vr 2 o] C f_hx_Prog_beginStep_25_1 rfl ?_
    refine h_geti C e_hx_Prog_beginStep_26 fg_Prog_42 h_o rfl rfl rfl (q4.2 2 o 1) rfl ?_
    refine h_blk 38 [(3, vr 6 q1.1.toNat), (0, vr 2 o), (1, vi a0), (2, vi a1)] [vi ((q4.2 2 o 1) + 1), vr 2 o] C f_hx_Prog_beginStep_29_3 rfl ?_
    refine h_puti C e_hx_Prog_beginStep_38 fp_Prog_42 h_o rfl rfl rfl ?_
    refine h_blk 42 [(3, vr 6 q1.1.toNat), (0, vr 2 o), (1, vi a0), (2, vi a1)] [vr 6 q1.1.toNat] C f_hx_Prog_beginStep_41_1 rfl ?_
    exact h_aret C Rm E e_hx_Prog_beginStep_42 (finR h g3)

def f_Prog_emit (A : mA) (o : Nat) (a0 : Int) : Option (Int × mA) := (if g32 (A 2 o 3) then (if 120 ≤ (A 2 o 3) then (some (0, A)) else (if (0 ≤ (A 2 o 3) ∧ (A 2 o 3) < ((120 : Nat) : Int)) then (some (0, (mu (mu A 36 ((A 2 o 2).toNat) ((A 2 o 3).toNat) a0) 2 o 3 ((A 2 o 3) + 1)))) else none)) else none)
theorem f_hx_Prog_emit_0_1 : mblkB b_Prog_emit [(0, .aload_n 0, vi 0)] = true := by decide +kernel
theorem e_hx_Prog_emit_1 : decode b_Prog_emit 1 = .ok (.getfield 45, 3) := by decide +kernel
theorem f_hx_Prog_emit_4_1 : mblkB b_Prog_emit [(4, .bipush 120, vi 120)] = true := by decide +kernel
theorem e_hx_Prog_emit_6 : decode b_Prog_emit 6 = .ok (.if_icmp .ge 23, 3) := by decide +kernel
theorem e_hx_Prog_emit_29 : decode b_Prog_emit 29 = .ok (.return_, 1) := by decide +kernel
theorem f_hx_Prog_emit_9_1 : mblkB b_Prog_emit [(9, .aload_n 0, vi 0)] = true := by decide +kernel
theorem e_hx_Prog_emit_10 : decode b_Prog_emit 10 = .ok (.getfield 17, 3) := by decide +kernel
theorem f_hx_Prog_emit_13_1 : mblkB b_Prog_emit [(13, .aload_n 0, vi 0)] = true := by decide +kernel
theorem e_hx_Prog_emit_14 : decode b_Prog_emit 14 = .ok (.getfield 45, 3) := by decide +kernel
theorem f_hx_Prog_emit_17_1 : mblkB b_Prog_emit [(17, .iload_n 1, vi 0)] = true := by decide +kernel
theorem e_hx_Prog_emit_18 : decode b_Prog_emit 18 = .ok (.iastore, 1) := by decide +kernel
theorem f_hx_Prog_emit_19_2 : mblkB b_Prog_emit [(19, .aload_n 0, vi 0), (20, .dup, vi 0)] = true := by decide +kernel
theorem e_hx_Prog_emit_21 : decode b_Prog_emit 21 = .ok (.getfield 45, 3) := by decide +kernel
theorem f_hx_Prog_emit_24_2 : mblkB b_Prog_emit [(24, .iconst 1, vi 1), (25, .iadd, vi 0)] = true := by decide +kernel
theorem e_hx_Prog_emit_26 : decode b_Prog_emit 26 = .ok (.putfield 45, 3) := by decide +kernel
set_option maxHeartbeats 4000000 in
set_option maxRecDepth 20000 in
theorem hx_Prog_emit  : ∀ (l : Launch) (D : va_G) (B : Nat) (H0 : Heap) (G : tG) (A : mA) (o : Nat) (a0 : Int) (h_o : G o = some 2)  (r9 : Int) (A9 : mA), f_Prog_emit  A o a0 = some (r9, A9) → hMet l D B H0 G y_Prog_emit b_Prog_emit 2 none 0 0 [vr 2 o, vi a0] A (fun v A' => v = none ∧ A' = A9) := by
  intro l D B H0 G A o a0 h_o r9 A9 h
  refine h_met (by decide) rfl (fun g q C Rm Y E => ?_)
  show HM g D G q A 0 [(0, vr 2 o), (1, vi a0)] []
  unfold f_Prog_emit at h
  refine h_blk 1 [(0, vr 2 o), (1, vi a0)] [vr 2 o] C f_hx_Prog_emit_0_1 rfl ?_
  refine h_geti C e_hx_Prog_emit_1 fg_Prog_45 h_o rfl rfl rfl (A 2 o 3) rfl ?_
  refine h_blk 6 [(0, vr 2 o), (1, vi a0)] [vi 120, vi (A 2 o 3)] C f_hx_Prog_emit_4_1 rfl ?_
  obtain ⟨c1, h⟩ := igd h
  refine h_icmp_ge (tgt := 29) C e_hx_Prog_emit_6 (by decide) c1 (by decide) (fun c2 => ?_) (fun c2 => ?_)
  · have h := ifp c2 h
    exact h_vret C Rm E e_hx_Prog_emit_29 (fin0 h)
  · have h := ifn c2 h
    refine h_blk 10 [(0, vr 2 o), (1, vi a0)] [vr 2 o] C f_hx_Prog_emit_9_1 rfl ?_
    refine h_getr4 C e_hx_Prog_emit_10 fg_Prog_17 h_o rfl rfl rfl rfl (fun g3 => ?_)
    refine h_blk 14 [(0, vr 2 o), (1, vi a0)] [vr 2 o, vr 36 ((A 2 o 2).toNat)] C f_hx_Prog_emit_13_1 rfl ?_
    refine h_geti C e_hx_Prog_emit_14 fg_Prog_45 h_o rfl rfl rfl (A 2 o 3) rfl ?_
    refine h_blk 18 [(0, vr 2 o), (1, vi a0)] [vi a0, vi (A 2 o 3), vr 36 ((A 2 o 2).toNat)] C f_hx_Prog_emit_17_1 rfl ?_
    obtain ⟨c4, h⟩ := igd h
    refine h_iast C e_hx_Prog_emit_18 g3 rfl rfl (by decide) c4.1 c4.2 ?_
    refine h_blk 21 [(0, vr 2 o), (1, vi a0)] [vr 2 o, vr 2 o] C f_hx_Prog_emit_19_2 rfl ?_
    refine h_geti C e_hx_Prog_emit_21 fg_Prog_45 h_o rfl rfl rfl (A 2 o 3) rfl ?_
    refine h_blk 26 [(0, vr 2 o), (1, vi a0)] [vi ((A 2 o 3) + 1), vr 2 o] C f_hx_Prog_emit_24_2 rfl ?_
    refine h_puti C e_hx_Prog_emit_26 fp_Prog_45 h_o rfl rfl rfl ?_
    exact h_vret C Rm E e_hx_Prog_emit_29 (fin0 h)

def f_Prog_addLot (A : mA) (o : Nat) (a0 : Int) (a1 : Int) : Option (Int × mA) := (if g32 (A 2 o 6) then if g32 ((60 : Nat) : Int) then (if ((60 : Nat) : Int) ≤ (A 2 o 6) then (some (0, A)) else (if ((60 : Nat) : Int) ≤ (A 2 o 6) then (some (0, A)) else (if (0 ≤ (A 2 o 6) ∧ (A 2 o 6) < ((60 : Nat) : Int)) then (some (0, (mu (mu (mu A 27 ((A 2 o 4).toNat) ((A 2 o 6).toNat) a0) 27 ((A 2 o 5).toNat) ((A 2 o 6).toNat) a1) 2 o 6 ((A 2 o 6) + 1)))) else none))) else none else none)
theorem f_hx_Prog_addLot_0_1 : mblkB b_Prog_addLot [(0, .aload_n 0, vi 0)] = true := by decide +kernel
theorem e_hx_Prog_addLot_1 : decode b_Prog_addLot 1 = .ok (.getfield 48, 3) := by decide +kernel
theorem f_hx_Prog_addLot_4_1 : mblkB b_Prog_addLot [(4, .aload_n 0, vi 0)] = true := by decide +kernel
theorem e_hx_Prog_addLot_5 : decode b_Prog_addLot 5 = .ok (.getfield 21, 3) := by decide +kernel
theorem e_hx_Prog_addLot_8 : decode b_Prog_addLot 8 = .ok (.arraylength, 1) := by decide +kernel
theorem e_hx_Prog_addLot_9 : decode b_Prog_addLot 9 = .ok (.if_icmp .ge 45, 3) := by decide +kernel
theorem e_hx_Prog_addLot_54 : decode b_Prog_addLot 54 = .ok (.return_, 1) := by decide +kernel
theorem f_hx_Prog_addLot_12_1 : mblkB b_Prog_addLot [(12, .aload_n 0, vi 0)] = true := by decide +kernel
theorem e_hx_Prog_addLot_13 : decode b_Prog_addLot 13 = .ok (.getfield 48, 3) := by decide +kernel
theorem f_hx_Prog_addLot_16_1 : mblkB b_Prog_addLot [(16, .aload_n 0, vi 0)] = true := by decide +kernel
theorem e_hx_Prog_addLot_17 : decode b_Prog_addLot 17 = .ok (.getfield 24, 3) := by decide +kernel
theorem e_hx_Prog_addLot_20 : decode b_Prog_addLot 20 = .ok (.arraylength, 1) := by decide +kernel
theorem e_hx_Prog_addLot_21 : decode b_Prog_addLot 21 = .ok (.if_icmp .ge 33, 3) := by decide +kernel
theorem f_hx_Prog_addLot_24_1 : mblkB b_Prog_addLot [(24, .aload_n 0, vi 0)] = true := by decide +kernel
theorem e_hx_Prog_addLot_25 : decode b_Prog_addLot 25 = .ok (.getfield 21, 3) := by decide +kernel
theorem f_hx_Prog_addLot_28_1 : mblkB b_Prog_addLot [(28, .aload_n 0, vi 0)] = true := by decide +kernel
theorem e_hx_Prog_addLot_29 : decode b_Prog_addLot 29 = .ok (.getfield 48, 3) := by decide +kernel
theorem f_hx_Prog_addLot_32_1 : mblkB b_Prog_addLot [(32, .iload_n 1, vi 0)] = true := by decide +kernel
theorem e_hx_Prog_addLot_33 : decode b_Prog_addLot 33 = .ok (.iastore, 1) := by decide +kernel
theorem f_hx_Prog_addLot_34_1 : mblkB b_Prog_addLot [(34, .aload_n 0, vi 0)] = true := by decide +kernel
theorem e_hx_Prog_addLot_35 : decode b_Prog_addLot 35 = .ok (.getfield 24, 3) := by decide +kernel
theorem f_hx_Prog_addLot_38_1 : mblkB b_Prog_addLot [(38, .aload_n 0, vi 0)] = true := by decide +kernel
theorem e_hx_Prog_addLot_39 : decode b_Prog_addLot 39 = .ok (.getfield 48, 3) := by decide +kernel
theorem f_hx_Prog_addLot_42_1 : mblkB b_Prog_addLot [(42, .iload_n 2, vi 0)] = true := by decide +kernel
theorem e_hx_Prog_addLot_43 : decode b_Prog_addLot 43 = .ok (.iastore, 1) := by decide +kernel
theorem f_hx_Prog_addLot_44_2 : mblkB b_Prog_addLot [(44, .aload_n 0, vi 0), (45, .dup, vi 0)] = true := by decide +kernel
theorem e_hx_Prog_addLot_46 : decode b_Prog_addLot 46 = .ok (.getfield 48, 3) := by decide +kernel
theorem f_hx_Prog_addLot_49_2 : mblkB b_Prog_addLot [(49, .iconst 1, vi 1), (50, .iadd, vi 0)] = true := by decide +kernel
theorem e_hx_Prog_addLot_51 : decode b_Prog_addLot 51 = .ok (.putfield 48, 3) := by decide +kernel
set_option maxHeartbeats 4000000 in
set_option maxRecDepth 20000 in
theorem hx_Prog_addLot  : ∀ (l : Launch) (D : va_G) (B : Nat) (H0 : Heap) (G : tG) (A : mA) (o : Nat) (a0 : Int) (a1 : Int) (h_o : G o = some 2)  (r9 : Int) (A9 : mA), f_Prog_addLot  A o a0 a1 = some (r9, A9) → hMet l D B H0 G y_Prog_addLot b_Prog_addLot 3 none 0 0 [vr 2 o, vi a0, vi a1] A (fun v A' => v = none ∧ A' = A9) := by
  intro l D B H0 G A o a0 a1 h_o r9 A9 h
  refine h_met (by decide) rfl (fun g q C Rm Y E => ?_)
  show HM g D G q A 0 [(0, vr 2 o), (1, vi a0), (2, vi a1)] []
  unfold f_Prog_addLot at h
  refine h_blk 1 [(0, vr 2 o), (1, vi a0), (2, vi a1)] [vr 2 o] C f_hx_Prog_addLot_0_1 rfl ?_
  refine h_geti C e_hx_Prog_addLot_1 fg_Prog_48 h_o rfl rfl rfl (A 2 o 6) rfl ?_
  refine h_blk 5 [(0, vr 2 o), (1, vi a0), (2, vi a1)] [vr 2 o, vi (A 2 o 6)] C f_hx_Prog_addLot_4_1 rfl ?_
  refine h_getr4 C e_hx_Prog_addLot_5 fg_Prog_21 h_o rfl rfl rfl rfl (fun g1 => ?_)
  refine h_alen C e_hx_Prog_addLot_8 g1 rfl rfl ?_
  obtain ⟨c2, h⟩ := igd h
  obtain ⟨c3, h⟩ := igd h
  refine h_icmp_ge (tgt := 54) C e_hx_Prog_addLot_9 (by decide) c2 c3 (fun c4 => ?_) (fun c4 => ?_)
  · have h := ifp c4 h
    exact h_vret C Rm E e_hx_Prog_addLot_54 (fin0 h)
  · have h := ifn c4 h
    refine h_blk 13 [(0, vr 2 o), (1, vi a0), (2, vi a1)] [vr 2 o] C f_hx_Prog_addLot_12_1 rfl ?_
    refine h_geti C e_hx_Prog_addLot_13 fg_Prog_48 h_o rfl rfl rfl (A 2 o 6) rfl ?_
    refine h_blk 17 [(0, vr 2 o), (1, vi a0), (2, vi a1)] [vr 2 o, vi (A 2 o 6)] C f_hx_Prog_addLot_16_1 rfl ?_
    refine h_getr4 C e_hx_Prog_addLot_17 fg_Prog_24 h_o rfl rfl rfl rfl (fun g5 => ?_)
    refine h_alen C e_hx_Prog_addLot_20 g5 rfl rfl ?_
    refine h_icmp_ge (tgt := 54) C e_hx_Prog_addLot_21 (by decide) c2 c3 (fun c6 => ?_) (fun c6 => ?_)
    · have h := ifp c6 h
      exact h_vret C Rm E e_hx_Prog_addLot_54 (fin0 h)
    · have h := ifn c6 h
      refine h_blk 25 [(0, vr 2 o), (1, vi a0), (2, vi a1)] [vr 2 o] C f_hx_Prog_addLot_24_1 rfl ?_
      refine h_getr4 C e_hx_Prog_addLot_25 fg_Prog_21 h_o rfl rfl rfl rfl (fun g7 => ?_)
      refine h_blk 29 [(0, vr 2 o), (1, vi a0), (2, vi a1)] [vr 2 o, vr 27 ((A 2 o 4).toNat)] C f_hx_Prog_addLot_28_1 rfl ?_
      refine h_geti C e_hx_Prog_addLot_29 fg_Prog_48 h_o rfl rfl rfl (A 2 o 6) rfl ?_
      refine h_blk 33 [(0, vr 2 o), (1, vi a0), (2, vi a1)] [vi a0, vi (A 2 o 6), vr 27 ((A 2 o 4).toNat)] C f_hx_Prog_addLot_32_1 rfl ?_
      obtain ⟨c8, h⟩ := igd h
      refine h_iast C e_hx_Prog_addLot_33 g7 rfl rfl (by decide) c8.1 c8.2 ?_
      refine h_blk 35 [(0, vr 2 o), (1, vi a0), (2, vi a1)] [vr 2 o] C f_hx_Prog_addLot_34_1 rfl ?_
      refine h_getr4 C e_hx_Prog_addLot_35 fg_Prog_24 h_o rfl rfl rfl rfl (fun g9 => ?_)
      refine h_blk 39 [(0, vr 2 o), (1, vi a0), (2, vi a1)] [vr 2 o, vr 27 ((A 2 o 5).toNat)] C f_hx_Prog_addLot_38_1 rfl ?_
      refine h_geti C e_hx_Prog_addLot_39 fg_Prog_48 h_o rfl rfl rfl (A 2 o 6) rfl ?_
      refine h_blk 43 [(0, vr 2 o), (1, vi a0), (2, vi a1)] [vi a1, vi (A 2 o 6), vr 27 ((A 2 o 5).toNat)] C f_hx_Prog_addLot_42_1 rfl ?_
      refine h_iast C e_hx_Prog_addLot_43 g9 rfl rfl (by decide) c8.1 c8.2 ?_
      refine h_blk 46 [(0, vr 2 o), (1, vi a0), (2, vi a1)] [vr 2 o, vr 2 o] C f_hx_Prog_addLot_44_2 rfl ?_
      refine h_geti C e_hx_Prog_addLot_46 fg_Prog_48 h_o rfl rfl rfl (A 2 o 6) rfl ?_
      refine h_blk 51 [(0, vr 2 o), (1, vi a0), (2, vi a1)] [vi ((A 2 o 6) + 1), vr 2 o] C f_hx_Prog_addLot_49_2 rfl ?_
      refine h_puti C e_hx_Prog_addLot_51 fp_Prog_48 h_o rfl rfl rfl ?_
      exact h_vret C Rm E e_hx_Prog_addLot_54 (fin0 h)

def f_Prog_behind (A : mA) (o : Nat) (a0 : Int) : Option (Int × mA) := (Option.bind (f_Prog_stepAt A o a0) (fun q1 => (if g32 (q1.2 6 q1.1.toNat 3) then (some ((a0 + (max 1 (q1.2 6 q1.1.toNat 3))), q1.2)) else none)))
theorem f_hx_Prog_behind_0_4 : mblkB b_Prog_behind [(0, .iload_n 1, vi 0), (1, .iconst 1, vi 1), (2, .aload_n 0, vi 0), (3, .iload_n 1, vi 0)] = true := by decide +kernel
theorem e_hx_Prog_behind_4 : decode b_Prog_behind 4 = .ok (.invokevirtual 54, 3) := by decide +kernel
theorem e_hx_Prog_behind_7 : decode b_Prog_behind 7 = .ok (.getfield 65, 3) := by decide +kernel
theorem e_hx_Prog_behind_10 : decode b_Prog_behind 10 = .ok (.invokestatic 68, 3) := by decide +kernel
theorem f_hx_Prog_behind_13_1 : mblkB b_Prog_behind [(13, .iadd, vi 0)] = true := by decide +kernel
theorem e_hx_Prog_behind_14 : decode b_Prog_behind 14 = .ok (.ireturn, 1) := by decide +kernel
set_option maxHeartbeats 4000000 in
set_option maxRecDepth 20000 in
theorem hx_Prog_behind  : ∀ (l : Launch) (D : va_G) (B : Nat) (H0 : Heap) (G : tG) (A : mA) (o : Nat) (a0 : Int) (h_o : G o = some 2)  (r9 : Int) (A9 : mA), f_Prog_behind  A o a0 = some (r9, A9) → hMet l D B H0 G y_Prog_behind b_Prog_behind 2 (some .int) 1 40 [vr 2 o, vi a0] A (fun v A' => v = some (vi r9) ∧ A' = A9) := by
  intro l D B H0 G A o a0 h_o r9 A9 h
  refine h_met (by decide) rfl (fun g q C Rm Y E => ?_)
  show HM g D G q A 0 [(0, vr 2 o), (1, vi a0)] []
  unfold f_Prog_behind at h
  refine h_blk 4 [(0, vr 2 o), (1, vi a0)] [vi a0, vr 2 o, vi 1, vi a0] C f_hx_Prog_behind_0_4 rfl ?_
  obtain ⟨q1, e2, h⟩ := obd h
  refine h_callV C Rm Y [vi a0] [vi 1, vi a0] (hx_Prog_stepAt l D B H0 G _ o a0 h_o _ _ e2) cl_Prog_54 h_o rfl rfl rfl e_hx_Prog_behind_4 rfl rfl rfl ⟨by decide, by decide⟩ ?_
  rintro _ _ ⟨rfl, rfl, g3⟩
  show HM g D G q q1.2 7 [(0, vr 2 o), (1, vi a0)] [vr 6 q1.1.toNat, vi 1, vi a0]
  refine h_geti C e_hx_Prog_behind_7 fg_Prog_65 g3 rfl rfl rfl (q1.2 6 q1.1.toNat 3) rfl ?_
  obtain ⟨c4, h⟩ := igd h
  refine h_mmax C Rm cl_Prog_68 e_hx_Prog_behind_10 (by decide) (Nat.le_of_ble_eq_true rfl) (by decide) c4 (fun z5 hz5 => ?_)
  obtain rfl : z5 = max 1 (q1.2 6 q1.1.toNat 3) := by omega
  refine h_blk 14 [(0, vr 2 o), (1, vi a0)] [vi (a0 + (max 1 (q1.2 6 q1.1.toNat 3)))] C f_hx_Prog_behind_13_1 rfl ?_
  exact h_iret C Rm E e_hx_Prog_behind_14 (fin1 h)

def f_Read_isSign (A : mA) (o : Nat) (a0 : Int) : Option (Int × mA) := (if g32 (A 3 o 7) then (if (A 3 o 7) = 4 then (if g32 (A 3 o 8) then if g32 a0 then (if (A 3 o 8) = a0 then (some (1, A)) else (some (0, A))) else none else none) else (some (0, A))) else none)
theorem f_hx_Read_isSign_0_1 : mblkB b_Read_isSign [(0, .aload_n 0, vi 0)] = true := by decide +kernel
theorem e_hx_Read_isSign_1 : decode b_Read_isSign 1 = .ok (.getfield 50, 3) := by decide +kernel
theorem f_hx_Read_isSign_4_1 : mblkB b_Read_isSign [(4, .iconst 4, vi 4)] = true := by decide +kernel
theorem e_hx_Read_isSign_5 : decode b_Read_isSign 5 = .ok (.if_icmp .ne 15, 3) := by decide +kernel
theorem f_hx_Read_isSign_20_1 : mblkB b_Read_isSign [(20, .iconst 0, vi 0)] = true := by decide +kernel
theorem e_hx_Read_isSign_21 : decode b_Read_isSign 21 = .ok (.ireturn, 1) := by decide +kernel
theorem f_hx_Read_isSign_8_1 : mblkB b_Read_isSign [(8, .aload_n 0, vi 0)] = true := by decide +kernel
theorem e_hx_Read_isSign_9 : decode b_Read_isSign 9 = .ok (.getfield 64, 3) := by decide +kernel
theorem f_hx_Read_isSign_12_1 : mblkB b_Read_isSign [(12, .iload_n 1, vi 0)] = true := by decide +kernel
theorem e_hx_Read_isSign_13 : decode b_Read_isSign 13 = .ok (.if_icmp .ne 7, 3) := by decide +kernel
theorem f_hx_Read_isSign_16_2 : mblkB b_Read_isSign [(16, .iconst 1, vi 1), (17, .goto 4, vi 21)] = true := by decide +kernel
set_option maxHeartbeats 4000000 in
set_option maxRecDepth 20000 in
theorem hx_Read_isSign  : ∀ (l : Launch) (D : va_G) (B : Nat) (H0 : Heap) (G : tG) (A : mA) (o : Nat) (a0 : Int) (h_o : G o = some 3)  (r9 : Int) (A9 : mA), f_Read_isSign  A o a0 = some (r9, A9) → hMet l D B H0 G y_Read_isSign b_Read_isSign 2 (some .boolean) 0 0 [vr 3 o, vi a0] A (fun v A' => v = some (vi r9) ∧ A' = A9) := by
  intro l D B H0 G A o a0 h_o r9 A9 h
  refine h_met (by decide) rfl (fun g q C Rm Y E => ?_)
  show HM g D G q A 0 [(0, vr 3 o), (1, vi a0)] []
  unfold f_Read_isSign at h
  refine h_blk 1 [(0, vr 3 o), (1, vi a0)] [vr 3 o] C f_hx_Read_isSign_0_1 rfl ?_
  refine h_geti C e_hx_Read_isSign_1 fg_Read_50 h_o rfl rfl rfl (A 3 o 7) rfl ?_
  refine h_blk 5 [(0, vr 3 o), (1, vi a0)] [vi 4, vi (A 3 o 7)] C f_hx_Read_isSign_4_1 rfl ?_
  obtain ⟨c1, h⟩ := igd h
  refine h_icmp_ne (tgt := 20) C e_hx_Read_isSign_5 (by decide) c1 (by decide) (fun c2 => ?_) (fun c2 => ?_)
  · have h := ifn c2 h
    refine h_blk 21 [(0, vr 3 o), (1, vi a0)] [vi 0] C f_hx_Read_isSign_20_1 rfl ?_
    exact h_zret C Rm E (Or.inl rfl) e_hx_Read_isSign_21 (fin1 h)
  · have h := ifp c2 h
    refine h_blk 9 [(0, vr 3 o), (1, vi a0)] [vr 3 o] C f_hx_Read_isSign_8_1 rfl ?_
    refine h_geti C e_hx_Read_isSign_9 fg_Read_64 h_o rfl rfl rfl (A 3 o 8) rfl ?_
    refine h_blk 13 [(0, vr 3 o), (1, vi a0)] [vi a0, vi (A 3 o 8)] C f_hx_Read_isSign_12_1 rfl ?_
    obtain ⟨c3, h⟩ := igd h
    obtain ⟨c4, h⟩ := igd h
    refine h_icmp_ne (tgt := 20) C e_hx_Read_isSign_13 (by decide) c3 c4 (fun c5 => ?_) (fun c5 => ?_)
    · have h := ifn c5 h
      refine h_blk 21 [(0, vr 3 o), (1, vi a0)] [vi 0] C f_hx_Read_isSign_20_1 rfl ?_
      exact h_zret C Rm E (Or.inl rfl) e_hx_Read_isSign_21 (fin1 h)
    · have h := ifp c5 h
      refine h_blk 21 [(0, vr 3 o), (1, vi a0)] [vi 1] C f_hx_Read_isSign_16_2 rfl ?_
      exact h_zret C Rm E (Or.inr rfl) e_hx_Read_isSign_21 (fin1 h)

def f_Read_byteAt (A : mA) (o : Nat) (a0 : Int) : Option (Int × mA) := (if g32 a0 then (if a0 < 0 then (some ((-1), A)) else (if g32 (A 3 o 1) then (if (A 3 o 1) ≤ a0 then (some ((-1), A)) else (if 0 ≤ (A 3 o 0) then (if (0 ≤ a0 ∧ a0 < ((120 : Nat) : Int)) then (some ((A 20 ((A 3 o 0).toNat) a0.toNat), A)) else none) else none)) else none)) else none)
theorem f_hx_Read_byteAt_0_1 : mblkB b_Read_byteAt [(0, .iload_n 1, vi 0)] = true := by decide +kernel
theorem e_hx_Read_byteAt_1 : decode b_Read_byteAt 1 = .ok (.ifCond .lt 20, 3) := by decide +kernel
theorem f_hx_Read_byteAt_21_1 : mblkB b_Read_byteAt [(21, .iconst (-1), vi (-1))] = true := by decide +kernel
theorem e_hx_Read_byteAt_22 : decode b_Read_byteAt 22 = .ok (.ireturn, 1) := by decide +kernel
theorem f_hx_Read_byteAt_4_2 : mblkB b_Read_byteAt [(4, .iload_n 1, vi 0), (5, .aload_n 0, vi 0)] = true := by decide +kernel
theorem e_hx_Read_byteAt_6 : decode b_Read_byteAt 6 = .ok (.getfield 21, 3) := by decide +kernel
theorem e_hx_Read_byteAt_9 : decode b_Read_byteAt 9 = .ok (.if_icmp .ge 12, 3) := by decide +kernel
theorem f_hx_Read_byteAt_12_1 : mblkB b_Read_byteAt [(12, .aload_n 0, vi 0)] = true := by decide +kernel
theorem e_hx_Read_byteAt_13 : decode b_Read_byteAt 13 = .ok (.getfield 9, 3) := by decide +kernel
theorem f_hx_Read_byteAt_16_1 : mblkB b_Read_byteAt [(16, .iload_n 1, vi 0)] = true := by decide +kernel
theorem e_hx_Read_byteAt_17 : decode b_Read_byteAt 17 = .ok (.iaload, 1) := by decide +kernel
theorem f_hx_Read_byteAt_18_1 : mblkB b_Read_byteAt [(18, .goto 4, vi 22)] = true := by decide +kernel
set_option maxHeartbeats 4000000 in
set_option maxRecDepth 20000 in
theorem hx_Read_byteAt  : ∀ (l : Launch) (D : va_G) (B : Nat) (H0 : Heap) (G : tG) (A : mA) (o : Nat) (a0 : Int) (h_o : G o = some 3)  (r9 : Int) (A9 : mA), f_Read_byteAt  A o a0 = some (r9, A9) → hMet l D B H0 G y_Read_byteAt b_Read_byteAt 2 (some .int) 0 0 [vr 3 o, vi a0] A (fun v A' => v = some (vi r9) ∧ A' = A9) := by
  intro l D B H0 G A o a0 h_o r9 A9 h
  refine h_met (by decide) rfl (fun g q C Rm Y E => ?_)
  show HM g D G q A 0 [(0, vr 3 o), (1, vi a0)] []
  unfold f_Read_byteAt at h
  refine h_blk 1 [(0, vr 3 o), (1, vi a0)] [vi a0] C f_hx_Read_byteAt_0_1 rfl ?_
  obtain ⟨c1, h⟩ := igd h
  refine h_if_lt (tgt := 21) C e_hx_Read_byteAt_1 (by decide) c1 (fun c2 => ?_) (fun c2 => ?_)
  · have h := ifp c2 h
    refine h_blk 22 [(0, vr 3 o), (1, vi a0)] [vi (-1)] C f_hx_Read_byteAt_21_1 rfl ?_
    exact h_iret C Rm E e_hx_Read_byteAt_22 (fin1 h)
  · have h := ifn c2 h
    refine h_blk 6 [(0, vr 3 o), (1, vi a0)] [vr 3 o, vi a0] C f_hx_Read_byteAt_4_2 rfl ?_
    refine h_geti C e_hx_Read_byteAt_6 fg_Read_21 h_o rfl rfl rfl (A 3 o 1) rfl ?_
    obtain ⟨c3, h⟩ := igd h
    refine h_icmp_ge (tgt := 21) C e_hx_Read_byteAt_9 (by decide) c1 c3 (fun c4 => ?_) (fun c4 => ?_)
    · have h := ifp c4 h
      refine h_blk 22 [(0, vr 3 o), (1, vi a0)] [vi (-1)] C f_hx_Read_byteAt_21_1 rfl ?_
      exact h_iret C Rm E e_hx_Read_byteAt_22 (fin1 h)
    · have h := ifn c4 h
      refine h_blk 13 [(0, vr 3 o), (1, vi a0)] [vr 3 o] C f_hx_Read_byteAt_12_1 rfl ?_
      obtain ⟨c5, h⟩ := igd h
      refine h_getr5 C e_hx_Read_byteAt_13 fg_Read_9 h_o rfl rfl rfl rfl c5 (fun g6 => ?_)
      refine h_blk 17 [(0, vr 3 o), (1, vi a0)] [vi a0, vr 20 ((A 3 o 0).toNat)] C f_hx_Read_byteAt_16_1 rfl ?_
      obtain ⟨c7, h⟩ := igd h
      refine h_iald C e_hx_Read_byteAt_17 g6 rfl rfl (by decide) c7.1 c7.2 (A 20 ((A 3 o 0).toNat) a0.toNat) rfl ?_
      refine h_blk 22 [(0, vr 3 o), (1, vi a0)] [vi (A 20 ((A 3 o 0).toNat) a0.toNat)] C f_hx_Read_byteAt_18_1 rfl ?_
      exact h_iret C Rm E e_hx_Read_byteAt_22 (fin1 h)

def f_Read_isLetter (A : mA) (a0 : Int) : Option (Int × mA) := (if g32 a0 then (if a0 < 97 then (some (0, A)) else (if 122 < a0 then (some (0, A)) else (some (1, A)))) else none)
theorem f_hx_Read_isLetter_0_2 : mblkB b_Read_isLetter [(0, .iload_n 0, vi 0), (1, .bipush 97, vi 97)] = true := by decide +kernel
theorem e_hx_Read_isLetter_3 : decode b_Read_isLetter 3 = .ok (.if_icmp .lt 13, 3) := by decide +kernel
theorem f_hx_Read_isLetter_16_1 : mblkB b_Read_isLetter [(16, .iconst 0, vi 0)] = true := by decide +kernel
theorem e_hx_Read_isLetter_17 : decode b_Read_isLetter 17 = .ok (.ireturn, 1) := by decide +kernel
theorem f_hx_Read_isLetter_6_2 : mblkB b_Read_isLetter [(6, .iload_n 0, vi 0), (7, .bipush 122, vi 122)] = true := by decide +kernel
theorem e_hx_Read_isLetter_9 : decode b_Read_isLetter 9 = .ok (.if_icmp .gt 7, 3) := by decide +kernel
theorem f_hx_Read_isLetter_12_2 : mblkB b_Read_isLetter [(12, .iconst 1, vi 1), (13, .goto 4, vi 17)] = true := by decide +kernel
set_option maxHeartbeats 4000000 in
set_option maxRecDepth 20000 in
theorem hx_Read_isLetter  : ∀ (l : Launch) (D : va_G) (B : Nat) (H0 : Heap) (G : tG) (A : mA) (a0 : Int)  (r9 : Int) (A9 : mA), f_Read_isLetter  A a0 = some (r9, A9) → hMet l D B H0 G y_Read_isLetter b_Read_isLetter 1 (some .boolean) 0 0 [vi a0] A (fun v A' => v = some (vi r9) ∧ A' = A9) := by
  intro l D B H0 G A a0  r9 A9 h
  refine h_met (by decide) rfl (fun g q C Rm Y E => ?_)
  show HM g D G q A 0 [(0, vi a0)] []
  unfold f_Read_isLetter at h
  refine h_blk 3 [(0, vi a0)] [vi 97, vi a0] C f_hx_Read_isLetter_0_2 rfl ?_
  obtain ⟨c1, h⟩ := igd h
  refine h_icmp_lt (tgt := 16) C e_hx_Read_isLetter_3 (by decide) c1 (by decide) (fun c2 => ?_) (fun c2 => ?_)
  · have h := ifp c2 h
    refine h_blk 17 [(0, vi a0)] [vi 0] C f_hx_Read_isLetter_16_1 rfl ?_
    exact h_zret C Rm E (Or.inl rfl) e_hx_Read_isLetter_17 (fin1 h)
  · have h := ifn c2 h
    refine h_blk 9 [(0, vi a0)] [vi 122, vi a0] C f_hx_Read_isLetter_6_2 rfl ?_
    refine h_icmp_gt (tgt := 16) C e_hx_Read_isLetter_9 (by decide) c1 (by decide) (fun c3 => ?_) (fun c3 => ?_)
    · have h := ifp c3 h
      refine h_blk 17 [(0, vi a0)] [vi 0] C f_hx_Read_isLetter_16_1 rfl ?_
      exact h_zret C Rm E (Or.inl rfl) e_hx_Read_isLetter_17 (fin1 h)
    · have h := ifn c3 h
      refine h_blk 17 [(0, vi a0)] [vi 1] C f_hx_Read_isLetter_12_2 rfl ?_
      exact h_zret C Rm E (Or.inr rfl) e_hx_Read_isLetter_17 (fin1 h)

def f_Read_isDigit (A : mA) (a0 : Int) : Option (Int × mA) := (if g32 a0 then (if a0 < 48 then (some (0, A)) else (if 57 < a0 then (some (0, A)) else (some (1, A)))) else none)
theorem f_hx_Read_isDigit_0_2 : mblkB b_Read_isDigit [(0, .iload_n 0, vi 0), (1, .bipush 48, vi 48)] = true := by decide +kernel
theorem e_hx_Read_isDigit_3 : decode b_Read_isDigit 3 = .ok (.if_icmp .lt 13, 3) := by decide +kernel
theorem f_hx_Read_isDigit_16_1 : mblkB b_Read_isDigit [(16, .iconst 0, vi 0)] = true := by decide +kernel
theorem e_hx_Read_isDigit_17 : decode b_Read_isDigit 17 = .ok (.ireturn, 1) := by decide +kernel
theorem f_hx_Read_isDigit_6_2 : mblkB b_Read_isDigit [(6, .iload_n 0, vi 0), (7, .bipush 57, vi 57)] = true := by decide +kernel
theorem e_hx_Read_isDigit_9 : decode b_Read_isDigit 9 = .ok (.if_icmp .gt 7, 3) := by decide +kernel
theorem f_hx_Read_isDigit_12_2 : mblkB b_Read_isDigit [(12, .iconst 1, vi 1), (13, .goto 4, vi 17)] = true := by decide +kernel
set_option maxHeartbeats 4000000 in
set_option maxRecDepth 20000 in
theorem hx_Read_isDigit  : ∀ (l : Launch) (D : va_G) (B : Nat) (H0 : Heap) (G : tG) (A : mA) (a0 : Int)  (r9 : Int) (A9 : mA), f_Read_isDigit  A a0 = some (r9, A9) → hMet l D B H0 G y_Read_isDigit b_Read_isDigit 1 (some .boolean) 0 0 [vi a0] A (fun v A' => v = some (vi r9) ∧ A' = A9) := by
  intro l D B H0 G A a0  r9 A9 h
  refine h_met (by decide) rfl (fun g q C Rm Y E => ?_)
  show HM g D G q A 0 [(0, vi a0)] []
  unfold f_Read_isDigit at h
  refine h_blk 3 [(0, vi a0)] [vi 48, vi a0] C f_hx_Read_isDigit_0_2 rfl ?_
  obtain ⟨c1, h⟩ := igd h
  refine h_icmp_lt (tgt := 16) C e_hx_Read_isDigit_3 (by decide) c1 (by decide) (fun c2 => ?_) (fun c2 => ?_)
  · have h := ifp c2 h
    refine h_blk 17 [(0, vi a0)] [vi 0] C f_hx_Read_isDigit_16_1 rfl ?_
    exact h_zret C Rm E (Or.inl rfl) e_hx_Read_isDigit_17 (fin1 h)
  · have h := ifn c2 h
    refine h_blk 9 [(0, vi a0)] [vi 57, vi a0] C f_hx_Read_isDigit_6_2 rfl ?_
    refine h_icmp_gt (tgt := 16) C e_hx_Read_isDigit_9 (by decide) c1 (by decide) (fun c3 => ?_) (fun c3 => ?_)
    · have h := ifp c3 h
      refine h_blk 17 [(0, vi a0)] [vi 0] C f_hx_Read_isDigit_16_1 rfl ?_
      exact h_zret C Rm E (Or.inl rfl) e_hx_Read_isDigit_17 (fin1 h)
    · have h := ifn c3 h
      refine h_blk 17 [(0, vi a0)] [vi 1] C f_hx_Read_isDigit_12_2 rfl ?_
      exact h_zret C Rm E (Or.inr rfl) e_hx_Read_isDigit_17 (fin1 h)

def f_Read_takeWord_91 : Nat → mA → Nat → Int → Option (Int × mA)
  | 0, _, _, _ => none
  | n + 1, A, b0, b1 => (if g32 b1 then (if 5 < b1 then (some (0, A)) else (if (0 ≤ b1 ∧ b1 ≤ 5) then (if kSpG A b0 then (if g32 (if kSpelt (A 20 (A 3 b0 0).toNat) b1.toNat (A 3 b0 6) (A 3 b0 4) (A 3 b0 1) = true then (1 : Int) else 0) then (if (if kSpelt (A 20 (A 3 b0 0).toNat) b1.toNat (A 3 b0 6) (A 3 b0 4) (A 3 b0 1) = true then (1 : Int) else 0) = 0 then (f_Read_takeWord_91  n A b0 (b1 + 1)) else (f_Read_takeWord_91  n (mu (mu A 3 b0 7 2) 3 b0 8 b1) b0 (b1 + 1))) else none) else none) else none)) else none)
def f_Read_takeWord_0 : Nat → mA → Nat → Option (Int × mA)
  | 0, _, _ => none
  | n + 1, A, b0 => (if g32 (A 3 b0 4) then if g32 (A 3 b0 1) then (if (A 3 b0 1) ≤ (A 3 b0 4) then (if g32 ((A 3 b0 4) - (A 3 b0 6)) then (if ((A 3 b0 4) - (A 3 b0 6)) = 1 then (Option.bind (f_Read_byteAt (mu A 3 b0 7 5) b0 (A 3 b0 6)) (fun q12 => (if g32 q12.1 then (if 102 < q12.1 then (f_Read_takeWord_91  20 q12.2 b0 0) else (Option.bind (f_Read_byteAt (mu q12.2 3 b0 7 1) b0 (q12.2 3 b0 6)) (fun q16 => (f_Read_takeWord_91  20 (mu q16.2 3 b0 8 (q16.1 - 97)) b0 0)))) else none))) else (f_Read_takeWord_91  20 (mu A 3 b0 7 5) b0 0)) else none) else (Option.bind (f_Read_byteAt A b0 (A 3 b0 4)) (fun q18 => (Option.bind (f_Read_isLetter q18.2 q18.1) (fun q20 => (if g32 q20.1 then (if q20.1 = 0 then (if g32 ((q20.2 3 b0 4) - (q20.2 3 b0 6)) then (if ((q20.2 3 b0 4) - (q20.2 3 b0 6)) = 1 then (Option.bind (f_Read_byteAt (mu q20.2 3 b0 7 5) b0 (q20.2 3 b0 6)) (fun q26 => (if g32 q26.1 then (if 102 < q26.1 then (f_Read_takeWord_91  20 q26.2 b0 0) else (Option.bind (f_Read_byteAt (mu q26.2 3 b0 7 1) b0 (q26.2 3 b0 6)) (fun q30 => (f_Read_takeWord_91  20 (mu q30.2 3 b0 8 (q30.1 - 97)) b0 0)))) else none))) else (f_Read_takeWord_91  20 (mu q20.2 3 b0 7 5) b0 0)) else none) else (f_Read_takeWord_0  n (mu q20.2 3 b0 4 ((q20.2 3 b0 4) + 1)) b0)) else none)))))) else none else none)
def f_Read_takeWord (A : mA) (o : Nat) : Option (Int × mA) := (f_Read_takeWord_0  200 A o)
theorem f_hx_Read_takeWord_0_1 : mblkB b_Read_takeWord [(0, .aload_n 0, vi 0)] = true := by decide +kernel
theorem e_hx_Read_takeWord_1 : decode b_Read_takeWord 1 = .ok (.getfield 37, 3) := by decide +kernel
theorem f_hx_Read_takeWord_4_1 : mblkB b_Read_takeWord [(4, .aload_n 0, vi 0)] = true := by decide +kernel
theorem e_hx_Read_takeWord_5 : decode b_Read_takeWord 5 = .ok (.getfield 21, 3) := by decide +kernel
theorem e_hx_Read_takeWord_8 : decode b_Read_takeWord 8 = .ok (.if_icmp .ge 30, 3) := by decide +kernel
theorem f_hx_Read_takeWord_38_2 : mblkB b_Read_takeWord [(38, .aload_n 0, vi 0), (39, .iconst 5, vi 5)] = true := by decide +kernel
theorem e_hx_Read_takeWord_40 : decode b_Read_takeWord 40 = .ok (.putfield 50, 3) := by decide +kernel
theorem f_hx_Read_takeWord_43_1 : mblkB b_Read_takeWord [(43, .aload_n 0, vi 0)] = true := by decide +kernel
theorem e_hx_Read_takeWord_44 : decode b_Read_takeWord 44 = .ok (.getfield 37, 3) := by decide +kernel
theorem f_hx_Read_takeWord_47_1 : mblkB b_Read_takeWord [(47, .aload_n 0, vi 0)] = true := by decide +kernel
theorem e_hx_Read_takeWord_48 : decode b_Read_takeWord 48 = .ok (.getfield 53, 3) := by decide +kernel
theorem f_hx_Read_takeWord_51_2 : mblkB b_Read_takeWord [(51, .isub, vi 0), (52, .iconst 1, vi 1)] = true := by decide +kernel
theorem e_hx_Read_takeWord_53 : decode b_Read_takeWord 53 = .ok (.if_icmp .ne 36, 3) := by decide +kernel
theorem f_hx_Read_takeWord_89_2 : mblkB b_Read_takeWord [(89, .iconst 0, vi 0), (90, .istore_n 1, vi 0)] = true := by decide +kernel
theorem f_hx_Read_takeWord_56_2 : mblkB b_Read_takeWord [(56, .aload_n 0, vi 0), (57, .aload_n 0, vi 0)] = true := by decide +kernel
theorem e_hx_Read_takeWord_58 : decode b_Read_takeWord 58 = .ok (.getfield 53, 3) := by decide +kernel
theorem e_hx_Read_takeWord_61 : decode b_Read_takeWord 61 = .ok (.invokevirtual 156, 3) := by decide +kernel
theorem f_hx_Read_takeWord_64_1 : mblkB b_Read_takeWord [(64, .bipush 102, vi 102)] = true := by decide +kernel
theorem e_hx_Read_takeWord_66 : decode b_Read_takeWord 66 = .ok (.if_icmp .gt 23, 3) := by decide +kernel
theorem f_hx_Read_takeWord_69_2 : mblkB b_Read_takeWord [(69, .aload_n 0, vi 0), (70, .iconst 1, vi 1)] = true := by decide +kernel
theorem e_hx_Read_takeWord_71 : decode b_Read_takeWord 71 = .ok (.putfield 50, 3) := by decide +kernel
theorem f_hx_Read_takeWord_74_3 : mblkB b_Read_takeWord [(74, .aload_n 0, vi 0), (75, .aload_n 0, vi 0), (76, .aload_n 0, vi 0)] = true := by decide +kernel
theorem e_hx_Read_takeWord_77 : decode b_Read_takeWord 77 = .ok (.getfield 53, 3) := by decide +kernel
theorem e_hx_Read_takeWord_80 : decode b_Read_takeWord 80 = .ok (.invokevirtual 156, 3) := by decide +kernel
theorem f_hx_Read_takeWord_83_2 : mblkB b_Read_takeWord [(83, .bipush 97, vi 97), (85, .isub, vi 0)] = true := by decide +kernel
theorem e_hx_Read_takeWord_86 : decode b_Read_takeWord 86 = .ok (.putfield 64, 3) := by decide +kernel
theorem f_hx_Read_takeWord_11_2 : mblkB b_Read_takeWord [(11, .aload_n 0, vi 0), (12, .aload_n 0, vi 0)] = true := by decide +kernel
theorem e_hx_Read_takeWord_13 : decode b_Read_takeWord 13 = .ok (.getfield 37, 3) := by decide +kernel
theorem e_hx_Read_takeWord_16 : decode b_Read_takeWord 16 = .ok (.invokevirtual 156, 3) := by decide +kernel
theorem e_hx_Read_takeWord_19 : decode b_Read_takeWord 19 = .ok (.invokestatic 160, 3) := by decide +kernel
theorem e_hx_Read_takeWord_22 : decode b_Read_takeWord 22 = .ok (.ifCond .eq 16, 3) := by decide +kernel
theorem f_hx_Read_takeWord_25_2 : mblkB b_Read_takeWord [(25, .aload_n 0, vi 0), (26, .dup, vi 0)] = true := by decide +kernel
theorem e_hx_Read_takeWord_27 : decode b_Read_takeWord 27 = .ok (.getfield 37, 3) := by decide +kernel
theorem f_hx_Read_takeWord_30_2 : mblkB b_Read_takeWord [(30, .iconst 1, vi 1), (31, .iadd, vi 0)] = true := by decide +kernel
theorem e_hx_Read_takeWord_32 : decode b_Read_takeWord 32 = .ok (.putfield 37, 3) := by decide +kernel
theorem f_hx_Read_takeWord_35_1 : mblkB b_Read_takeWord [(35, .goto (-35), vi 0)] = true := by decide +kernel
theorem f_hx_Read_takeWord_91_2 : mblkB b_Read_takeWord [(91, .iload_n 1, vi 0), (92, .iconst 5, vi 5)] = true := by decide +kernel
theorem e_hx_Read_takeWord_93 : decode b_Read_takeWord 93 = .ok (.if_icmp .gt 30, 3) := by decide +kernel
theorem e_hx_Read_takeWord_123 : decode b_Read_takeWord 123 = .ok (.return_, 1) := by decide +kernel
theorem f_hx_Read_takeWord_96_2 : mblkB b_Read_takeWord [(96, .aload_n 0, vi 0), (97, .iload_n 1, vi 0)] = true := by decide +kernel
theorem e_hx_Read_takeWord_98 : decode b_Read_takeWord 98 = .ok (.invokestatic 175, 3) := by decide +kernel
theorem e_hx_Read_takeWord_101 : decode b_Read_takeWord 101 = .ok (.invokevirtual 179, 3) := by decide +kernel
theorem e_hx_Read_takeWord_104 : decode b_Read_takeWord 104 = .ok (.ifCond .eq 13, 3) := by decide +kernel
theorem f_hx_Read_takeWord_117_2 : mblkB b_Read_takeWord [(117, .iinc 1 1, vi 1), (120, .goto (-29), vi 91)] = true := by decide +kernel
theorem f_hx_Read_takeWord_107_2 : mblkB b_Read_takeWord [(107, .aload_n 0, vi 0), (108, .iconst 2, vi 2)] = true := by decide +kernel
theorem e_hx_Read_takeWord_109 : decode b_Read_takeWord 109 = .ok (.putfield 50, 3) := by decide +kernel
theorem f_hx_Read_takeWord_112_2 : mblkB b_Read_takeWord [(112, .aload_n 0, vi 0), (113, .iload_n 1, vi 0)] = true := by decide +kernel
theorem e_hx_Read_takeWord_114 : decode b_Read_takeWord 114 = .ok (.putfield 64, 3) := by decide +kernel
set_option maxHeartbeats 4000000 in
set_option maxRecDepth 20000 in
theorem hx_Read_takeWord  : ∀ (l : Launch) (D : va_G) (B : Nat) (H0 : Heap) (G : tG) (A : mA) (o : Nat) (h_o : G o = some 3)  (r9 : Int) (A9 : mA), f_Read_takeWord  A o = some (r9, A9) → hMet l D B H0 G y_Read_takeWord b_Read_takeWord 2 none 5 183 [vr 3 o] A (fun v A' => v = none ∧ A' = A9) := by
  intro l D B H0 G A o h_o r9 A9 h
  refine h_met (by decide) rfl (fun g q C Rm Y E => ?_)
  have hd_91 : ∀ (n : Nat) (A : mA) (b0 : Nat) (b1 : Int) , G b0 = some 3 → f_Read_takeWord_91  n A b0 b1 = some (r9, A9) → HM g D G q A 91 [(0, vr 3 b0), (1, vi b1)] [] := by
    intro n
    induction n with
    | zero => intro A b0 b1 h_b0 h; cases h
    | succ n ih =>
      intro A b0 b1 h_b0 h
      unfold f_Read_takeWord_91 at h
      refine h_blk 93 [(0, vr 3 b0), (1, vi b1)] [vi 5, vi b1] C f_hx_Read_takeWord_91_2 rfl ?_
      obtain ⟨c1, h⟩ := igd h
      refine h_icmp_gt (tgt := 123) C e_hx_Read_takeWord_93 (by decide) c1 (by decide) (fun c2 => ?_) (fun c2 => ?_)
      · have h := ifp c2 h
        exact h_vret C Rm E e_hx_Read_takeWord_123 (fin0 h)
      · have h := ifn c2 h
        refine h_blk 98 [(0, vr 3 b0), (1, vi b1)] [vi b1, vr 3 b0] C f_hx_Read_takeWord_96_2 rfl ?_
        obtain ⟨c3, h⟩ := igd h
        refine h_word C Rm Y cl_Read_175 c3 e_hx_Read_takeWord_98 rfl ⟨by decide, by decide⟩ ?_
        obtain ⟨c4, h⟩ := igd h
        refine h_spelt C Rm Y cl_Read_179 h_b0 c3 c4 e_hx_Read_takeWord_101 rfl ⟨by decide, by decide⟩ ?_
        obtain ⟨c5, h⟩ := igd h
        refine h_if_eq (tgt := 117) C e_hx_Read_takeWord_104 (by decide) c5 (fun c6 => ?_) (fun c6 => ?_)
        · have h := ifp c6 h
          refine h_blk 91 [(1, vi (b1 + 1)), (0, vr 3 b0)] [] C f_hx_Read_takeWord_117_2 rfl ?_
          refine h_loc [(0, vr 3 b0), (1, vi (b1 + 1))] ⟨rfl, rfl, trivial⟩ ?_
          exact ih A b0 (b1 + 1) (h_b0) h
        · have h := ifn c6 h
          refine h_blk 109 [(0, vr 3 b0), (1, vi b1)] [vi 2, vr 3 b0] C f_hx_Read_takeWord_107_2 rfl ?_
          refine h_puti C e_hx_Read_takeWord_109 fp_Read_50 h_b0 rfl rfl rfl ?_
          refine h_blk 114 [(0, vr 3 b0), (1, vi b1)] [vi b1, vr 3 b0] C f_hx_Read_takeWord_112_2 rfl ?_
          refine h_puti C e_hx_Read_takeWord_114 fp_Read_64 h_b0 rfl rfl rfl ?_
          refine h_blk 91 [(1, vi (b1 + 1)), (0, vr 3 b0)] [] C f_hx_Read_takeWord_117_2 rfl ?_
          refine h_loc [(0, vr 3 b0), (1, vi (b1 + 1))] ⟨rfl, rfl, trivial⟩ ?_
          exact ih (mu (mu A 3 b0 7 2) 3 b0 8 b1) b0 (b1 + 1) (h_b0) h
  have hd_0 : ∀ (n : Nat) (A : mA) (b0 : Nat) , G b0 = some 3 → f_Read_takeWord_0  n A b0 = some (r9, A9) → HM g D G q A 0 [(0, vr 3 b0)] [] := by
    intro n
    induction n with
    | zero => intro A b0 h_b0 h; cases h
    | succ n ih =>
      intro A b0 h_b0 h
      unfold f_Read_takeWord_0 at h
      refine h_blk 1 [(0, vr 3 b0)] [vr 3 b0] C f_hx_Read_takeWord_0_1 rfl ?_
      refine h_geti C e_hx_Read_takeWord_1 fg_Read_37 h_b0 rfl rfl rfl (A 3 b0 4) rfl ?_
      refine h_blk 5 [(0, vr 3 b0)] [vr 3 b0, vi (A 3 b0 4)] C f_hx_Read_takeWord_4_1 rfl ?_
      refine h_geti C e_hx_Read_takeWord_5 fg_Read_21 h_b0 rfl rfl rfl (A 3 b0 1) rfl ?_
      obtain ⟨c7, h⟩ := igd h
      obtain ⟨c8, h⟩ := igd h
      refine h_icmp_ge (tgt := 38) C e_hx_Read_takeWord_8 (by decide) c7 c8 (fun c9 => ?_) (fun c9 => ?_)
      · have h := ifp c9 h
        refine h_blk 40 [(0, vr 3 b0)] [vi 5, vr 3 b0] C f_hx_Read_takeWord_38_2 rfl ?_
        refine h_puti C e_hx_Read_takeWord_40 fp_Read_50 h_b0 rfl rfl rfl ?_
        refine h_blk 44 [(0, vr 3 b0)] [vr 3 b0] C f_hx_Read_takeWord_43_1 rfl ?_
        refine h_geti C e_hx_Read_takeWord_44 fg_Read_37 h_b0 rfl rfl rfl (A 3 b0 4) rfl ?_
        refine h_blk 48 [(0, vr 3 b0)] [vr 3 b0, vi (A 3 b0 4)] C f_hx_Read_takeWord_47_1 rfl ?_
        refine h_geti C e_hx_Read_takeWord_48 fg_Read_53 h_b0 rfl rfl rfl (A 3 b0 6) rfl ?_
        refine h_blk 53 [(0, vr 3 b0)] [vi 1, vi ((A 3 b0 4) - (A 3 b0 6))] C f_hx_Read_takeWord_51_2 rfl ?_
        obtain ⟨c10, h⟩ := igd h
        refine h_icmp_ne (tgt := 89) C e_hx_Read_takeWord_53 (by decide) c10 (by decide) (fun c11 => ?_) (fun c11 => ?_)
        · have h := ifn c11 h
          refine h_blk 91 [(1, vi 0), (0, vr 3 b0)] [] C f_hx_Read_takeWord_89_2 rfl ?_
          refine h_loc [(0, vr 3 b0), (1, vi 0)] ⟨rfl, rfl, trivial⟩ ?_
          exact hd_91 _ (mu A 3 b0 7 5) b0 0 (h_b0) h
        · have h := ifp c11 h
          refine h_blk 58 [(0, vr 3 b0)] [vr 3 b0, vr 3 b0] C f_hx_Read_takeWord_56_2 rfl ?_
          refine h_geti C e_hx_Read_takeWord_58 fg_Read_53 h_b0 rfl rfl rfl (A 3 b0 6) rfl ?_
          obtain ⟨q12, e13, h⟩ := obd h
          refine h_callV C Rm Y [vi (A 3 b0 6)] [] (hx_Read_byteAt l D B H0 G _ b0 (A 3 b0 6) h_b0 _ _ e13) cl_Read_156 h_b0 rfl rfl rfl e_hx_Read_takeWord_61 rfl rfl rfl ⟨by decide, by decide⟩ ?_
          rintro _ _ ⟨rfl, rfl⟩
          show HM g D G q q12.2 64 [(0, vr 3 b0)] [vi q12.1]
          refine h_blk 66 [(0, vr 3 b0)] [vi 102, vi q12.1] C f_hx_Read_takeWord_64_1 rfl ?_
          obtain ⟨c14, h⟩ := igd h
          refine h_icmp_gt (tgt := 89) C e_hx_Read_takeWord_66 (by decide) c14 (by decide) (fun c15 => ?_) (fun c15 => ?_)
          · have h := ifp c15 h
            refine h_blk 91 [(1, vi 0), (0, vr 3 b0)] [] C f_hx_Read_takeWord_89_2 rfl ?_
            refine h_loc [(0, vr 3 b0), (1, vi 0)] ⟨rfl, rfl, trivial⟩ ?_
            exact hd_91 _ q12.2 b0 0 (h_b0) h
          · have h := ifn c15 h
            refine h_blk 71 [(0, vr 3 b0)] [vi 1, vr 3 b0] C f_hx_Read_takeWord_69_2 rfl ?_
            refine h_puti C e_hx_Read_takeWord_71 fp_Read_50 h_b0 rfl rfl rfl ?_
            refine h_blk 77 [(0, vr 3 b0)] [vr 3 b0, vr 3 b0, vr 3 b0] C f_hx_Read_takeWord_74_3 rfl ?_
            refine h_geti C e_hx_Read_takeWord_77 fg_Read_53 h_b0 rfl rfl rfl (q12.2 3 b0 6) rfl ?_
            obtain ⟨q16, e17, h⟩ := obd h
            refine h_callV C Rm Y [vi (q12.2 3 b0 6)] [vr 3 b0] (hx_Read_byteAt l D B H0 G _ b0 (q12.2 3 b0 6) h_b0 _ _ e17) cl_Read_156 h_b0 rfl rfl rfl e_hx_Read_takeWord_80 rfl rfl rfl ⟨by decide, by decide⟩ ?_
            rintro _ _ ⟨rfl, rfl⟩
            show HM g D G q q16.2 83 [(0, vr 3 b0)] [vi q16.1, vr 3 b0]
            refine h_blk 86 [(0, vr 3 b0)] [vi (q16.1 - 97), vr 3 b0] C f_hx_Read_takeWord_83_2 rfl ?_
            refine h_puti C e_hx_Read_takeWord_86 fp_Read_64 h_b0 rfl rfl rfl ?_
            refine h_blk 91 [(1, vi 0), (0, vr 3 b0)] [] C f_hx_Read_takeWord_89_2 rfl ?_
            refine h_loc [(0, vr 3 b0), (1, vi 0)] ⟨rfl, rfl, trivial⟩ ?_
            exact hd_91 _ (mu q16.2 3 b0 8 (q16.1 - 97)) b0 0 (h_b0) h
      · have h := ifn c9 h
        refine h_blk 13 [(0, vr 3 b0)] [vr 3 b0, vr 3 b0] C f_hx_Read_takeWord_11_2 rfl ?_
        refine h_geti C e_hx_Read_takeWord_13 fg_Read_37 h_b0 rfl rfl rfl (A 3 b0 4) rfl ?_
        obtain ⟨q18, e19, h⟩ := obd h
        refine h_callV C Rm Y [vi (A 3 b0 4)] [] (hx_Read_byteAt l D B H0 G _ b0 (A 3 b0 4) h_b0 _ _ e19) cl_Read_156 h_b0 rfl rfl rfl e_hx_Read_takeWord_16 rfl rfl rfl ⟨by decide, by decide⟩ ?_
        rintro _ _ ⟨rfl, rfl⟩
        show HM g D G q q18.2 19 [(0, vr 3 b0)] [vi q18.1]
        obtain ⟨q20, e21, h⟩ := obd h
        refine h_callS C Rm Y [vi q18.1] [] (hx_Read_isLetter l D B H0 G _ q18.1 _ _ e21) cl_Read_160 e_hx_Read_takeWord_19 rfl rfl rfl ⟨by decide, by decide⟩ ?_
        rintro _ _ ⟨rfl, rfl⟩
        show HM g D G q q20.2 22 [(0, vr 3 b0)] [vi q20.1]
        obtain ⟨c22, h⟩ := igd h
        refine h_if_eq (tgt := 38) C e_hx_Read_takeWord_22 (by decide) c22 (fun c23 => ?_) (fun c23 => ?_)
        · have h := ifp c23 h
          refine h_blk 40 [(0, vr 3 b0)] [vi 5, vr 3 b0] C f_hx_Read_takeWord_38_2 rfl ?_
          refine h_puti C e_hx_Read_takeWord_40 fp_Read_50 h_b0 rfl rfl rfl ?_
          refine h_blk 44 [(0, vr 3 b0)] [vr 3 b0] C f_hx_Read_takeWord_43_1 rfl ?_
          refine h_geti C e_hx_Read_takeWord_44 fg_Read_37 h_b0 rfl rfl rfl (q20.2 3 b0 4) rfl ?_
          refine h_blk 48 [(0, vr 3 b0)] [vr 3 b0, vi (q20.2 3 b0 4)] C f_hx_Read_takeWord_47_1 rfl ?_
          refine h_geti C e_hx_Read_takeWord_48 fg_Read_53 h_b0 rfl rfl rfl (q20.2 3 b0 6) rfl ?_
          refine h_blk 53 [(0, vr 3 b0)] [vi 1, vi ((q20.2 3 b0 4) - (q20.2 3 b0 6))] C f_hx_Read_takeWord_51_2 rfl ?_
          obtain ⟨c24, h⟩ := igd h
          refine h_icmp_ne (tgt := 89) C e_hx_Read_takeWord_53 (by decide) c24 (by decide) (fun c25 => ?_) (fun c25 => ?_)
          · have h := ifn c25 h
            refine h_blk 91 [(1, vi 0), (0, vr 3 b0)] [] C f_hx_Read_takeWord_89_2 rfl ?_
            refine h_loc [(0, vr 3 b0), (1, vi 0)] ⟨rfl, rfl, trivial⟩ ?_
            exact hd_91 _ (mu q20.2 3 b0 7 5) b0 0 (h_b0) h
          · have h := ifp c25 h
            refine h_blk 58 [(0, vr 3 b0)] [vr 3 b0, vr 3 b0] C f_hx_Read_takeWord_56_2 rfl ?_
            refine h_geti C e_hx_Read_takeWord_58 fg_Read_53 h_b0 rfl rfl rfl (q20.2 3 b0 6) rfl ?_
            obtain ⟨q26, e27, h⟩ := obd h
            refine h_callV C Rm Y [vi (q20.2 3 b0 6)] [] (hx_Read_byteAt l D B H0 G _ b0 (q20.2 3 b0 6) h_b0 _ _ e27) cl_Read_156 h_b0 rfl rfl rfl e_hx_Read_takeWord_61 rfl rfl rfl ⟨by decide, by decide⟩ ?_
            rintro _ _ ⟨rfl, rfl⟩
            show HM g D G q q26.2 64 [(0, vr 3 b0)] [vi q26.1]
            refine h_blk 66 [(0, vr 3 b0)] [vi 102, vi q26.1] C f_hx_Read_takeWord_64_1 rfl ?_
            obtain ⟨c28, h⟩ := igd h
            refine h_icmp_gt (tgt := 89) C e_hx_Read_takeWord_66 (by decide) c28 (by decide) (fun c29 => ?_) (fun c29 => ?_)
            · have h := ifp c29 h
              refine h_blk 91 [(1, vi 0), (0, vr 3 b0)] [] C f_hx_Read_takeWord_89_2 rfl ?_
              refine h_loc [(0, vr 3 b0), (1, vi 0)] ⟨rfl, rfl, trivial⟩ ?_
              exact hd_91 _ q26.2 b0 0 (h_b0) h
            · have h := ifn c29 h
              refine h_blk 71 [(0, vr 3 b0)] [vi 1, vr 3 b0] C f_hx_Read_takeWord_69_2 rfl ?_
              refine h_puti C e_hx_Read_takeWord_71 fp_Read_50 h_b0 rfl rfl rfl ?_
              refine h_blk 77 [(0, vr 3 b0)] [vr 3 b0, vr 3 b0, vr 3 b0] C f_hx_Read_takeWord_74_3 rfl ?_
              refine h_geti C e_hx_Read_takeWord_77 fg_Read_53 h_b0 rfl rfl rfl (q26.2 3 b0 6) rfl ?_
              obtain ⟨q30, e31, h⟩ := obd h
              refine h_callV C Rm Y [vi (q26.2 3 b0 6)] [vr 3 b0] (hx_Read_byteAt l D B H0 G _ b0 (q26.2 3 b0 6) h_b0 _ _ e31) cl_Read_156 h_b0 rfl rfl rfl e_hx_Read_takeWord_80 rfl rfl rfl ⟨by decide, by decide⟩ ?_
              rintro _ _ ⟨rfl, rfl⟩
              show HM g D G q q30.2 83 [(0, vr 3 b0)] [vi q30.1, vr 3 b0]
              refine h_blk 86 [(0, vr 3 b0)] [vi (q30.1 - 97), vr 3 b0] C f_hx_Read_takeWord_83_2 rfl ?_
              refine h_puti C e_hx_Read_takeWord_86 fp_Read_64 h_b0 rfl rfl rfl ?_
              refine h_blk 91 [(1, vi 0), (0, vr 3 b0)] [] C f_hx_Read_takeWord_89_2 rfl ?_
              refine h_loc [(0, vr 3 b0), (1, vi 0)] ⟨rfl, rfl, trivial⟩ ?_
              exact hd_91 _ (mu q30.2 3 b0 8 (q30.1 - 97)) b0 0 (h_b0) h
        · have h := ifn c23 h
          refine h_blk 27 [(0, vr 3 b0)] [vr 3 b0, vr 3 b0] C f_hx_Read_takeWord_25_2 rfl ?_
          refine h_geti C e_hx_Read_takeWord_27 fg_Read_37 h_b0 rfl rfl rfl (q20.2 3 b0 4) rfl ?_
          refine h_blk 32 [(0, vr 3 b0)] [vi ((q20.2 3 b0 4) + 1), vr 3 b0] C f_hx_Read_takeWord_30_2 rfl ?_
          refine h_puti C e_hx_Read_takeWord_32 fp_Read_37 h_b0 rfl rfl rfl ?_
          refine h_blk 0 [(0, vr 3 b0)] [] C f_hx_Read_takeWord_35_1 rfl ?_
          refine h_loc [(0, vr 3 b0)] ⟨rfl, trivial⟩ ?_
          exact ih (mu q20.2 3 b0 4 ((q20.2 3 b0 4) + 1)) b0 (h_b0) h
  show HM g D G q A 0 [(0, vr 3 o)] []
  unfold f_Read_takeWord at h
  refine h_loc [(0, vr 3 o)] ⟨rfl, trivial⟩ ?_
  exact hd_0 _ A o (h_o) h

def f_Read_takeNumber_65 : Nat → mA → Nat → Int → Option (Int × mA)
  | 0, _, _, _ => none
  | n + 1, A, b0, b1 => (if g32 b1 then if g32 (A 3 b0 4) then (if (A 3 b0 4) ≤ b1 then (some (0, A)) else (if g32 (A 3 b0 7) then (if (A 3 b0 7) = 3 then (Option.bind (f_Read_byteAt A b0 b1) (fun q6 => (f_Read_takeNumber_65  n (mu q6.2 3 b0 8 ((((A 3 b0 8) * 10) + q6.1) - 48)) b0 (b1 + 1)))) else (some (0, A))) else none)) else none else none)
def f_Read_takeNumber_0 : Nat → mA → Nat → Option (Int × mA)
  | 0, _, _ => none
  | n + 1, A, b0 => (if g32 (A 3 b0 4) then if g32 (A 3 b0 1) then (if (A 3 b0 1) ≤ (A 3 b0 4) then (if g32 ((A 3 b0 4) - (A 3 b0 6)) then (if ((A 3 b0 4) - (A 3 b0 6)) ≤ 2 then (f_Read_takeNumber_65  20 (mu A 3 b0 7 3) b0 (A 3 b0 6)) else (f_Read_takeNumber_65  20 (mu A 3 b0 7 5) b0 (A 3 b0 6))) else none) else (Option.bind (f_Read_byteAt A b0 (A 3 b0 4)) (fun q13 => (Option.bind (f_Read_isDigit q13.2 q13.1) (fun q15 => (if g32 q15.1 then (if q15.1 = 0 then (if g32 ((q15.2 3 b0 4) - (q15.2 3 b0 6)) then (if ((q15.2 3 b0 4) - (q15.2 3 b0 6)) ≤ 2 then (f_Read_takeNumber_65  20 (mu q15.2 3 b0 7 3) b0 (q15.2 3 b0 6)) else (f_Read_takeNumber_65  20 (mu q15.2 3 b0 7 5) b0 (q15.2 3 b0 6))) else none) else (f_Read_takeNumber_0  n (mu q15.2 3 b0 4 ((q15.2 3 b0 4) + 1)) b0)) else none)))))) else none else none)
def f_Read_takeNumber (A : mA) (o : Nat) : Option (Int × mA) := (f_Read_takeNumber_0  200 A o)
theorem f_hx_Read_takeNumber_0_1 : mblkB b_Read_takeNumber [(0, .aload_n 0, vi 0)] = true := by decide +kernel
theorem e_hx_Read_takeNumber_1 : decode b_Read_takeNumber 1 = .ok (.getfield 37, 3) := by decide +kernel
theorem f_hx_Read_takeNumber_4_1 : mblkB b_Read_takeNumber [(4, .aload_n 0, vi 0)] = true := by decide +kernel
theorem e_hx_Read_takeNumber_5 : decode b_Read_takeNumber 5 = .ok (.getfield 21, 3) := by decide +kernel
theorem e_hx_Read_takeNumber_8 : decode b_Read_takeNumber 8 = .ok (.if_icmp .ge 30, 3) := by decide +kernel
theorem f_hx_Read_takeNumber_38_2 : mblkB b_Read_takeNumber [(38, .aload_n 0, vi 0), (39, .aload_n 0, vi 0)] = true := by decide +kernel
theorem e_hx_Read_takeNumber_40 : decode b_Read_takeNumber 40 = .ok (.getfield 37, 3) := by decide +kernel
theorem f_hx_Read_takeNumber_43_1 : mblkB b_Read_takeNumber [(43, .aload_n 0, vi 0)] = true := by decide +kernel
theorem e_hx_Read_takeNumber_44 : decode b_Read_takeNumber 44 = .ok (.getfield 53, 3) := by decide +kernel
theorem f_hx_Read_takeNumber_47_2 : mblkB b_Read_takeNumber [(47, .isub, vi 0), (48, .iconst 2, vi 2)] = true := by decide +kernel
theorem e_hx_Read_takeNumber_49 : decode b_Read_takeNumber 49 = .ok (.if_icmp .le 7, 3) := by decide +kernel
theorem f_hx_Read_takeNumber_56_1 : mblkB b_Read_takeNumber [(56, .iconst 3, vi 3)] = true := by decide +kernel
theorem e_hx_Read_takeNumber_57 : decode b_Read_takeNumber 57 = .ok (.putfield 50, 3) := by decide +kernel
theorem f_hx_Read_takeNumber_60_1 : mblkB b_Read_takeNumber [(60, .aload_n 0, vi 0)] = true := by decide +kernel
theorem e_hx_Read_takeNumber_61 : decode b_Read_takeNumber 61 = .ok (.getfield 53, 3) := by decide +kernel
theorem f_hx_Read_takeNumber_64_1 : mblkB b_Read_takeNumber [(64, .istore_n 1, vi 0)] = true := by decide +kernel
theorem f_hx_Read_takeNumber_52_2 : mblkB b_Read_takeNumber [(52, .iconst 5, vi 5), (53, .goto 4, vi 57)] = true := by decide +kernel
theorem f_hx_Read_takeNumber_11_2 : mblkB b_Read_takeNumber [(11, .aload_n 0, vi 0), (12, .aload_n 0, vi 0)] = true := by decide +kernel
theorem e_hx_Read_takeNumber_13 : decode b_Read_takeNumber 13 = .ok (.getfield 37, 3) := by decide +kernel
theorem e_hx_Read_takeNumber_16 : decode b_Read_takeNumber 16 = .ok (.invokevirtual 156, 3) := by decide +kernel
theorem e_hx_Read_takeNumber_19 : decode b_Read_takeNumber 19 = .ok (.invokestatic 166, 3) := by decide +kernel
theorem e_hx_Read_takeNumber_22 : decode b_Read_takeNumber 22 = .ok (.ifCond .eq 16, 3) := by decide +kernel
theorem f_hx_Read_takeNumber_25_2 : mblkB b_Read_takeNumber [(25, .aload_n 0, vi 0), (26, .dup, vi 0)] = true := by decide +kernel
theorem e_hx_Read_takeNumber_27 : decode b_Read_takeNumber 27 = .ok (.getfield 37, 3) := by decide +kernel
theorem f_hx_Read_takeNumber_30_2 : mblkB b_Read_takeNumber [(30, .iconst 1, vi 1), (31, .iadd, vi 0)] = true := by decide +kernel
theorem e_hx_Read_takeNumber_32 : decode b_Read_takeNumber 32 = .ok (.putfield 37, 3) := by decide +kernel
theorem f_hx_Read_takeNumber_35_1 : mblkB b_Read_takeNumber [(35, .goto (-35), vi 0)] = true := by decide +kernel
theorem f_hx_Read_takeNumber_65_2 : mblkB b_Read_takeNumber [(65, .iload_n 1, vi 0), (66, .aload_n 0, vi 0)] = true := by decide +kernel
theorem e_hx_Read_takeNumber_67 : decode b_Read_takeNumber 67 = .ok (.getfield 37, 3) := by decide +kernel
theorem e_hx_Read_takeNumber_70 : decode b_Read_takeNumber 70 = .ok (.if_icmp .ge 37, 3) := by decide +kernel
theorem e_hx_Read_takeNumber_107 : decode b_Read_takeNumber 107 = .ok (.return_, 1) := by decide +kernel
theorem f_hx_Read_takeNumber_73_1 : mblkB b_Read_takeNumber [(73, .aload_n 0, vi 0)] = true := by decide +kernel
theorem e_hx_Read_takeNumber_74 : decode b_Read_takeNumber 74 = .ok (.getfield 50, 3) := by decide +kernel
theorem f_hx_Read_takeNumber_77_1 : mblkB b_Read_takeNumber [(77, .iconst 3, vi 3)] = true := by decide +kernel
theorem e_hx_Read_takeNumber_78 : decode b_Read_takeNumber 78 = .ok (.if_icmp .ne 29, 3) := by decide +kernel
theorem f_hx_Read_takeNumber_81_2 : mblkB b_Read_takeNumber [(81, .aload_n 0, vi 0), (82, .aload_n 0, vi 0)] = true := by decide +kernel
theorem e_hx_Read_takeNumber_83 : decode b_Read_takeNumber 83 = .ok (.getfield 64, 3) := by decide +kernel
theorem f_hx_Read_takeNumber_86_4 : mblkB b_Read_takeNumber [(86, .bipush 10, vi 10), (88, .imul, vi 0), (89, .aload_n 0, vi 0), (90, .iload_n 1, vi 0)] = true := by decide +kernel
theorem e_hx_Read_takeNumber_91 : decode b_Read_takeNumber 91 = .ok (.invokevirtual 156, 3) := by decide +kernel
theorem f_hx_Read_takeNumber_94_3 : mblkB b_Read_takeNumber [(94, .iadd, vi 0), (95, .bipush 48, vi 48), (97, .isub, vi 0)] = true := by decide +kernel
theorem e_hx_Read_takeNumber_98 : decode b_Read_takeNumber 98 = .ok (.putfield 64, 3) := by decide +kernel
theorem f_hx_Read_takeNumber_101_2 : mblkB b_Read_takeNumber [(101, .iinc 1 1, vi 1), (104, .goto (-39), vi 65)] = true := by decide +kernel
set_option maxHeartbeats 4000000 in
set_option maxRecDepth 20000 in
theorem hx_Read_takeNumber  : ∀ (l : Launch) (D : va_G) (B : Nat) (H0 : Heap) (G : tG) (A : mA) (o : Nat) (h_o : G o = some 3)  (r9 : Int) (A9 : mA), f_Read_takeNumber  A o = some (r9, A9) → hMet l D B H0 G y_Read_takeNumber b_Read_takeNumber 2 none 1 21 [vr 3 o] A (fun v A' => v = none ∧ A' = A9) := by
  intro l D B H0 G A o h_o r9 A9 h
  refine h_met (by decide) rfl (fun g q C Rm Y E => ?_)
  have hd_65 : ∀ (n : Nat) (A : mA) (b0 : Nat) (b1 : Int) , G b0 = some 3 → f_Read_takeNumber_65  n A b0 b1 = some (r9, A9) → HM g D G q A 65 [(0, vr 3 b0), (1, vi b1)] [] := by
    intro n
    induction n with
    | zero => intro A b0 b1 h_b0 h; cases h
    | succ n ih =>
      intro A b0 b1 h_b0 h
      unfold f_Read_takeNumber_65 at h
      refine h_blk 67 [(0, vr 3 b0), (1, vi b1)] [vr 3 b0, vi b1] C f_hx_Read_takeNumber_65_2 rfl ?_
      refine h_geti C e_hx_Read_takeNumber_67 fg_Read_37 h_b0 rfl rfl rfl (A 3 b0 4) rfl ?_
      obtain ⟨c1, h⟩ := igd h
      obtain ⟨c2, h⟩ := igd h
      refine h_icmp_ge (tgt := 107) C e_hx_Read_takeNumber_70 (by decide) c1 c2 (fun c3 => ?_) (fun c3 => ?_)
      · have h := ifp c3 h
        exact h_vret C Rm E e_hx_Read_takeNumber_107 (fin0 h)
      · have h := ifn c3 h
        refine h_blk 74 [(0, vr 3 b0), (1, vi b1)] [vr 3 b0] C f_hx_Read_takeNumber_73_1 rfl ?_
        refine h_geti C e_hx_Read_takeNumber_74 fg_Read_50 h_b0 rfl rfl rfl (A 3 b0 7) rfl ?_
        refine h_blk 78 [(0, vr 3 b0), (1, vi b1)] [vi 3, vi (A 3 b0 7)] C f_hx_Read_takeNumber_77_1 rfl ?_
        obtain ⟨c4, h⟩ := igd h
        refine h_icmp_ne (tgt := 107) C e_hx_Read_takeNumber_78 (by decide) c4 (by decide) (fun c5 => ?_) (fun c5 => ?_)
        · have h := ifn c5 h
          exact h_vret C Rm E e_hx_Read_takeNumber_107 (fin0 h)
        · have h := ifp c5 h
          refine h_blk 83 [(0, vr 3 b0), (1, vi b1)] [vr 3 b0, vr 3 b0] C f_hx_Read_takeNumber_81_2 rfl ?_
          refine h_geti C e_hx_Read_takeNumber_83 fg_Read_64 h_b0 rfl rfl rfl (A 3 b0 8) rfl ?_
          refine h_blk 91 [(0, vr 3 b0), (1, vi b1)] [vi b1, vr 3 b0, vi ((A 3 b0 8) * 10), vr 3 b0] C f_hx_Read_takeNumber_86_4 rfl ?_
          obtain ⟨q6, e7, h⟩ := obd h
          refine h_callV C Rm Y [vi b1] [vi ((A 3 b0 8) * 10), vr 3 b0] (hx_Read_byteAt l D B H0 G _ b0 b1 h_b0 _ _ e7) cl_Read_156 h_b0 rfl rfl rfl e_hx_Read_takeNumber_91 rfl rfl rfl ⟨by decide, by decide⟩ ?_
          rintro _ _ ⟨rfl, rfl⟩
          show HM g D G q q6.2 94 [(0, vr 3 b0), (1, vi b1)] [vi q6.1, vi ((A 3 b0 8) * 10), vr 3 b0]
          refine h_blk 98 [(0, vr 3 b0), (1, vi b1)] [vi ((((A 3 b0 8) * 10) + q6.1) - 48), vr 3 b0] C f_hx_Read_takeNumber_94_3 rfl ?_
          refine h_puti C e_hx_Read_takeNumber_98 fp_Read_64 h_b0 rfl rfl rfl ?_
          refine h_blk 65 [(1, vi (b1 + 1)), (0, vr 3 b0)] [] C f_hx_Read_takeNumber_101_2 rfl ?_
          refine h_loc [(0, vr 3 b0), (1, vi (b1 + 1))] ⟨rfl, rfl, trivial⟩ ?_
          exact ih (mu q6.2 3 b0 8 ((((A 3 b0 8) * 10) + q6.1) - 48)) b0 (b1 + 1) (h_b0) h
  have hd_0 : ∀ (n : Nat) (A : mA) (b0 : Nat) , G b0 = some 3 → f_Read_takeNumber_0  n A b0 = some (r9, A9) → HM g D G q A 0 [(0, vr 3 b0)] [] := by
    intro n
    induction n with
    | zero => intro A b0 h_b0 h; cases h
    | succ n ih =>
      intro A b0 h_b0 h
      unfold f_Read_takeNumber_0 at h
      refine h_blk 1 [(0, vr 3 b0)] [vr 3 b0] C f_hx_Read_takeNumber_0_1 rfl ?_
      refine h_geti C e_hx_Read_takeNumber_1 fg_Read_37 h_b0 rfl rfl rfl (A 3 b0 4) rfl ?_
      refine h_blk 5 [(0, vr 3 b0)] [vr 3 b0, vi (A 3 b0 4)] C f_hx_Read_takeNumber_4_1 rfl ?_
      refine h_geti C e_hx_Read_takeNumber_5 fg_Read_21 h_b0 rfl rfl rfl (A 3 b0 1) rfl ?_
      obtain ⟨c8, h⟩ := igd h
      obtain ⟨c9, h⟩ := igd h
      refine h_icmp_ge (tgt := 38) C e_hx_Read_takeNumber_8 (by decide) c8 c9 (fun c10 => ?_) (fun c10 => ?_)
      · have h := ifp c10 h
        refine h_blk 40 [(0, vr 3 b0)] [vr 3 b0, vr 3 b0] C f_hx_Read_takeNumber_38_2 rfl ?_
        refine h_geti C e_hx_Read_takeNumber_40 fg_Read_37 h_b0 rfl rfl rfl (A 3 b0 4) rfl ?_
        refine h_blk 44 [(0, vr 3 b0)] [vr 3 b0, vi (A 3 b0 4), vr 3 b0] C f_hx_Read_takeNumber_43_1 rfl ?_
        refine h_geti C e_hx_Read_takeNumber_44 fg_Read_53 h_b0 rfl rfl rfl (A 3 b0 6) rfl ?_
        refine h_blk 49 [(0, vr 3 b0)] [vi 2, vi ((A 3 b0 4) - (A 3 b0 6)), vr 3 b0] C f_hx_Read_takeNumber_47_2 rfl ?_
        obtain ⟨c11, h⟩ := igd h
        refine h_icmp_le (tgt := 56) C e_hx_Read_takeNumber_49 (by decide) c11 (by decide) (fun c12 => ?_) (fun c12 => ?_)
        · have h := ifp c12 h
          refine h_blk 57 [(0, vr 3 b0)] [vi 3, vr 3 b0] C f_hx_Read_takeNumber_56_1 rfl ?_
          refine h_puti C e_hx_Read_takeNumber_57 fp_Read_50 h_b0 rfl rfl rfl ?_
          refine h_blk 61 [(0, vr 3 b0)] [vr 3 b0] C f_hx_Read_takeNumber_60_1 rfl ?_
          refine h_geti C e_hx_Read_takeNumber_61 fg_Read_53 h_b0 rfl rfl rfl (A 3 b0 6) rfl ?_
          refine h_blk 65 [(1, vi (A 3 b0 6)), (0, vr 3 b0)] [] C f_hx_Read_takeNumber_64_1 rfl ?_
          refine h_loc [(0, vr 3 b0), (1, vi (A 3 b0 6))] ⟨rfl, rfl, trivial⟩ ?_
          exact hd_65 _ (mu A 3 b0 7 3) b0 (A 3 b0 6) (h_b0) h
        · have h := ifn c12 h
          refine h_blk 57 [(0, vr 3 b0)] [vi 5, vr 3 b0] C f_hx_Read_takeNumber_52_2 rfl ?_
          refine h_puti C e_hx_Read_takeNumber_57 fp_Read_50 h_b0 rfl rfl rfl ?_
          refine h_blk 61 [(0, vr 3 b0)] [vr 3 b0] C f_hx_Read_takeNumber_60_1 rfl ?_
          refine h_geti C e_hx_Read_takeNumber_61 fg_Read_53 h_b0 rfl rfl rfl (A 3 b0 6) rfl ?_
          refine h_blk 65 [(1, vi (A 3 b0 6)), (0, vr 3 b0)] [] C f_hx_Read_takeNumber_64_1 rfl ?_
          refine h_loc [(0, vr 3 b0), (1, vi (A 3 b0 6))] ⟨rfl, rfl, trivial⟩ ?_
          exact hd_65 _ (mu A 3 b0 7 5) b0 (A 3 b0 6) (h_b0) h
      · have h := ifn c10 h
        refine h_blk 13 [(0, vr 3 b0)] [vr 3 b0, vr 3 b0] C f_hx_Read_takeNumber_11_2 rfl ?_
        refine h_geti C e_hx_Read_takeNumber_13 fg_Read_37 h_b0 rfl rfl rfl (A 3 b0 4) rfl ?_
        obtain ⟨q13, e14, h⟩ := obd h
        refine h_callV C Rm Y [vi (A 3 b0 4)] [] (hx_Read_byteAt l D B H0 G _ b0 (A 3 b0 4) h_b0 _ _ e14) cl_Read_156 h_b0 rfl rfl rfl e_hx_Read_takeNumber_16 rfl rfl rfl ⟨by decide, by decide⟩ ?_
        rintro _ _ ⟨rfl, rfl⟩
        show HM g D G q q13.2 19 [(0, vr 3 b0)] [vi q13.1]
        obtain ⟨q15, e16, h⟩ := obd h
        refine h_callS C Rm Y [vi q13.1] [] (hx_Read_isDigit l D B H0 G _ q13.1 _ _ e16) cl_Read_166 e_hx_Read_takeNumber_19 rfl rfl rfl ⟨by decide, by decide⟩ ?_
        rintro _ _ ⟨rfl, rfl⟩
        show HM g D G q q15.2 22 [(0, vr 3 b0)] [vi q15.1]
        obtain ⟨c17, h⟩ := igd h
        refine h_if_eq (tgt := 38) C e_hx_Read_takeNumber_22 (by decide) c17 (fun c18 => ?_) (fun c18 => ?_)
        · have h := ifp c18 h
          refine h_blk 40 [(0, vr 3 b0)] [vr 3 b0, vr 3 b0] C f_hx_Read_takeNumber_38_2 rfl ?_
          refine h_geti C e_hx_Read_takeNumber_40 fg_Read_37 h_b0 rfl rfl rfl (q15.2 3 b0 4) rfl ?_
          refine h_blk 44 [(0, vr 3 b0)] [vr 3 b0, vi (q15.2 3 b0 4), vr 3 b0] C f_hx_Read_takeNumber_43_1 rfl ?_
          refine h_geti C e_hx_Read_takeNumber_44 fg_Read_53 h_b0 rfl rfl rfl (q15.2 3 b0 6) rfl ?_
          refine h_blk 49 [(0, vr 3 b0)] [vi 2, vi ((q15.2 3 b0 4) - (q15.2 3 b0 6)), vr 3 b0] C f_hx_Read_takeNumber_47_2 rfl ?_
          obtain ⟨c19, h⟩ := igd h
          refine h_icmp_le (tgt := 56) C e_hx_Read_takeNumber_49 (by decide) c19 (by decide) (fun c20 => ?_) (fun c20 => ?_)
          · have h := ifp c20 h
            refine h_blk 57 [(0, vr 3 b0)] [vi 3, vr 3 b0] C f_hx_Read_takeNumber_56_1 rfl ?_
            refine h_puti C e_hx_Read_takeNumber_57 fp_Read_50 h_b0 rfl rfl rfl ?_
            refine h_blk 61 [(0, vr 3 b0)] [vr 3 b0] C f_hx_Read_takeNumber_60_1 rfl ?_
            refine h_geti C e_hx_Read_takeNumber_61 fg_Read_53 h_b0 rfl rfl rfl (q15.2 3 b0 6) rfl ?_
            refine h_blk 65 [(1, vi (q15.2 3 b0 6)), (0, vr 3 b0)] [] C f_hx_Read_takeNumber_64_1 rfl ?_
            refine h_loc [(0, vr 3 b0), (1, vi (q15.2 3 b0 6))] ⟨rfl, rfl, trivial⟩ ?_
            exact hd_65 _ (mu q15.2 3 b0 7 3) b0 (q15.2 3 b0 6) (h_b0) h
          · have h := ifn c20 h
            refine h_blk 57 [(0, vr 3 b0)] [vi 5, vr 3 b0] C f_hx_Read_takeNumber_52_2 rfl ?_
            refine h_puti C e_hx_Read_takeNumber_57 fp_Read_50 h_b0 rfl rfl rfl ?_
            refine h_blk 61 [(0, vr 3 b0)] [vr 3 b0] C f_hx_Read_takeNumber_60_1 rfl ?_
            refine h_geti C e_hx_Read_takeNumber_61 fg_Read_53 h_b0 rfl rfl rfl (q15.2 3 b0 6) rfl ?_
            refine h_blk 65 [(1, vi (q15.2 3 b0 6)), (0, vr 3 b0)] [] C f_hx_Read_takeNumber_64_1 rfl ?_
            refine h_loc [(0, vr 3 b0), (1, vi (q15.2 3 b0 6))] ⟨rfl, rfl, trivial⟩ ?_
            exact hd_65 _ (mu q15.2 3 b0 7 5) b0 (q15.2 3 b0 6) (h_b0) h
        · have h := ifn c18 h
          refine h_blk 27 [(0, vr 3 b0)] [vr 3 b0, vr 3 b0] C f_hx_Read_takeNumber_25_2 rfl ?_
          refine h_geti C e_hx_Read_takeNumber_27 fg_Read_37 h_b0 rfl rfl rfl (q15.2 3 b0 4) rfl ?_
          refine h_blk 32 [(0, vr 3 b0)] [vi ((q15.2 3 b0 4) + 1), vr 3 b0] C f_hx_Read_takeNumber_30_2 rfl ?_
          refine h_puti C e_hx_Read_takeNumber_32 fp_Read_37 h_b0 rfl rfl rfl ?_
          refine h_blk 0 [(0, vr 3 b0)] [] C f_hx_Read_takeNumber_35_1 rfl ?_
          refine h_loc [(0, vr 3 b0)] ⟨rfl, trivial⟩ ?_
          exact ih (mu q15.2 3 b0 4 ((q15.2 3 b0 4) + 1)) b0 (h_b0) h
  show HM g D G q A 0 [(0, vr 3 o)] []
  unfold f_Read_takeNumber at h
  refine h_loc [(0, vr 3 o)] ⟨rfl, trivial⟩ ?_
  exact hd_0 _ A o (h_o) h

def f_Read_takeSign (A : mA) (o : Nat) : Option (Int × mA) := (Option.bind (f_Read_byteAt A o (A 3 o 4)) (fun q1 => (if g32 q1.1 then (if q1.1 = 37 then (some (0, (mu (mu (mu q1.2 3 o 8 q1.1) 3 o 4 ((q1.2 3 o 4) + 1)) 3 o 7 4))) else if q1.1 = 40 then (some (0, (mu (mu (mu q1.2 3 o 8 q1.1) 3 o 4 ((q1.2 3 o 4) + 1)) 3 o 7 4))) else if q1.1 = 41 then (some (0, (mu (mu (mu q1.2 3 o 8 q1.1) 3 o 4 ((q1.2 3 o 4) + 1)) 3 o 7 4))) else if q1.1 = 42 then (some (0, (mu (mu (mu q1.2 3 o 8 q1.1) 3 o 4 ((q1.2 3 o 4) + 1)) 3 o 7 4))) else if q1.1 = 43 then (some (0, (mu (mu (mu q1.2 3 o 8 q1.1) 3 o 4 ((q1.2 3 o 4) + 1)) 3 o 7 4))) else if q1.1 = 44 then (some (0, (mu (mu (mu q1.2 3 o 8 q1.1) 3 o 4 ((q1.2 3 o 4) + 1)) 3 o 7 4))) else if q1.1 = 45 then (some (0, (mu (mu (mu q1.2 3 o 8 q1.1) 3 o 4 ((q1.2 3 o 4) + 1)) 3 o 7 4))) else if q1.1 = 58 then (some (0, (mu (mu (mu q1.2 3 o 8 q1.1) 3 o 4 ((q1.2 3 o 4) + 1)) 3 o 7 4))) else if q1.1 = 59 then (some (0, (mu (mu (mu q1.2 3 o 8 q1.1) 3 o 4 ((q1.2 3 o 4) + 1)) 3 o 7 4))) else if q1.1 = 60 then (some (0, (mu (mu (mu q1.2 3 o 8 q1.1) 3 o 4 ((q1.2 3 o 4) + 1)) 3 o 7 4))) else if q1.1 = 61 then (some (0, (mu (mu (mu q1.2 3 o 8 q1.1) 3 o 4 ((q1.2 3 o 4) + 1)) 3 o 7 4))) else if q1.1 = 123 then (some (0, (mu (mu (mu q1.2 3 o 8 q1.1) 3 o 4 ((q1.2 3 o 4) + 1)) 3 o 7 4))) else if q1.1 = 125 then (some (0, (mu (mu (mu q1.2 3 o 8 q1.1) 3 o 4 ((q1.2 3 o 4) + 1)) 3 o 7 4))) else (some (0, (mu (mu (mu q1.2 3 o 8 q1.1) 3 o 4 ((q1.2 3 o 4) + 1)) 3 o 7 5)))) else none)))
theorem f_hx_Read_takeSign_0_3 : mblkB b_Read_takeSign [(0, .aload_n 0, vi 0), (1, .aload_n 0, vi 0), (2, .aload_n 0, vi 0)] = true := by decide +kernel
theorem e_hx_Read_takeSign_3 : decode b_Read_takeSign 3 = .ok (.getfield 37, 3) := by decide +kernel
theorem e_hx_Read_takeSign_6 : decode b_Read_takeSign 6 = .ok (.invokevirtual 156, 3) := by decide +kernel
theorem e_hx_Read_takeSign_9 : decode b_Read_takeSign 9 = .ok (.putfield 64, 3) := by decide +kernel
theorem f_hx_Read_takeSign_12_2 : mblkB b_Read_takeSign [(12, .aload_n 0, vi 0), (13, .dup, vi 0)] = true := by decide +kernel
theorem e_hx_Read_takeSign_14 : decode b_Read_takeSign 14 = .ok (.getfield 37, 3) := by decide +kernel
theorem f_hx_Read_takeSign_17_2 : mblkB b_Read_takeSign [(17, .iconst 1, vi 1), (18, .iadd, vi 0)] = true := by decide +kernel
theorem e_hx_Read_takeSign_19 : decode b_Read_takeSign 19 = .ok (.putfield 37, 3) := by decide +kernel
theorem f_hx_Read_takeSign_22_1 : mblkB b_Read_takeSign [(22, .aload_n 0, vi 0)] = true := by decide +kernel
theorem e_hx_Read_takeSign_23 : decode b_Read_takeSign 23 = .ok (.getfield 64, 3) := by decide +kernel
theorem e_hx_Read_takeSign_26 : decode b_Read_takeSign 26 = .ok (.lookupswitch 122 #[(37, 114), (40, 114), (41, 114), (42, 114), (43, 114), (44, 114), (45, 114), (58, 114), (59, 114), (60, 114), (61, 114), (123, 114), (125, 114)], 114) := by decide +kernel
theorem f_hx_Read_takeSign_140_2 : mblkB b_Read_takeSign [(140, .aload_n 0, vi 0), (141, .iconst 4, vi 4)] = true := by decide +kernel
theorem e_hx_Read_takeSign_142 : decode b_Read_takeSign 142 = .ok (.putfield 50, 3) := by decide +kernel
theorem f_hx_Read_takeSign_145_1 : mblkB b_Read_takeSign [(145, .goto 8, vi 153)] = true := by decide +kernel
theorem e_hx_Read_takeSign_153 : decode b_Read_takeSign 153 = .ok (.return_, 1) := by decide +kernel
theorem f_hx_Read_takeSign_148_2 : mblkB b_Read_takeSign [(148, .aload_n 0, vi 0), (149, .iconst 5, vi 5)] = true := by decide +kernel
theorem e_hx_Read_takeSign_150 : decode b_Read_takeSign 150 = .ok (.putfield 50, 3) := by decide +kernel
set_option maxHeartbeats 4000000 in
set_option maxRecDepth 20000 in
theorem hx_Read_takeSign  : ∀ (l : Launch) (D : va_G) (B : Nat) (H0 : Heap) (G : tG) (A : mA) (o : Nat) (h_o : G o = some 3)  (r9 : Int) (A9 : mA), f_Read_takeSign  A o = some (r9, A9) → hMet l D B H0 G y_Read_takeSign b_Read_takeSign 1 none 1 21 [vr 3 o] A (fun v A' => v = none ∧ A' = A9) := by
  intro l D B H0 G A o h_o r9 A9 h
  refine h_met (by decide) rfl (fun g q C Rm Y E => ?_)
  show HM g D G q A 0 [(0, vr 3 o)] []
  unfold f_Read_takeSign at h
  refine h_blk 3 [(0, vr 3 o)] [vr 3 o, vr 3 o, vr 3 o] C f_hx_Read_takeSign_0_3 rfl ?_
  refine h_geti C e_hx_Read_takeSign_3 fg_Read_37 h_o rfl rfl rfl (A 3 o 4) rfl ?_
  obtain ⟨q1, e2, h⟩ := obd h
  refine h_callV C Rm Y [vi (A 3 o 4)] [vr 3 o] (hx_Read_byteAt l D B H0 G _ o (A 3 o 4) h_o _ _ e2) cl_Read_156 h_o rfl rfl rfl e_hx_Read_takeSign_6 rfl rfl rfl ⟨by decide, by decide⟩ ?_
  rintro _ _ ⟨rfl, rfl⟩
  show HM g D G q q1.2 9 [(0, vr 3 o)] [vi q1.1, vr 3 o]
  refine h_puti C e_hx_Read_takeSign_9 fp_Read_64 h_o rfl rfl rfl ?_
  refine h_blk 14 [(0, vr 3 o)] [vr 3 o, vr 3 o] C f_hx_Read_takeSign_12_2 rfl ?_
  refine h_geti C e_hx_Read_takeSign_14 fg_Read_37 h_o rfl rfl rfl (q1.2 3 o 4) rfl ?_
  refine h_blk 19 [(0, vr 3 o)] [vi ((q1.2 3 o 4) + 1), vr 3 o] C f_hx_Read_takeSign_17_2 rfl ?_
  refine h_puti C e_hx_Read_takeSign_19 fp_Read_37 h_o rfl rfl rfl ?_
  refine h_blk 23 [(0, vr 3 o)] [vr 3 o] C f_hx_Read_takeSign_22_1 rfl ?_
  refine h_geti C e_hx_Read_takeSign_23 fg_Read_64 h_o rfl rfl rfl q1.1 (mu_at q1.2 3 o 8 q1.1) ?_
  obtain ⟨c3, h⟩ := igd h
  by_cases c4 : q1.1 = 37
  · have h := ifp c4 h
    refine h_look (tgt := 140) C e_hx_Read_takeSign_26 (by decide) c3 (by rw [c4]; rfl) ?_
    refine h_blk 142 [(0, vr 3 o)] [vi 4, vr 3 o] C f_hx_Read_takeSign_140_2 rfl ?_
    refine h_puti C e_hx_Read_takeSign_142 fp_Read_50 h_o rfl rfl rfl ?_
    refine h_blk 153 [(0, vr 3 o)] [] C f_hx_Read_takeSign_145_1 rfl ?_
    exact h_vret C Rm E e_hx_Read_takeSign_153 (fin0 h)
  have h := ifn c4 h
  by_cases c5 : q1.1 = 40
  · have h := ifp c5 h
    refine h_look (tgt := 140) C e_hx_Read_takeSign_26 (by decide) c3 (by rw [c5]; rfl) ?_
    refine h_blk 142 [(0, vr 3 o)] [vi 4, vr 3 o] C f_hx_Read_takeSign_140_2 rfl ?_
    refine h_puti C e_hx_Read_takeSign_142 fp_Read_50 h_o rfl rfl rfl ?_
    refine h_blk 153 [(0, vr 3 o)] [] C f_hx_Read_takeSign_145_1 rfl ?_
    exact h_vret C Rm E e_hx_Read_takeSign_153 (fin0 h)
  have h := ifn c5 h
  by_cases c6 : q1.1 = 41
  · have h := ifp c6 h
    refine h_look (tgt := 140) C e_hx_Read_takeSign_26 (by decide) c3 (by rw [c6]; rfl) ?_
    refine h_blk 142 [(0, vr 3 o)] [vi 4, vr 3 o] C f_hx_Read_takeSign_140_2 rfl ?_
    refine h_puti C e_hx_Read_takeSign_142 fp_Read_50 h_o rfl rfl rfl ?_
    refine h_blk 153 [(0, vr 3 o)] [] C f_hx_Read_takeSign_145_1 rfl ?_
    exact h_vret C Rm E e_hx_Read_takeSign_153 (fin0 h)
  have h := ifn c6 h
  by_cases c7 : q1.1 = 42
  · have h := ifp c7 h
    refine h_look (tgt := 140) C e_hx_Read_takeSign_26 (by decide) c3 (by rw [c7]; rfl) ?_
    refine h_blk 142 [(0, vr 3 o)] [vi 4, vr 3 o] C f_hx_Read_takeSign_140_2 rfl ?_
    refine h_puti C e_hx_Read_takeSign_142 fp_Read_50 h_o rfl rfl rfl ?_
    refine h_blk 153 [(0, vr 3 o)] [] C f_hx_Read_takeSign_145_1 rfl ?_
    exact h_vret C Rm E e_hx_Read_takeSign_153 (fin0 h)
  have h := ifn c7 h
  by_cases c8 : q1.1 = 43
  · have h := ifp c8 h
    refine h_look (tgt := 140) C e_hx_Read_takeSign_26 (by decide) c3 (by rw [c8]; rfl) ?_
    refine h_blk 142 [(0, vr 3 o)] [vi 4, vr 3 o] C f_hx_Read_takeSign_140_2 rfl ?_
    refine h_puti C e_hx_Read_takeSign_142 fp_Read_50 h_o rfl rfl rfl ?_
    refine h_blk 153 [(0, vr 3 o)] [] C f_hx_Read_takeSign_145_1 rfl ?_
    exact h_vret C Rm E e_hx_Read_takeSign_153 (fin0 h)
  have h := ifn c8 h
  by_cases c9 : q1.1 = 44
  · have h := ifp c9 h
    refine h_look (tgt := 140) C e_hx_Read_takeSign_26 (by decide) c3 (by rw [c9]; rfl) ?_
    refine h_blk 142 [(0, vr 3 o)] [vi 4, vr 3 o] C f_hx_Read_takeSign_140_2 rfl ?_
    refine h_puti C e_hx_Read_takeSign_142 fp_Read_50 h_o rfl rfl rfl ?_
    refine h_blk 153 [(0, vr 3 o)] [] C f_hx_Read_takeSign_145_1 rfl ?_
    exact h_vret C Rm E e_hx_Read_takeSign_153 (fin0 h)
  have h := ifn c9 h
  by_cases c10 : q1.1 = 45
  · have h := ifp c10 h
    refine h_look (tgt := 140) C e_hx_Read_takeSign_26 (by decide) c3 (by rw [c10]; rfl) ?_
    refine h_blk 142 [(0, vr 3 o)] [vi 4, vr 3 o] C f_hx_Read_takeSign_140_2 rfl ?_
    refine h_puti C e_hx_Read_takeSign_142 fp_Read_50 h_o rfl rfl rfl ?_
    refine h_blk 153 [(0, vr 3 o)] [] C f_hx_Read_takeSign_145_1 rfl ?_
    exact h_vret C Rm E e_hx_Read_takeSign_153 (fin0 h)
  have h := ifn c10 h
  by_cases c11 : q1.1 = 58
  · have h := ifp c11 h
    refine h_look (tgt := 140) C e_hx_Read_takeSign_26 (by decide) c3 (by rw [c11]; rfl) ?_
    refine h_blk 142 [(0, vr 3 o)] [vi 4, vr 3 o] C f_hx_Read_takeSign_140_2 rfl ?_
    refine h_puti C e_hx_Read_takeSign_142 fp_Read_50 h_o rfl rfl rfl ?_
    refine h_blk 153 [(0, vr 3 o)] [] C f_hx_Read_takeSign_145_1 rfl ?_
    exact h_vret C Rm E e_hx_Read_takeSign_153 (fin0 h)
  have h := ifn c11 h
  by_cases c12 : q1.1 = 59
  · have h := ifp c12 h
    refine h_look (tgt := 140) C e_hx_Read_takeSign_26 (by decide) c3 (by rw [c12]; rfl) ?_
    refine h_blk 142 [(0, vr 3 o)] [vi 4, vr 3 o] C f_hx_Read_takeSign_140_2 rfl ?_
    refine h_puti C e_hx_Read_takeSign_142 fp_Read_50 h_o rfl rfl rfl ?_
    refine h_blk 153 [(0, vr 3 o)] [] C f_hx_Read_takeSign_145_1 rfl ?_
    exact h_vret C Rm E e_hx_Read_takeSign_153 (fin0 h)
  have h := ifn c12 h
  by_cases c13 : q1.1 = 60
  · have h := ifp c13 h
    refine h_look (tgt := 140) C e_hx_Read_takeSign_26 (by decide) c3 (by rw [c13]; rfl) ?_
    refine h_blk 142 [(0, vr 3 o)] [vi 4, vr 3 o] C f_hx_Read_takeSign_140_2 rfl ?_
    refine h_puti C e_hx_Read_takeSign_142 fp_Read_50 h_o rfl rfl rfl ?_
    refine h_blk 153 [(0, vr 3 o)] [] C f_hx_Read_takeSign_145_1 rfl ?_
    exact h_vret C Rm E e_hx_Read_takeSign_153 (fin0 h)
  have h := ifn c13 h
  by_cases c14 : q1.1 = 61
  · have h := ifp c14 h
    refine h_look (tgt := 140) C e_hx_Read_takeSign_26 (by decide) c3 (by rw [c14]; rfl) ?_
    refine h_blk 142 [(0, vr 3 o)] [vi 4, vr 3 o] C f_hx_Read_takeSign_140_2 rfl ?_
    refine h_puti C e_hx_Read_takeSign_142 fp_Read_50 h_o rfl rfl rfl ?_
    refine h_blk 153 [(0, vr 3 o)] [] C f_hx_Read_takeSign_145_1 rfl ?_
    exact h_vret C Rm E e_hx_Read_takeSign_153 (fin0 h)
  have h := ifn c14 h
  by_cases c15 : q1.1 = 123
  · have h := ifp c15 h
    refine h_look (tgt := 140) C e_hx_Read_takeSign_26 (by decide) c3 (by rw [c15]; rfl) ?_
    refine h_blk 142 [(0, vr 3 o)] [vi 4, vr 3 o] C f_hx_Read_takeSign_140_2 rfl ?_
    refine h_puti C e_hx_Read_takeSign_142 fp_Read_50 h_o rfl rfl rfl ?_
    refine h_blk 153 [(0, vr 3 o)] [] C f_hx_Read_takeSign_145_1 rfl ?_
    exact h_vret C Rm E e_hx_Read_takeSign_153 (fin0 h)
  have h := ifn c15 h
  by_cases c16 : q1.1 = 125
  · have h := ifp c16 h
    refine h_look (tgt := 140) C e_hx_Read_takeSign_26 (by decide) c3 (by rw [c16]; rfl) ?_
    refine h_blk 142 [(0, vr 3 o)] [vi 4, vr 3 o] C f_hx_Read_takeSign_140_2 rfl ?_
    refine h_puti C e_hx_Read_takeSign_142 fp_Read_50 h_o rfl rfl rfl ?_
    refine h_blk 153 [(0, vr 3 o)] [] C f_hx_Read_takeSign_145_1 rfl ?_
    exact h_vret C Rm E e_hx_Read_takeSign_153 (fin0 h)
  have h := ifn c16 h
  refine h_look (tgt := 148) C e_hx_Read_takeSign_26 (by decide) c3 (by rw [look_out _ _ _ (by simp only [List.forall_mem_cons]; exact ⟨c4, c5, c6, c7, c8, c9, c10, c11, c12, c13, c14, c15, c16, fun _ h9 => absurd h9 List.not_mem_nil⟩)]; rfl) ?_
  refine h_blk 150 [(0, vr 3 o)] [vi 5, vr 3 o] C f_hx_Read_takeSign_148_2 rfl ?_
  refine h_puti C e_hx_Read_takeSign_150 fp_Read_50 h_o rfl rfl rfl ?_
  exact h_vret C Rm E e_hx_Read_takeSign_153 (fin0 h)

def f_Read_advance_0 : Nat → mA → Nat → Option (Int × mA)
  | 0, _, _ => none
  | n + 1, A, b0 => (if g32 (A 3 b0 4) then if g32 (A 3 b0 1) then (if (A 3 b0 1) ≤ (A 3 b0 4) then (if (A 3 b0 4) < (A 3 b0 1) then (Option.bind (f_Read_byteAt (mu (mu A 3 b0 6 (A 3 b0 4)) 3 b0 8 0) b0 (A 3 b0 4)) (fun q5 => (Option.bind (f_Read_isLetter q5.2 q5.1) (fun q7 => (if g32 q7.1 then (if q7.1 = 0 then (Option.bind (f_Read_byteAt q7.2 b0 (q7.2 3 b0 4)) (fun q11 => (Option.bind (f_Read_isDigit q11.2 q11.1) (fun q13 => (if g32 q13.1 then (if q13.1 = 0 then (Option.bind (f_Read_takeSign q13.2 b0) (fun q17 => (some (0, q17.2)))) else (Option.bind (f_Read_takeNumber q13.2 b0) (fun q19 => (some (0, q19.2))))) else none))))) else (Option.bind (f_Read_takeWord q7.2 b0) (fun q21 => (some (0, q21.2))))) else none))))) else (some (0, (mu (mu (mu A 3 b0 6 (A 3 b0 4)) 3 b0 8 0) 3 b0 7 0)))) else (Option.bind (f_Read_byteAt A b0 (A 3 b0 4)) (fun q23 => (if g32 q23.1 then (if q23.1 = 32 then (f_Read_advance_0  n (mu q23.2 3 b0 4 ((q23.2 3 b0 4) + 1)) b0) else (Option.bind (f_Read_byteAt q23.2 b0 (q23.2 3 b0 4)) (fun q27 => (if g32 q27.1 then (if q27.1 = 10 then (f_Read_advance_0  n (mu q27.2 3 b0 4 ((q27.2 3 b0 4) + 1)) b0) else (if g32 (q27.2 3 b0 4) then if g32 (q27.2 3 b0 1) then (if (q27.2 3 b0 4) < (q27.2 3 b0 1) then (Option.bind (f_Read_byteAt (mu (mu q27.2 3 b0 6 (q27.2 3 b0 4)) 3 b0 8 0) b0 (q27.2 3 b0 4)) (fun q34 => (Option.bind (f_Read_isLetter q34.2 q34.1) (fun q36 => (if g32 q36.1 then (if q36.1 = 0 then (Option.bind (f_Read_byteAt q36.2 b0 (q36.2 3 b0 4)) (fun q40 => (Option.bind (f_Read_isDigit q40.2 q40.1) (fun q42 => (if g32 q42.1 then (if q42.1 = 0 then (Option.bind (f_Read_takeSign q42.2 b0) (fun q46 => (some (0, q46.2)))) else (Option.bind (f_Read_takeNumber q42.2 b0) (fun q48 => (some (0, q48.2))))) else none))))) else (Option.bind (f_Read_takeWord q36.2 b0) (fun q50 => (some (0, q50.2))))) else none))))) else (some (0, (mu (mu (mu q27.2 3 b0 6 (q27.2 3 b0 4)) 3 b0 8 0) 3 b0 7 0)))) else none else none)) else none)))) else none)))) else none else none)
def f_Read_advance (A : mA) (o : Nat) : Option (Int × mA) := (f_Read_advance_0  200 A o)
theorem f_hx_Read_advance_0_1 : mblkB b_Read_advance [(0, .aload_n 0, vi 0)] = true := by decide +kernel
theorem e_hx_Read_advance_1 : decode b_Read_advance 1 = .ok (.getfield 37, 3) := by decide +kernel
theorem f_hx_Read_advance_4_1 : mblkB b_Read_advance [(4, .aload_n 0, vi 0)] = true := by decide +kernel
theorem e_hx_Read_advance_5 : decode b_Read_advance 5 = .ok (.getfield 21, 3) := by decide +kernel
theorem e_hx_Read_advance_8 : decode b_Read_advance 8 = .ok (.if_icmp .ge 42, 3) := by decide +kernel
theorem f_hx_Read_advance_50_2 : mblkB b_Read_advance [(50, .aload_n 0, vi 0), (51, .aload_n 0, vi 0)] = true := by decide +kernel
theorem e_hx_Read_advance_52 : decode b_Read_advance 52 = .ok (.getfield 37, 3) := by decide +kernel
theorem e_hx_Read_advance_55 : decode b_Read_advance 55 = .ok (.putfield 53, 3) := by decide +kernel
theorem f_hx_Read_advance_58_2 : mblkB b_Read_advance [(58, .aload_n 0, vi 0), (59, .iconst 0, vi 0)] = true := by decide +kernel
theorem e_hx_Read_advance_60 : decode b_Read_advance 60 = .ok (.putfield 64, 3) := by decide +kernel
theorem f_hx_Read_advance_63_1 : mblkB b_Read_advance [(63, .aload_n 0, vi 0)] = true := by decide +kernel
theorem e_hx_Read_advance_64 : decode b_Read_advance 64 = .ok (.getfield 37, 3) := by decide +kernel
theorem f_hx_Read_advance_67_1 : mblkB b_Read_advance [(67, .aload_n 0, vi 0)] = true := by decide +kernel
theorem e_hx_Read_advance_68 : decode b_Read_advance 68 = .ok (.getfield 21, 3) := by decide +kernel
theorem e_hx_Read_advance_71 : decode b_Read_advance 71 = .ok (.if_icmp .lt 11, 3) := by decide +kernel
theorem f_hx_Read_advance_82_2 : mblkB b_Read_advance [(82, .aload_n 0, vi 0), (83, .aload_n 0, vi 0)] = true := by decide +kernel
theorem e_hx_Read_advance_84 : decode b_Read_advance 84 = .ok (.getfield 37, 3) := by decide +kernel
theorem e_hx_Read_advance_87 : decode b_Read_advance 87 = .ok (.invokevirtual 156, 3) := by decide +kernel
theorem e_hx_Read_advance_90 : decode b_Read_advance 90 = .ok (.invokestatic 160, 3) := by decide +kernel
theorem e_hx_Read_advance_93 : decode b_Read_advance 93 = .ok (.ifCond .eq 10, 3) := by decide +kernel
theorem f_hx_Read_advance_103_2 : mblkB b_Read_advance [(103, .aload_n 0, vi 0), (104, .aload_n 0, vi 0)] = true := by decide +kernel
theorem e_hx_Read_advance_105 : decode b_Read_advance 105 = .ok (.getfield 37, 3) := by decide +kernel
theorem e_hx_Read_advance_108 : decode b_Read_advance 108 = .ok (.invokevirtual 156, 3) := by decide +kernel
theorem e_hx_Read_advance_111 : decode b_Read_advance 111 = .ok (.invokestatic 166, 3) := by decide +kernel
theorem e_hx_Read_advance_114 : decode b_Read_advance 114 = .ok (.ifCond .eq 10, 3) := by decide +kernel
theorem f_hx_Read_advance_124_1 : mblkB b_Read_advance [(124, .aload_n 0, vi 0)] = true := by decide +kernel
theorem e_hx_Read_advance_125 : decode b_Read_advance 125 = .ok (.invokevirtual 172, 3) := by decide +kernel
theorem e_hx_Read_advance_128 : decode b_Read_advance 128 = .ok (.return_, 1) := by decide +kernel
theorem f_hx_Read_advance_117_1 : mblkB b_Read_advance [(117, .aload_n 0, vi 0)] = true := by decide +kernel
theorem e_hx_Read_advance_118 : decode b_Read_advance 118 = .ok (.invokevirtual 169, 3) := by decide +kernel
theorem f_hx_Read_advance_121_1 : mblkB b_Read_advance [(121, .goto 7, vi 128)] = true := by decide +kernel
theorem f_hx_Read_advance_96_1 : mblkB b_Read_advance [(96, .aload_n 0, vi 0)] = true := by decide +kernel
theorem e_hx_Read_advance_97 : decode b_Read_advance 97 = .ok (.invokevirtual 163, 3) := by decide +kernel
theorem f_hx_Read_advance_100_1 : mblkB b_Read_advance [(100, .goto 28, vi 128)] = true := by decide +kernel
theorem f_hx_Read_advance_74_2 : mblkB b_Read_advance [(74, .aload_n 0, vi 0), (75, .iconst 0, vi 0)] = true := by decide +kernel
theorem e_hx_Read_advance_76 : decode b_Read_advance 76 = .ok (.putfield 50, 3) := by decide +kernel
theorem f_hx_Read_advance_79_1 : mblkB b_Read_advance [(79, .goto 49, vi 128)] = true := by decide +kernel
theorem f_hx_Read_advance_11_2 : mblkB b_Read_advance [(11, .aload_n 0, vi 0), (12, .aload_n 0, vi 0)] = true := by decide +kernel
theorem e_hx_Read_advance_13 : decode b_Read_advance 13 = .ok (.getfield 37, 3) := by decide +kernel
theorem e_hx_Read_advance_16 : decode b_Read_advance 16 = .ok (.invokevirtual 156, 3) := by decide +kernel
theorem f_hx_Read_advance_19_1 : mblkB b_Read_advance [(19, .bipush 32, vi 32)] = true := by decide +kernel
theorem e_hx_Read_advance_21 : decode b_Read_advance 21 = .ok (.if_icmp .eq 16, 3) := by decide +kernel
theorem f_hx_Read_advance_37_2 : mblkB b_Read_advance [(37, .aload_n 0, vi 0), (38, .dup, vi 0)] = true := by decide +kernel
theorem e_hx_Read_advance_39 : decode b_Read_advance 39 = .ok (.getfield 37, 3) := by decide +kernel
theorem f_hx_Read_advance_42_2 : mblkB b_Read_advance [(42, .iconst 1, vi 1), (43, .iadd, vi 0)] = true := by decide +kernel
theorem e_hx_Read_advance_44 : decode b_Read_advance 44 = .ok (.putfield 37, 3) := by decide +kernel
theorem f_hx_Read_advance_47_1 : mblkB b_Read_advance [(47, .goto (-47), vi 0)] = true := by decide +kernel
theorem f_hx_Read_advance_24_2 : mblkB b_Read_advance [(24, .aload_n 0, vi 0), (25, .aload_n 0, vi 0)] = true := by decide +kernel
theorem e_hx_Read_advance_26 : decode b_Read_advance 26 = .ok (.getfield 37, 3) := by decide +kernel
theorem e_hx_Read_advance_29 : decode b_Read_advance 29 = .ok (.invokevirtual 156, 3) := by decide +kernel
theorem f_hx_Read_advance_32_1 : mblkB b_Read_advance [(32, .bipush 10, vi 10)] = true := by decide +kernel
theorem e_hx_Read_advance_34 : decode b_Read_advance 34 = .ok (.if_icmp .ne 16, 3) := by decide +kernel
set_option maxHeartbeats 4000000 in
set_option maxRecDepth 20000 in
theorem hx_Read_advance  : ∀ (l : Launch) (D : va_G) (B : Nat) (H0 : Heap) (G : tG) (A : mA) (o : Nat) (h_o : G o = some 3)  (r9 : Int) (A9 : mA), f_Read_advance  A o = some (r9, A9) → hMet l D B H0 G y_Read_advance b_Read_advance 1 none 6 204 [vr 3 o] A (fun v A' => v = none ∧ A' = A9) := by
  intro l D B H0 G A o h_o r9 A9 h
  refine h_met (by decide) rfl (fun g q C Rm Y E => ?_)
  have hd_0 : ∀ (n : Nat) (A : mA) (b0 : Nat) , G b0 = some 3 → f_Read_advance_0  n A b0 = some (r9, A9) → HM g D G q A 0 [(0, vr 3 b0)] [] := by
    intro n
    induction n with
    | zero => intro A b0 h_b0 h; cases h
    | succ n ih =>
      intro A b0 h_b0 h
      unfold f_Read_advance_0 at h
      refine h_blk 1 [(0, vr 3 b0)] [vr 3 b0] C f_hx_Read_advance_0_1 rfl ?_
      refine h_geti C e_hx_Read_advance_1 fg_Read_37 h_b0 rfl rfl rfl (A 3 b0 4) rfl ?_
      refine h_blk 5 [(0, vr 3 b0)] [vr 3 b0, vi (A 3 b0 4)] C f_hx_Read_advance_4_1 rfl ?_
      refine h_geti C e_hx_Read_advance_5 fg_Read_21 h_b0 rfl rfl rfl (A 3 b0 1) rfl ?_
      obtain ⟨c1, h⟩ := igd h
      obtain ⟨c2, h⟩ := igd h
      refine h_icmp_ge (tgt := 50) C e_hx_Read_advance_8 (by decide) c1 c2 (fun c3 => ?_) (fun c3 => ?_)
      · have h := ifp c3 h
        refine h_blk 52 [(0, vr 3 b0)] [vr 3 b0, vr 3 b0] C f_hx_Read_advance_50_2 rfl ?_
        refine h_geti C e_hx_Read_advance_52 fg_Read_37 h_b0 rfl rfl rfl (A 3 b0 4) rfl ?_
        refine h_puti C e_hx_Read_advance_55 fp_Read_53 h_b0 rfl rfl rfl ?_
        refine h_blk 60 [(0, vr 3 b0)] [vi 0, vr 3 b0] C f_hx_Read_advance_58_2 rfl ?_
        refine h_puti C e_hx_Read_advance_60 fp_Read_64 h_b0 rfl rfl rfl ?_
        refine h_blk 64 [(0, vr 3 b0)] [vr 3 b0] C f_hx_Read_advance_63_1 rfl ?_
        refine h_geti C e_hx_Read_advance_64 fg_Read_37 h_b0 rfl rfl rfl (A 3 b0 4) rfl ?_
        refine h_blk 68 [(0, vr 3 b0)] [vr 3 b0, vi (A 3 b0 4)] C f_hx_Read_advance_67_1 rfl ?_
        refine h_geti C e_hx_Read_advance_68 fg_Read_21 h_b0 rfl rfl rfl (A 3 b0 1) rfl ?_
        refine h_icmp_lt (tgt := 82) C e_hx_Read_advance_71 (by decide) c1 c2 (fun c4 => ?_) (fun c4 => ?_)
        · have h := ifp c4 h
          refine h_blk 84 [(0, vr 3 b0)] [vr 3 b0, vr 3 b0] C f_hx_Read_advance_82_2 rfl ?_
          refine h_geti C e_hx_Read_advance_84 fg_Read_37 h_b0 rfl rfl rfl (A 3 b0 4) rfl ?_
          obtain ⟨q5, e6, h⟩ := obd h
          refine h_callV C Rm Y [vi (A 3 b0 4)] [] (hx_Read_byteAt l D B H0 G _ b0 (A 3 b0 4) h_b0 _ _ e6) cl_Read_156 h_b0 rfl rfl rfl e_hx_Read_advance_87 rfl rfl rfl ⟨by decide, by decide⟩ ?_
          rintro _ _ ⟨rfl, rfl⟩
          show HM g D G q q5.2 90 [(0, vr 3 b0)] [vi q5.1]
          obtain ⟨q7, e8, h⟩ := obd h
          refine h_callS C Rm Y [vi q5.1] [] (hx_Read_isLetter l D B H0 G _ q5.1 _ _ e8) cl_Read_160 e_hx_Read_advance_90 rfl rfl rfl ⟨by decide, by decide⟩ ?_
          rintro _ _ ⟨rfl, rfl⟩
          show HM g D G q q7.2 93 [(0, vr 3 b0)] [vi q7.1]
          obtain ⟨c9, h⟩ := igd h
          refine h_if_eq (tgt := 103) C e_hx_Read_advance_93 (by decide) c9 (fun c10 => ?_) (fun c10 => ?_)
          · have h := ifp c10 h
            refine h_blk 105 [(0, vr 3 b0)] [vr 3 b0, vr 3 b0] C f_hx_Read_advance_103_2 rfl ?_
            refine h_geti C e_hx_Read_advance_105 fg_Read_37 h_b0 rfl rfl rfl (q7.2 3 b0 4) rfl ?_
            obtain ⟨q11, e12, h⟩ := obd h
            refine h_callV C Rm Y [vi (q7.2 3 b0 4)] [] (hx_Read_byteAt l D B H0 G _ b0 (q7.2 3 b0 4) h_b0 _ _ e12) cl_Read_156 h_b0 rfl rfl rfl e_hx_Read_advance_108 rfl rfl rfl ⟨by decide, by decide⟩ ?_
            rintro _ _ ⟨rfl, rfl⟩
            show HM g D G q q11.2 111 [(0, vr 3 b0)] [vi q11.1]
            obtain ⟨q13, e14, h⟩ := obd h
            refine h_callS C Rm Y [vi q11.1] [] (hx_Read_isDigit l D B H0 G _ q11.1 _ _ e14) cl_Read_166 e_hx_Read_advance_111 rfl rfl rfl ⟨by decide, by decide⟩ ?_
            rintro _ _ ⟨rfl, rfl⟩
            show HM g D G q q13.2 114 [(0, vr 3 b0)] [vi q13.1]
            obtain ⟨c15, h⟩ := igd h
            refine h_if_eq (tgt := 124) C e_hx_Read_advance_114 (by decide) c15 (fun c16 => ?_) (fun c16 => ?_)
            · have h := ifp c16 h
              refine h_blk 125 [(0, vr 3 b0)] [vr 3 b0] C f_hx_Read_advance_124_1 rfl ?_
              obtain ⟨q17, e18, h⟩ := obd h
              refine h_callV C Rm Y [] [] (hx_Read_takeSign l D B H0 G _ b0 h_b0 _ _ e18) cl_Read_172 h_b0 rfl rfl rfl e_hx_Read_advance_125 rfl rfl rfl ⟨by decide, by decide⟩ ?_
              rintro _ _ ⟨rfl, rfl⟩
              show HM g D G q q17.2 128 [(0, vr 3 b0)] []
              exact h_vret C Rm E e_hx_Read_advance_128 (fin0 h)
            · have h := ifn c16 h
              refine h_blk 118 [(0, vr 3 b0)] [vr 3 b0] C f_hx_Read_advance_117_1 rfl ?_
              obtain ⟨q19, e20, h⟩ := obd h
              refine h_callV C Rm Y [] [] (hx_Read_takeNumber l D B H0 G _ b0 h_b0 _ _ e20) cl_Read_169 h_b0 rfl rfl rfl e_hx_Read_advance_118 rfl rfl rfl ⟨by decide, by decide⟩ ?_
              rintro _ _ ⟨rfl, rfl⟩
              show HM g D G q q19.2 121 [(0, vr 3 b0)] []
              refine h_blk 128 [(0, vr 3 b0)] [] C f_hx_Read_advance_121_1 rfl ?_
              exact h_vret C Rm E e_hx_Read_advance_128 (fin0 h)
          · have h := ifn c10 h
            refine h_blk 97 [(0, vr 3 b0)] [vr 3 b0] C f_hx_Read_advance_96_1 rfl ?_
            obtain ⟨q21, e22, h⟩ := obd h
            refine h_callV C Rm Y [] [] (hx_Read_takeWord l D B H0 G _ b0 h_b0 _ _ e22) cl_Read_163 h_b0 rfl rfl rfl e_hx_Read_advance_97 rfl rfl rfl ⟨by decide, by decide⟩ ?_
            rintro _ _ ⟨rfl, rfl⟩
            show HM g D G q q21.2 100 [(0, vr 3 b0)] []
            refine h_blk 128 [(0, vr 3 b0)] [] C f_hx_Read_advance_100_1 rfl ?_
            exact h_vret C Rm E e_hx_Read_advance_128 (fin0 h)
        · have h := ifn c4 h
          refine h_blk 76 [(0, vr 3 b0)] [vi 0, vr 3 b0] C f_hx_Read_advance_74_2 rfl ?_
          refine h_puti C e_hx_Read_advance_76 fp_Read_50 h_b0 rfl rfl rfl ?_
          refine h_blk 128 [(0, vr 3 b0)] [] C f_hx_Read_advance_79_1 rfl ?_
          exact h_vret C Rm E e_hx_Read_advance_128 (fin0 h)
      · have h := ifn c3 h
        refine h_blk 13 [(0, vr 3 b0)] [vr 3 b0, vr 3 b0] C f_hx_Read_advance_11_2 rfl ?_
        refine h_geti C e_hx_Read_advance_13 fg_Read_37 h_b0 rfl rfl rfl (A 3 b0 4) rfl ?_
        obtain ⟨q23, e24, h⟩ := obd h
        refine h_callV C Rm Y [vi (A 3 b0 4)] [] (hx_Read_byteAt l D B H0 G _ b0 (A 3 b0 4) h_b0 _ _ e24) cl_Read_156 h_b0 rfl rfl rfl e_hx_Read_advance_16 rfl rfl rfl ⟨by decide, by decide⟩ ?_
        rintro _ _ ⟨rfl, rfl⟩
        show HM g D G q q23.2 19 [(0, vr 3 b0)] [vi q23.1]
        refine h_blk 21 [(0, vr 3 b0)] [vi 32, vi q23.1] C f_hx_Read_advance_19_1 rfl ?_
        obtain ⟨c25, h⟩ := igd h
        refine h_icmp_eq (tgt := 37) C e_hx_Read_advance_21 (by decide) c25 (by decide) (fun c26 => ?_) (fun c26 => ?_)
        · have h := ifp c26 h
          refine h_blk 39 [(0, vr 3 b0)] [vr 3 b0, vr 3 b0] C f_hx_Read_advance_37_2 rfl ?_
          refine h_geti C e_hx_Read_advance_39 fg_Read_37 h_b0 rfl rfl rfl (q23.2 3 b0 4) rfl ?_
          refine h_blk 44 [(0, vr 3 b0)] [vi ((q23.2 3 b0 4) + 1), vr 3 b0] C f_hx_Read_advance_42_2 rfl ?_
          refine h_puti C e_hx_Read_advance_44 fp_Read_37 h_b0 rfl rfl rfl ?_
          refine h_blk 0 [(0, vr 3 b0)] [] C f_hx_Read_advance_47_1 rfl ?_
          refine h_loc [(0, vr 3 b0)] ⟨rfl, trivial⟩ ?_
          exact ih (mu q23.2 3 b0 4 ((q23.2 3 b0 4) + 1)) b0 (h_b0) h
        · have h := ifn c26 h
          refine h_blk 26 [(0, vr 3 b0)] [vr 3 b0, vr 3 b0] C f_hx_Read_advance_24_2 rfl ?_
          refine h_geti C e_hx_Read_advance_26 fg_Read_37 h_b0 rfl rfl rfl (q23.2 3 b0 4) rfl ?_
          obtain ⟨q27, e28, h⟩ := obd h
          refine h_callV C Rm Y [vi (q23.2 3 b0 4)] [] (hx_Read_byteAt l D B H0 G _ b0 (q23.2 3 b0 4) h_b0 _ _ e28) cl_Read_156 h_b0 rfl rfl rfl e_hx_Read_advance_29 rfl rfl rfl ⟨by decide, by decide⟩ ?_
          rintro _ _ ⟨rfl, rfl⟩
          show HM g D G q q27.2 32 [(0, vr 3 b0)] [vi q27.1]
          refine h_blk 34 [(0, vr 3 b0)] [vi 10, vi q27.1] C f_hx_Read_advance_32_1 rfl ?_
          obtain ⟨c29, h⟩ := igd h
          refine h_icmp_ne (tgt := 50) C e_hx_Read_advance_34 (by decide) c29 (by decide) (fun c30 => ?_) (fun c30 => ?_)
          · have h := ifn c30 h
            refine h_blk 52 [(0, vr 3 b0)] [vr 3 b0, vr 3 b0] C f_hx_Read_advance_50_2 rfl ?_
            refine h_geti C e_hx_Read_advance_52 fg_Read_37 h_b0 rfl rfl rfl (q27.2 3 b0 4) rfl ?_
            refine h_puti C e_hx_Read_advance_55 fp_Read_53 h_b0 rfl rfl rfl ?_
            refine h_blk 60 [(0, vr 3 b0)] [vi 0, vr 3 b0] C f_hx_Read_advance_58_2 rfl ?_
            refine h_puti C e_hx_Read_advance_60 fp_Read_64 h_b0 rfl rfl rfl ?_
            refine h_blk 64 [(0, vr 3 b0)] [vr 3 b0] C f_hx_Read_advance_63_1 rfl ?_
            refine h_geti C e_hx_Read_advance_64 fg_Read_37 h_b0 rfl rfl rfl (q27.2 3 b0 4) rfl ?_
            refine h_blk 68 [(0, vr 3 b0)] [vr 3 b0, vi (q27.2 3 b0 4)] C f_hx_Read_advance_67_1 rfl ?_
            refine h_geti C e_hx_Read_advance_68 fg_Read_21 h_b0 rfl rfl rfl (q27.2 3 b0 1) rfl ?_
            obtain ⟨c31, h⟩ := igd h
            obtain ⟨c32, h⟩ := igd h
            refine h_icmp_lt (tgt := 82) C e_hx_Read_advance_71 (by decide) c31 c32 (fun c33 => ?_) (fun c33 => ?_)
            · have h := ifp c33 h
              refine h_blk 84 [(0, vr 3 b0)] [vr 3 b0, vr 3 b0] C f_hx_Read_advance_82_2 rfl ?_
              refine h_geti C e_hx_Read_advance_84 fg_Read_37 h_b0 rfl rfl rfl (q27.2 3 b0 4) rfl ?_
              obtain ⟨q34, e35, h⟩ := obd h
              refine h_callV C Rm Y [vi (q27.2 3 b0 4)] [] (hx_Read_byteAt l D B H0 G _ b0 (q27.2 3 b0 4) h_b0 _ _ e35) cl_Read_156 h_b0 rfl rfl rfl e_hx_Read_advance_87 rfl rfl rfl ⟨by decide, by decide⟩ ?_
              rintro _ _ ⟨rfl, rfl⟩
              show HM g D G q q34.2 90 [(0, vr 3 b0)] [vi q34.1]
              obtain ⟨q36, e37, h⟩ := obd h
              refine h_callS C Rm Y [vi q34.1] [] (hx_Read_isLetter l D B H0 G _ q34.1 _ _ e37) cl_Read_160 e_hx_Read_advance_90 rfl rfl rfl ⟨by decide, by decide⟩ ?_
              rintro _ _ ⟨rfl, rfl⟩
              show HM g D G q q36.2 93 [(0, vr 3 b0)] [vi q36.1]
              obtain ⟨c38, h⟩ := igd h
              refine h_if_eq (tgt := 103) C e_hx_Read_advance_93 (by decide) c38 (fun c39 => ?_) (fun c39 => ?_)
              · have h := ifp c39 h
                refine h_blk 105 [(0, vr 3 b0)] [vr 3 b0, vr 3 b0] C f_hx_Read_advance_103_2 rfl ?_
                refine h_geti C e_hx_Read_advance_105 fg_Read_37 h_b0 rfl rfl rfl (q36.2 3 b0 4) rfl ?_
                obtain ⟨q40, e41, h⟩ := obd h
                refine h_callV C Rm Y [vi (q36.2 3 b0 4)] [] (hx_Read_byteAt l D B H0 G _ b0 (q36.2 3 b0 4) h_b0 _ _ e41) cl_Read_156 h_b0 rfl rfl rfl e_hx_Read_advance_108 rfl rfl rfl ⟨by decide, by decide⟩ ?_
                rintro _ _ ⟨rfl, rfl⟩
                show HM g D G q q40.2 111 [(0, vr 3 b0)] [vi q40.1]
                obtain ⟨q42, e43, h⟩ := obd h
                refine h_callS C Rm Y [vi q40.1] [] (hx_Read_isDigit l D B H0 G _ q40.1 _ _ e43) cl_Read_166 e_hx_Read_advance_111 rfl rfl rfl ⟨by decide, by decide⟩ ?_
                rintro _ _ ⟨rfl, rfl⟩
                show HM g D G q q42.2 114 [(0, vr 3 b0)] [vi q42.1]
                obtain ⟨c44, h⟩ := igd h
                refine h_if_eq (tgt := 124) C e_hx_Read_advance_114 (by decide) c44 (fun c45 => ?_) (fun c45 => ?_)
                · have h := ifp c45 h
                  refine h_blk 125 [(0, vr 3 b0)] [vr 3 b0] C f_hx_Read_advance_124_1 rfl ?_
                  obtain ⟨q46, e47, h⟩ := obd h
                  refine h_callV C Rm Y [] [] (hx_Read_takeSign l D B H0 G _ b0 h_b0 _ _ e47) cl_Read_172 h_b0 rfl rfl rfl e_hx_Read_advance_125 rfl rfl rfl ⟨by decide, by decide⟩ ?_
                  rintro _ _ ⟨rfl, rfl⟩
                  show HM g D G q q46.2 128 [(0, vr 3 b0)] []
                  exact h_vret C Rm E e_hx_Read_advance_128 (fin0 h)
                · have h := ifn c45 h
                  refine h_blk 118 [(0, vr 3 b0)] [vr 3 b0] C f_hx_Read_advance_117_1 rfl ?_
                  obtain ⟨q48, e49, h⟩ := obd h
                  refine h_callV C Rm Y [] [] (hx_Read_takeNumber l D B H0 G _ b0 h_b0 _ _ e49) cl_Read_169 h_b0 rfl rfl rfl e_hx_Read_advance_118 rfl rfl rfl ⟨by decide, by decide⟩ ?_
                  rintro _ _ ⟨rfl, rfl⟩
                  show HM g D G q q48.2 121 [(0, vr 3 b0)] []
                  refine h_blk 128 [(0, vr 3 b0)] [] C f_hx_Read_advance_121_1 rfl ?_
                  exact h_vret C Rm E e_hx_Read_advance_128 (fin0 h)
              · have h := ifn c39 h
                refine h_blk 97 [(0, vr 3 b0)] [vr 3 b0] C f_hx_Read_advance_96_1 rfl ?_
                obtain ⟨q50, e51, h⟩ := obd h
                refine h_callV C Rm Y [] [] (hx_Read_takeWord l D B H0 G _ b0 h_b0 _ _ e51) cl_Read_163 h_b0 rfl rfl rfl e_hx_Read_advance_97 rfl rfl rfl ⟨by decide, by decide⟩ ?_
                rintro _ _ ⟨rfl, rfl⟩
                show HM g D G q q50.2 100 [(0, vr 3 b0)] []
                refine h_blk 128 [(0, vr 3 b0)] [] C f_hx_Read_advance_100_1 rfl ?_
                exact h_vret C Rm E e_hx_Read_advance_128 (fin0 h)
            · have h := ifn c33 h
              refine h_blk 76 [(0, vr 3 b0)] [vi 0, vr 3 b0] C f_hx_Read_advance_74_2 rfl ?_
              refine h_puti C e_hx_Read_advance_76 fp_Read_50 h_b0 rfl rfl rfl ?_
              refine h_blk 128 [(0, vr 3 b0)] [] C f_hx_Read_advance_79_1 rfl ?_
              exact h_vret C Rm E e_hx_Read_advance_128 (fin0 h)
          · have h := ifp c30 h
            refine h_blk 39 [(0, vr 3 b0)] [vr 3 b0, vr 3 b0] C f_hx_Read_advance_37_2 rfl ?_
            refine h_geti C e_hx_Read_advance_39 fg_Read_37 h_b0 rfl rfl rfl (q27.2 3 b0 4) rfl ?_
            refine h_blk 44 [(0, vr 3 b0)] [vi ((q27.2 3 b0 4) + 1), vr 3 b0] C f_hx_Read_advance_42_2 rfl ?_
            refine h_puti C e_hx_Read_advance_44 fp_Read_37 h_b0 rfl rfl rfl ?_
            refine h_blk 0 [(0, vr 3 b0)] [] C f_hx_Read_advance_47_1 rfl ?_
            refine h_loc [(0, vr 3 b0)] ⟨rfl, trivial⟩ ?_
            exact ih (mu q27.2 3 b0 4 ((q27.2 3 b0 4) + 1)) b0 (h_b0) h
  show HM g D G q A 0 [(0, vr 3 o)] []
  unfold f_Read_advance at h
  refine h_loc [(0, vr 3 o)] ⟨rfl, trivial⟩ ?_
  exact hd_0 _ A o (h_o) h

def f_Read_readName (A : mA) (o : Nat) (a0 : Nat) : Option (Int × mA) := (if g32 (A 3 o 7) then (if (A 3 o 7) = 1 then (Option.bind (f_Read_advance (mu A 6 a0 1 (A 3 o 8)) o) (fun q3 => (some (1, q3.2)))) else (some (0, A))) else none)
theorem f_hx_Read_readName_0_1 : mblkB b_Read_readName [(0, .aload_n 0, vi 0)] = true := by decide +kernel
theorem e_hx_Read_readName_1 : decode b_Read_readName 1 = .ok (.getfield 50, 3) := by decide +kernel
theorem f_hx_Read_readName_4_1 : mblkB b_Read_readName [(4, .iconst 1, vi 1)] = true := by decide +kernel
theorem e_hx_Read_readName_5 : decode b_Read_readName 5 = .ok (.if_icmp .eq 5, 3) := by decide +kernel
theorem f_hx_Read_readName_10_2 : mblkB b_Read_readName [(10, .aload_n 1, vi 0), (11, .aload_n 0, vi 0)] = true := by decide +kernel
theorem e_hx_Read_readName_12 : decode b_Read_readName 12 = .ok (.getfield 64, 3) := by decide +kernel
theorem e_hx_Read_readName_15 : decode b_Read_readName 15 = .ok (.putfield 102, 3) := by decide +kernel
theorem f_hx_Read_readName_18_1 : mblkB b_Read_readName [(18, .aload_n 0, vi 0)] = true := by decide +kernel
theorem e_hx_Read_readName_19 : decode b_Read_readName 19 = .ok (.invokevirtual 43, 3) := by decide +kernel
theorem f_hx_Read_readName_22_1 : mblkB b_Read_readName [(22, .iconst 1, vi 1)] = true := by decide +kernel
theorem e_hx_Read_readName_23 : decode b_Read_readName 23 = .ok (.ireturn, 1) := by decide +kernel
theorem f_hx_Read_readName_8_1 : mblkB b_Read_readName [(8, .iconst 0, vi 0)] = true := by decide +kernel
theorem e_hx_Read_readName_9 : decode b_Read_readName 9 = .ok (.ireturn, 1) := by decide +kernel
set_option maxHeartbeats 4000000 in
set_option maxRecDepth 20000 in
theorem hx_Read_readName  : ∀ (l : Launch) (D : va_G) (B : Nat) (H0 : Heap) (G : tG) (A : mA) (o : Nat) (a0 : Nat) (h_o : G o = some 3) (h_a0 : G a0 = some 6)  (r9 : Int) (A9 : mA), f_Read_readName  A o a0 = some (r9, A9) → hMet l D B H0 G y_Read_readName b_Read_readName 2 (some .boolean) 7 224 [vr 3 o, vr 6 a0] A (fun v A' => v = some (vi r9) ∧ A' = A9) := by
  intro l D B H0 G A o a0 h_o h_a0 r9 A9 h
  refine h_met (by decide) rfl (fun g q C Rm Y E => ?_)
  show HM g D G q A 0 [(0, vr 3 o), (1, vr 6 a0)] []
  unfold f_Read_readName at h
  refine h_blk 1 [(0, vr 3 o), (1, vr 6 a0)] [vr 3 o] C f_hx_Read_readName_0_1 rfl ?_
  refine h_geti C e_hx_Read_readName_1 fg_Read_50 h_o rfl rfl rfl (A 3 o 7) rfl ?_
  refine h_blk 5 [(0, vr 3 o), (1, vr 6 a0)] [vi 1, vi (A 3 o 7)] C f_hx_Read_readName_4_1 rfl ?_
  obtain ⟨c1, h⟩ := igd h
  refine h_icmp_eq (tgt := 10) C e_hx_Read_readName_5 (by decide) c1 (by decide) (fun c2 => ?_) (fun c2 => ?_)
  · have h := ifp c2 h
    refine h_blk 12 [(0, vr 3 o), (1, vr 6 a0)] [vr 3 o, vr 6 a0] C f_hx_Read_readName_10_2 rfl ?_
    refine h_geti C e_hx_Read_readName_12 fg_Read_64 h_o rfl rfl rfl (A 3 o 8) rfl ?_
    refine h_puti C e_hx_Read_readName_15 fp_Read_102 h_a0 rfl rfl rfl ?_
    refine h_blk 19 [(0, vr 3 o), (1, vr 6 a0)] [vr 3 o] C f_hx_Read_readName_18_1 rfl ?_
    obtain ⟨q3, e4, h⟩ := obd h
    refine h_callV C Rm Y [] [] (hx_Read_advance l D B H0 G _ o h_o _ _ e4) cl_Read_43 h_o rfl rfl rfl e_hx_Read_readName_19 rfl rfl rfl ⟨by decide, by decide⟩ ?_
    rintro _ _ ⟨rfl, rfl⟩
    show HM g D G q q3.2 22 [(0, vr 3 o), (1, vr 6 a0)] []
    refine h_blk 23 [(0, vr 3 o), (1, vr 6 a0)] [vi 1] C f_hx_Read_readName_22_1 rfl ?_
    exact h_zret C Rm E (Or.inr rfl) e_hx_Read_readName_23 (fin1 h)
  · have h := ifn c2 h
    refine h_blk 9 [(0, vr 3 o), (1, vr 6 a0)] [vi 0] C f_hx_Read_readName_8_1 rfl ?_
    exact h_zret C Rm E (Or.inl rfl) e_hx_Read_readName_9 (fin1 h)

def f_Read_readNumber (A : mA) (o : Nat) (a0 : Nat) (a1 : Int) : Option (Int × mA) := (if g32 (A 3 o 7) then (if (A 3 o 7) = 3 then (if g32 (A 3 o 8) then if g32 a1 then (if (A 3 o 8) < a1 then (Option.bind (f_Read_advance (mu A 6 a0 2 (A 3 o 8)) o) (fun q6 => (some (1, q6.2)))) else (some (0, A))) else none else none) else (some (0, A))) else none)
theorem f_hx_Read_readNumber_0_1 : mblkB b_Read_readNumber [(0, .aload_n 0, vi 0)] = true := by decide +kernel
theorem e_hx_Read_readNumber_1 : decode b_Read_readNumber 1 = .ok (.getfield 50, 3) := by decide +kernel
theorem f_hx_Read_readNumber_4_1 : mblkB b_Read_readNumber [(4, .iconst 3, vi 3)] = true := by decide +kernel
theorem e_hx_Read_readNumber_5 : decode b_Read_readNumber 5 = .ok (.if_icmp .ne 11, 3) := by decide +kernel
theorem f_hx_Read_readNumber_16_1 : mblkB b_Read_readNumber [(16, .iconst 0, vi 0)] = true := by decide +kernel
theorem e_hx_Read_readNumber_17 : decode b_Read_readNumber 17 = .ok (.ireturn, 1) := by decide +kernel
theorem f_hx_Read_readNumber_8_1 : mblkB b_Read_readNumber [(8, .aload_n 0, vi 0)] = true := by decide +kernel
theorem e_hx_Read_readNumber_9 : decode b_Read_readNumber 9 = .ok (.getfield 64, 3) := by decide +kernel
theorem f_hx_Read_readNumber_12_1 : mblkB b_Read_readNumber [(12, .iload_n 2, vi 0)] = true := by decide +kernel
theorem e_hx_Read_readNumber_13 : decode b_Read_readNumber 13 = .ok (.if_icmp .lt 5, 3) := by decide +kernel
theorem f_hx_Read_readNumber_18_2 : mblkB b_Read_readNumber [(18, .aload_n 1, vi 0), (19, .aload_n 0, vi 0)] = true := by decide +kernel
theorem e_hx_Read_readNumber_20 : decode b_Read_readNumber 20 = .ok (.getfield 64, 3) := by decide +kernel
theorem e_hx_Read_readNumber_23 : decode b_Read_readNumber 23 = .ok (.putfield 105, 3) := by decide +kernel
theorem f_hx_Read_readNumber_26_1 : mblkB b_Read_readNumber [(26, .aload_n 0, vi 0)] = true := by decide +kernel
theorem e_hx_Read_readNumber_27 : decode b_Read_readNumber 27 = .ok (.invokevirtual 43, 3) := by decide +kernel
theorem f_hx_Read_readNumber_30_1 : mblkB b_Read_readNumber [(30, .iconst 1, vi 1)] = true := by decide +kernel
theorem e_hx_Read_readNumber_31 : decode b_Read_readNumber 31 = .ok (.ireturn, 1) := by decide +kernel
set_option maxHeartbeats 4000000 in
set_option maxRecDepth 20000 in
theorem hx_Read_readNumber  : ∀ (l : Launch) (D : va_G) (B : Nat) (H0 : Heap) (G : tG) (A : mA) (o : Nat) (a0 : Nat) (a1 : Int) (h_o : G o = some 3) (h_a0 : G a0 = some 6)  (r9 : Int) (A9 : mA), f_Read_readNumber  A o a0 a1 = some (r9, A9) → hMet l D B H0 G y_Read_readNumber b_Read_readNumber 3 (some .boolean) 7 224 [vr 3 o, vr 6 a0, vi a1] A (fun v A' => v = some (vi r9) ∧ A' = A9) := by
  intro l D B H0 G A o a0 a1 h_o h_a0 r9 A9 h
  refine h_met (by decide) rfl (fun g q C Rm Y E => ?_)
  show HM g D G q A 0 [(0, vr 3 o), (1, vr 6 a0), (2, vi a1)] []
  unfold f_Read_readNumber at h
  refine h_blk 1 [(0, vr 3 o), (1, vr 6 a0), (2, vi a1)] [vr 3 o] C f_hx_Read_readNumber_0_1 rfl ?_
  refine h_geti C e_hx_Read_readNumber_1 fg_Read_50 h_o rfl rfl rfl (A 3 o 7) rfl ?_
  refine h_blk 5 [(0, vr 3 o), (1, vr 6 a0), (2, vi a1)] [vi 3, vi (A 3 o 7)] C f_hx_Read_readNumber_4_1 rfl ?_
  obtain ⟨c1, h⟩ := igd h
  refine h_icmp_ne (tgt := 16) C e_hx_Read_readNumber_5 (by decide) c1 (by decide) (fun c2 => ?_) (fun c2 => ?_)
  · have h := ifn c2 h
    refine h_blk 17 [(0, vr 3 o), (1, vr 6 a0), (2, vi a1)] [vi 0] C f_hx_Read_readNumber_16_1 rfl ?_
    exact h_zret C Rm E (Or.inl rfl) e_hx_Read_readNumber_17 (fin1 h)
  · have h := ifp c2 h
    refine h_blk 9 [(0, vr 3 o), (1, vr 6 a0), (2, vi a1)] [vr 3 o] C f_hx_Read_readNumber_8_1 rfl ?_
    refine h_geti C e_hx_Read_readNumber_9 fg_Read_64 h_o rfl rfl rfl (A 3 o 8) rfl ?_
    refine h_blk 13 [(0, vr 3 o), (1, vr 6 a0), (2, vi a1)] [vi a1, vi (A 3 o 8)] C f_hx_Read_readNumber_12_1 rfl ?_
    obtain ⟨c3, h⟩ := igd h
    obtain ⟨c4, h⟩ := igd h
    refine h_icmp_lt (tgt := 18) C e_hx_Read_readNumber_13 (by decide) c3 c4 (fun c5 => ?_) (fun c5 => ?_)
    · have h := ifp c5 h
      refine h_blk 20 [(0, vr 3 o), (1, vr 6 a0), (2, vi a1)] [vr 3 o, vr 6 a0] C f_hx_Read_readNumber_18_2 rfl ?_
      refine h_geti C e_hx_Read_readNumber_20 fg_Read_64 h_o rfl rfl rfl (A 3 o 8) rfl ?_
      refine h_puti C e_hx_Read_readNumber_23 fp_Read_105 h_a0 rfl rfl rfl ?_
      refine h_blk 27 [(0, vr 3 o), (1, vr 6 a0), (2, vi a1)] [vr 3 o] C f_hx_Read_readNumber_26_1 rfl ?_
      obtain ⟨q6, e7, h⟩ := obd h
      refine h_callV C Rm Y [] [] (hx_Read_advance l D B H0 G _ o h_o _ _ e7) cl_Read_43 h_o rfl rfl rfl e_hx_Read_readNumber_27 rfl rfl rfl ⟨by decide, by decide⟩ ?_
      rintro _ _ ⟨rfl, rfl⟩
      show HM g D G q q6.2 30 [(0, vr 3 o), (1, vr 6 a0), (2, vi a1)] []
      refine h_blk 31 [(0, vr 3 o), (1, vr 6 a0), (2, vi a1)] [vi 1] C f_hx_Read_readNumber_30_1 rfl ?_
      exact h_zret C Rm E (Or.inr rfl) e_hx_Read_readNumber_31 (fin1 h)
    · have h := ifn c5 h
      refine h_blk 17 [(0, vr 3 o), (1, vr 6 a0), (2, vi a1)] [vi 0] C f_hx_Read_readNumber_16_1 rfl ?_
      exact h_zret C Rm E (Or.inl rfl) e_hx_Read_readNumber_17 (fin1 h)

def f_Read_readLot (A : mA) (o : Nat) : Option (Int × mA) := (if g32 (A 3 o 7) then (if (A 3 o 7) = 3 then (if g32 (A 3 o 8) then (if (A 3 o 8) < 10 then (Option.bind (f_Read_advance A o) (fun q5 => (Option.bind (f_Read_isSign q5.2 o 58) (fun q7 => (if g32 q7.1 then (if q7.1 = 0 then (some (0, q7.2)) else (Option.bind (f_Read_advance q7.2 o) (fun q11 => (if g32 (q11.2 3 o 7) then (if (q11.2 3 o 7) = 3 then (if g32 (q11.2 3 o 8) then (if (q11.2 3 o 8) < 1 then (some (0, q11.2)) else (if (q11.2 3 o 8) ≤ 16 then (Option.bind (f_Read_advance q11.2 o) (fun q18 => (if 0 ≤ (q18.2 3 o 2) then (Option.bind (f_Prog_addLot q18.2 ((q18.2 3 o 2).toNat) (A 3 o 8) (q11.2 3 o 8)) (fun q22 => (some ((q11.2 3 o 8), q22.2)))) else none))) else (some (0, q11.2)))) else none) else (some (0, q11.2))) else none)))) else none))))) else (some (0, A))) else none) else (some (0, A))) else none)
theorem f_hx_Read_readLot_0_1 : mblkB b_Read_readLot [(0, .aload_n 0, vi 0)] = true := by decide +kernel
theorem e_hx_Read_readLot_1 : decode b_Read_readLot 1 = .ok (.getfield 64, 3) := by decide +kernel
theorem f_hx_Read_readLot_4_2 : mblkB b_Read_readLot [(4, .istore_n 1, vi 0), (5, .aload_n 0, vi 0)] = true := by decide +kernel
theorem e_hx_Read_readLot_6 : decode b_Read_readLot 6 = .ok (.getfield 50, 3) := by decide +kernel
theorem f_hx_Read_readLot_9_1 : mblkB b_Read_readLot [(9, .iconst 3, vi 3)] = true := by decide +kernel
theorem e_hx_Read_readLot_10 : decode b_Read_readLot 10 = .ok (.if_icmp .ne 9, 3) := by decide +kernel
theorem f_hx_Read_readLot_19_1 : mblkB b_Read_readLot [(19, .iconst 0, vi 0)] = true := by decide +kernel
theorem e_hx_Read_readLot_20 : decode b_Read_readLot 20 = .ok (.ireturn, 1) := by decide +kernel
theorem f_hx_Read_readLot_13_2 : mblkB b_Read_readLot [(13, .iload_n 1, vi 0), (14, .bipush 10, vi 10)] = true := by decide +kernel
theorem e_hx_Read_readLot_16 : decode b_Read_readLot 16 = .ok (.if_icmp .lt 5, 3) := by decide +kernel
theorem f_hx_Read_readLot_21_1 : mblkB b_Read_readLot [(21, .aload_n 0, vi 0)] = true := by decide +kernel
theorem e_hx_Read_readLot_22 : decode b_Read_readLot 22 = .ok (.invokevirtual 43, 3) := by decide +kernel
theorem f_hx_Read_readLot_25_2 : mblkB b_Read_readLot [(25, .aload_n 0, vi 0), (26, .bipush 58, vi 58)] = true := by decide +kernel
theorem e_hx_Read_readLot_28 : decode b_Read_readLot 28 = .ok (.invokevirtual 59, 3) := by decide +kernel
theorem e_hx_Read_readLot_31 : decode b_Read_readLot 31 = .ok (.ifCond .ne 5, 3) := by decide +kernel
theorem f_hx_Read_readLot_36_1 : mblkB b_Read_readLot [(36, .aload_n 0, vi 0)] = true := by decide +kernel
theorem e_hx_Read_readLot_37 : decode b_Read_readLot 37 = .ok (.invokevirtual 43, 3) := by decide +kernel
theorem f_hx_Read_readLot_40_1 : mblkB b_Read_readLot [(40, .aload_n 0, vi 0)] = true := by decide +kernel
theorem e_hx_Read_readLot_41 : decode b_Read_readLot 41 = .ok (.getfield 64, 3) := by decide +kernel
theorem f_hx_Read_readLot_44_2 : mblkB b_Read_readLot [(44, .istore_n 2, vi 0), (45, .aload_n 0, vi 0)] = true := by decide +kernel
theorem e_hx_Read_readLot_46 : decode b_Read_readLot 46 = .ok (.getfield 50, 3) := by decide +kernel
theorem f_hx_Read_readLot_49_1 : mblkB b_Read_readLot [(49, .iconst 3, vi 3)] = true := by decide +kernel
theorem e_hx_Read_readLot_50 : decode b_Read_readLot 50 = .ok (.if_icmp .ne 14, 3) := by decide +kernel
theorem f_hx_Read_readLot_64_1 : mblkB b_Read_readLot [(64, .iconst 0, vi 0)] = true := by decide +kernel
theorem e_hx_Read_readLot_65 : decode b_Read_readLot 65 = .ok (.ireturn, 1) := by decide +kernel
theorem f_hx_Read_readLot_53_2 : mblkB b_Read_readLot [(53, .iload_n 2, vi 0), (54, .iconst 1, vi 1)] = true := by decide +kernel
theorem e_hx_Read_readLot_55 : decode b_Read_readLot 55 = .ok (.if_icmp .lt 9, 3) := by decide +kernel
theorem f_hx_Read_readLot_58_2 : mblkB b_Read_readLot [(58, .iload_n 2, vi 0), (59, .bipush 16, vi 16)] = true := by decide +kernel
theorem e_hx_Read_readLot_61 : decode b_Read_readLot 61 = .ok (.if_icmp .le 5, 3) := by decide +kernel
theorem f_hx_Read_readLot_66_1 : mblkB b_Read_readLot [(66, .aload_n 0, vi 0)] = true := by decide +kernel
theorem e_hx_Read_readLot_67 : decode b_Read_readLot 67 = .ok (.invokevirtual 43, 3) := by decide +kernel
theorem f_hx_Read_readLot_70_1 : mblkB b_Read_readLot [(70, .aload_n 0, vi 0)] = true := by decide +kernel
theorem e_hx_Read_readLot_71 : decode b_Read_readLot 71 = .ok (.getfield 25, 3) := by decide +kernel
theorem f_hx_Read_readLot_74_2 : mblkB b_Read_readLot [(74, .iload_n 1, vi 0), (75, .iload_n 2, vi 0)] = true := by decide +kernel
theorem e_hx_Read_readLot_76 : decode b_Read_readLot 76 = .ok (.invokevirtual 124, 3) := by decide +kernel
theorem f_hx_Read_readLot_79_1 : mblkB b_Read_readLot [(79, .iload_n 2, vi 0)] = true := by decide +kernel
theorem e_hx_Read_readLot_80 : decode b_Read_readLot 80 = .ok (.ireturn, 1) := by decide +kernel
theorem f_hx_Read_readLot_34_1 : mblkB b_Read_readLot [(34, .iconst 0, vi 0)] = true := by decide +kernel
theorem e_hx_Read_readLot_35 : decode b_Read_readLot 35 = .ok (.ireturn, 1) := by decide +kernel
set_option maxHeartbeats 4000000 in
set_option maxRecDepth 20000 in
theorem hx_Read_readLot  : ∀ (l : Launch) (D : va_G) (B : Nat) (H0 : Heap) (G : tG) (A : mA) (o : Nat) (h_o : G o = some 3)  (r9 : Int) (A9 : mA), f_Read_readLot  A o = some (r9, A9) → hMet l D B H0 G y_Read_readLot b_Read_readLot 3 (some .int) 7 224 [vr 3 o] A (fun v A' => v = some (vi r9) ∧ A' = A9) := by
  intro l D B H0 G A o h_o r9 A9 h
  refine h_met (by decide) rfl (fun g q C Rm Y E => ?_)
  show HM g D G q A 0 [(0, vr 3 o)] []
  unfold f_Read_readLot at h
  refine h_blk 1 [(0, vr 3 o)] [vr 3 o] C f_hx_Read_readLot_0_1 rfl ?_
  refine h_geti C e_hx_Read_readLot_1 fg_Read_64 h_o rfl rfl rfl (A 3 o 8) rfl ?_
  refine h_blk 6 [(1, vi (A 3 o 8)), (0, vr 3 o)] [vr 3 o] C f_hx_Read_readLot_4_2 rfl ?_
  refine h_geti C e_hx_Read_readLot_6 fg_Read_50 h_o rfl rfl rfl (A 3 o 7) rfl ?_
  refine h_blk 10 [(1, vi (A 3 o 8)), (0, vr 3 o)] [vi 3, vi (A 3 o 7)] C f_hx_Read_readLot_9_1 rfl ?_
  obtain ⟨c1, h⟩ := igd h
  refine h_icmp_ne (tgt := 19) C e_hx_Read_readLot_10 (by decide) c1 (by decide) (fun c2 => ?_) (fun c2 => ?_)
  · have h := ifn c2 h
    refine h_blk 20 [(1, vi (A 3 o 8)), (0, vr 3 o)] [vi 0] C f_hx_Read_readLot_19_1 rfl ?_
    exact h_iret C Rm E e_hx_Read_readLot_20 (fin1 h)
  · have h := ifp c2 h
    refine h_blk 16 [(1, vi (A 3 o 8)), (0, vr 3 o)] [vi 10, vi (A 3 o 8)] C f_hx_Read_readLot_13_2 rfl ?_
    obtain ⟨c3, h⟩ := igd h
    refine h_icmp_lt (tgt := 21) C e_hx_Read_readLot_16 (by decide) c3 (by decide) (fun c4 => ?_) (fun c4 => ?_)
    · have h := ifp c4 h
      refine h_blk 22 [(1, vi (A 3 o 8)), (0, vr 3 o)] [vr 3 o] C f_hx_Read_readLot_21_1 rfl ?_
      obtain ⟨q5, e6, h⟩ := obd h
      refine h_callV C Rm Y [] [] (hx_Read_advance l D B H0 G _ o h_o _ _ e6) cl_Read_43 h_o rfl rfl rfl e_hx_Read_readLot_22 rfl rfl rfl ⟨by decide, by decide⟩ ?_
      rintro _ _ ⟨rfl, rfl⟩
      show HM g D G q q5.2 25 [(1, vi (A 3 o 8)), (0, vr 3 o)] []
      refine h_blk 28 [(1, vi (A 3 o 8)), (0, vr 3 o)] [vi 58, vr 3 o] C f_hx_Read_readLot_25_2 rfl ?_
      obtain ⟨q7, e8, h⟩ := obd h
      refine h_callV C Rm Y [vi 58] [] (hx_Read_isSign l D B H0 G _ o 58 h_o _ _ e8) cl_Read_59 h_o rfl rfl rfl e_hx_Read_readLot_28 rfl rfl rfl ⟨by decide, by decide⟩ ?_
      rintro _ _ ⟨rfl, rfl⟩
      show HM g D G q q7.2 31 [(1, vi (A 3 o 8)), (0, vr 3 o)] [vi q7.1]
      obtain ⟨c9, h⟩ := igd h
      refine h_if_ne (tgt := 36) C e_hx_Read_readLot_31 (by decide) c9 (fun c10 => ?_) (fun c10 => ?_)
      · have h := ifn c10 h
        refine h_blk 37 [(1, vi (A 3 o 8)), (0, vr 3 o)] [vr 3 o] C f_hx_Read_readLot_36_1 rfl ?_
        obtain ⟨q11, e12, h⟩ := obd h
        refine h_callV C Rm Y [] [] (hx_Read_advance l D B H0 G _ o h_o _ _ e12) cl_Read_43 h_o rfl rfl rfl e_hx_Read_readLot_37 rfl rfl rfl ⟨by decide, by decide⟩ ?_
        rintro _ _ ⟨rfl, rfl⟩
        show HM g D G q q11.2 40 [(1, vi (A 3 o 8)), (0, vr 3 o)] []
        refine h_blk 41 [(1, vi (A 3 o 8)), (0, vr 3 o)] [vr 3 o] C f_hx_Read_readLot_40_1 rfl ?_
        refine h_geti C e_hx_Read_readLot_41 fg_Read_64 h_o rfl rfl rfl (q11.2 3 o 8) rfl ?_
        refine h_blk 46 [(2, vi (q11.2 3 o 8)), (1, vi (A 3 o 8)), (0, vr 3 o)] [vr 3 o] C f_hx_Read_readLot_44_2 rfl ?_
        refine h_geti C e_hx_Read_readLot_46 fg_Read_50 h_o rfl rfl rfl (q11.2 3 o 7) rfl ?_
        refine h_blk 50 [(2, vi (q11.2 3 o 8)), (1, vi (A 3 o 8)), (0, vr 3 o)] [vi 3, vi (q11.2 3 o 7)] C f_hx_Read_readLot_49_1 rfl ?_
        obtain ⟨c13, h⟩ := igd h
        refine h_icmp_ne (tgt := 64) C e_hx_Read_readLot_50 (by decide) c13 (by decide) (fun c14 => ?_) (fun c14 => ?_)
        · have h := ifn c14 h
          refine h_blk 65 [(2, vi (q11.2 3 o 8)), (1, vi (A 3 o 8)), (0, vr 3 o)] [vi 0] C f_hx_Read_readLot_64_1 rfl ?_
          exact h_iret C Rm E e_hx_Read_readLot_65 (fin1 h)
        · have h := ifp c14 h
          refine h_blk 55 [(2, vi (q11.2 3 o 8)), (1, vi (A 3 o 8)), (0, vr 3 o)] [vi 1, vi (q11.2 3 o 8)] C f_hx_Read_readLot_53_2 rfl ?_
          obtain ⟨c15, h⟩ := igd h
          refine h_icmp_lt (tgt := 64) C e_hx_Read_readLot_55 (by decide) c15 (by decide) (fun c16 => ?_) (fun c16 => ?_)
          · have h := ifp c16 h
            refine h_blk 65 [(2, vi (q11.2 3 o 8)), (1, vi (A 3 o 8)), (0, vr 3 o)] [vi 0] C f_hx_Read_readLot_64_1 rfl ?_
            exact h_iret C Rm E e_hx_Read_readLot_65 (fin1 h)
          · have h := ifn c16 h
            refine h_blk 61 [(2, vi (q11.2 3 o 8)), (1, vi (A 3 o 8)), (0, vr 3 o)] [vi 16, vi (q11.2 3 o 8)] C f_hx_Read_readLot_58_2 rfl ?_
            refine h_icmp_le (tgt := 66) C e_hx_Read_readLot_61 (by decide) c15 (by decide) (fun c17 => ?_) (fun c17 => ?_)
            · have h := ifp c17 h
              refine h_blk 67 [(2, vi (q11.2 3 o 8)), (1, vi (A 3 o 8)), (0, vr 3 o)] [vr 3 o] C f_hx_Read_readLot_66_1 rfl ?_
              obtain ⟨q18, e19, h⟩ := obd h
              refine h_callV C Rm Y [] [] (hx_Read_advance l D B H0 G _ o h_o _ _ e19) cl_Read_43 h_o rfl rfl rfl e_hx_Read_readLot_67 rfl rfl rfl ⟨by decide, by decide⟩ ?_
              rintro _ _ ⟨rfl, rfl⟩
              show HM g D G q q18.2 70 [(2, vi (q11.2 3 o 8)), (1, vi (A 3 o 8)), (0, vr 3 o)] []
              refine h_blk 71 [(2, vi (q11.2 3 o 8)), (1, vi (A 3 o 8)), (0, vr 3 o)] [vr 3 o] C f_hx_Read_readLot_70_1 rfl ?_
              obtain ⟨c20, h⟩ := igd h
              refine h_getr5 C e_hx_Read_readLot_71 fg_Read_25 h_o rfl rfl rfl rfl c20 (fun g21 => ?_)
              refine h_blk 76 [(2, vi (q11.2 3 o 8)), (1, vi (A 3 o 8)), (0, vr 3 o)] [vi (q11.2 3 o 8), vi (A 3 o 8), vr 2 ((q18.2 3 o 2).toNat)] C f_hx_Read_readLot_74_2 rfl ?_
              obtain ⟨q22, e23, h⟩ := obd h
              refine h_callV C Rm Y [vi (A 3 o 8), vi (q11.2 3 o 8)] [] (hx_Prog_addLot l D B H0 G _ ((q18.2 3 o 2).toNat) (A 3 o 8) (q11.2 3 o 8) g21 _ _ e23) cl_Read_124 g21 rfl rfl rfl e_hx_Read_readLot_76 rfl rfl rfl ⟨by decide, by decide⟩ ?_
              rintro _ _ ⟨rfl, rfl⟩
              show HM g D G q q22.2 79 [(2, vi (q11.2 3 o 8)), (1, vi (A 3 o 8)), (0, vr 3 o)] []
              refine h_blk 80 [(2, vi (q11.2 3 o 8)), (1, vi (A 3 o 8)), (0, vr 3 o)] [vi (q11.2 3 o 8)] C f_hx_Read_readLot_79_1 rfl ?_
              exact h_iret C Rm E e_hx_Read_readLot_80 (fin1 h)
            · have h := ifn c17 h
              refine h_blk 65 [(2, vi (q11.2 3 o 8)), (1, vi (A 3 o 8)), (0, vr 3 o)] [vi 0] C f_hx_Read_readLot_64_1 rfl ?_
              exact h_iret C Rm E e_hx_Read_readLot_65 (fin1 h)
      · have h := ifp c10 h
        refine h_blk 35 [(1, vi (A 3 o 8)), (0, vr 3 o)] [vi 0] C f_hx_Read_readLot_34_1 rfl ?_
        exact h_iret C Rm E e_hx_Read_readLot_35 (fin1 h)
    · have h := ifn c4 h
      refine h_blk 20 [(1, vi (A 3 o 8)), (0, vr 3 o)] [vi 0] C f_hx_Read_readLot_19_1 rfl ?_
      exact h_iret C Rm E e_hx_Read_readLot_20 (fin1 h)

def f_Read_readLots_21 : Nat → mA → Nat → Nat → Int → Int → Int → Option (Int × mA)
  | 0, _, _, _, _, _, _ => none
  | n + 1, A, b0, b1, b2, b3, b4 => (if g32 b4 then (if 8 ≤ b4 then (if g32 b2 then (if b2 = 2 then (some (1, (mu (mu A 6 b1 2 b3) 6 b1 7 1))) else (if b2 = 4 then (some (1, (mu (mu A 6 b1 2 b3) 6 b1 7 2))) else (if b2 = 8 then (some (1, (mu (mu A 6 b1 2 b3) 6 b1 7 3))) else (if b2 = 16 then (some (1, (mu (mu A 6 b1 2 b3) 6 b1 7 4))) else (some (0, (mu (mu A 6 b1 2 b3) 6 b1 7 0))))))) else none) else (if g32 b2 then (if b2 ≤ 0 then (if b2 = 2 then (some (1, (mu (mu A 6 b1 2 b3) 6 b1 7 1))) else (if b2 = 4 then (some (1, (mu (mu A 6 b1 2 b3) 6 b1 7 2))) else (if b2 = 8 then (some (1, (mu (mu A 6 b1 2 b3) 6 b1 7 3))) else (if b2 = 16 then (some (1, (mu (mu A 6 b1 2 b3) 6 b1 7 4))) else (some (0, (mu (mu A 6 b1 2 b3) 6 b1 7 0))))))) else (Option.bind (f_Read_isSign A b0 44) (fun q24 => (if g32 q24.1 then (if q24.1 = 0 then (if b2 = 2 then (some (1, (mu (mu q24.2 6 b1 2 b3) 6 b1 7 1))) else (if b2 = 4 then (some (1, (mu (mu q24.2 6 b1 2 b3) 6 b1 7 2))) else (if b2 = 8 then (some (1, (mu (mu q24.2 6 b1 2 b3) 6 b1 7 3))) else (if b2 = 16 then (some (1, (mu (mu q24.2 6 b1 2 b3) 6 b1 7 4))) else (some (0, (mu (mu q24.2 6 b1 2 b3) 6 b1 7 0))))))) else (if g32 b3 then (if b3 < 8 then (Option.bind (f_Read_advance q24.2 b0) (fun q39 => (Option.bind (f_Read_readLot q39.2 b0) (fun q41 => (if g32 q41.1 then (if q41.1 = 0 then (f_Read_readLots_21  n q41.2 b0 b1 0 (b3 + 1) (b4 + 1)) else (f_Read_readLots_21  n q41.2 b0 b1 (b2 + q41.1) (b3 + 1) (b4 + 1))) else none))))) else (some (0, q24.2))) else none)) else none)))) else none)) else none)
def f_Read_readLots (A : mA) (o : Nat) (a0 : Nat) : Option (Int × mA) := (if 0 ≤ (A 3 o 2) then (Option.bind (f_Read_readLot (mu A 6 a0 11 (A 2 ((A 3 o 2).toNat) 6)) o) (fun q47 => (f_Read_readLots_21  20 q47.2 o a0 q47.1 1 0))) else none)
theorem f_hx_Read_readLots_0_2 : mblkB b_Read_readLots [(0, .aload_n 1, vi 0), (1, .aload_n 0, vi 0)] = true := by decide +kernel
theorem e_hx_Read_readLots_2 : decode b_Read_readLots 2 = .ok (.getfield 25, 3) := by decide +kernel
theorem e_hx_Read_readLots_5 : decode b_Read_readLots 5 = .ok (.getfield 111, 3) := by decide +kernel
theorem e_hx_Read_readLots_8 : decode b_Read_readLots 8 = .ok (.putfield 114, 3) := by decide +kernel
theorem f_hx_Read_readLots_11_1 : mblkB b_Read_readLots [(11, .aload_n 0, vi 0)] = true := by decide +kernel
theorem e_hx_Read_readLots_12 : decode b_Read_readLots 12 = .ok (.invokevirtual 117, 3) := by decide +kernel
theorem f_hx_Read_readLots_15_5 : mblkB b_Read_readLots [(15, .istore_n 2, vi 0), (16, .iconst 1, vi 1), (17, .istore_n 3, vi 0), (18, .iconst 0, vi 0), (19, .istore 4, vi 0)] = true := by decide +kernel
theorem f_hx_Read_readLots_21_2 : mblkB b_Read_readLots [(21, .iload 4, vi 0), (23, .bipush 8, vi 8)] = true := by decide +kernel
theorem e_hx_Read_readLots_25 : decode b_Read_readLots 25 = .ok (.if_icmp .ge 57, 3) := by decide +kernel
theorem f_hx_Read_readLots_82_2 : mblkB b_Read_readLots [(82, .aload_n 1, vi 0), (83, .iload_n 3, vi 0)] = true := by decide +kernel
theorem e_hx_Read_readLots_84 : decode b_Read_readLots 84 = .ok (.putfield 105, 3) := by decide +kernel
theorem f_hx_Read_readLots_87_3 : mblkB b_Read_readLots [(87, .aload_n 1, vi 0), (88, .iload_n 2, vi 0), (89, .iconst 2, vi 2)] = true := by decide +kernel
theorem e_hx_Read_readLots_90 : decode b_Read_readLots 90 = .ok (.if_icmp .ne 7, 3) := by decide +kernel
theorem f_hx_Read_readLots_97_2 : mblkB b_Read_readLots [(97, .iload_n 2, vi 0), (98, .iconst 4, vi 4)] = true := by decide +kernel
theorem e_hx_Read_readLots_99 : decode b_Read_readLots 99 = .ok (.if_icmp .ne 7, 3) := by decide +kernel
theorem f_hx_Read_readLots_106_2 : mblkB b_Read_readLots [(106, .iload_n 2, vi 0), (107, .bipush 8, vi 8)] = true := by decide +kernel
theorem e_hx_Read_readLots_109 : decode b_Read_readLots 109 = .ok (.if_icmp .ne 7, 3) := by decide +kernel
theorem f_hx_Read_readLots_116_2 : mblkB b_Read_readLots [(116, .iload_n 2, vi 0), (117, .bipush 16, vi 16)] = true := by decide +kernel
theorem e_hx_Read_readLots_119 : decode b_Read_readLots 119 = .ok (.if_icmp .ne 7, 3) := by decide +kernel
theorem f_hx_Read_readLots_126_1 : mblkB b_Read_readLots [(126, .iconst 0, vi 0)] = true := by decide +kernel
theorem e_hx_Read_readLots_127 : decode b_Read_readLots 127 = .ok (.putfield 121, 3) := by decide +kernel
theorem f_hx_Read_readLots_130_1 : mblkB b_Read_readLots [(130, .aload_n 1, vi 0)] = true := by decide +kernel
theorem e_hx_Read_readLots_131 : decode b_Read_readLots 131 = .ok (.getfield 121, 3) := by decide +kernel
theorem e_hx_Read_readLots_134 : decode b_Read_readLots 134 = .ok (.ifCond .le 7, 3) := by decide +kernel
theorem f_hx_Read_readLots_141_1 : mblkB b_Read_readLots [(141, .iconst 0, vi 0)] = true := by decide +kernel
theorem e_hx_Read_readLots_142 : decode b_Read_readLots 142 = .ok (.ireturn, 1) := by decide +kernel
theorem f_hx_Read_readLots_122_2 : mblkB b_Read_readLots [(122, .iconst 4, vi 4), (123, .goto 4, vi 127)] = true := by decide +kernel
theorem f_hx_Read_readLots_137_2 : mblkB b_Read_readLots [(137, .iconst 1, vi 1), (138, .goto 4, vi 142)] = true := by decide +kernel
theorem f_hx_Read_readLots_112_2 : mblkB b_Read_readLots [(112, .iconst 3, vi 3), (113, .goto 14, vi 127)] = true := by decide +kernel
theorem f_hx_Read_readLots_102_2 : mblkB b_Read_readLots [(102, .iconst 2, vi 2), (103, .goto 24, vi 127)] = true := by decide +kernel
theorem f_hx_Read_readLots_93_2 : mblkB b_Read_readLots [(93, .iconst 1, vi 1), (94, .goto 33, vi 127)] = true := by decide +kernel
theorem f_hx_Read_readLots_28_1 : mblkB b_Read_readLots [(28, .iload_n 2, vi 0)] = true := by decide +kernel
theorem e_hx_Read_readLots_29 : decode b_Read_readLots 29 = .ok (.ifCond .le 53, 3) := by decide +kernel
theorem f_hx_Read_readLots_32_2 : mblkB b_Read_readLots [(32, .aload_n 0, vi 0), (33, .bipush 44, vi 44)] = true := by decide +kernel
theorem e_hx_Read_readLots_35 : decode b_Read_readLots 35 = .ok (.invokevirtual 59, 3) := by decide +kernel
theorem e_hx_Read_readLots_38 : decode b_Read_readLots 38 = .ok (.ifCond .eq 44, 3) := by decide +kernel
theorem f_hx_Read_readLots_41_2 : mblkB b_Read_readLots [(41, .iload_n 3, vi 0), (42, .bipush 8, vi 8)] = true := by decide +kernel
theorem e_hx_Read_readLots_44 : decode b_Read_readLots 44 = .ok (.if_icmp .lt 5, 3) := by decide +kernel
theorem f_hx_Read_readLots_49_1 : mblkB b_Read_readLots [(49, .aload_n 0, vi 0)] = true := by decide +kernel
theorem e_hx_Read_readLots_50 : decode b_Read_readLots 50 = .ok (.invokevirtual 43, 3) := by decide +kernel
theorem f_hx_Read_readLots_53_1 : mblkB b_Read_readLots [(53, .aload_n 0, vi 0)] = true := by decide +kernel
theorem e_hx_Read_readLots_54 : decode b_Read_readLots 54 = .ok (.invokevirtual 117, 3) := by decide +kernel
theorem f_hx_Read_readLots_57_2 : mblkB b_Read_readLots [(57, .istore 5, vi 0), (59, .iload 5, vi 0)] = true := by decide +kernel
theorem e_hx_Read_readLots_61 : decode b_Read_readLots 61 = .ok (.ifCond .ne 7, 3) := by decide +kernel
theorem f_hx_Read_readLots_68_7 : mblkB b_Read_readLots [(68, .iload_n 2, vi 0), (69, .iload 5, vi 0), (71, .iadd, vi 0), (72, .istore_n 2, vi 0), (73, .iinc 3 1, vi 1), (76, .iinc 4 1, vi 1), (79, .goto (-58), vi 21)] = true := by decide +kernel
theorem f_hx_Read_readLots_64_2 : mblkB b_Read_readLots [(64, .iconst 0, vi 0), (65, .goto 7, vi 72)] = true := by decide +kernel
theorem f_hx_Read_readLots_72_4 : mblkB b_Read_readLots [(72, .istore_n 2, vi 0), (73, .iinc 3 1, vi 1), (76, .iinc 4 1, vi 1), (79, .goto (-58), vi 21)] = true := by decide +kernel
theorem f_hx_Read_readLots_47_1 : mblkB b_Read_readLots [(47, .iconst 0, vi 0)] = true := by decide +kernel
theorem e_hx_Read_readLots_48 : decode b_Read_readLots 48 = .ok (.ireturn, 1) := by decide +kernel
set_option maxHeartbeats 4000000 in
set_option maxRecDepth 20000 in
theorem hx_Read_readLots  : ∀ (l : Launch) (D : va_G) (B : Nat) (H0 : Heap) (G : tG) (A : mA) (o : Nat) (a0 : Nat) (h_o : G o = some 3) (h_a0 : G a0 = some 6)  (r9 : Int) (A9 : mA), f_Read_readLots  A o a0 = some (r9, A9) → hMet l D B H0 G y_Read_readLots b_Read_readLots 6 (some .boolean) 8 246 [vr 3 o, vr 6 a0] A (fun v A' => v = some (vi r9) ∧ A' = A9) := by
  intro l D B H0 G A o a0 h_o h_a0 r9 A9 h
  refine h_met (by decide) rfl (fun g q C Rm Y E => ?_)
  have hd_21 : ∀ (n : Nat) (A : mA) (b0 : Nat) (b1 : Nat) (b2 : Int) (b3 : Int) (b4 : Int) , G b0 = some 3 → G b1 = some 6 → f_Read_readLots_21  n A b0 b1 b2 b3 b4 = some (r9, A9) → HM g D G q A 21 [(0, vr 3 b0), (1, vr 6 b1), (2, vi b2), (3, vi b3), (4, vi b4)] [] := by
    intro n
    induction n with
    | zero => intro A b0 b1 b2 b3 b4 h_b0 h_b1 h; cases h
    | succ n ih =>
      intro A b0 b1 b2 b3 b4 h_b0 h_b1 h
      unfold f_Read_readLots_21 at h
      refine h_blk 25 [(0, vr 3 b0), (1, vr 6 b1), (2, vi b2), (3, vi b3), (4, vi b4)] [vi 8, vi b4] C f_hx_Read_readLots_21_2 rfl ?_
      obtain ⟨c1, h⟩ := igd h
      refine h_icmp_ge (tgt := 82) C e_hx_Read_readLots_25 (by decide) c1 (by decide) (fun c2 => ?_) (fun c2 => ?_)
      · have h := ifp c2 h
        refine h_blk 84 [(0, vr 3 b0), (1, vr 6 b1), (2, vi b2), (3, vi b3), (4, vi b4)] [vi b3, vr 6 b1] C f_hx_Read_readLots_82_2 rfl ?_
        refine h_puti C e_hx_Read_readLots_84 fp_Read_105 h_b1 rfl rfl rfl ?_
        refine h_blk 90 [(0, vr 3 b0), (1, vr 6 b1), (2, vi b2), (3, vi b3), (4, vi b4)] [vi 2, vi b2, vr 6 b1] C f_hx_Read_readLots_87_3 rfl ?_
        obtain ⟨c3, h⟩ := igd h
        refine h_icmp_ne (tgt := 97) C e_hx_Read_readLots_90 (by decide) c3 (by decide) (fun c4 => ?_) (fun c4 => ?_)
        · have h := ifn c4 h
          refine h_blk 99 [(0, vr 3 b0), (1, vr 6 b1), (2, vi b2), (3, vi b3), (4, vi b4)] [vi 4, vi b2, vr 6 b1] C f_hx_Read_readLots_97_2 rfl ?_
          refine h_icmp_ne (tgt := 106) C e_hx_Read_readLots_99 (by decide) c3 (by decide) (fun c5 => ?_) (fun c5 => ?_)
          · have h := ifn c5 h
            refine h_blk 109 [(0, vr 3 b0), (1, vr 6 b1), (2, vi b2), (3, vi b3), (4, vi b4)] [vi 8, vi b2, vr 6 b1] C f_hx_Read_readLots_106_2 rfl ?_
            refine h_icmp_ne (tgt := 116) C e_hx_Read_readLots_109 (by decide) c3 (by decide) (fun c6 => ?_) (fun c6 => ?_)
            · have h := ifn c6 h
              refine h_blk 119 [(0, vr 3 b0), (1, vr 6 b1), (2, vi b2), (3, vi b3), (4, vi b4)] [vi 16, vi b2, vr 6 b1] C f_hx_Read_readLots_116_2 rfl ?_
              refine h_icmp_ne (tgt := 126) C e_hx_Read_readLots_119 (by decide) c3 (by decide) (fun c7 => ?_) (fun c7 => ?_)
              · have h := ifn c7 h
                refine h_blk 127 [(0, vr 3 b0), (1, vr 6 b1), (2, vi b2), (3, vi b3), (4, vi b4)] [vi 0, vr 6 b1] C f_hx_Read_readLots_126_1 rfl ?_
                refine h_puti C e_hx_Read_readLots_127 fp_Read_121 h_b1 rfl rfl rfl ?_
                refine h_blk 131 [(0, vr 3 b0), (1, vr 6 b1), (2, vi b2), (3, vi b3), (4, vi b4)] [vr 6 b1] C f_hx_Read_readLots_130_1 rfl ?_
                refine h_geti C e_hx_Read_readLots_131 fg_Read_121 h_b1 rfl rfl rfl 0 (mu_at (mu A 6 b1 2 b3) 6 b1 7 0) ?_
                refine h_if_le (tgt := 141) C e_hx_Read_readLots_134 (by decide) (by decide) (fun c8 => ?_) (fun c8 => (by omega : False).elim)
                refine h_blk 142 [(0, vr 3 b0), (1, vr 6 b1), (2, vi b2), (3, vi b3), (4, vi b4)] [vi 0] C f_hx_Read_readLots_141_1 rfl ?_
                exact h_zret C Rm E (Or.inl rfl) e_hx_Read_readLots_142 (fin1 h)
              · have h := ifp c7 h
                refine h_blk 127 [(0, vr 3 b0), (1, vr 6 b1), (2, vi b2), (3, vi b3), (4, vi b4)] [vi 4, vr 6 b1] C f_hx_Read_readLots_122_2 rfl ?_
                refine h_puti C e_hx_Read_readLots_127 fp_Read_121 h_b1 rfl rfl rfl ?_
                refine h_blk 131 [(0, vr 3 b0), (1, vr 6 b1), (2, vi b2), (3, vi b3), (4, vi b4)] [vr 6 b1] C f_hx_Read_readLots_130_1 rfl ?_
                refine h_geti C e_hx_Read_readLots_131 fg_Read_121 h_b1 rfl rfl rfl 4 (mu_at (mu A 6 b1 2 b3) 6 b1 7 4) ?_
                refine h_if_le (tgt := 141) C e_hx_Read_readLots_134 (by decide) (by decide) (fun c9 => (by omega : False).elim) (fun c9 => ?_)
                refine h_blk 142 [(0, vr 3 b0), (1, vr 6 b1), (2, vi b2), (3, vi b3), (4, vi b4)] [vi 1] C f_hx_Read_readLots_137_2 rfl ?_
                exact h_zret C Rm E (Or.inr rfl) e_hx_Read_readLots_142 (fin1 h)
            · have h := ifp c6 h
              refine h_blk 127 [(0, vr 3 b0), (1, vr 6 b1), (2, vi b2), (3, vi b3), (4, vi b4)] [vi 3, vr 6 b1] C f_hx_Read_readLots_112_2 rfl ?_
              refine h_puti C e_hx_Read_readLots_127 fp_Read_121 h_b1 rfl rfl rfl ?_
              refine h_blk 131 [(0, vr 3 b0), (1, vr 6 b1), (2, vi b2), (3, vi b3), (4, vi b4)] [vr 6 b1] C f_hx_Read_readLots_130_1 rfl ?_
              refine h_geti C e_hx_Read_readLots_131 fg_Read_121 h_b1 rfl rfl rfl 3 (mu_at (mu A 6 b1 2 b3) 6 b1 7 3) ?_
              refine h_if_le (tgt := 141) C e_hx_Read_readLots_134 (by decide) (by decide) (fun c10 => (by omega : False).elim) (fun c10 => ?_)
              refine h_blk 142 [(0, vr 3 b0), (1, vr 6 b1), (2, vi b2), (3, vi b3), (4, vi b4)] [vi 1] C f_hx_Read_readLots_137_2 rfl ?_
              exact h_zret C Rm E (Or.inr rfl) e_hx_Read_readLots_142 (fin1 h)
          · have h := ifp c5 h
            refine h_blk 127 [(0, vr 3 b0), (1, vr 6 b1), (2, vi b2), (3, vi b3), (4, vi b4)] [vi 2, vr 6 b1] C f_hx_Read_readLots_102_2 rfl ?_
            refine h_puti C e_hx_Read_readLots_127 fp_Read_121 h_b1 rfl rfl rfl ?_
            refine h_blk 131 [(0, vr 3 b0), (1, vr 6 b1), (2, vi b2), (3, vi b3), (4, vi b4)] [vr 6 b1] C f_hx_Read_readLots_130_1 rfl ?_
            refine h_geti C e_hx_Read_readLots_131 fg_Read_121 h_b1 rfl rfl rfl 2 (mu_at (mu A 6 b1 2 b3) 6 b1 7 2) ?_
            refine h_if_le (tgt := 141) C e_hx_Read_readLots_134 (by decide) (by decide) (fun c11 => (by omega : False).elim) (fun c11 => ?_)
            refine h_blk 142 [(0, vr 3 b0), (1, vr 6 b1), (2, vi b2), (3, vi b3), (4, vi b4)] [vi 1] C f_hx_Read_readLots_137_2 rfl ?_
            exact h_zret C Rm E (Or.inr rfl) e_hx_Read_readLots_142 (fin1 h)
        · have h := ifp c4 h
          refine h_blk 127 [(0, vr 3 b0), (1, vr 6 b1), (2, vi b2), (3, vi b3), (4, vi b4)] [vi 1, vr 6 b1] C f_hx_Read_readLots_93_2 rfl ?_
          refine h_puti C e_hx_Read_readLots_127 fp_Read_121 h_b1 rfl rfl rfl ?_
          refine h_blk 131 [(0, vr 3 b0), (1, vr 6 b1), (2, vi b2), (3, vi b3), (4, vi b4)] [vr 6 b1] C f_hx_Read_readLots_130_1 rfl ?_
          refine h_geti C e_hx_Read_readLots_131 fg_Read_121 h_b1 rfl rfl rfl 1 (mu_at (mu A 6 b1 2 b3) 6 b1 7 1) ?_
          refine h_if_le (tgt := 141) C e_hx_Read_readLots_134 (by decide) (by decide) (fun c12 => (by omega : False).elim) (fun c12 => ?_)
          refine h_blk 142 [(0, vr 3 b0), (1, vr 6 b1), (2, vi b2), (3, vi b3), (4, vi b4)] [vi 1] C f_hx_Read_readLots_137_2 rfl ?_
          exact h_zret C Rm E (Or.inr rfl) e_hx_Read_readLots_142 (fin1 h)
      · have h := ifn c2 h
        refine h_blk 29 [(0, vr 3 b0), (1, vr 6 b1), (2, vi b2), (3, vi b3), (4, vi b4)] [vi b2] C f_hx_Read_readLots_28_1 rfl ?_
        obtain ⟨c13, h⟩ := igd h
        refine h_if_le (tgt := 82) C e_hx_Read_readLots_29 (by decide) c13 (fun c14 => ?_) (fun c14 => ?_)
        · have h := ifp c14 h
          refine h_blk 84 [(0, vr 3 b0), (1, vr 6 b1), (2, vi b2), (3, vi b3), (4, vi b4)] [vi b3, vr 6 b1] C f_hx_Read_readLots_82_2 rfl ?_
          refine h_puti C e_hx_Read_readLots_84 fp_Read_105 h_b1 rfl rfl rfl ?_
          refine h_blk 90 [(0, vr 3 b0), (1, vr 6 b1), (2, vi b2), (3, vi b3), (4, vi b4)] [vi 2, vi b2, vr 6 b1] C f_hx_Read_readLots_87_3 rfl ?_
          refine h_icmp_ne (tgt := 97) C e_hx_Read_readLots_90 (by decide) c13 (by decide) (fun c15 => ?_) (fun c15 => ?_)
          · have h := ifn c15 h
            refine h_blk 99 [(0, vr 3 b0), (1, vr 6 b1), (2, vi b2), (3, vi b3), (4, vi b4)] [vi 4, vi b2, vr 6 b1] C f_hx_Read_readLots_97_2 rfl ?_
            refine h_icmp_ne (tgt := 106) C e_hx_Read_readLots_99 (by decide) c13 (by decide) (fun c16 => ?_) (fun c16 => ?_)
            · have h := ifn c16 h
              refine h_blk 109 [(0, vr 3 b0), (1, vr 6 b1), (2, vi b2), (3, vi b3), (4, vi b4)] [vi 8, vi b2, vr 6 b1] C f_hx_Read_readLots_106_2 rfl ?_
              refine h_icmp_ne (tgt := 116) C e_hx_Read_readLots_109 (by decide) c13 (by decide) (fun c17 => ?_) (fun c17 => ?_)
              · have h := ifn c17 h
                refine h_blk 119 [(0, vr 3 b0), (1, vr 6 b1), (2, vi b2), (3, vi b3), (4, vi b4)] [vi 16, vi b2, vr 6 b1] C f_hx_Read_readLots_116_2 rfl ?_
                refine h_icmp_ne (tgt := 126) C e_hx_Read_readLots_119 (by decide) c13 (by decide) (fun c18 => ?_) (fun c18 => ?_)
                · have h := ifn c18 h
                  refine h_blk 127 [(0, vr 3 b0), (1, vr 6 b1), (2, vi b2), (3, vi b3), (4, vi b4)] [vi 0, vr 6 b1] C f_hx_Read_readLots_126_1 rfl ?_
                  refine h_puti C e_hx_Read_readLots_127 fp_Read_121 h_b1 rfl rfl rfl ?_
                  refine h_blk 131 [(0, vr 3 b0), (1, vr 6 b1), (2, vi b2), (3, vi b3), (4, vi b4)] [vr 6 b1] C f_hx_Read_readLots_130_1 rfl ?_
                  refine h_geti C e_hx_Read_readLots_131 fg_Read_121 h_b1 rfl rfl rfl 0 (mu_at (mu A 6 b1 2 b3) 6 b1 7 0) ?_
                  refine h_if_le (tgt := 141) C e_hx_Read_readLots_134 (by decide) (by decide) (fun c19 => ?_) (fun c19 => (by omega : False).elim)
                  refine h_blk 142 [(0, vr 3 b0), (1, vr 6 b1), (2, vi b2), (3, vi b3), (4, vi b4)] [vi 0] C f_hx_Read_readLots_141_1 rfl ?_
                  exact h_zret C Rm E (Or.inl rfl) e_hx_Read_readLots_142 (fin1 h)
                · have h := ifp c18 h
                  refine h_blk 127 [(0, vr 3 b0), (1, vr 6 b1), (2, vi b2), (3, vi b3), (4, vi b4)] [vi 4, vr 6 b1] C f_hx_Read_readLots_122_2 rfl ?_
                  refine h_puti C e_hx_Read_readLots_127 fp_Read_121 h_b1 rfl rfl rfl ?_
                  refine h_blk 131 [(0, vr 3 b0), (1, vr 6 b1), (2, vi b2), (3, vi b3), (4, vi b4)] [vr 6 b1] C f_hx_Read_readLots_130_1 rfl ?_
                  refine h_geti C e_hx_Read_readLots_131 fg_Read_121 h_b1 rfl rfl rfl 4 (mu_at (mu A 6 b1 2 b3) 6 b1 7 4) ?_
                  refine h_if_le (tgt := 141) C e_hx_Read_readLots_134 (by decide) (by decide) (fun c20 => (by omega : False).elim) (fun c20 => ?_)
                  refine h_blk 142 [(0, vr 3 b0), (1, vr 6 b1), (2, vi b2), (3, vi b3), (4, vi b4)] [vi 1] C f_hx_Read_readLots_137_2 rfl ?_
                  exact h_zret C Rm E (Or.inr rfl) e_hx_Read_readLots_142 (fin1 h)
              · have h := ifp c17 h
                refine h_blk 127 [(0, vr 3 b0), (1, vr 6 b1), (2, vi b2), (3, vi b3), (4, vi b4)] [vi 3, vr 6 b1] C f_hx_Read_readLots_112_2 rfl ?_
                refine h_puti C e_hx_Read_readLots_127 fp_Read_121 h_b1 rfl rfl rfl ?_
                refine h_blk 131 [(0, vr 3 b0), (1, vr 6 b1), (2, vi b2), (3, vi b3), (4, vi b4)] [vr 6 b1] C f_hx_Read_readLots_130_1 rfl ?_
                refine h_geti C e_hx_Read_readLots_131 fg_Read_121 h_b1 rfl rfl rfl 3 (mu_at (mu A 6 b1 2 b3) 6 b1 7 3) ?_
                refine h_if_le (tgt := 141) C e_hx_Read_readLots_134 (by decide) (by decide) (fun c21 => (by omega : False).elim) (fun c21 => ?_)
                refine h_blk 142 [(0, vr 3 b0), (1, vr 6 b1), (2, vi b2), (3, vi b3), (4, vi b4)] [vi 1] C f_hx_Read_readLots_137_2 rfl ?_
                exact h_zret C Rm E (Or.inr rfl) e_hx_Read_readLots_142 (fin1 h)
            · have h := ifp c16 h
              refine h_blk 127 [(0, vr 3 b0), (1, vr 6 b1), (2, vi b2), (3, vi b3), (4, vi b4)] [vi 2, vr 6 b1] C f_hx_Read_readLots_102_2 rfl ?_
              refine h_puti C e_hx_Read_readLots_127 fp_Read_121 h_b1 rfl rfl rfl ?_
              refine h_blk 131 [(0, vr 3 b0), (1, vr 6 b1), (2, vi b2), (3, vi b3), (4, vi b4)] [vr 6 b1] C f_hx_Read_readLots_130_1 rfl ?_
              refine h_geti C e_hx_Read_readLots_131 fg_Read_121 h_b1 rfl rfl rfl 2 (mu_at (mu A 6 b1 2 b3) 6 b1 7 2) ?_
              refine h_if_le (tgt := 141) C e_hx_Read_readLots_134 (by decide) (by decide) (fun c22 => (by omega : False).elim) (fun c22 => ?_)
              refine h_blk 142 [(0, vr 3 b0), (1, vr 6 b1), (2, vi b2), (3, vi b3), (4, vi b4)] [vi 1] C f_hx_Read_readLots_137_2 rfl ?_
              exact h_zret C Rm E (Or.inr rfl) e_hx_Read_readLots_142 (fin1 h)
          · have h := ifp c15 h
            refine h_blk 127 [(0, vr 3 b0), (1, vr 6 b1), (2, vi b2), (3, vi b3), (4, vi b4)] [vi 1, vr 6 b1] C f_hx_Read_readLots_93_2 rfl ?_
            refine h_puti C e_hx_Read_readLots_127 fp_Read_121 h_b1 rfl rfl rfl ?_
            refine h_blk 131 [(0, vr 3 b0), (1, vr 6 b1), (2, vi b2), (3, vi b3), (4, vi b4)] [vr 6 b1] C f_hx_Read_readLots_130_1 rfl ?_
            refine h_geti C e_hx_Read_readLots_131 fg_Read_121 h_b1 rfl rfl rfl 1 (mu_at (mu A 6 b1 2 b3) 6 b1 7 1) ?_
            refine h_if_le (tgt := 141) C e_hx_Read_readLots_134 (by decide) (by decide) (fun c23 => (by omega : False).elim) (fun c23 => ?_)
            refine h_blk 142 [(0, vr 3 b0), (1, vr 6 b1), (2, vi b2), (3, vi b3), (4, vi b4)] [vi 1] C f_hx_Read_readLots_137_2 rfl ?_
            exact h_zret C Rm E (Or.inr rfl) e_hx_Read_readLots_142 (fin1 h)
        · have h := ifn c14 h
          refine h_blk 35 [(0, vr 3 b0), (1, vr 6 b1), (2, vi b2), (3, vi b3), (4, vi b4)] [vi 44, vr 3 b0] C f_hx_Read_readLots_32_2 rfl ?_
          obtain ⟨q24, e25, h⟩ := obd h
          refine h_callV C Rm Y [vi 44] [] (hx_Read_isSign l D B H0 G _ b0 44 h_b0 _ _ e25) cl_Read_59 h_b0 rfl rfl rfl e_hx_Read_readLots_35 rfl rfl rfl ⟨by decide, by decide⟩ ?_
          rintro _ _ ⟨rfl, rfl⟩
          show HM g D G q q24.2 38 [(0, vr 3 b0), (1, vr 6 b1), (2, vi b2), (3, vi b3), (4, vi b4)] [vi q24.1]
          obtain ⟨c26, h⟩ := igd h
          refine h_if_eq (tgt := 82) C e_hx_Read_readLots_38 (by decide) c26 (fun c27 => ?_) (fun c27 => ?_)
          · have h := ifp c27 h
            refine h_blk 84 [(0, vr 3 b0), (1, vr 6 b1), (2, vi b2), (3, vi b3), (4, vi b4)] [vi b3, vr 6 b1] C f_hx_Read_readLots_82_2 rfl ?_
            refine h_puti C e_hx_Read_readLots_84 fp_Read_105 h_b1 rfl rfl rfl ?_
            refine h_blk 90 [(0, vr 3 b0), (1, vr 6 b1), (2, vi b2), (3, vi b3), (4, vi b4)] [vi 2, vi b2, vr 6 b1] C f_hx_Read_readLots_87_3 rfl ?_
            refine h_icmp_ne (tgt := 97) C e_hx_Read_readLots_90 (by decide) c13 (by decide) (fun c28 => ?_) (fun c28 => ?_)
            · have h := ifn c28 h
              refine h_blk 99 [(0, vr 3 b0), (1, vr 6 b1), (2, vi b2), (3, vi b3), (4, vi b4)] [vi 4, vi b2, vr 6 b1] C f_hx_Read_readLots_97_2 rfl ?_
              refine h_icmp_ne (tgt := 106) C e_hx_Read_readLots_99 (by decide) c13 (by decide) (fun c29 => ?_) (fun c29 => ?_)
              · have h := ifn c29 h
                refine h_blk 109 [(0, vr 3 b0), (1, vr 6 b1), (2, vi b2), (3, vi b3), (4, vi b4)] [vi 8, vi b2, vr 6 b1] C f_hx_Read_readLots_106_2 rfl ?_
                refine h_icmp_ne (tgt := 116) C e_hx_Read_readLots_109 (by decide) c13 (by decide) (fun c30 => ?_) (fun c30 => ?_)
                · have h := ifn c30 h
                  refine h_blk 119 [(0, vr 3 b0), (1, vr 6 b1), (2, vi b2), (3, vi b3), (4, vi b4)] [vi 16, vi b2, vr 6 b1] C f_hx_Read_readLots_116_2 rfl ?_
                  refine h_icmp_ne (tgt := 126) C e_hx_Read_readLots_119 (by decide) c13 (by decide) (fun c31 => ?_) (fun c31 => ?_)
                  · have h := ifn c31 h
                    refine h_blk 127 [(0, vr 3 b0), (1, vr 6 b1), (2, vi b2), (3, vi b3), (4, vi b4)] [vi 0, vr 6 b1] C f_hx_Read_readLots_126_1 rfl ?_
                    refine h_puti C e_hx_Read_readLots_127 fp_Read_121 h_b1 rfl rfl rfl ?_
                    refine h_blk 131 [(0, vr 3 b0), (1, vr 6 b1), (2, vi b2), (3, vi b3), (4, vi b4)] [vr 6 b1] C f_hx_Read_readLots_130_1 rfl ?_
                    refine h_geti C e_hx_Read_readLots_131 fg_Read_121 h_b1 rfl rfl rfl 0 (mu_at (mu q24.2 6 b1 2 b3) 6 b1 7 0) ?_
                    refine h_if_le (tgt := 141) C e_hx_Read_readLots_134 (by decide) (by decide) (fun c32 => ?_) (fun c32 => (by omega : False).elim)
                    refine h_blk 142 [(0, vr 3 b0), (1, vr 6 b1), (2, vi b2), (3, vi b3), (4, vi b4)] [vi 0] C f_hx_Read_readLots_141_1 rfl ?_
                    exact h_zret C Rm E (Or.inl rfl) e_hx_Read_readLots_142 (fin1 h)
                  · have h := ifp c31 h
                    refine h_blk 127 [(0, vr 3 b0), (1, vr 6 b1), (2, vi b2), (3, vi b3), (4, vi b4)] [vi 4, vr 6 b1] C f_hx_Read_readLots_122_2 rfl ?_
                    refine h_puti C e_hx_Read_readLots_127 fp_Read_121 h_b1 rfl rfl rfl ?_
                    refine h_blk 131 [(0, vr 3 b0), (1, vr 6 b1), (2, vi b2), (3, vi b3), (4, vi b4)] [vr 6 b1] C f_hx_Read_readLots_130_1 rfl ?_
                    refine h_geti C e_hx_Read_readLots_131 fg_Read_121 h_b1 rfl rfl rfl 4 (mu_at (mu q24.2 6 b1 2 b3) 6 b1 7 4) ?_
                    refine h_if_le (tgt := 141) C e_hx_Read_readLots_134 (by decide) (by decide) (fun c33 => (by omega : False).elim) (fun c33 => ?_)
                    refine h_blk 142 [(0, vr 3 b0), (1, vr 6 b1), (2, vi b2), (3, vi b3), (4, vi b4)] [vi 1] C f_hx_Read_readLots_137_2 rfl ?_
                    exact h_zret C Rm E (Or.inr rfl) e_hx_Read_readLots_142 (fin1 h)
                · have h := ifp c30 h
                  refine h_blk 127 [(0, vr 3 b0), (1, vr 6 b1), (2, vi b2), (3, vi b3), (4, vi b4)] [vi 3, vr 6 b1] C f_hx_Read_readLots_112_2 rfl ?_
                  refine h_puti C e_hx_Read_readLots_127 fp_Read_121 h_b1 rfl rfl rfl ?_
                  refine h_blk 131 [(0, vr 3 b0), (1, vr 6 b1), (2, vi b2), (3, vi b3), (4, vi b4)] [vr 6 b1] C f_hx_Read_readLots_130_1 rfl ?_
                  refine h_geti C e_hx_Read_readLots_131 fg_Read_121 h_b1 rfl rfl rfl 3 (mu_at (mu q24.2 6 b1 2 b3) 6 b1 7 3) ?_
                  refine h_if_le (tgt := 141) C e_hx_Read_readLots_134 (by decide) (by decide) (fun c34 => (by omega : False).elim) (fun c34 => ?_)
                  refine h_blk 142 [(0, vr 3 b0), (1, vr 6 b1), (2, vi b2), (3, vi b3), (4, vi b4)] [vi 1] C f_hx_Read_readLots_137_2 rfl ?_
                  exact h_zret C Rm E (Or.inr rfl) e_hx_Read_readLots_142 (fin1 h)
              · have h := ifp c29 h
                refine h_blk 127 [(0, vr 3 b0), (1, vr 6 b1), (2, vi b2), (3, vi b3), (4, vi b4)] [vi 2, vr 6 b1] C f_hx_Read_readLots_102_2 rfl ?_
                refine h_puti C e_hx_Read_readLots_127 fp_Read_121 h_b1 rfl rfl rfl ?_
                refine h_blk 131 [(0, vr 3 b0), (1, vr 6 b1), (2, vi b2), (3, vi b3), (4, vi b4)] [vr 6 b1] C f_hx_Read_readLots_130_1 rfl ?_
                refine h_geti C e_hx_Read_readLots_131 fg_Read_121 h_b1 rfl rfl rfl 2 (mu_at (mu q24.2 6 b1 2 b3) 6 b1 7 2) ?_
                refine h_if_le (tgt := 141) C e_hx_Read_readLots_134 (by decide) (by decide) (fun c35 => (by omega : False).elim) (fun c35 => ?_)
                refine h_blk 142 [(0, vr 3 b0), (1, vr 6 b1), (2, vi b2), (3, vi b3), (4, vi b4)] [vi 1] C f_hx_Read_readLots_137_2 rfl ?_
                exact h_zret C Rm E (Or.inr rfl) e_hx_Read_readLots_142 (fin1 h)
            · have h := ifp c28 h
              refine h_blk 127 [(0, vr 3 b0), (1, vr 6 b1), (2, vi b2), (3, vi b3), (4, vi b4)] [vi 1, vr 6 b1] C f_hx_Read_readLots_93_2 rfl ?_
              refine h_puti C e_hx_Read_readLots_127 fp_Read_121 h_b1 rfl rfl rfl ?_
              refine h_blk 131 [(0, vr 3 b0), (1, vr 6 b1), (2, vi b2), (3, vi b3), (4, vi b4)] [vr 6 b1] C f_hx_Read_readLots_130_1 rfl ?_
              refine h_geti C e_hx_Read_readLots_131 fg_Read_121 h_b1 rfl rfl rfl 1 (mu_at (mu q24.2 6 b1 2 b3) 6 b1 7 1) ?_
              refine h_if_le (tgt := 141) C e_hx_Read_readLots_134 (by decide) (by decide) (fun c36 => (by omega : False).elim) (fun c36 => ?_)
              refine h_blk 142 [(0, vr 3 b0), (1, vr 6 b1), (2, vi b2), (3, vi b3), (4, vi b4)] [vi 1] C f_hx_Read_readLots_137_2 rfl ?_
              exact h_zret C Rm E (Or.inr rfl) e_hx_Read_readLots_142 (fin1 h)
          · have h := ifn c27 h
            refine h_blk 44 [(0, vr 3 b0), (1, vr 6 b1), (2, vi b2), (3, vi b3), (4, vi b4)] [vi 8, vi b3] C f_hx_Read_readLots_41_2 rfl ?_
            obtain ⟨c37, h⟩ := igd h
            refine h_icmp_lt (tgt := 49) C e_hx_Read_readLots_44 (by decide) c37 (by decide) (fun c38 => ?_) (fun c38 => ?_)
            · have h := ifp c38 h
              refine h_blk 50 [(0, vr 3 b0), (1, vr 6 b1), (2, vi b2), (3, vi b3), (4, vi b4)] [vr 3 b0] C f_hx_Read_readLots_49_1 rfl ?_
              obtain ⟨q39, e40, h⟩ := obd h
              refine h_callV C Rm Y [] [] (hx_Read_advance l D B H0 G _ b0 h_b0 _ _ e40) cl_Read_43 h_b0 rfl rfl rfl e_hx_Read_readLots_50 rfl rfl rfl ⟨by decide, by decide⟩ ?_
              rintro _ _ ⟨rfl, rfl⟩
              show HM g D G q q39.2 53 [(0, vr 3 b0), (1, vr 6 b1), (2, vi b2), (3, vi b3), (4, vi b4)] []
              refine h_blk 54 [(0, vr 3 b0), (1, vr 6 b1), (2, vi b2), (3, vi b3), (4, vi b4)] [vr 3 b0] C f_hx_Read_readLots_53_1 rfl ?_
              obtain ⟨q41, e42, h⟩ := obd h
              refine h_callV C Rm Y [] [] (hx_Read_readLot l D B H0 G _ b0 h_b0 _ _ e42) cl_Read_117 h_b0 rfl rfl rfl e_hx_Read_readLots_54 rfl rfl rfl ⟨by decide, by decide⟩ ?_
              rintro _ _ ⟨rfl, rfl⟩
              show HM g D G q q41.2 57 [(0, vr 3 b0), (1, vr 6 b1), (2, vi b2), (3, vi b3), (4, vi b4)] [vi q41.1]
              refine h_blk 61 [(5, vi q41.1), (0, vr 3 b0), (1, vr 6 b1), (2, vi b2), (3, vi b3), (4, vi b4)] [vi q41.1] C f_hx_Read_readLots_57_2 rfl ?_
              obtain ⟨c43, h⟩ := igd h
              refine h_if_ne (tgt := 68) C e_hx_Read_readLots_61 (by decide) c43 (fun c44 => ?_) (fun c44 => ?_)
              · have h := ifn c44 h
                refine h_blk 21 [(4, vi (b4 + 1)), (3, vi (b3 + 1)), (2, vi (b2 + q41.1)), (5, vi q41.1), (0, vr 3 b0), (1, vr 6 b1)] [] C f_hx_Read_readLots_68_7 rfl ?_
                refine h_loc [(0, vr 3 b0), (1, vr 6 b1), (2, vi (b2 + q41.1)), (3, vi (b3 + 1)), (4, vi (b4 + 1))] ⟨rfl, rfl, rfl, rfl, rfl, trivial⟩ ?_
                exact ih q41.2 b0 b1 (b2 + q41.1) (b3 + 1) (b4 + 1) (h_b0) (h_b1) h
              · have h := ifp c44 h
                refine h_blk 72 [(5, vi q41.1), (0, vr 3 b0), (1, vr 6 b1), (2, vi b2), (3, vi b3), (4, vi b4)] [vi 0] C f_hx_Read_readLots_64_2 rfl ?_
                refine h_blk 21 [(4, vi (b4 + 1)), (3, vi (b3 + 1)), (2, vi 0), (5, vi q41.1), (0, vr 3 b0), (1, vr 6 b1)] [] C f_hx_Read_readLots_72_4 rfl ?_
                refine h_loc [(0, vr 3 b0), (1, vr 6 b1), (2, vi 0), (3, vi (b3 + 1)), (4, vi (b4 + 1))] ⟨rfl, rfl, rfl, rfl, rfl, trivial⟩ ?_
                exact ih q41.2 b0 b1 0 (b3 + 1) (b4 + 1) (h_b0) (h_b1) h
            · have h := ifn c38 h
              refine h_blk 48 [(0, vr 3 b0), (1, vr 6 b1), (2, vi b2), (3, vi b3), (4, vi b4)] [vi 0] C f_hx_Read_readLots_47_1 rfl ?_
              exact h_zret C Rm E (Or.inl rfl) e_hx_Read_readLots_48 (fin1 h)
  show HM g D G q A 0 [(0, vr 3 o), (1, vr 6 a0)] []
  unfold f_Read_readLots at h
  refine h_blk 2 [(0, vr 3 o), (1, vr 6 a0)] [vr 3 o, vr 6 a0] C f_hx_Read_readLots_0_2 rfl ?_
  obtain ⟨c45, h⟩ := igd h
  refine h_getr5 C e_hx_Read_readLots_2 fg_Read_25 h_o rfl rfl rfl rfl c45 (fun g46 => ?_)
  refine h_geti C e_hx_Read_readLots_5 fg_Read_111 g46 rfl rfl rfl (A 2 ((A 3 o 2).toNat) 6) rfl ?_
  refine h_puti C e_hx_Read_readLots_8 fp_Read_114 h_a0 rfl rfl rfl ?_
  refine h_blk 12 [(0, vr 3 o), (1, vr 6 a0)] [vr 3 o] C f_hx_Read_readLots_11_1 rfl ?_
  obtain ⟨q47, e48, h⟩ := obd h
  refine h_callV C Rm Y [] [] (hx_Read_readLot l D B H0 G _ o h_o _ _ e48) cl_Read_117 h_o rfl rfl rfl e_hx_Read_readLots_12 rfl rfl rfl ⟨by decide, by decide⟩ ?_
  rintro _ _ ⟨rfl, rfl⟩
  show HM g D G q q47.2 15 [(0, vr 3 o), (1, vr 6 a0)] [vi q47.1]
  refine h_blk 21 [(4, vi 0), (3, vi 1), (2, vi q47.1), (0, vr 3 o), (1, vr 6 a0)] [] C f_hx_Read_readLots_15_5 rfl ?_
  refine h_loc [(0, vr 3 o), (1, vr 6 a0), (2, vi q47.1), (3, vi 1), (4, vi 0)] ⟨rfl, rfl, rfl, rfl, rfl, trivial⟩ ?_
  exact hd_21 _ q47.2 o a0 q47.1 1 0 (h_o) (h_a0) h

def f_Read_readTerm_8 (one : mA → Nat → Nat → Option (Int × mA)) : Nat → mA → Nat → Nat → Int → Int → Option (Int × mA)
  | 0, _, _, _, _, _ => none
  | n + 1, A, b0, b1, b2, b3 => (if g32 b3 then (if 120 ≤ b3 then (if (b2 = 0 ∨ b2 = 1) then (some (b2, A)) else none) else (if g32 b2 then (if b2 = 0 then (if (b2 = 0 ∨ b2 = 1) then (some (b2, A)) else none) else (Option.bind (f_Read_isSign A b0 42) (fun q7 => (if g32 q7.1 then (if q7.1 = 0 then (Option.bind (f_Read_isSign q7.2 b0 37) (fun q19 => (if g32 q19.1 then (if q19.1 = 0 then (if (b2 = 0 ∨ b2 = 1) then (some (b2, q19.2)) else none) else (Option.bind (f_Read_advance q19.2 b0) (fun q24 => (Option.bind (one q24.2 b0 b1) (fun q26 => (if 0 ≤ (q26.2 3 b0 2) then (Option.bind (f_Prog_emit q26.2 ((q26.2 3 b0 2).toNat) (200 + (q19.2 3 b0 8))) (fun q30 => (f_Read_readTerm_8 one n q30.2 b0 b1 q26.1 (b3 + 1)))) else none)))))) else none))) else (Option.bind (f_Read_advance q7.2 b0) (fun q11 => (Option.bind (one q11.2 b0 b1) (fun q13 => (if 0 ≤ (q13.2 3 b0 2) then (Option.bind (f_Prog_emit q13.2 ((q13.2 3 b0 2).toNat) (200 + (q7.2 3 b0 8))) (fun q17 => (f_Read_readTerm_8 one n q17.2 b0 b1 q13.1 (b3 + 1)))) else none)))))) else none)))) else none)) else none)
def f_Read_readTerm (one : mA → Nat → Nat → Option (Int × mA)) (A : mA) (o : Nat) (a0 : Nat) : Option (Int × mA) := (Option.bind (one A o a0) (fun q32 => (f_Read_readTerm_8 one 200 q32.2 o a0 q32.1 0)))
theorem f_hx_Read_readTerm_0_2 : mblkB b_Read_readTerm [(0, .aload_n 0, vi 0), (1, .aload_n 1, vi 0)] = true := by decide +kernel
theorem e_hx_Read_readTerm_2 : decode b_Read_readTerm 2 = .ok (.invokevirtual 150, 3) := by decide +kernel
theorem f_hx_Read_readTerm_5_3 : mblkB b_Read_readTerm [(5, .istore_n 2, vi 0), (6, .iconst 0, vi 0), (7, .istore_n 3, vi 0)] = true := by decide +kernel
theorem f_hx_Read_readTerm_8_2 : mblkB b_Read_readTerm [(8, .iload_n 3, vi 0), (9, .bipush 120, vi 120)] = true := by decide +kernel
theorem e_hx_Read_readTerm_11 : decode b_Read_readTerm 11 = .ok (.if_icmp .ge 60, 3) := by decide +kernel
theorem f_hx_Read_readTerm_71_1 : mblkB b_Read_readTerm [(71, .iload_n 2, vi 0)] = true := by decide +kernel
theorem e_hx_Read_readTerm_72 : decode b_Read_readTerm 72 = .ok (.ireturn, 1) := by decide +kernel
theorem f_hx_Read_readTerm_14_1 : mblkB b_Read_readTerm [(14, .iload_n 2, vi 0)] = true := by decide +kernel
theorem e_hx_Read_readTerm_15 : decode b_Read_readTerm 15 = .ok (.ifCond .eq 56, 3) := by decide +kernel
theorem f_hx_Read_readTerm_18_2 : mblkB b_Read_readTerm [(18, .aload_n 0, vi 0), (19, .bipush 42, vi 42)] = true := by decide +kernel
theorem e_hx_Read_readTerm_21 : decode b_Read_readTerm 21 = .ok (.invokevirtual 59, 3) := by decide +kernel
theorem e_hx_Read_readTerm_24 : decode b_Read_readTerm 24 = .ok (.ifCond .ne 12, 3) := by decide +kernel
theorem f_hx_Read_readTerm_36_1 : mblkB b_Read_readTerm [(36, .aload_n 0, vi 0)] = true := by decide +kernel
theorem e_hx_Read_readTerm_37 : decode b_Read_readTerm 37 = .ok (.getfield 64, 3) := by decide +kernel
theorem f_hx_Read_readTerm_40_2 : mblkB b_Read_readTerm [(40, .istore 4, vi 0), (42, .aload_n 0, vi 0)] = true := by decide +kernel
theorem e_hx_Read_readTerm_43 : decode b_Read_readTerm 43 = .ok (.invokevirtual 43, 3) := by decide +kernel
theorem f_hx_Read_readTerm_46_2 : mblkB b_Read_readTerm [(46, .aload_n 0, vi 0), (47, .aload_n 1, vi 0)] = true := by decide +kernel
theorem e_hx_Read_readTerm_48 : decode b_Read_readTerm 48 = .ok (.invokevirtual 150, 3) := by decide +kernel
theorem f_hx_Read_readTerm_51_2 : mblkB b_Read_readTerm [(51, .istore_n 2, vi 0), (52, .aload_n 0, vi 0)] = true := by decide +kernel
theorem e_hx_Read_readTerm_53 : decode b_Read_readTerm 53 = .ok (.getfield 25, 3) := by decide +kernel
theorem f_hx_Read_readTerm_56_3 : mblkB b_Read_readTerm [(56, .sipush 200, vi 200), (59, .iload 4, vi 0), (61, .iadd, vi 0)] = true := by decide +kernel
theorem e_hx_Read_readTerm_62 : decode b_Read_readTerm 62 = .ok (.invokevirtual 143, 3) := by decide +kernel
theorem f_hx_Read_readTerm_65_2 : mblkB b_Read_readTerm [(65, .iinc 3 1, vi 1), (68, .goto (-60), vi 8)] = true := by decide +kernel
theorem f_hx_Read_readTerm_27_2 : mblkB b_Read_readTerm [(27, .aload_n 0, vi 0), (28, .bipush 37, vi 37)] = true := by decide +kernel
theorem e_hx_Read_readTerm_30 : decode b_Read_readTerm 30 = .ok (.invokevirtual 59, 3) := by decide +kernel
theorem e_hx_Read_readTerm_33 : decode b_Read_readTerm 33 = .ok (.ifCond .eq 38, 3) := by decide +kernel
set_option maxHeartbeats 4000000 in
set_option maxRecDepth 20000 in
theorem hx_Read_readTerm {one : mA → Nat → Nat → Option (Int × mA)} {fr lo : Nat} (hone : ∀ (l : Launch) (D : va_G) (B : Nat) (H0 : Heap) (G : tG) (A : mA) (o : Nat) (a0 : Nat) (h_o : G o = some 3) (h_a0 : G a0 = some 6)  (r9 : Int) (A9 : mA), one A o a0 = some (r9, A9) → hMet l D B H0 G y_Read_readOne b_Read_readOne 4 (some .boolean) fr lo [vr 3 o, vr 6 a0] A (fun v A' => v = some (vi r9) ∧ A' = A9)) : ∀ (l : Launch) (D : va_G) (B : Nat) (H0 : Heap) (G : tG) (A : mA) (o : Nat) (a0 : Nat) (h_o : G o = some 3) (h_a0 : G a0 = some 6)  (r9 : Int) (A9 : mA), f_Read_readTerm one A o a0 = some (r9, A9) → hMet l D B H0 G y_Read_readTerm b_Read_readTerm 5 (some .boolean) (fr + 10) (lo + 400) [vr 3 o, vr 6 a0] A (fun v A' => v = some (vi r9) ∧ A' = A9) := by
  intro l D B H0 G A o a0 h_o h_a0 r9 A9 h
  refine h_met (by decide) rfl (fun g q C Rm Y E => ?_)
  have hd_8 : ∀ (n : Nat) (A : mA) (b0 : Nat) (b1 : Nat) (b2 : Int) (b3 : Int) , G b0 = some 3 → G b1 = some 6 → f_Read_readTerm_8 one n A b0 b1 b2 b3 = some (r9, A9) → HM g D G q A 8 [(0, vr 3 b0), (1, vr 6 b1), (2, vi b2), (3, vi b3)] [] := by
    intro n
    induction n with
    | zero => intro A b0 b1 b2 b3 h_b0 h_b1 h; cases h
    | succ n ih =>
      intro A b0 b1 b2 b3 h_b0 h_b1 h
      unfold f_Read_readTerm_8 at h
      refine h_blk 11 [(0, vr 3 b0), (1, vr 6 b1), (2, vi b2), (3, vi b3)] [vi 120, vi b3] C f_hx_Read_readTerm_8_2 rfl ?_
      obtain ⟨c1, h⟩ := igd h
      refine h_icmp_ge (tgt := 71) C e_hx_Read_readTerm_11 (by decide) c1 (by decide) (fun c2 => ?_) (fun c2 => ?_)
      · have h := ifp c2 h
        refine h_blk 72 [(0, vr 3 b0), (1, vr 6 b1), (2, vi b2), (3, vi b3)] [vi b2] C f_hx_Read_readTerm_71_1 rfl ?_
        obtain ⟨c3, h⟩ := igd h
        exact h_zret C Rm E c3 e_hx_Read_readTerm_72 (fin1 h)
      · have h := ifn c2 h
        refine h_blk 15 [(0, vr 3 b0), (1, vr 6 b1), (2, vi b2), (3, vi b3)] [vi b2] C f_hx_Read_readTerm_14_1 rfl ?_
        obtain ⟨c4, h⟩ := igd h
        refine h_if_eq (tgt := 71) C e_hx_Read_readTerm_15 (by decide) c4 (fun c5 => ?_) (fun c5 => ?_)
        · have h := ifp c5 h
          refine h_blk 72 [(0, vr 3 b0), (1, vr 6 b1), (2, vi b2), (3, vi b3)] [vi b2] C f_hx_Read_readTerm_71_1 rfl ?_
          obtain ⟨c6, h⟩ := igd h
          exact h_zret C Rm E c6 e_hx_Read_readTerm_72 (fin1 h)
        · have h := ifn c5 h
          refine h_blk 21 [(0, vr 3 b0), (1, vr 6 b1), (2, vi b2), (3, vi b3)] [vi 42, vr 3 b0] C f_hx_Read_readTerm_18_2 rfl ?_
          obtain ⟨q7, e8, h⟩ := obd h
          refine h_callV C Rm Y [vi 42] [] (hx_Read_isSign l D B H0 G _ b0 42 h_b0 _ _ e8) cl_Read_59 h_b0 rfl rfl rfl e_hx_Read_readTerm_21 rfl rfl rfl ⟨by show _ ≤ ((fr + 10) : Nat); omega, by show _ ≤ ((lo + 400) : Nat); omega⟩ ?_
          rintro _ _ ⟨rfl, rfl⟩
          show HM g D G q q7.2 24 [(0, vr 3 b0), (1, vr 6 b1), (2, vi b2), (3, vi b3)] [vi q7.1]
          obtain ⟨c9, h⟩ := igd h
          refine h_if_ne (tgt := 36) C e_hx_Read_readTerm_24 (by decide) c9 (fun c10 => ?_) (fun c10 => ?_)
          · have h := ifn c10 h
            refine h_blk 37 [(0, vr 3 b0), (1, vr 6 b1), (2, vi b2), (3, vi b3)] [vr 3 b0] C f_hx_Read_readTerm_36_1 rfl ?_
            refine h_geti C e_hx_Read_readTerm_37 fg_Read_64 h_b0 rfl rfl rfl (q7.2 3 b0 8) rfl ?_
            refine h_blk 43 [(4, vi (q7.2 3 b0 8)), (0, vr 3 b0), (1, vr 6 b1), (2, vi b2), (3, vi b3)] [vr 3 b0] C f_hx_Read_readTerm_40_2 rfl ?_
            obtain ⟨q11, e12, h⟩ := obd h
            refine h_callV C Rm Y [] [] (hx_Read_advance l D B H0 G _ b0 h_b0 _ _ e12) cl_Read_43 h_b0 rfl rfl rfl e_hx_Read_readTerm_43 rfl rfl rfl ⟨by show _ ≤ ((fr + 10) : Nat); omega, by show _ ≤ ((lo + 400) : Nat); omega⟩ ?_
            rintro _ _ ⟨rfl, rfl⟩
            show HM g D G q q11.2 46 [(4, vi (q7.2 3 b0 8)), (0, vr 3 b0), (1, vr 6 b1), (2, vi b2), (3, vi b3)] []
            refine h_blk 48 [(4, vi (q7.2 3 b0 8)), (0, vr 3 b0), (1, vr 6 b1), (2, vi b2), (3, vi b3)] [vr 6 b1, vr 3 b0] C f_hx_Read_readTerm_46_2 rfl ?_
            obtain ⟨q13, e14, h⟩ := obd h
            refine h_callV C Rm Y [vr 6 b1] [] (hone l D B H0 G _ b0 b1 h_b0 h_b1 _ _ e14) cl_Read_150 h_b0 rfl rfl rfl e_hx_Read_readTerm_48 rfl rfl rfl ⟨by show _ ≤ ((fr + 10) : Nat); omega, by show _ ≤ ((lo + 400) : Nat); omega⟩ ?_
            rintro _ _ ⟨rfl, rfl⟩
            show HM g D G q q13.2 51 [(4, vi (q7.2 3 b0 8)), (0, vr 3 b0), (1, vr 6 b1), (2, vi b2), (3, vi b3)] [vi q13.1]
            refine h_blk 53 [(2, vi q13.1), (4, vi (q7.2 3 b0 8)), (0, vr 3 b0), (1, vr 6 b1), (3, vi b3)] [vr 3 b0] C f_hx_Read_readTerm_51_2 rfl ?_
            obtain ⟨c15, h⟩ := igd h
            refine h_getr5 C e_hx_Read_readTerm_53 fg_Read_25 h_b0 rfl rfl rfl rfl c15 (fun g16 => ?_)
            refine h_blk 62 [(2, vi q13.1), (4, vi (q7.2 3 b0 8)), (0, vr 3 b0), (1, vr 6 b1), (3, vi b3)] [vi (200 + (q7.2 3 b0 8)), vr 2 ((q13.2 3 b0 2).toNat)] C f_hx_Read_readTerm_56_3 rfl ?_
            obtain ⟨q17, e18, h⟩ := obd h
            refine h_callV C Rm Y [vi (200 + (q7.2 3 b0 8))] [] (hx_Prog_emit l D B H0 G _ ((q13.2 3 b0 2).toNat) (200 + (q7.2 3 b0 8)) g16 _ _ e18) cl_Read_143 g16 rfl rfl rfl e_hx_Read_readTerm_62 rfl rfl rfl ⟨by show _ ≤ ((fr + 10) : Nat); omega, by show _ ≤ ((lo + 400) : Nat); omega⟩ ?_
            rintro _ _ ⟨rfl, rfl⟩
            show HM g D G q q17.2 65 [(2, vi q13.1), (4, vi (q7.2 3 b0 8)), (0, vr 3 b0), (1, vr 6 b1), (3, vi b3)] []
            refine h_blk 8 [(3, vi (b3 + 1)), (2, vi q13.1), (4, vi (q7.2 3 b0 8)), (0, vr 3 b0), (1, vr 6 b1)] [] C f_hx_Read_readTerm_65_2 rfl ?_
            refine h_loc [(0, vr 3 b0), (1, vr 6 b1), (2, vi q13.1), (3, vi (b3 + 1))] ⟨rfl, rfl, rfl, rfl, trivial⟩ ?_
            exact ih q17.2 b0 b1 q13.1 (b3 + 1) (h_b0) (h_b1) h
          · have h := ifp c10 h
            refine h_blk 30 [(0, vr 3 b0), (1, vr 6 b1), (2, vi b2), (3, vi b3)] [vi 37, vr 3 b0] C f_hx_Read_readTerm_27_2 rfl ?_
            obtain ⟨q19, e20, h⟩ := obd h
            refine h_callV C Rm Y [vi 37] [] (hx_Read_isSign l D B H0 G _ b0 37 h_b0 _ _ e20) cl_Read_59 h_b0 rfl rfl rfl e_hx_Read_readTerm_30 rfl rfl rfl ⟨by show _ ≤ ((fr + 10) : Nat); omega, by show _ ≤ ((lo + 400) : Nat); omega⟩ ?_
            rintro _ _ ⟨rfl, rfl⟩
            show HM g D G q q19.2 33 [(0, vr 3 b0), (1, vr 6 b1), (2, vi b2), (3, vi b3)] [vi q19.1]
            obtain ⟨c21, h⟩ := igd h
            refine h_if_eq (tgt := 71) C e_hx_Read_readTerm_33 (by decide) c21 (fun c22 => ?_) (fun c22 => ?_)
            · have h := ifp c22 h
              refine h_blk 72 [(0, vr 3 b0), (1, vr 6 b1), (2, vi b2), (3, vi b3)] [vi b2] C f_hx_Read_readTerm_71_1 rfl ?_
              obtain ⟨c23, h⟩ := igd h
              exact h_zret C Rm E c23 e_hx_Read_readTerm_72 (fin1 h)
            · have h := ifn c22 h
              refine h_blk 37 [(0, vr 3 b0), (1, vr 6 b1), (2, vi b2), (3, vi b3)] [vr 3 b0] C f_hx_Read_readTerm_36_1 rfl ?_
              refine h_geti C e_hx_Read_readTerm_37 fg_Read_64 h_b0 rfl rfl rfl (q19.2 3 b0 8) rfl ?_
              refine h_blk 43 [(4, vi (q19.2 3 b0 8)), (0, vr 3 b0), (1, vr 6 b1), (2, vi b2), (3, vi b3)] [vr 3 b0] C f_hx_Read_readTerm_40_2 rfl ?_
              obtain ⟨q24, e25, h⟩ := obd h
              refine h_callV C Rm Y [] [] (hx_Read_advance l D B H0 G _ b0 h_b0 _ _ e25) cl_Read_43 h_b0 rfl rfl rfl e_hx_Read_readTerm_43 rfl rfl rfl ⟨by show _ ≤ ((fr + 10) : Nat); omega, by show _ ≤ ((lo + 400) : Nat); omega⟩ ?_
              rintro _ _ ⟨rfl, rfl⟩
              show HM g D G q q24.2 46 [(4, vi (q19.2 3 b0 8)), (0, vr 3 b0), (1, vr 6 b1), (2, vi b2), (3, vi b3)] []
              refine h_blk 48 [(4, vi (q19.2 3 b0 8)), (0, vr 3 b0), (1, vr 6 b1), (2, vi b2), (3, vi b3)] [vr 6 b1, vr 3 b0] C f_hx_Read_readTerm_46_2 rfl ?_
              obtain ⟨q26, e27, h⟩ := obd h
              refine h_callV C Rm Y [vr 6 b1] [] (hone l D B H0 G _ b0 b1 h_b0 h_b1 _ _ e27) cl_Read_150 h_b0 rfl rfl rfl e_hx_Read_readTerm_48 rfl rfl rfl ⟨by show _ ≤ ((fr + 10) : Nat); omega, by show _ ≤ ((lo + 400) : Nat); omega⟩ ?_
              rintro _ _ ⟨rfl, rfl⟩
              show HM g D G q q26.2 51 [(4, vi (q19.2 3 b0 8)), (0, vr 3 b0), (1, vr 6 b1), (2, vi b2), (3, vi b3)] [vi q26.1]
              refine h_blk 53 [(2, vi q26.1), (4, vi (q19.2 3 b0 8)), (0, vr 3 b0), (1, vr 6 b1), (3, vi b3)] [vr 3 b0] C f_hx_Read_readTerm_51_2 rfl ?_
              obtain ⟨c28, h⟩ := igd h
              refine h_getr5 C e_hx_Read_readTerm_53 fg_Read_25 h_b0 rfl rfl rfl rfl c28 (fun g29 => ?_)
              refine h_blk 62 [(2, vi q26.1), (4, vi (q19.2 3 b0 8)), (0, vr 3 b0), (1, vr 6 b1), (3, vi b3)] [vi (200 + (q19.2 3 b0 8)), vr 2 ((q26.2 3 b0 2).toNat)] C f_hx_Read_readTerm_56_3 rfl ?_
              obtain ⟨q30, e31, h⟩ := obd h
              refine h_callV C Rm Y [vi (200 + (q19.2 3 b0 8))] [] (hx_Prog_emit l D B H0 G _ ((q26.2 3 b0 2).toNat) (200 + (q19.2 3 b0 8)) g29 _ _ e31) cl_Read_143 g29 rfl rfl rfl e_hx_Read_readTerm_62 rfl rfl rfl ⟨by show _ ≤ ((fr + 10) : Nat); omega, by show _ ≤ ((lo + 400) : Nat); omega⟩ ?_
              rintro _ _ ⟨rfl, rfl⟩
              show HM g D G q q30.2 65 [(2, vi q26.1), (4, vi (q19.2 3 b0 8)), (0, vr 3 b0), (1, vr 6 b1), (3, vi b3)] []
              refine h_blk 8 [(3, vi (b3 + 1)), (2, vi q26.1), (4, vi (q19.2 3 b0 8)), (0, vr 3 b0), (1, vr 6 b1)] [] C f_hx_Read_readTerm_65_2 rfl ?_
              refine h_loc [(0, vr 3 b0), (1, vr 6 b1), (2, vi q26.1), (3, vi (b3 + 1))] ⟨rfl, rfl, rfl, rfl, trivial⟩ ?_
              exact ih q30.2 b0 b1 q26.1 (b3 + 1) (h_b0) (h_b1) h
  show HM g D G q A 0 [(0, vr 3 o), (1, vr 6 a0)] []
  unfold f_Read_readTerm at h
  refine h_blk 2 [(0, vr 3 o), (1, vr 6 a0)] [vr 6 a0, vr 3 o] C f_hx_Read_readTerm_0_2 rfl ?_
  obtain ⟨q32, e33, h⟩ := obd h
  refine h_callV C Rm Y [vr 6 a0] [] (hone l D B H0 G _ o a0 h_o h_a0 _ _ e33) cl_Read_150 h_o rfl rfl rfl e_hx_Read_readTerm_2 rfl rfl rfl ⟨by show _ ≤ ((fr + 10) : Nat); omega, by show _ ≤ ((lo + 400) : Nat); omega⟩ ?_
  rintro _ _ ⟨rfl, rfl⟩
  show HM g D G q q32.2 5 [(0, vr 3 o), (1, vr 6 a0)] [vi q32.1]
  refine h_blk 8 [(3, vi 0), (2, vi q32.1), (0, vr 3 o), (1, vr 6 a0)] [] C f_hx_Read_readTerm_5_3 rfl ?_
  refine h_loc [(0, vr 3 o), (1, vr 6 a0), (2, vi q32.1), (3, vi 0)] ⟨rfl, rfl, rfl, rfl, trivial⟩ ?_
  exact hd_8 _ q32.2 o a0 q32.1 0 (h_o) (h_a0) h

def f_Read_readSum_8 (one : mA → Nat → Nat → Option (Int × mA)) : Nat → mA → Nat → Nat → Int → Int → Option (Int × mA)
  | 0, _, _, _, _, _ => none
  | n + 1, A, b0, b1, b2, b3 => (if g32 b3 then (if 120 ≤ b3 then (if (b2 = 0 ∨ b2 = 1) then (some (b2, A)) else none) else (if g32 b2 then (if b2 = 0 then (if (b2 = 0 ∨ b2 = 1) then (some (b2, A)) else none) else (Option.bind (f_Read_isSign A b0 43) (fun q7 => (if g32 q7.1 then (if q7.1 = 0 then (Option.bind (f_Read_isSign q7.2 b0 45) (fun q19 => (if g32 q19.1 then (if q19.1 = 0 then (if (b2 = 0 ∨ b2 = 1) then (some (b2, q19.2)) else none) else (Option.bind (f_Read_advance q19.2 b0) (fun q24 => (Option.bind (f_Read_readTerm one q24.2 b0 b1) (fun q26 => (if 0 ≤ (q26.2 3 b0 2) then (Option.bind (f_Prog_emit q26.2 ((q26.2 3 b0 2).toNat) (200 + (q19.2 3 b0 8))) (fun q30 => (f_Read_readSum_8 one n q30.2 b0 b1 q26.1 (b3 + 1)))) else none)))))) else none))) else (Option.bind (f_Read_advance q7.2 b0) (fun q11 => (Option.bind (f_Read_readTerm one q11.2 b0 b1) (fun q13 => (if 0 ≤ (q13.2 3 b0 2) then (Option.bind (f_Prog_emit q13.2 ((q13.2 3 b0 2).toNat) (200 + (q7.2 3 b0 8))) (fun q17 => (f_Read_readSum_8 one n q17.2 b0 b1 q13.1 (b3 + 1)))) else none)))))) else none)))) else none)) else none)
def f_Read_readSum (one : mA → Nat → Nat → Option (Int × mA)) (A : mA) (o : Nat) (a0 : Nat) : Option (Int × mA) := (Option.bind (f_Read_readTerm one A o a0) (fun q32 => (f_Read_readSum_8 one 200 q32.2 o a0 q32.1 0)))
theorem f_hx_Read_readSum_0_2 : mblkB b_Read_readSum [(0, .aload_n 0, vi 0), (1, .aload_n 1, vi 0)] = true := by decide +kernel
theorem e_hx_Read_readSum_2 : decode b_Read_readSum 2 = .ok (.invokevirtual 147, 3) := by decide +kernel
theorem f_hx_Read_readSum_5_3 : mblkB b_Read_readSum [(5, .istore_n 2, vi 0), (6, .iconst 0, vi 0), (7, .istore_n 3, vi 0)] = true := by decide +kernel
theorem f_hx_Read_readSum_8_2 : mblkB b_Read_readSum [(8, .iload_n 3, vi 0), (9, .bipush 120, vi 120)] = true := by decide +kernel
theorem e_hx_Read_readSum_11 : decode b_Read_readSum 11 = .ok (.if_icmp .ge 60, 3) := by decide +kernel
theorem f_hx_Read_readSum_71_1 : mblkB b_Read_readSum [(71, .iload_n 2, vi 0)] = true := by decide +kernel
theorem e_hx_Read_readSum_72 : decode b_Read_readSum 72 = .ok (.ireturn, 1) := by decide +kernel
theorem f_hx_Read_readSum_14_1 : mblkB b_Read_readSum [(14, .iload_n 2, vi 0)] = true := by decide +kernel
theorem e_hx_Read_readSum_15 : decode b_Read_readSum 15 = .ok (.ifCond .eq 56, 3) := by decide +kernel
theorem f_hx_Read_readSum_18_2 : mblkB b_Read_readSum [(18, .aload_n 0, vi 0), (19, .bipush 43, vi 43)] = true := by decide +kernel
theorem e_hx_Read_readSum_21 : decode b_Read_readSum 21 = .ok (.invokevirtual 59, 3) := by decide +kernel
theorem e_hx_Read_readSum_24 : decode b_Read_readSum 24 = .ok (.ifCond .ne 12, 3) := by decide +kernel
theorem f_hx_Read_readSum_36_1 : mblkB b_Read_readSum [(36, .aload_n 0, vi 0)] = true := by decide +kernel
theorem e_hx_Read_readSum_37 : decode b_Read_readSum 37 = .ok (.getfield 64, 3) := by decide +kernel
theorem f_hx_Read_readSum_40_2 : mblkB b_Read_readSum [(40, .istore 4, vi 0), (42, .aload_n 0, vi 0)] = true := by decide +kernel
theorem e_hx_Read_readSum_43 : decode b_Read_readSum 43 = .ok (.invokevirtual 43, 3) := by decide +kernel
theorem f_hx_Read_readSum_46_2 : mblkB b_Read_readSum [(46, .aload_n 0, vi 0), (47, .aload_n 1, vi 0)] = true := by decide +kernel
theorem e_hx_Read_readSum_48 : decode b_Read_readSum 48 = .ok (.invokevirtual 147, 3) := by decide +kernel
theorem f_hx_Read_readSum_51_2 : mblkB b_Read_readSum [(51, .istore_n 2, vi 0), (52, .aload_n 0, vi 0)] = true := by decide +kernel
theorem e_hx_Read_readSum_53 : decode b_Read_readSum 53 = .ok (.getfield 25, 3) := by decide +kernel
theorem f_hx_Read_readSum_56_3 : mblkB b_Read_readSum [(56, .sipush 200, vi 200), (59, .iload 4, vi 0), (61, .iadd, vi 0)] = true := by decide +kernel
theorem e_hx_Read_readSum_62 : decode b_Read_readSum 62 = .ok (.invokevirtual 143, 3) := by decide +kernel
theorem f_hx_Read_readSum_65_2 : mblkB b_Read_readSum [(65, .iinc 3 1, vi 1), (68, .goto (-60), vi 8)] = true := by decide +kernel
theorem f_hx_Read_readSum_27_2 : mblkB b_Read_readSum [(27, .aload_n 0, vi 0), (28, .bipush 45, vi 45)] = true := by decide +kernel
theorem e_hx_Read_readSum_30 : decode b_Read_readSum 30 = .ok (.invokevirtual 59, 3) := by decide +kernel
theorem e_hx_Read_readSum_33 : decode b_Read_readSum 33 = .ok (.ifCond .eq 38, 3) := by decide +kernel
set_option maxHeartbeats 4000000 in
set_option maxRecDepth 20000 in
theorem hx_Read_readSum {one : mA → Nat → Nat → Option (Int × mA)} {fr lo : Nat} (hone : ∀ (l : Launch) (D : va_G) (B : Nat) (H0 : Heap) (G : tG) (A : mA) (o : Nat) (a0 : Nat) (h_o : G o = some 3) (h_a0 : G a0 = some 6)  (r9 : Int) (A9 : mA), one A o a0 = some (r9, A9) → hMet l D B H0 G y_Read_readOne b_Read_readOne 4 (some .boolean) fr lo [vr 3 o, vr 6 a0] A (fun v A' => v = some (vi r9) ∧ A' = A9)) : ∀ (l : Launch) (D : va_G) (B : Nat) (H0 : Heap) (G : tG) (A : mA) (o : Nat) (a0 : Nat) (h_o : G o = some 3) (h_a0 : G a0 = some 6)  (r9 : Int) (A9 : mA), f_Read_readSum one A o a0 = some (r9, A9) → hMet l D B H0 G y_Read_readSum b_Read_readSum 5 (some .boolean) (fr + 20) (lo + 800) [vr 3 o, vr 6 a0] A (fun v A' => v = some (vi r9) ∧ A' = A9) := by
  intro l D B H0 G A o a0 h_o h_a0 r9 A9 h
  refine h_met (by decide) rfl (fun g q C Rm Y E => ?_)
  have hd_8 : ∀ (n : Nat) (A : mA) (b0 : Nat) (b1 : Nat) (b2 : Int) (b3 : Int) , G b0 = some 3 → G b1 = some 6 → f_Read_readSum_8 one n A b0 b1 b2 b3 = some (r9, A9) → HM g D G q A 8 [(0, vr 3 b0), (1, vr 6 b1), (2, vi b2), (3, vi b3)] [] := by
    intro n
    induction n with
    | zero => intro A b0 b1 b2 b3 h_b0 h_b1 h; cases h
    | succ n ih =>
      intro A b0 b1 b2 b3 h_b0 h_b1 h
      unfold f_Read_readSum_8 at h
      refine h_blk 11 [(0, vr 3 b0), (1, vr 6 b1), (2, vi b2), (3, vi b3)] [vi 120, vi b3] C f_hx_Read_readSum_8_2 rfl ?_
      obtain ⟨c1, h⟩ := igd h
      refine h_icmp_ge (tgt := 71) C e_hx_Read_readSum_11 (by decide) c1 (by decide) (fun c2 => ?_) (fun c2 => ?_)
      · have h := ifp c2 h
        refine h_blk 72 [(0, vr 3 b0), (1, vr 6 b1), (2, vi b2), (3, vi b3)] [vi b2] C f_hx_Read_readSum_71_1 rfl ?_
        obtain ⟨c3, h⟩ := igd h
        exact h_zret C Rm E c3 e_hx_Read_readSum_72 (fin1 h)
      · have h := ifn c2 h
        refine h_blk 15 [(0, vr 3 b0), (1, vr 6 b1), (2, vi b2), (3, vi b3)] [vi b2] C f_hx_Read_readSum_14_1 rfl ?_
        obtain ⟨c4, h⟩ := igd h
        refine h_if_eq (tgt := 71) C e_hx_Read_readSum_15 (by decide) c4 (fun c5 => ?_) (fun c5 => ?_)
        · have h := ifp c5 h
          refine h_blk 72 [(0, vr 3 b0), (1, vr 6 b1), (2, vi b2), (3, vi b3)] [vi b2] C f_hx_Read_readSum_71_1 rfl ?_
          obtain ⟨c6, h⟩ := igd h
          exact h_zret C Rm E c6 e_hx_Read_readSum_72 (fin1 h)
        · have h := ifn c5 h
          refine h_blk 21 [(0, vr 3 b0), (1, vr 6 b1), (2, vi b2), (3, vi b3)] [vi 43, vr 3 b0] C f_hx_Read_readSum_18_2 rfl ?_
          obtain ⟨q7, e8, h⟩ := obd h
          refine h_callV C Rm Y [vi 43] [] (hx_Read_isSign l D B H0 G _ b0 43 h_b0 _ _ e8) cl_Read_59 h_b0 rfl rfl rfl e_hx_Read_readSum_21 rfl rfl rfl ⟨by show _ ≤ ((fr + 20) : Nat); omega, by show _ ≤ ((lo + 800) : Nat); omega⟩ ?_
          rintro _ _ ⟨rfl, rfl⟩
          show HM g D G q q7.2 24 [(0, vr 3 b0), (1, vr 6 b1), (2, vi b2), (3, vi b3)] [vi q7.1]
          obtain ⟨c9, h⟩ := igd h
          refine h_if_ne (tgt := 36) C e_hx_Read_readSum_24 (by decide) c9 (fun c10 => ?_) (fun c10 => ?_)
          · have h := ifn c10 h
            refine h_blk 37 [(0, vr 3 b0), (1, vr 6 b1), (2, vi b2), (3, vi b3)] [vr 3 b0] C f_hx_Read_readSum_36_1 rfl ?_
            refine h_geti C e_hx_Read_readSum_37 fg_Read_64 h_b0 rfl rfl rfl (q7.2 3 b0 8) rfl ?_
            refine h_blk 43 [(4, vi (q7.2 3 b0 8)), (0, vr 3 b0), (1, vr 6 b1), (2, vi b2), (3, vi b3)] [vr 3 b0] C f_hx_Read_readSum_40_2 rfl ?_
            obtain ⟨q11, e12, h⟩ := obd h
            refine h_callV C Rm Y [] [] (hx_Read_advance l D B H0 G _ b0 h_b0 _ _ e12) cl_Read_43 h_b0 rfl rfl rfl e_hx_Read_readSum_43 rfl rfl rfl ⟨by show _ ≤ ((fr + 20) : Nat); omega, by show _ ≤ ((lo + 800) : Nat); omega⟩ ?_
            rintro _ _ ⟨rfl, rfl⟩
            show HM g D G q q11.2 46 [(4, vi (q7.2 3 b0 8)), (0, vr 3 b0), (1, vr 6 b1), (2, vi b2), (3, vi b3)] []
            refine h_blk 48 [(4, vi (q7.2 3 b0 8)), (0, vr 3 b0), (1, vr 6 b1), (2, vi b2), (3, vi b3)] [vr 6 b1, vr 3 b0] C f_hx_Read_readSum_46_2 rfl ?_
            obtain ⟨q13, e14, h⟩ := obd h
            refine h_callV C Rm Y [vr 6 b1] [] (hx_Read_readTerm hone l D B H0 G _ b0 b1 h_b0 h_b1 _ _ e14) cl_Read_147 h_b0 rfl rfl rfl e_hx_Read_readSum_48 rfl rfl rfl ⟨by show _ ≤ ((fr + 20) : Nat); omega, by show _ ≤ ((lo + 800) : Nat); omega⟩ ?_
            rintro _ _ ⟨rfl, rfl⟩
            show HM g D G q q13.2 51 [(4, vi (q7.2 3 b0 8)), (0, vr 3 b0), (1, vr 6 b1), (2, vi b2), (3, vi b3)] [vi q13.1]
            refine h_blk 53 [(2, vi q13.1), (4, vi (q7.2 3 b0 8)), (0, vr 3 b0), (1, vr 6 b1), (3, vi b3)] [vr 3 b0] C f_hx_Read_readSum_51_2 rfl ?_
            obtain ⟨c15, h⟩ := igd h
            refine h_getr5 C e_hx_Read_readSum_53 fg_Read_25 h_b0 rfl rfl rfl rfl c15 (fun g16 => ?_)
            refine h_blk 62 [(2, vi q13.1), (4, vi (q7.2 3 b0 8)), (0, vr 3 b0), (1, vr 6 b1), (3, vi b3)] [vi (200 + (q7.2 3 b0 8)), vr 2 ((q13.2 3 b0 2).toNat)] C f_hx_Read_readSum_56_3 rfl ?_
            obtain ⟨q17, e18, h⟩ := obd h
            refine h_callV C Rm Y [vi (200 + (q7.2 3 b0 8))] [] (hx_Prog_emit l D B H0 G _ ((q13.2 3 b0 2).toNat) (200 + (q7.2 3 b0 8)) g16 _ _ e18) cl_Read_143 g16 rfl rfl rfl e_hx_Read_readSum_62 rfl rfl rfl ⟨by show _ ≤ ((fr + 20) : Nat); omega, by show _ ≤ ((lo + 800) : Nat); omega⟩ ?_
            rintro _ _ ⟨rfl, rfl⟩
            show HM g D G q q17.2 65 [(2, vi q13.1), (4, vi (q7.2 3 b0 8)), (0, vr 3 b0), (1, vr 6 b1), (3, vi b3)] []
            refine h_blk 8 [(3, vi (b3 + 1)), (2, vi q13.1), (4, vi (q7.2 3 b0 8)), (0, vr 3 b0), (1, vr 6 b1)] [] C f_hx_Read_readSum_65_2 rfl ?_
            refine h_loc [(0, vr 3 b0), (1, vr 6 b1), (2, vi q13.1), (3, vi (b3 + 1))] ⟨rfl, rfl, rfl, rfl, trivial⟩ ?_
            exact ih q17.2 b0 b1 q13.1 (b3 + 1) (h_b0) (h_b1) h
          · have h := ifp c10 h
            refine h_blk 30 [(0, vr 3 b0), (1, vr 6 b1), (2, vi b2), (3, vi b3)] [vi 45, vr 3 b0] C f_hx_Read_readSum_27_2 rfl ?_
            obtain ⟨q19, e20, h⟩ := obd h
            refine h_callV C Rm Y [vi 45] [] (hx_Read_isSign l D B H0 G _ b0 45 h_b0 _ _ e20) cl_Read_59 h_b0 rfl rfl rfl e_hx_Read_readSum_30 rfl rfl rfl ⟨by show _ ≤ ((fr + 20) : Nat); omega, by show _ ≤ ((lo + 800) : Nat); omega⟩ ?_
            rintro _ _ ⟨rfl, rfl⟩
            show HM g D G q q19.2 33 [(0, vr 3 b0), (1, vr 6 b1), (2, vi b2), (3, vi b3)] [vi q19.1]
            obtain ⟨c21, h⟩ := igd h
            refine h_if_eq (tgt := 71) C e_hx_Read_readSum_33 (by decide) c21 (fun c22 => ?_) (fun c22 => ?_)
            · have h := ifp c22 h
              refine h_blk 72 [(0, vr 3 b0), (1, vr 6 b1), (2, vi b2), (3, vi b3)] [vi b2] C f_hx_Read_readSum_71_1 rfl ?_
              obtain ⟨c23, h⟩ := igd h
              exact h_zret C Rm E c23 e_hx_Read_readSum_72 (fin1 h)
            · have h := ifn c22 h
              refine h_blk 37 [(0, vr 3 b0), (1, vr 6 b1), (2, vi b2), (3, vi b3)] [vr 3 b0] C f_hx_Read_readSum_36_1 rfl ?_
              refine h_geti C e_hx_Read_readSum_37 fg_Read_64 h_b0 rfl rfl rfl (q19.2 3 b0 8) rfl ?_
              refine h_blk 43 [(4, vi (q19.2 3 b0 8)), (0, vr 3 b0), (1, vr 6 b1), (2, vi b2), (3, vi b3)] [vr 3 b0] C f_hx_Read_readSum_40_2 rfl ?_
              obtain ⟨q24, e25, h⟩ := obd h
              refine h_callV C Rm Y [] [] (hx_Read_advance l D B H0 G _ b0 h_b0 _ _ e25) cl_Read_43 h_b0 rfl rfl rfl e_hx_Read_readSum_43 rfl rfl rfl ⟨by show _ ≤ ((fr + 20) : Nat); omega, by show _ ≤ ((lo + 800) : Nat); omega⟩ ?_
              rintro _ _ ⟨rfl, rfl⟩
              show HM g D G q q24.2 46 [(4, vi (q19.2 3 b0 8)), (0, vr 3 b0), (1, vr 6 b1), (2, vi b2), (3, vi b3)] []
              refine h_blk 48 [(4, vi (q19.2 3 b0 8)), (0, vr 3 b0), (1, vr 6 b1), (2, vi b2), (3, vi b3)] [vr 6 b1, vr 3 b0] C f_hx_Read_readSum_46_2 rfl ?_
              obtain ⟨q26, e27, h⟩ := obd h
              refine h_callV C Rm Y [vr 6 b1] [] (hx_Read_readTerm hone l D B H0 G _ b0 b1 h_b0 h_b1 _ _ e27) cl_Read_147 h_b0 rfl rfl rfl e_hx_Read_readSum_48 rfl rfl rfl ⟨by show _ ≤ ((fr + 20) : Nat); omega, by show _ ≤ ((lo + 800) : Nat); omega⟩ ?_
              rintro _ _ ⟨rfl, rfl⟩
              show HM g D G q q26.2 51 [(4, vi (q19.2 3 b0 8)), (0, vr 3 b0), (1, vr 6 b1), (2, vi b2), (3, vi b3)] [vi q26.1]
              refine h_blk 53 [(2, vi q26.1), (4, vi (q19.2 3 b0 8)), (0, vr 3 b0), (1, vr 6 b1), (3, vi b3)] [vr 3 b0] C f_hx_Read_readSum_51_2 rfl ?_
              obtain ⟨c28, h⟩ := igd h
              refine h_getr5 C e_hx_Read_readSum_53 fg_Read_25 h_b0 rfl rfl rfl rfl c28 (fun g29 => ?_)
              refine h_blk 62 [(2, vi q26.1), (4, vi (q19.2 3 b0 8)), (0, vr 3 b0), (1, vr 6 b1), (3, vi b3)] [vi (200 + (q19.2 3 b0 8)), vr 2 ((q26.2 3 b0 2).toNat)] C f_hx_Read_readSum_56_3 rfl ?_
              obtain ⟨q30, e31, h⟩ := obd h
              refine h_callV C Rm Y [vi (200 + (q19.2 3 b0 8))] [] (hx_Prog_emit l D B H0 G _ ((q26.2 3 b0 2).toNat) (200 + (q19.2 3 b0 8)) g29 _ _ e31) cl_Read_143 g29 rfl rfl rfl e_hx_Read_readSum_62 rfl rfl rfl ⟨by show _ ≤ ((fr + 20) : Nat); omega, by show _ ≤ ((lo + 800) : Nat); omega⟩ ?_
              rintro _ _ ⟨rfl, rfl⟩
              show HM g D G q q30.2 65 [(2, vi q26.1), (4, vi (q19.2 3 b0 8)), (0, vr 3 b0), (1, vr 6 b1), (3, vi b3)] []
              refine h_blk 8 [(3, vi (b3 + 1)), (2, vi q26.1), (4, vi (q19.2 3 b0 8)), (0, vr 3 b0), (1, vr 6 b1)] [] C f_hx_Read_readSum_65_2 rfl ?_
              refine h_loc [(0, vr 3 b0), (1, vr 6 b1), (2, vi q26.1), (3, vi (b3 + 1))] ⟨rfl, rfl, rfl, rfl, trivial⟩ ?_
              exact ih q30.2 b0 b1 q26.1 (b3 + 1) (h_b0) (h_b1) h
  show HM g D G q A 0 [(0, vr 3 o), (1, vr 6 a0)] []
  unfold f_Read_readSum at h
  refine h_blk 2 [(0, vr 3 o), (1, vr 6 a0)] [vr 6 a0, vr 3 o] C f_hx_Read_readSum_0_2 rfl ?_
  obtain ⟨q32, e33, h⟩ := obd h
  refine h_callV C Rm Y [vr 6 a0] [] (hx_Read_readTerm hone l D B H0 G _ o a0 h_o h_a0 _ _ e33) cl_Read_147 h_o rfl rfl rfl e_hx_Read_readSum_2 rfl rfl rfl ⟨by show _ ≤ ((fr + 20) : Nat); omega, by show _ ≤ ((lo + 800) : Nat); omega⟩ ?_
  rintro _ _ ⟨rfl, rfl⟩
  show HM g D G q q32.2 5 [(0, vr 3 o), (1, vr 6 a0)] [vi q32.1]
  refine h_blk 8 [(3, vi 0), (2, vi q32.1), (0, vr 3 o), (1, vr 6 a0)] [] C f_hx_Read_readSum_5_3 rfl ?_
  refine h_loc [(0, vr 3 o), (1, vr 6 a0), (2, vi q32.1), (3, vi 0)] ⟨rfl, rfl, rfl, rfl, trivial⟩ ?_
  exact hd_8 _ q32.2 o a0 q32.1 0 (h_o) (h_a0) h

def f_Read_readComparison (one : mA → Nat → Nat → Option (Int × mA)) (A : mA) (o : Nat) (a0 : Nat) : Option (Int × mA) := (Option.bind (f_Read_readSum one A o a0) (fun q1 => (if g32 q1.1 then (if q1.1 = 0 then (some (0, q1.2)) else (Option.bind (f_Read_isSign q1.2 o 60) (fun q5 => (if g32 q5.1 then (if q5.1 = 0 then (Option.bind (f_Read_isSign q5.2 o 61) (fun q18 => (if g32 q18.1 then (if q18.1 = 0 then (some (1, q18.2)) else (Option.bind (f_Read_advance q18.2 o) (fun q22 => (Option.bind (f_Read_readSum one q22.2 o a0) (fun q24 => (if 0 ≤ (q24.2 3 o 2) then (Option.bind (f_Prog_emit q24.2 ((q24.2 3 o 2).toNat) (200 + (q18.2 3 o 8))) (fun q28 => (if (q24.1 = 0 ∨ q24.1 = 1) then (some (q24.1, q28.2)) else none))) else none)))))) else none))) else (Option.bind (f_Read_advance q5.2 o) (fun q9 => (Option.bind (f_Read_readSum one q9.2 o a0) (fun q11 => (if 0 ≤ (q11.2 3 o 2) then (Option.bind (f_Prog_emit q11.2 ((q11.2 3 o 2).toNat) (200 + (q5.2 3 o 8))) (fun q15 => (if (q11.1 = 0 ∨ q11.1 = 1) then (some (q11.1, q15.2)) else none))) else none)))))) else none)))) else none)))
theorem f_hx_Read_readComparison_0_2 : mblkB b_Read_readComparison [(0, .aload_n 0, vi 0), (1, .aload_n 1, vi 0)] = true := by decide +kernel
theorem e_hx_Read_readComparison_2 : decode b_Read_readComparison 2 = .ok (.invokevirtual 140, 3) := by decide +kernel
theorem e_hx_Read_readComparison_5 : decode b_Read_readComparison 5 = .ok (.ifCond .ne 5, 3) := by decide +kernel
theorem f_hx_Read_readComparison_10_2 : mblkB b_Read_readComparison [(10, .aload_n 0, vi 0), (11, .bipush 60, vi 60)] = true := by decide +kernel
theorem e_hx_Read_readComparison_13 : decode b_Read_readComparison 13 = .ok (.invokevirtual 59, 3) := by decide +kernel
theorem e_hx_Read_readComparison_16 : decode b_Read_readComparison 16 = .ok (.ifCond .ne 14, 3) := by decide +kernel
theorem f_hx_Read_readComparison_30_1 : mblkB b_Read_readComparison [(30, .aload_n 0, vi 0)] = true := by decide +kernel
theorem e_hx_Read_readComparison_31 : decode b_Read_readComparison 31 = .ok (.getfield 64, 3) := by decide +kernel
theorem f_hx_Read_readComparison_34_2 : mblkB b_Read_readComparison [(34, .istore_n 2, vi 0), (35, .aload_n 0, vi 0)] = true := by decide +kernel
theorem e_hx_Read_readComparison_36 : decode b_Read_readComparison 36 = .ok (.invokevirtual 43, 3) := by decide +kernel
theorem f_hx_Read_readComparison_39_2 : mblkB b_Read_readComparison [(39, .aload_n 0, vi 0), (40, .aload_n 1, vi 0)] = true := by decide +kernel
theorem e_hx_Read_readComparison_41 : decode b_Read_readComparison 41 = .ok (.invokevirtual 140, 3) := by decide +kernel
theorem f_hx_Read_readComparison_44_2 : mblkB b_Read_readComparison [(44, .istore_n 3, vi 0), (45, .aload_n 0, vi 0)] = true := by decide +kernel
theorem e_hx_Read_readComparison_46 : decode b_Read_readComparison 46 = .ok (.getfield 25, 3) := by decide +kernel
theorem f_hx_Read_readComparison_49_3 : mblkB b_Read_readComparison [(49, .sipush 200, vi 200), (52, .iload_n 2, vi 0), (53, .iadd, vi 0)] = true := by decide +kernel
theorem e_hx_Read_readComparison_54 : decode b_Read_readComparison 54 = .ok (.invokevirtual 143, 3) := by decide +kernel
theorem f_hx_Read_readComparison_57_1 : mblkB b_Read_readComparison [(57, .iload_n 3, vi 0)] = true := by decide +kernel
theorem e_hx_Read_readComparison_58 : decode b_Read_readComparison 58 = .ok (.ireturn, 1) := by decide +kernel
theorem f_hx_Read_readComparison_19_2 : mblkB b_Read_readComparison [(19, .aload_n 0, vi 0), (20, .bipush 61, vi 61)] = true := by decide +kernel
theorem e_hx_Read_readComparison_22 : decode b_Read_readComparison 22 = .ok (.invokevirtual 59, 3) := by decide +kernel
theorem e_hx_Read_readComparison_25 : decode b_Read_readComparison 25 = .ok (.ifCond .ne 5, 3) := by decide +kernel
theorem f_hx_Read_readComparison_28_1 : mblkB b_Read_readComparison [(28, .iconst 1, vi 1)] = true := by decide +kernel
theorem e_hx_Read_readComparison_29 : decode b_Read_readComparison 29 = .ok (.ireturn, 1) := by decide +kernel
theorem f_hx_Read_readComparison_8_1 : mblkB b_Read_readComparison [(8, .iconst 0, vi 0)] = true := by decide +kernel
theorem e_hx_Read_readComparison_9 : decode b_Read_readComparison 9 = .ok (.ireturn, 1) := by decide +kernel
set_option maxHeartbeats 4000000 in
set_option maxRecDepth 20000 in
theorem hx_Read_readComparison {one : mA → Nat → Nat → Option (Int × mA)} {fr lo : Nat} (hone : ∀ (l : Launch) (D : va_G) (B : Nat) (H0 : Heap) (G : tG) (A : mA) (o : Nat) (a0 : Nat) (h_o : G o = some 3) (h_a0 : G a0 = some 6)  (r9 : Int) (A9 : mA), one A o a0 = some (r9, A9) → hMet l D B H0 G y_Read_readOne b_Read_readOne 4 (some .boolean) fr lo [vr 3 o, vr 6 a0] A (fun v A' => v = some (vi r9) ∧ A' = A9)) : ∀ (l : Launch) (D : va_G) (B : Nat) (H0 : Heap) (G : tG) (A : mA) (o : Nat) (a0 : Nat) (h_o : G o = some 3) (h_a0 : G a0 = some 6)  (r9 : Int) (A9 : mA), f_Read_readComparison one A o a0 = some (r9, A9) → hMet l D B H0 G y_Read_readComparison b_Read_readComparison 4 (some .boolean) (fr + 30) (lo + 1200) [vr 3 o, vr 6 a0] A (fun v A' => v = some (vi r9) ∧ A' = A9) := by
  intro l D B H0 G A o a0 h_o h_a0 r9 A9 h
  refine h_met (by decide) rfl (fun g q C Rm Y E => ?_)
  show HM g D G q A 0 [(0, vr 3 o), (1, vr 6 a0)] []
  unfold f_Read_readComparison at h
  refine h_blk 2 [(0, vr 3 o), (1, vr 6 a0)] [vr 6 a0, vr 3 o] C f_hx_Read_readComparison_0_2 rfl ?_
  obtain ⟨q1, e2, h⟩ := obd h
  refine h_callV C Rm Y [vr 6 a0] [] (hx_Read_readSum hone l D B H0 G _ o a0 h_o h_a0 _ _ e2) cl_Read_140 h_o rfl rfl rfl e_hx_Read_readComparison_2 rfl rfl rfl ⟨by show _ ≤ ((fr + 30) : Nat); omega, by show _ ≤ ((lo + 1200) : Nat); omega⟩ ?_
  rintro _ _ ⟨rfl, rfl⟩
  show HM g D G q q1.2 5 [(0, vr 3 o), (1, vr 6 a0)] [vi q1.1]
  obtain ⟨c3, h⟩ := igd h
  refine h_if_ne (tgt := 10) C e_hx_Read_readComparison_5 (by decide) c3 (fun c4 => ?_) (fun c4 => ?_)
  · have h := ifn c4 h
    refine h_blk 13 [(0, vr 3 o), (1, vr 6 a0)] [vi 60, vr 3 o] C f_hx_Read_readComparison_10_2 rfl ?_
    obtain ⟨q5, e6, h⟩ := obd h
    refine h_callV C Rm Y [vi 60] [] (hx_Read_isSign l D B H0 G _ o 60 h_o _ _ e6) cl_Read_59 h_o rfl rfl rfl e_hx_Read_readComparison_13 rfl rfl rfl ⟨by show _ ≤ ((fr + 30) : Nat); omega, by show _ ≤ ((lo + 1200) : Nat); omega⟩ ?_
    rintro _ _ ⟨rfl, rfl⟩
    show HM g D G q q5.2 16 [(0, vr 3 o), (1, vr 6 a0)] [vi q5.1]
    obtain ⟨c7, h⟩ := igd h
    refine h_if_ne (tgt := 30) C e_hx_Read_readComparison_16 (by decide) c7 (fun c8 => ?_) (fun c8 => ?_)
    · have h := ifn c8 h
      refine h_blk 31 [(0, vr 3 o), (1, vr 6 a0)] [vr 3 o] C f_hx_Read_readComparison_30_1 rfl ?_
      refine h_geti C e_hx_Read_readComparison_31 fg_Read_64 h_o rfl rfl rfl (q5.2 3 o 8) rfl ?_
      refine h_blk 36 [(2, vi (q5.2 3 o 8)), (0, vr 3 o), (1, vr 6 a0)] [vr 3 o] C f_hx_Read_readComparison_34_2 rfl ?_
      obtain ⟨q9, e10, h⟩ := obd h
      refine h_callV C Rm Y [] [] (hx_Read_advance l D B H0 G _ o h_o _ _ e10) cl_Read_43 h_o rfl rfl rfl e_hx_Read_readComparison_36 rfl rfl rfl ⟨by show _ ≤ ((fr + 30) : Nat); omega, by show _ ≤ ((lo + 1200) : Nat); omega⟩ ?_
      rintro _ _ ⟨rfl, rfl⟩
      show HM g D G q q9.2 39 [(2, vi (q5.2 3 o 8)), (0, vr 3 o), (1, vr 6 a0)] []
      refine h_blk 41 [(2, vi (q5.2 3 o 8)), (0, vr 3 o), (1, vr 6 a0)] [vr 6 a0, vr 3 o] C f_hx_Read_readComparison_39_2 rfl ?_
      obtain ⟨q11, e12, h⟩ := obd h
      refine h_callV C Rm Y [vr 6 a0] [] (hx_Read_readSum hone l D B H0 G _ o a0 h_o h_a0 _ _ e12) cl_Read_140 h_o rfl rfl rfl e_hx_Read_readComparison_41 rfl rfl rfl ⟨by show _ ≤ ((fr + 30) : Nat); omega, by show _ ≤ ((lo + 1200) : Nat); omega⟩ ?_
      rintro _ _ ⟨rfl, rfl⟩
      show HM g D G q q11.2 44 [(2, vi (q5.2 3 o 8)), (0, vr 3 o), (1, vr 6 a0)] [vi q11.1]
      refine h_blk 46 [(3, vi q11.1), (2, vi (q5.2 3 o 8)), (0, vr 3 o), (1, vr 6 a0)] [vr 3 o] C f_hx_Read_readComparison_44_2 rfl ?_
      obtain ⟨c13, h⟩ := igd h
      refine h_getr5 C e_hx_Read_readComparison_46 fg_Read_25 h_o rfl rfl rfl rfl c13 (fun g14 => ?_)
      refine h_blk 54 [(3, vi q11.1), (2, vi (q5.2 3 o 8)), (0, vr 3 o), (1, vr 6 a0)] [vi (200 + (q5.2 3 o 8)), vr 2 ((q11.2 3 o 2).toNat)] C f_hx_Read_readComparison_49_3 rfl ?_
      obtain ⟨q15, e16, h⟩ := obd h
      refine h_callV C Rm Y [vi (200 + (q5.2 3 o 8))] [] (hx_Prog_emit l D B H0 G _ ((q11.2 3 o 2).toNat) (200 + (q5.2 3 o 8)) g14 _ _ e16) cl_Read_143 g14 rfl rfl rfl e_hx_Read_readComparison_54 rfl rfl rfl ⟨by show _ ≤ ((fr + 30) : Nat); omega, by show _ ≤ ((lo + 1200) : Nat); omega⟩ ?_
      rintro _ _ ⟨rfl, rfl⟩
      show HM g D G q q15.2 57 [(3, vi q11.1), (2, vi (q5.2 3 o 8)), (0, vr 3 o), (1, vr 6 a0)] []
      refine h_blk 58 [(3, vi q11.1), (2, vi (q5.2 3 o 8)), (0, vr 3 o), (1, vr 6 a0)] [vi q11.1] C f_hx_Read_readComparison_57_1 rfl ?_
      obtain ⟨c17, h⟩ := igd h
      exact h_zret C Rm E c17 e_hx_Read_readComparison_58 (fin1 h)
    · have h := ifp c8 h
      refine h_blk 22 [(0, vr 3 o), (1, vr 6 a0)] [vi 61, vr 3 o] C f_hx_Read_readComparison_19_2 rfl ?_
      obtain ⟨q18, e19, h⟩ := obd h
      refine h_callV C Rm Y [vi 61] [] (hx_Read_isSign l D B H0 G _ o 61 h_o _ _ e19) cl_Read_59 h_o rfl rfl rfl e_hx_Read_readComparison_22 rfl rfl rfl ⟨by show _ ≤ ((fr + 30) : Nat); omega, by show _ ≤ ((lo + 1200) : Nat); omega⟩ ?_
      rintro _ _ ⟨rfl, rfl⟩
      show HM g D G q q18.2 25 [(0, vr 3 o), (1, vr 6 a0)] [vi q18.1]
      obtain ⟨c20, h⟩ := igd h
      refine h_if_ne (tgt := 30) C e_hx_Read_readComparison_25 (by decide) c20 (fun c21 => ?_) (fun c21 => ?_)
      · have h := ifn c21 h
        refine h_blk 31 [(0, vr 3 o), (1, vr 6 a0)] [vr 3 o] C f_hx_Read_readComparison_30_1 rfl ?_
        refine h_geti C e_hx_Read_readComparison_31 fg_Read_64 h_o rfl rfl rfl (q18.2 3 o 8) rfl ?_
        refine h_blk 36 [(2, vi (q18.2 3 o 8)), (0, vr 3 o), (1, vr 6 a0)] [vr 3 o] C f_hx_Read_readComparison_34_2 rfl ?_
        obtain ⟨q22, e23, h⟩ := obd h
        refine h_callV C Rm Y [] [] (hx_Read_advance l D B H0 G _ o h_o _ _ e23) cl_Read_43 h_o rfl rfl rfl e_hx_Read_readComparison_36 rfl rfl rfl ⟨by show _ ≤ ((fr + 30) : Nat); omega, by show _ ≤ ((lo + 1200) : Nat); omega⟩ ?_
        rintro _ _ ⟨rfl, rfl⟩
        show HM g D G q q22.2 39 [(2, vi (q18.2 3 o 8)), (0, vr 3 o), (1, vr 6 a0)] []
        refine h_blk 41 [(2, vi (q18.2 3 o 8)), (0, vr 3 o), (1, vr 6 a0)] [vr 6 a0, vr 3 o] C f_hx_Read_readComparison_39_2 rfl ?_
        obtain ⟨q24, e25, h⟩ := obd h
        refine h_callV C Rm Y [vr 6 a0] [] (hx_Read_readSum hone l D B H0 G _ o a0 h_o h_a0 _ _ e25) cl_Read_140 h_o rfl rfl rfl e_hx_Read_readComparison_41 rfl rfl rfl ⟨by show _ ≤ ((fr + 30) : Nat); omega, by show _ ≤ ((lo + 1200) : Nat); omega⟩ ?_
        rintro _ _ ⟨rfl, rfl⟩
        show HM g D G q q24.2 44 [(2, vi (q18.2 3 o 8)), (0, vr 3 o), (1, vr 6 a0)] [vi q24.1]
        refine h_blk 46 [(3, vi q24.1), (2, vi (q18.2 3 o 8)), (0, vr 3 o), (1, vr 6 a0)] [vr 3 o] C f_hx_Read_readComparison_44_2 rfl ?_
        obtain ⟨c26, h⟩ := igd h
        refine h_getr5 C e_hx_Read_readComparison_46 fg_Read_25 h_o rfl rfl rfl rfl c26 (fun g27 => ?_)
        refine h_blk 54 [(3, vi q24.1), (2, vi (q18.2 3 o 8)), (0, vr 3 o), (1, vr 6 a0)] [vi (200 + (q18.2 3 o 8)), vr 2 ((q24.2 3 o 2).toNat)] C f_hx_Read_readComparison_49_3 rfl ?_
        obtain ⟨q28, e29, h⟩ := obd h
        refine h_callV C Rm Y [vi (200 + (q18.2 3 o 8))] [] (hx_Prog_emit l D B H0 G _ ((q24.2 3 o 2).toNat) (200 + (q18.2 3 o 8)) g27 _ _ e29) cl_Read_143 g27 rfl rfl rfl e_hx_Read_readComparison_54 rfl rfl rfl ⟨by show _ ≤ ((fr + 30) : Nat); omega, by show _ ≤ ((lo + 1200) : Nat); omega⟩ ?_
        rintro _ _ ⟨rfl, rfl⟩
        show HM g D G q q28.2 57 [(3, vi q24.1), (2, vi (q18.2 3 o 8)), (0, vr 3 o), (1, vr 6 a0)] []
        refine h_blk 58 [(3, vi q24.1), (2, vi (q18.2 3 o 8)), (0, vr 3 o), (1, vr 6 a0)] [vi q24.1] C f_hx_Read_readComparison_57_1 rfl ?_
        obtain ⟨c30, h⟩ := igd h
        exact h_zret C Rm E c30 e_hx_Read_readComparison_58 (fin1 h)
      · have h := ifp c21 h
        refine h_blk 29 [(0, vr 3 o), (1, vr 6 a0)] [vi 1] C f_hx_Read_readComparison_28_1 rfl ?_
        exact h_zret C Rm E (Or.inr rfl) e_hx_Read_readComparison_29 (fin1 h)
  · have h := ifp c4 h
    refine h_blk 9 [(0, vr 3 o), (1, vr 6 a0)] [vi 0] C f_hx_Read_readComparison_8_1 rfl ?_
    exact h_zret C Rm E (Or.inl rfl) e_hx_Read_readComparison_9 (fin1 h)

def f_Read_readOne (one : mA → Nat → Nat → Option (Int × mA)) (A : mA) (o : Nat) (a0 : Nat) : Option (Int × mA) := (if g32 (A 3 o 7) then (if (A 3 o 7) = 3 then (if 0 ≤ (A 3 o 2) then (Option.bind (f_Prog_emit A ((A 3 o 2).toNat) (A 3 o 8)) (fun q94 => (Option.bind (f_Read_advance q94.2 o) (fun q96 => (some (1, q96.2)))))) else none) else (if (A 3 o 7) = 1 then (if 0 ≤ (A 3 o 2) then (Option.bind (f_Prog_emit (mu A 6 a0 6 (iOr (A 6 a0 6) (iShl 1 (A 3 o 8)))) ((A 3 o 2).toNat) (100 + (A 3 o 8))) (fun q88 => (Option.bind (f_Read_advance q88.2 o) (fun q90 => (some (1, q90.2)))))) else none) else (Option.bind (f_Read_isSign A o 45) (fun q4 => (if g32 q4.1 then (if q4.1 = 0 then (Option.bind (f_Read_isSign q4.2 o 40) (fun q45 => (if g32 q45.1 then (if q45.1 = 0 then (some (0, q45.2)) else (if g32 (q45.2 3 o 5) then (if (q45.2 3 o 5) < 4 then (Option.bind (f_Read_isSign q45.2 o 45) (fun q51 => (Option.bind (f_Read_advance (mu q51.2 3 o 5 ((q51.2 3 o 5) + 1)) o) (fun q53 => (if g32 q51.1 then (if q51.1 = 0 then (Option.bind (f_Read_readComparison one q53.2 o a0) (fun q57 => (if g32 q57.1 then (if q57.1 = 0 then (some (0, (mu q57.2 3 o 5 ((q57.2 3 o 5) - 1)))) else (Option.bind (f_Read_isSign q57.2 o 41) (fun q63 => (if g32 q63.1 then (if q63.1 = 0 then (some (0, (mu q63.2 3 o 5 ((q63.2 3 o 5) - 1)))) else (Option.bind (f_Read_advance (mu q63.2 3 o 5 ((q63.2 3 o 5) - 1)) o) (fun q72 => (some (1, q72.2))))) else none)))) else none))) else (Option.bind (one q53.2 o a0) (fun q74 => (if g32 q74.1 then (if q74.1 = 0 then (if (q74.1 = 0 ∨ q74.1 = 1) then (some (q74.1, (mu q74.2 3 o 5 ((q74.2 3 o 5) - 1)))) else none) else (if 0 ≤ (q74.2 3 o 2) then (Option.bind (f_Prog_emit (mu q74.2 3 o 5 ((q74.2 3 o 5) - 1)) ((q74.2 3 o 2).toNat) 150) (fun q83 => (if (q74.1 = 0 ∨ q74.1 = 1) then (some (q74.1, q83.2)) else none))) else none)) else none)))) else none))))) else (some (0, q45.2))) else none)) else none))) else (if g32 (q4.2 3 o 5) then (if (q4.2 3 o 5) < 4 then (Option.bind (f_Read_isSign q4.2 o 45) (fun q10 => (Option.bind (f_Read_advance (mu q10.2 3 o 5 ((q10.2 3 o 5) + 1)) o) (fun q12 => (if g32 q10.1 then (if q10.1 = 0 then (Option.bind (f_Read_readComparison one q12.2 o a0) (fun q16 => (if g32 q16.1 then (if q16.1 = 0 then (some (0, (mu q16.2 3 o 5 ((q16.2 3 o 5) - 1)))) else (Option.bind (f_Read_isSign q16.2 o 41) (fun q22 => (if g32 q22.1 then (if q22.1 = 0 then (some (0, (mu q22.2 3 o 5 ((q22.2 3 o 5) - 1)))) else (Option.bind (f_Read_advance (mu q22.2 3 o 5 ((q22.2 3 o 5) - 1)) o) (fun q31 => (some (1, q31.2))))) else none)))) else none))) else (Option.bind (one q12.2 o a0) (fun q33 => (if g32 q33.1 then (if q33.1 = 0 then (if (q33.1 = 0 ∨ q33.1 = 1) then (some (q33.1, (mu q33.2 3 o 5 ((q33.2 3 o 5) - 1)))) else none) else (if 0 ≤ (q33.2 3 o 2) then (Option.bind (f_Prog_emit (mu q33.2 3 o 5 ((q33.2 3 o 5) - 1)) ((q33.2 3 o 2).toNat) 150) (fun q42 => (if (q33.1 = 0 ∨ q33.1 = 1) then (some (q33.1, q42.2)) else none))) else none)) else none)))) else none))))) else (some (0, q4.2))) else none)) else none))))) else none)
theorem f_hx_Read_readOne_0_1 : mblkB b_Read_readOne [(0, .aload_n 0, vi 0)] = true := by decide +kernel
theorem e_hx_Read_readOne_1 : decode b_Read_readOne 1 = .ok (.getfield 50, 3) := by decide +kernel
theorem f_hx_Read_readOne_4_1 : mblkB b_Read_readOne [(4, .iconst 3, vi 3)] = true := by decide +kernel
theorem e_hx_Read_readOne_5 : decode b_Read_readOne 5 = .ok (.if_icmp .ne 20, 3) := by decide +kernel
theorem f_hx_Read_readOne_25_1 : mblkB b_Read_readOne [(25, .aload_n 0, vi 0)] = true := by decide +kernel
theorem e_hx_Read_readOne_26 : decode b_Read_readOne 26 = .ok (.getfield 50, 3) := by decide +kernel
theorem f_hx_Read_readOne_29_1 : mblkB b_Read_readOne [(29, .iconst 1, vi 1)] = true := by decide +kernel
theorem e_hx_Read_readOne_30 : decode b_Read_readOne 30 = .ok (.if_icmp .ne 38, 3) := by decide +kernel
theorem f_hx_Read_readOne_68_2 : mblkB b_Read_readOne [(68, .aload_n 0, vi 0), (69, .bipush 45, vi 45)] = true := by decide +kernel
theorem e_hx_Read_readOne_71 : decode b_Read_readOne 71 = .ok (.invokevirtual 59, 3) := by decide +kernel
theorem e_hx_Read_readOne_74 : decode b_Read_readOne 74 = .ok (.ifCond .ne 12, 3) := by decide +kernel
theorem f_hx_Read_readOne_86_1 : mblkB b_Read_readOne [(86, .aload_n 0, vi 0)] = true := by decide +kernel
theorem e_hx_Read_readOne_87 : decode b_Read_readOne 87 = .ok (.getfield 40, 3) := by decide +kernel
theorem f_hx_Read_readOne_90_1 : mblkB b_Read_readOne [(90, .iconst 4, vi 4)] = true := by decide +kernel
theorem e_hx_Read_readOne_91 : decode b_Read_readOne 91 = .ok (.if_icmp .lt 5, 3) := by decide +kernel
theorem f_hx_Read_readOne_96_2 : mblkB b_Read_readOne [(96, .aload_n 0, vi 0), (97, .bipush 45, vi 45)] = true := by decide +kernel
theorem e_hx_Read_readOne_99 : decode b_Read_readOne 99 = .ok (.invokevirtual 59, 3) := by decide +kernel
theorem f_hx_Read_readOne_102_3 : mblkB b_Read_readOne [(102, .istore_n 2, vi 0), (103, .aload_n 0, vi 0), (104, .dup, vi 0)] = true := by decide +kernel
theorem e_hx_Read_readOne_105 : decode b_Read_readOne 105 = .ok (.getfield 40, 3) := by decide +kernel
theorem f_hx_Read_readOne_108_2 : mblkB b_Read_readOne [(108, .iconst 1, vi 1), (109, .iadd, vi 0)] = true := by decide +kernel
theorem e_hx_Read_readOne_110 : decode b_Read_readOne 110 = .ok (.putfield 40, 3) := by decide +kernel
theorem f_hx_Read_readOne_113_1 : mblkB b_Read_readOne [(113, .aload_n 0, vi 0)] = true := by decide +kernel
theorem e_hx_Read_readOne_114 : decode b_Read_readOne 114 = .ok (.invokevirtual 43, 3) := by decide +kernel
theorem f_hx_Read_readOne_117_1 : mblkB b_Read_readOne [(117, .iload_n 2, vi 0)] = true := by decide +kernel
theorem e_hx_Read_readOne_118 : decode b_Read_readOne 118 = .ok (.ifCond .eq 11, 3) := by decide +kernel
theorem f_hx_Read_readOne_129_2 : mblkB b_Read_readOne [(129, .aload_n 0, vi 0), (130, .aload_n 1, vi 0)] = true := by decide +kernel
theorem e_hx_Read_readOne_131 : decode b_Read_readOne 131 = .ok (.invokevirtual 134, 3) := by decide +kernel
theorem e_hx_Read_readOne_134 : decode b_Read_readOne 134 = .ok (.ifCond .eq 16, 3) := by decide +kernel
theorem f_hx_Read_readOne_150_4 : mblkB b_Read_readOne [(150, .iconst 0, vi 0), (151, .istore_n 3, vi 0), (152, .aload_n 0, vi 0), (153, .dup, vi 0)] = true := by decide +kernel
theorem e_hx_Read_readOne_154 : decode b_Read_readOne 154 = .ok (.getfield 40, 3) := by decide +kernel
theorem f_hx_Read_readOne_157_2 : mblkB b_Read_readOne [(157, .iconst 1, vi 1), (158, .isub, vi 0)] = true := by decide +kernel
theorem e_hx_Read_readOne_159 : decode b_Read_readOne 159 = .ok (.putfield 40, 3) := by decide +kernel
theorem f_hx_Read_readOne_162_1 : mblkB b_Read_readOne [(162, .iload_n 3, vi 0)] = true := by decide +kernel
theorem e_hx_Read_readOne_163 : decode b_Read_readOne 163 = .ok (.ifCond .eq 20, 3) := by decide +kernel
theorem f_hx_Read_readOne_183_1 : mblkB b_Read_readOne [(183, .iload_n 3, vi 0)] = true := by decide +kernel
theorem e_hx_Read_readOne_184 : decode b_Read_readOne 184 = .ok (.ifCond .eq 7, 3) := by decide +kernel
theorem f_hx_Read_readOne_191_1 : mblkB b_Read_readOne [(191, .iload_n 3, vi 0)] = true := by decide +kernel
theorem e_hx_Read_readOne_192 : decode b_Read_readOne 192 = .ok (.ireturn, 1) := by decide +kernel
theorem f_hx_Read_readOne_137_2 : mblkB b_Read_readOne [(137, .aload_n 0, vi 0), (138, .bipush 41, vi 41)] = true := by decide +kernel
theorem e_hx_Read_readOne_140 : decode b_Read_readOne 140 = .ok (.invokevirtual 59, 3) := by decide +kernel
theorem e_hx_Read_readOne_143 : decode b_Read_readOne 143 = .ok (.ifCond .eq 7, 3) := by decide +kernel
theorem f_hx_Read_readOne_146_2 : mblkB b_Read_readOne [(146, .iconst 1, vi 1), (147, .goto 4, vi 151)] = true := by decide +kernel
theorem f_hx_Read_readOne_151_3 : mblkB b_Read_readOne [(151, .istore_n 3, vi 0), (152, .aload_n 0, vi 0), (153, .dup, vi 0)] = true := by decide +kernel
theorem f_hx_Read_readOne_166_1 : mblkB b_Read_readOne [(166, .iload_n 2, vi 0)] = true := by decide +kernel
theorem e_hx_Read_readOne_167 : decode b_Read_readOne 167 = .ok (.ifCond .eq 16, 3) := by decide +kernel
theorem f_hx_Read_readOne_187_1 : mblkB b_Read_readOne [(187, .aload_n 0, vi 0)] = true := by decide +kernel
theorem e_hx_Read_readOne_188 : decode b_Read_readOne 188 = .ok (.invokevirtual 43, 3) := by decide +kernel
theorem f_hx_Read_readOne_121_2 : mblkB b_Read_readOne [(121, .aload_n 0, vi 0), (122, .aload_n 1, vi 0)] = true := by decide +kernel
theorem e_hx_Read_readOne_123 : decode b_Read_readOne 123 = .ok (.invokevirtual 150, 3) := by decide +kernel
theorem f_hx_Read_readOne_126_1 : mblkB b_Read_readOne [(126, .goto 25, vi 151)] = true := by decide +kernel
theorem f_hx_Read_readOne_170_1 : mblkB b_Read_readOne [(170, .aload_n 0, vi 0)] = true := by decide +kernel
theorem e_hx_Read_readOne_171 : decode b_Read_readOne 171 = .ok (.getfield 25, 3) := by decide +kernel
theorem f_hx_Read_readOne_174_1 : mblkB b_Read_readOne [(174, .sipush 150, vi 150)] = true := by decide +kernel
theorem e_hx_Read_readOne_177 : decode b_Read_readOne 177 = .ok (.invokevirtual 143, 3) := by decide +kernel
theorem f_hx_Read_readOne_180_1 : mblkB b_Read_readOne [(180, .goto 11, vi 191)] = true := by decide +kernel
theorem f_hx_Read_readOne_94_1 : mblkB b_Read_readOne [(94, .iconst 0, vi 0)] = true := by decide +kernel
theorem e_hx_Read_readOne_95 : decode b_Read_readOne 95 = .ok (.ireturn, 1) := by decide +kernel
theorem f_hx_Read_readOne_77_2 : mblkB b_Read_readOne [(77, .aload_n 0, vi 0), (78, .bipush 40, vi 40)] = true := by decide +kernel
theorem e_hx_Read_readOne_80 : decode b_Read_readOne 80 = .ok (.invokevirtual 59, 3) := by decide +kernel
theorem e_hx_Read_readOne_83 : decode b_Read_readOne 83 = .ok (.ifCond .eq 11, 3) := by decide +kernel
theorem f_hx_Read_readOne_33_2 : mblkB b_Read_readOne [(33, .aload_n 1, vi 0), (34, .dup, vi 0)] = true := by decide +kernel
theorem e_hx_Read_readOne_35 : decode b_Read_readOne 35 = .ok (.getfield 153, 3) := by decide +kernel
theorem f_hx_Read_readOne_38_2 : mblkB b_Read_readOne [(38, .iconst 1, vi 1), (39, .aload_n 0, vi 0)] = true := by decide +kernel
theorem e_hx_Read_readOne_40 : decode b_Read_readOne 40 = .ok (.getfield 64, 3) := by decide +kernel
theorem f_hx_Read_readOne_43_2 : mblkB b_Read_readOne [(43, .ishl, vi 0), (44, .ior, vi 0)] = true := by decide +kernel
theorem e_hx_Read_readOne_45 : decode b_Read_readOne 45 = .ok (.putfield 153, 3) := by decide +kernel
theorem f_hx_Read_readOne_48_1 : mblkB b_Read_readOne [(48, .aload_n 0, vi 0)] = true := by decide +kernel
theorem e_hx_Read_readOne_49 : decode b_Read_readOne 49 = .ok (.getfield 25, 3) := by decide +kernel
theorem f_hx_Read_readOne_52_2 : mblkB b_Read_readOne [(52, .bipush 100, vi 100), (54, .aload_n 0, vi 0)] = true := by decide +kernel
theorem e_hx_Read_readOne_55 : decode b_Read_readOne 55 = .ok (.getfield 64, 3) := by decide +kernel
theorem f_hx_Read_readOne_58_1 : mblkB b_Read_readOne [(58, .iadd, vi 0)] = true := by decide +kernel
theorem e_hx_Read_readOne_59 : decode b_Read_readOne 59 = .ok (.invokevirtual 143, 3) := by decide +kernel
theorem f_hx_Read_readOne_62_1 : mblkB b_Read_readOne [(62, .aload_n 0, vi 0)] = true := by decide +kernel
theorem e_hx_Read_readOne_63 : decode b_Read_readOne 63 = .ok (.invokevirtual 43, 3) := by decide +kernel
theorem f_hx_Read_readOne_66_1 : mblkB b_Read_readOne [(66, .iconst 1, vi 1)] = true := by decide +kernel
theorem e_hx_Read_readOne_67 : decode b_Read_readOne 67 = .ok (.ireturn, 1) := by decide +kernel
theorem f_hx_Read_readOne_8_1 : mblkB b_Read_readOne [(8, .aload_n 0, vi 0)] = true := by decide +kernel
theorem e_hx_Read_readOne_9 : decode b_Read_readOne 9 = .ok (.getfield 25, 3) := by decide +kernel
theorem f_hx_Read_readOne_12_1 : mblkB b_Read_readOne [(12, .aload_n 0, vi 0)] = true := by decide +kernel
theorem e_hx_Read_readOne_13 : decode b_Read_readOne 13 = .ok (.getfield 64, 3) := by decide +kernel
theorem e_hx_Read_readOne_16 : decode b_Read_readOne 16 = .ok (.invokevirtual 143, 3) := by decide +kernel
theorem f_hx_Read_readOne_19_1 : mblkB b_Read_readOne [(19, .aload_n 0, vi 0)] = true := by decide +kernel
theorem e_hx_Read_readOne_20 : decode b_Read_readOne 20 = .ok (.invokevirtual 43, 3) := by decide +kernel
theorem f_hx_Read_readOne_23_1 : mblkB b_Read_readOne [(23, .iconst 1, vi 1)] = true := by decide +kernel
theorem e_hx_Read_readOne_24 : decode b_Read_readOne 24 = .ok (.ireturn, 1) := by decide +kernel
set_option maxHeartbeats 4000000 in
set_option maxRecDepth 20000 in
theorem hx_Read_readOne {one : mA → Nat → Nat → Option (Int × mA)} {fr lo : Nat} (hone : ∀ (l : Launch) (D : va_G) (B : Nat) (H0 : Heap) (G : tG) (A : mA) (o : Nat) (a0 : Nat) (h_o : G o = some 3) (h_a0 : G a0 = some 6)  (r9 : Int) (A9 : mA), one A o a0 = some (r9, A9) → hMet l D B H0 G y_Read_readOne b_Read_readOne 4 (some .boolean) fr lo [vr 3 o, vr 6 a0] A (fun v A' => v = some (vi r9) ∧ A' = A9)) : ∀ (l : Launch) (D : va_G) (B : Nat) (H0 : Heap) (G : tG) (A : mA) (o : Nat) (a0 : Nat) (h_o : G o = some 3) (h_a0 : G a0 = some 6)  (r9 : Int) (A9 : mA), f_Read_readOne one A o a0 = some (r9, A9) → hMet l D B H0 G y_Read_readOne b_Read_readOne 4 (some .boolean) (fr + 40) (lo + 1600) [vr 3 o, vr 6 a0] A (fun v A' => v = some (vi r9) ∧ A' = A9) := by
  intro l D B H0 G A o a0 h_o h_a0 r9 A9 h
  refine h_met (by decide) rfl (fun g q C Rm Y E => ?_)
  show HM g D G q A 0 [(0, vr 3 o), (1, vr 6 a0)] []
  unfold f_Read_readOne at h
  refine h_blk 1 [(0, vr 3 o), (1, vr 6 a0)] [vr 3 o] C f_hx_Read_readOne_0_1 rfl ?_
  refine h_geti C e_hx_Read_readOne_1 fg_Read_50 h_o rfl rfl rfl (A 3 o 7) rfl ?_
  refine h_blk 5 [(0, vr 3 o), (1, vr 6 a0)] [vi 3, vi (A 3 o 7)] C f_hx_Read_readOne_4_1 rfl ?_
  obtain ⟨c1, h⟩ := igd h
  refine h_icmp_ne (tgt := 25) C e_hx_Read_readOne_5 (by decide) c1 (by decide) (fun c2 => ?_) (fun c2 => ?_)
  · have h := ifn c2 h
    refine h_blk 26 [(0, vr 3 o), (1, vr 6 a0)] [vr 3 o] C f_hx_Read_readOne_25_1 rfl ?_
    refine h_geti C e_hx_Read_readOne_26 fg_Read_50 h_o rfl rfl rfl (A 3 o 7) rfl ?_
    refine h_blk 30 [(0, vr 3 o), (1, vr 6 a0)] [vi 1, vi (A 3 o 7)] C f_hx_Read_readOne_29_1 rfl ?_
    refine h_icmp_ne (tgt := 68) C e_hx_Read_readOne_30 (by decide) c1 (by decide) (fun c3 => ?_) (fun c3 => ?_)
    · have h := ifn c3 h
      refine h_blk 71 [(0, vr 3 o), (1, vr 6 a0)] [vi 45, vr 3 o] C f_hx_Read_readOne_68_2 rfl ?_
      obtain ⟨q4, e5, h⟩ := obd h
      refine h_callV C Rm Y [vi 45] [] (hx_Read_isSign l D B H0 G _ o 45 h_o _ _ e5) cl_Read_59 h_o rfl rfl rfl e_hx_Read_readOne_71 rfl rfl rfl ⟨by show _ ≤ ((fr + 40) : Nat); omega, by show _ ≤ ((lo + 1600) : Nat); omega⟩ ?_
      rintro _ _ ⟨rfl, rfl⟩
      show HM g D G q q4.2 74 [(0, vr 3 o), (1, vr 6 a0)] [vi q4.1]
      obtain ⟨c6, h⟩ := igd h
      refine h_if_ne (tgt := 86) C e_hx_Read_readOne_74 (by decide) c6 (fun c7 => ?_) (fun c7 => ?_)
      · have h := ifn c7 h
        refine h_blk 87 [(0, vr 3 o), (1, vr 6 a0)] [vr 3 o] C f_hx_Read_readOne_86_1 rfl ?_
        refine h_geti C e_hx_Read_readOne_87 fg_Read_40 h_o rfl rfl rfl (q4.2 3 o 5) rfl ?_
        refine h_blk 91 [(0, vr 3 o), (1, vr 6 a0)] [vi 4, vi (q4.2 3 o 5)] C f_hx_Read_readOne_90_1 rfl ?_
        obtain ⟨c8, h⟩ := igd h
        refine h_icmp_lt (tgt := 96) C e_hx_Read_readOne_91 (by decide) c8 (by decide) (fun c9 => ?_) (fun c9 => ?_)
        · have h := ifp c9 h
          refine h_blk 99 [(0, vr 3 o), (1, vr 6 a0)] [vi 45, vr 3 o] C f_hx_Read_readOne_96_2 rfl ?_
          obtain ⟨q10, e11, h⟩ := obd h
          refine h_callV C Rm Y [vi 45] [] (hx_Read_isSign l D B H0 G _ o 45 h_o _ _ e11) cl_Read_59 h_o rfl rfl rfl e_hx_Read_readOne_99 rfl rfl rfl ⟨by show _ ≤ ((fr + 40) : Nat); omega, by show _ ≤ ((lo + 1600) : Nat); omega⟩ ?_
          rintro _ _ ⟨rfl, rfl⟩
          show HM g D G q q10.2 102 [(0, vr 3 o), (1, vr 6 a0)] [vi q10.1]
          refine h_blk 105 [(2, vi q10.1), (0, vr 3 o), (1, vr 6 a0)] [vr 3 o, vr 3 o] C f_hx_Read_readOne_102_3 rfl ?_
          refine h_geti C e_hx_Read_readOne_105 fg_Read_40 h_o rfl rfl rfl (q10.2 3 o 5) rfl ?_
          refine h_blk 110 [(2, vi q10.1), (0, vr 3 o), (1, vr 6 a0)] [vi ((q10.2 3 o 5) + 1), vr 3 o] C f_hx_Read_readOne_108_2 rfl ?_
          refine h_puti C e_hx_Read_readOne_110 fp_Read_40 h_o rfl rfl rfl ?_
          refine h_blk 114 [(2, vi q10.1), (0, vr 3 o), (1, vr 6 a0)] [vr 3 o] C f_hx_Read_readOne_113_1 rfl ?_
          obtain ⟨q12, e13, h⟩ := obd h
          refine h_callV C Rm Y [] [] (hx_Read_advance l D B H0 G _ o h_o _ _ e13) cl_Read_43 h_o rfl rfl rfl e_hx_Read_readOne_114 rfl rfl rfl ⟨by show _ ≤ ((fr + 40) : Nat); omega, by show _ ≤ ((lo + 1600) : Nat); omega⟩ ?_
          rintro _ _ ⟨rfl, rfl⟩
          show HM g D G q q12.2 117 [(2, vi q10.1), (0, vr 3 o), (1, vr 6 a0)] []
          refine h_blk 118 [(2, vi q10.1), (0, vr 3 o), (1, vr 6 a0)] [vi q10.1] C f_hx_Read_readOne_117_1 rfl ?_
          obtain ⟨c14, h⟩ := igd h
          refine h_if_eq (tgt := 129) C e_hx_Read_readOne_118 (by decide) c14 (fun c15 => ?_) (fun c15 => ?_)
          · have h := ifp c15 h
            refine h_blk 131 [(2, vi q10.1), (0, vr 3 o), (1, vr 6 a0)] [vr 6 a0, vr 3 o] C f_hx_Read_readOne_129_2 rfl ?_
            obtain ⟨q16, e17, h⟩ := obd h
            refine h_callV C Rm Y [vr 6 a0] [] (hx_Read_readComparison hone l D B H0 G _ o a0 h_o h_a0 _ _ e17) cl_Read_134 h_o rfl rfl rfl e_hx_Read_readOne_131 rfl rfl rfl ⟨by show _ ≤ ((fr + 40) : Nat); omega, by show _ ≤ ((lo + 1600) : Nat); omega⟩ ?_
            rintro _ _ ⟨rfl, rfl⟩
            show HM g D G q q16.2 134 [(2, vi q10.1), (0, vr 3 o), (1, vr 6 a0)] [vi q16.1]
            obtain ⟨c18, h⟩ := igd h
            refine h_if_eq (tgt := 150) C e_hx_Read_readOne_134 (by decide) c18 (fun c19 => ?_) (fun c19 => ?_)
            · have h := ifp c19 h
              refine h_blk 154 [(3, vi 0), (2, vi q10.1), (0, vr 3 o), (1, vr 6 a0)] [vr 3 o, vr 3 o] C f_hx_Read_readOne_150_4 rfl ?_
              refine h_geti C e_hx_Read_readOne_154 fg_Read_40 h_o rfl rfl rfl (q16.2 3 o 5) rfl ?_
              refine h_blk 159 [(3, vi 0), (2, vi q10.1), (0, vr 3 o), (1, vr 6 a0)] [vi ((q16.2 3 o 5) - 1), vr 3 o] C f_hx_Read_readOne_157_2 rfl ?_
              refine h_puti C e_hx_Read_readOne_159 fp_Read_40 h_o rfl rfl rfl ?_
              refine h_blk 163 [(3, vi 0), (2, vi q10.1), (0, vr 3 o), (1, vr 6 a0)] [vi 0] C f_hx_Read_readOne_162_1 rfl ?_
              refine h_if_eq (tgt := 183) C e_hx_Read_readOne_163 (by decide) (by decide) (fun c20 => ?_) (fun c20 => (by omega : False).elim)
              refine h_blk 184 [(3, vi 0), (2, vi q10.1), (0, vr 3 o), (1, vr 6 a0)] [vi 0] C f_hx_Read_readOne_183_1 rfl ?_
              refine h_if_eq (tgt := 191) C e_hx_Read_readOne_184 (by decide) (by decide) (fun c21 => ?_) (fun c21 => (by omega : False).elim)
              refine h_blk 192 [(3, vi 0), (2, vi q10.1), (0, vr 3 o), (1, vr 6 a0)] [vi 0] C f_hx_Read_readOne_191_1 rfl ?_
              exact h_zret C Rm E (Or.inl rfl) e_hx_Read_readOne_192 (fin1 h)
            · have h := ifn c19 h
              refine h_blk 140 [(2, vi q10.1), (0, vr 3 o), (1, vr 6 a0)] [vi 41, vr 3 o] C f_hx_Read_readOne_137_2 rfl ?_
              obtain ⟨q22, e23, h⟩ := obd h
              refine h_callV C Rm Y [vi 41] [] (hx_Read_isSign l D B H0 G _ o 41 h_o _ _ e23) cl_Read_59 h_o rfl rfl rfl e_hx_Read_readOne_140 rfl rfl rfl ⟨by show _ ≤ ((fr + 40) : Nat); omega, by show _ ≤ ((lo + 1600) : Nat); omega⟩ ?_
              rintro _ _ ⟨rfl, rfl⟩
              show HM g D G q q22.2 143 [(2, vi q10.1), (0, vr 3 o), (1, vr 6 a0)] [vi q22.1]
              obtain ⟨c24, h⟩ := igd h
              refine h_if_eq (tgt := 150) C e_hx_Read_readOne_143 (by decide) c24 (fun c25 => ?_) (fun c25 => ?_)
              · have h := ifp c25 h
                refine h_blk 154 [(3, vi 0), (2, vi q10.1), (0, vr 3 o), (1, vr 6 a0)] [vr 3 o, vr 3 o] C f_hx_Read_readOne_150_4 rfl ?_
                refine h_geti C e_hx_Read_readOne_154 fg_Read_40 h_o rfl rfl rfl (q22.2 3 o 5) rfl ?_
                refine h_blk 159 [(3, vi 0), (2, vi q10.1), (0, vr 3 o), (1, vr 6 a0)] [vi ((q22.2 3 o 5) - 1), vr 3 o] C f_hx_Read_readOne_157_2 rfl ?_
                refine h_puti C e_hx_Read_readOne_159 fp_Read_40 h_o rfl rfl rfl ?_
                refine h_blk 163 [(3, vi 0), (2, vi q10.1), (0, vr 3 o), (1, vr 6 a0)] [vi 0] C f_hx_Read_readOne_162_1 rfl ?_
                refine h_if_eq (tgt := 183) C e_hx_Read_readOne_163 (by decide) (by decide) (fun c26 => ?_) (fun c26 => (by omega : False).elim)
                refine h_blk 184 [(3, vi 0), (2, vi q10.1), (0, vr 3 o), (1, vr 6 a0)] [vi 0] C f_hx_Read_readOne_183_1 rfl ?_
                refine h_if_eq (tgt := 191) C e_hx_Read_readOne_184 (by decide) (by decide) (fun c27 => ?_) (fun c27 => (by omega : False).elim)
                refine h_blk 192 [(3, vi 0), (2, vi q10.1), (0, vr 3 o), (1, vr 6 a0)] [vi 0] C f_hx_Read_readOne_191_1 rfl ?_
                exact h_zret C Rm E (Or.inl rfl) e_hx_Read_readOne_192 (fin1 h)
              · have h := ifn c25 h
                refine h_blk 151 [(2, vi q10.1), (0, vr 3 o), (1, vr 6 a0)] [vi 1] C f_hx_Read_readOne_146_2 rfl ?_
                refine h_blk 154 [(3, vi 1), (2, vi q10.1), (0, vr 3 o), (1, vr 6 a0)] [vr 3 o, vr 3 o] C f_hx_Read_readOne_151_3 rfl ?_
                refine h_geti C e_hx_Read_readOne_154 fg_Read_40 h_o rfl rfl rfl (q22.2 3 o 5) rfl ?_
                refine h_blk 159 [(3, vi 1), (2, vi q10.1), (0, vr 3 o), (1, vr 6 a0)] [vi ((q22.2 3 o 5) - 1), vr 3 o] C f_hx_Read_readOne_157_2 rfl ?_
                refine h_puti C e_hx_Read_readOne_159 fp_Read_40 h_o rfl rfl rfl ?_
                refine h_blk 163 [(3, vi 1), (2, vi q10.1), (0, vr 3 o), (1, vr 6 a0)] [vi 1] C f_hx_Read_readOne_162_1 rfl ?_
                refine h_if_eq (tgt := 183) C e_hx_Read_readOne_163 (by decide) (by decide) (fun c28 => (by omega : False).elim) (fun c28 => ?_)
                refine h_blk 167 [(3, vi 1), (2, vi q10.1), (0, vr 3 o), (1, vr 6 a0)] [vi q10.1] C f_hx_Read_readOne_166_1 rfl ?_
                refine h_if_eq (tgt := 183) C e_hx_Read_readOne_167 (by decide) c14 (fun c29 => ?_) (fun c29 => (by omega : False).elim)
                refine h_blk 184 [(3, vi 1), (2, vi q10.1), (0, vr 3 o), (1, vr 6 a0)] [vi 1] C f_hx_Read_readOne_183_1 rfl ?_
                refine h_if_eq (tgt := 191) C e_hx_Read_readOne_184 (by decide) (by decide) (fun c30 => (by omega : False).elim) (fun c30 => ?_)
                refine h_blk 188 [(3, vi 1), (2, vi q10.1), (0, vr 3 o), (1, vr 6 a0)] [vr 3 o] C f_hx_Read_readOne_187_1 rfl ?_
                obtain ⟨q31, e32, h⟩ := obd h
                refine h_callV C Rm Y [] [] (hx_Read_advance l D B H0 G _ o h_o _ _ e32) cl_Read_43 h_o rfl rfl rfl e_hx_Read_readOne_188 rfl rfl rfl ⟨by show _ ≤ ((fr + 40) : Nat); omega, by show _ ≤ ((lo + 1600) : Nat); omega⟩ ?_
                rintro _ _ ⟨rfl, rfl⟩
                show HM g D G q q31.2 191 [(3, vi 1), (2, vi q10.1), (0, vr 3 o), (1, vr 6 a0)] []
                refine h_blk 192 [(3, vi 1), (2, vi q10.1), (0, vr 3 o), (1, vr 6 a0)] [vi 1] C f_hx_Read_readOne_191_1 rfl ?_
                exact h_zret C Rm E (Or.inr rfl) e_hx_Read_readOne_192 (fin1 h)
          · have h := ifn c15 h
            refine h_blk 123 [(2, vi q10.1), (0, vr 3 o), (1, vr 6 a0)] [vr 6 a0, vr 3 o] C f_hx_Read_readOne_121_2 rfl ?_
            obtain ⟨q33, e34, h⟩ := obd h
            refine h_callV C Rm Y [vr 6 a0] [] (hone l D B H0 G _ o a0 h_o h_a0 _ _ e34) cl_Read_150 h_o rfl rfl rfl e_hx_Read_readOne_123 rfl rfl rfl ⟨by show _ ≤ ((fr + 40) : Nat); omega, by show _ ≤ ((lo + 1600) : Nat); omega⟩ ?_
            rintro _ _ ⟨rfl, rfl⟩
            show HM g D G q q33.2 126 [(2, vi q10.1), (0, vr 3 o), (1, vr 6 a0)] [vi q33.1]
            refine h_blk 151 [(2, vi q10.1), (0, vr 3 o), (1, vr 6 a0)] [vi q33.1] C f_hx_Read_readOne_126_1 rfl ?_
            refine h_blk 154 [(3, vi q33.1), (2, vi q10.1), (0, vr 3 o), (1, vr 6 a0)] [vr 3 o, vr 3 o] C f_hx_Read_readOne_151_3 rfl ?_
            refine h_geti C e_hx_Read_readOne_154 fg_Read_40 h_o rfl rfl rfl (q33.2 3 o 5) rfl ?_
            refine h_blk 159 [(3, vi q33.1), (2, vi q10.1), (0, vr 3 o), (1, vr 6 a0)] [vi ((q33.2 3 o 5) - 1), vr 3 o] C f_hx_Read_readOne_157_2 rfl ?_
            refine h_puti C e_hx_Read_readOne_159 fp_Read_40 h_o rfl rfl rfl ?_
            refine h_blk 163 [(3, vi q33.1), (2, vi q10.1), (0, vr 3 o), (1, vr 6 a0)] [vi q33.1] C f_hx_Read_readOne_162_1 rfl ?_
            obtain ⟨c35, h⟩ := igd h
            refine h_if_eq (tgt := 183) C e_hx_Read_readOne_163 (by decide) c35 (fun c36 => ?_) (fun c36 => ?_)
            · have h := ifp c36 h
              refine h_blk 184 [(3, vi q33.1), (2, vi q10.1), (0, vr 3 o), (1, vr 6 a0)] [vi q33.1] C f_hx_Read_readOne_183_1 rfl ?_
              refine h_if_eq (tgt := 191) C e_hx_Read_readOne_184 (by decide) c35 (fun c37 => ?_) (fun c37 => (by omega : False).elim)
              refine h_blk 192 [(3, vi q33.1), (2, vi q10.1), (0, vr 3 o), (1, vr 6 a0)] [vi q33.1] C f_hx_Read_readOne_191_1 rfl ?_
              obtain ⟨c38, h⟩ := igd h
              exact h_zret C Rm E c38 e_hx_Read_readOne_192 (fin1 h)
            · have h := ifn c36 h
              refine h_blk 167 [(3, vi q33.1), (2, vi q10.1), (0, vr 3 o), (1, vr 6 a0)] [vi q10.1] C f_hx_Read_readOne_166_1 rfl ?_
              refine h_if_eq (tgt := 183) C e_hx_Read_readOne_167 (by decide) c14 (fun c39 => (by omega : False).elim) (fun c39 => ?_)
              refine h_blk 171 [(3, vi q33.1), (2, vi q10.1), (0, vr 3 o), (1, vr 6 a0)] [vr 3 o] C f_hx_Read_readOne_170_1 rfl ?_
              obtain ⟨c40, h⟩ := igd h
              refine h_getr5 C e_hx_Read_readOne_171 fg_Read_25 h_o rfl rfl rfl rfl c40 (fun g41 => ?_)
              refine h_blk 177 [(3, vi q33.1), (2, vi q10.1), (0, vr 3 o), (1, vr 6 a0)] [vi 150, vr 2 ((q33.2 3 o 2).toNat)] C f_hx_Read_readOne_174_1 rfl ?_
              obtain ⟨q42, e43, h⟩ := obd h
              refine h_callV C Rm Y [vi 150] [] (hx_Prog_emit l D B H0 G _ ((q33.2 3 o 2).toNat) 150 g41 _ _ e43) cl_Read_143 g41 rfl rfl rfl e_hx_Read_readOne_177 rfl rfl rfl ⟨by show _ ≤ ((fr + 40) : Nat); omega, by show _ ≤ ((lo + 1600) : Nat); omega⟩ ?_
              rintro _ _ ⟨rfl, rfl⟩
              show HM g D G q q42.2 180 [(3, vi q33.1), (2, vi q10.1), (0, vr 3 o), (1, vr 6 a0)] []
              refine h_blk 191 [(3, vi q33.1), (2, vi q10.1), (0, vr 3 o), (1, vr 6 a0)] [] C f_hx_Read_readOne_180_1 rfl ?_
              refine h_blk 192 [(3, vi q33.1), (2, vi q10.1), (0, vr 3 o), (1, vr 6 a0)] [vi q33.1] C f_hx_Read_readOne_191_1 rfl ?_
              obtain ⟨c44, h⟩ := igd h
              exact h_zret C Rm E c44 e_hx_Read_readOne_192 (fin1 h)
        · have h := ifn c9 h
          refine h_blk 95 [(0, vr 3 o), (1, vr 6 a0)] [vi 0] C f_hx_Read_readOne_94_1 rfl ?_
          exact h_zret C Rm E (Or.inl rfl) e_hx_Read_readOne_95 (fin1 h)
      · have h := ifp c7 h
        refine h_blk 80 [(0, vr 3 o), (1, vr 6 a0)] [vi 40, vr 3 o] C f_hx_Read_readOne_77_2 rfl ?_
        obtain ⟨q45, e46, h⟩ := obd h
        refine h_callV C Rm Y [vi 40] [] (hx_Read_isSign l D B H0 G _ o 40 h_o _ _ e46) cl_Read_59 h_o rfl rfl rfl e_hx_Read_readOne_80 rfl rfl rfl ⟨by show _ ≤ ((fr + 40) : Nat); omega, by show _ ≤ ((lo + 1600) : Nat); omega⟩ ?_
        rintro _ _ ⟨rfl, rfl⟩
        show HM g D G q q45.2 83 [(0, vr 3 o), (1, vr 6 a0)] [vi q45.1]
        obtain ⟨c47, h⟩ := igd h
        refine h_if_eq (tgt := 94) C e_hx_Read_readOne_83 (by decide) c47 (fun c48 => ?_) (fun c48 => ?_)
        · have h := ifp c48 h
          refine h_blk 95 [(0, vr 3 o), (1, vr 6 a0)] [vi 0] C f_hx_Read_readOne_94_1 rfl ?_
          exact h_zret C Rm E (Or.inl rfl) e_hx_Read_readOne_95 (fin1 h)
        · have h := ifn c48 h
          refine h_blk 87 [(0, vr 3 o), (1, vr 6 a0)] [vr 3 o] C f_hx_Read_readOne_86_1 rfl ?_
          refine h_geti C e_hx_Read_readOne_87 fg_Read_40 h_o rfl rfl rfl (q45.2 3 o 5) rfl ?_
          refine h_blk 91 [(0, vr 3 o), (1, vr 6 a0)] [vi 4, vi (q45.2 3 o 5)] C f_hx_Read_readOne_90_1 rfl ?_
          obtain ⟨c49, h⟩ := igd h
          refine h_icmp_lt (tgt := 96) C e_hx_Read_readOne_91 (by decide) c49 (by decide) (fun c50 => ?_) (fun c50 => ?_)
          · have h := ifp c50 h
            refine h_blk 99 [(0, vr 3 o), (1, vr 6 a0)] [vi 45, vr 3 o] C f_hx_Read_readOne_96_2 rfl ?_
            obtain ⟨q51, e52, h⟩ := obd h
            refine h_callV C Rm Y [vi 45] [] (hx_Read_isSign l D B H0 G _ o 45 h_o _ _ e52) cl_Read_59 h_o rfl rfl rfl e_hx_Read_readOne_99 rfl rfl rfl ⟨by show _ ≤ ((fr + 40) : Nat); omega, by show _ ≤ ((lo + 1600) : Nat); omega⟩ ?_
            rintro _ _ ⟨rfl, rfl⟩
            show HM g D G q q51.2 102 [(0, vr 3 o), (1, vr 6 a0)] [vi q51.1]
            refine h_blk 105 [(2, vi q51.1), (0, vr 3 o), (1, vr 6 a0)] [vr 3 o, vr 3 o] C f_hx_Read_readOne_102_3 rfl ?_
            refine h_geti C e_hx_Read_readOne_105 fg_Read_40 h_o rfl rfl rfl (q51.2 3 o 5) rfl ?_
            refine h_blk 110 [(2, vi q51.1), (0, vr 3 o), (1, vr 6 a0)] [vi ((q51.2 3 o 5) + 1), vr 3 o] C f_hx_Read_readOne_108_2 rfl ?_
            refine h_puti C e_hx_Read_readOne_110 fp_Read_40 h_o rfl rfl rfl ?_
            refine h_blk 114 [(2, vi q51.1), (0, vr 3 o), (1, vr 6 a0)] [vr 3 o] C f_hx_Read_readOne_113_1 rfl ?_
            obtain ⟨q53, e54, h⟩ := obd h
            refine h_callV C Rm Y [] [] (hx_Read_advance l D B H0 G _ o h_o _ _ e54) cl_Read_43 h_o rfl rfl rfl e_hx_Read_readOne_114 rfl rfl rfl ⟨by show _ ≤ ((fr + 40) : Nat); omega, by show _ ≤ ((lo + 1600) : Nat); omega⟩ ?_
            rintro _ _ ⟨rfl, rfl⟩
            show HM g D G q q53.2 117 [(2, vi q51.1), (0, vr 3 o), (1, vr 6 a0)] []
            refine h_blk 118 [(2, vi q51.1), (0, vr 3 o), (1, vr 6 a0)] [vi q51.1] C f_hx_Read_readOne_117_1 rfl ?_
            obtain ⟨c55, h⟩ := igd h
            refine h_if_eq (tgt := 129) C e_hx_Read_readOne_118 (by decide) c55 (fun c56 => ?_) (fun c56 => ?_)
            · have h := ifp c56 h
              refine h_blk 131 [(2, vi q51.1), (0, vr 3 o), (1, vr 6 a0)] [vr 6 a0, vr 3 o] C f_hx_Read_readOne_129_2 rfl ?_
              obtain ⟨q57, e58, h⟩ := obd h
              refine h_callV C Rm Y [vr 6 a0] [] (hx_Read_readComparison hone l D B H0 G _ o a0 h_o h_a0 _ _ e58) cl_Read_134 h_o rfl rfl rfl e_hx_Read_readOne_131 rfl rfl rfl ⟨by show _ ≤ ((fr + 40) : Nat); omega, by show _ ≤ ((lo + 1600) : Nat); omega⟩ ?_
              rintro _ _ ⟨rfl, rfl⟩
              show HM g D G q q57.2 134 [(2, vi q51.1), (0, vr 3 o), (1, vr 6 a0)] [vi q57.1]
              obtain ⟨c59, h⟩ := igd h
              refine h_if_eq (tgt := 150) C e_hx_Read_readOne_134 (by decide) c59 (fun c60 => ?_) (fun c60 => ?_)
              · have h := ifp c60 h
                refine h_blk 154 [(3, vi 0), (2, vi q51.1), (0, vr 3 o), (1, vr 6 a0)] [vr 3 o, vr 3 o] C f_hx_Read_readOne_150_4 rfl ?_
                refine h_geti C e_hx_Read_readOne_154 fg_Read_40 h_o rfl rfl rfl (q57.2 3 o 5) rfl ?_
                refine h_blk 159 [(3, vi 0), (2, vi q51.1), (0, vr 3 o), (1, vr 6 a0)] [vi ((q57.2 3 o 5) - 1), vr 3 o] C f_hx_Read_readOne_157_2 rfl ?_
                refine h_puti C e_hx_Read_readOne_159 fp_Read_40 h_o rfl rfl rfl ?_
                refine h_blk 163 [(3, vi 0), (2, vi q51.1), (0, vr 3 o), (1, vr 6 a0)] [vi 0] C f_hx_Read_readOne_162_1 rfl ?_
                refine h_if_eq (tgt := 183) C e_hx_Read_readOne_163 (by decide) (by decide) (fun c61 => ?_) (fun c61 => (by omega : False).elim)
                refine h_blk 184 [(3, vi 0), (2, vi q51.1), (0, vr 3 o), (1, vr 6 a0)] [vi 0] C f_hx_Read_readOne_183_1 rfl ?_
                refine h_if_eq (tgt := 191) C e_hx_Read_readOne_184 (by decide) (by decide) (fun c62 => ?_) (fun c62 => (by omega : False).elim)
                refine h_blk 192 [(3, vi 0), (2, vi q51.1), (0, vr 3 o), (1, vr 6 a0)] [vi 0] C f_hx_Read_readOne_191_1 rfl ?_
                exact h_zret C Rm E (Or.inl rfl) e_hx_Read_readOne_192 (fin1 h)
              · have h := ifn c60 h
                refine h_blk 140 [(2, vi q51.1), (0, vr 3 o), (1, vr 6 a0)] [vi 41, vr 3 o] C f_hx_Read_readOne_137_2 rfl ?_
                obtain ⟨q63, e64, h⟩ := obd h
                refine h_callV C Rm Y [vi 41] [] (hx_Read_isSign l D B H0 G _ o 41 h_o _ _ e64) cl_Read_59 h_o rfl rfl rfl e_hx_Read_readOne_140 rfl rfl rfl ⟨by show _ ≤ ((fr + 40) : Nat); omega, by show _ ≤ ((lo + 1600) : Nat); omega⟩ ?_
                rintro _ _ ⟨rfl, rfl⟩
                show HM g D G q q63.2 143 [(2, vi q51.1), (0, vr 3 o), (1, vr 6 a0)] [vi q63.1]
                obtain ⟨c65, h⟩ := igd h
                refine h_if_eq (tgt := 150) C e_hx_Read_readOne_143 (by decide) c65 (fun c66 => ?_) (fun c66 => ?_)
                · have h := ifp c66 h
                  refine h_blk 154 [(3, vi 0), (2, vi q51.1), (0, vr 3 o), (1, vr 6 a0)] [vr 3 o, vr 3 o] C f_hx_Read_readOne_150_4 rfl ?_
                  refine h_geti C e_hx_Read_readOne_154 fg_Read_40 h_o rfl rfl rfl (q63.2 3 o 5) rfl ?_
                  refine h_blk 159 [(3, vi 0), (2, vi q51.1), (0, vr 3 o), (1, vr 6 a0)] [vi ((q63.2 3 o 5) - 1), vr 3 o] C f_hx_Read_readOne_157_2 rfl ?_
                  refine h_puti C e_hx_Read_readOne_159 fp_Read_40 h_o rfl rfl rfl ?_
                  refine h_blk 163 [(3, vi 0), (2, vi q51.1), (0, vr 3 o), (1, vr 6 a0)] [vi 0] C f_hx_Read_readOne_162_1 rfl ?_
                  refine h_if_eq (tgt := 183) C e_hx_Read_readOne_163 (by decide) (by decide) (fun c67 => ?_) (fun c67 => (by omega : False).elim)
                  refine h_blk 184 [(3, vi 0), (2, vi q51.1), (0, vr 3 o), (1, vr 6 a0)] [vi 0] C f_hx_Read_readOne_183_1 rfl ?_
                  refine h_if_eq (tgt := 191) C e_hx_Read_readOne_184 (by decide) (by decide) (fun c68 => ?_) (fun c68 => (by omega : False).elim)
                  refine h_blk 192 [(3, vi 0), (2, vi q51.1), (0, vr 3 o), (1, vr 6 a0)] [vi 0] C f_hx_Read_readOne_191_1 rfl ?_
                  exact h_zret C Rm E (Or.inl rfl) e_hx_Read_readOne_192 (fin1 h)
                · have h := ifn c66 h
                  refine h_blk 151 [(2, vi q51.1), (0, vr 3 o), (1, vr 6 a0)] [vi 1] C f_hx_Read_readOne_146_2 rfl ?_
                  refine h_blk 154 [(3, vi 1), (2, vi q51.1), (0, vr 3 o), (1, vr 6 a0)] [vr 3 o, vr 3 o] C f_hx_Read_readOne_151_3 rfl ?_
                  refine h_geti C e_hx_Read_readOne_154 fg_Read_40 h_o rfl rfl rfl (q63.2 3 o 5) rfl ?_
                  refine h_blk 159 [(3, vi 1), (2, vi q51.1), (0, vr 3 o), (1, vr 6 a0)] [vi ((q63.2 3 o 5) - 1), vr 3 o] C f_hx_Read_readOne_157_2 rfl ?_
                  refine h_puti C e_hx_Read_readOne_159 fp_Read_40 h_o rfl rfl rfl ?_
                  refine h_blk 163 [(3, vi 1), (2, vi q51.1), (0, vr 3 o), (1, vr 6 a0)] [vi 1] C f_hx_Read_readOne_162_1 rfl ?_
                  refine h_if_eq (tgt := 183) C e_hx_Read_readOne_163 (by decide) (by decide) (fun c69 => (by omega : False).elim) (fun c69 => ?_)
                  refine h_blk 167 [(3, vi 1), (2, vi q51.1), (0, vr 3 o), (1, vr 6 a0)] [vi q51.1] C f_hx_Read_readOne_166_1 rfl ?_
                  refine h_if_eq (tgt := 183) C e_hx_Read_readOne_167 (by decide) c55 (fun c70 => ?_) (fun c70 => (by omega : False).elim)
                  refine h_blk 184 [(3, vi 1), (2, vi q51.1), (0, vr 3 o), (1, vr 6 a0)] [vi 1] C f_hx_Read_readOne_183_1 rfl ?_
                  refine h_if_eq (tgt := 191) C e_hx_Read_readOne_184 (by decide) (by decide) (fun c71 => (by omega : False).elim) (fun c71 => ?_)
                  refine h_blk 188 [(3, vi 1), (2, vi q51.1), (0, vr 3 o), (1, vr 6 a0)] [vr 3 o] C f_hx_Read_readOne_187_1 rfl ?_
                  obtain ⟨q72, e73, h⟩ := obd h
                  refine h_callV C Rm Y [] [] (hx_Read_advance l D B H0 G _ o h_o _ _ e73) cl_Read_43 h_o rfl rfl rfl e_hx_Read_readOne_188 rfl rfl rfl ⟨by show _ ≤ ((fr + 40) : Nat); omega, by show _ ≤ ((lo + 1600) : Nat); omega⟩ ?_
                  rintro _ _ ⟨rfl, rfl⟩
                  show HM g D G q q72.2 191 [(3, vi 1), (2, vi q51.1), (0, vr 3 o), (1, vr 6 a0)] []
                  refine h_blk 192 [(3, vi 1), (2, vi q51.1), (0, vr 3 o), (1, vr 6 a0)] [vi 1] C f_hx_Read_readOne_191_1 rfl ?_
                  exact h_zret C Rm E (Or.inr rfl) e_hx_Read_readOne_192 (fin1 h)
            · have h := ifn c56 h
              refine h_blk 123 [(2, vi q51.1), (0, vr 3 o), (1, vr 6 a0)] [vr 6 a0, vr 3 o] C f_hx_Read_readOne_121_2 rfl ?_
              obtain ⟨q74, e75, h⟩ := obd h
              refine h_callV C Rm Y [vr 6 a0] [] (hone l D B H0 G _ o a0 h_o h_a0 _ _ e75) cl_Read_150 h_o rfl rfl rfl e_hx_Read_readOne_123 rfl rfl rfl ⟨by show _ ≤ ((fr + 40) : Nat); omega, by show _ ≤ ((lo + 1600) : Nat); omega⟩ ?_
              rintro _ _ ⟨rfl, rfl⟩
              show HM g D G q q74.2 126 [(2, vi q51.1), (0, vr 3 o), (1, vr 6 a0)] [vi q74.1]
              refine h_blk 151 [(2, vi q51.1), (0, vr 3 o), (1, vr 6 a0)] [vi q74.1] C f_hx_Read_readOne_126_1 rfl ?_
              refine h_blk 154 [(3, vi q74.1), (2, vi q51.1), (0, vr 3 o), (1, vr 6 a0)] [vr 3 o, vr 3 o] C f_hx_Read_readOne_151_3 rfl ?_
              refine h_geti C e_hx_Read_readOne_154 fg_Read_40 h_o rfl rfl rfl (q74.2 3 o 5) rfl ?_
              refine h_blk 159 [(3, vi q74.1), (2, vi q51.1), (0, vr 3 o), (1, vr 6 a0)] [vi ((q74.2 3 o 5) - 1), vr 3 o] C f_hx_Read_readOne_157_2 rfl ?_
              refine h_puti C e_hx_Read_readOne_159 fp_Read_40 h_o rfl rfl rfl ?_
              refine h_blk 163 [(3, vi q74.1), (2, vi q51.1), (0, vr 3 o), (1, vr 6 a0)] [vi q74.1] C f_hx_Read_readOne_162_1 rfl ?_
              obtain ⟨c76, h⟩ := igd h
              refine h_if_eq (tgt := 183) C e_hx_Read_readOne_163 (by decide) c76 (fun c77 => ?_) (fun c77 => ?_)
              · have h := ifp c77 h
                refine h_blk 184 [(3, vi q74.1), (2, vi q51.1), (0, vr 3 o), (1, vr 6 a0)] [vi q74.1] C f_hx_Read_readOne_183_1 rfl ?_
                refine h_if_eq (tgt := 191) C e_hx_Read_readOne_184 (by decide) c76 (fun c78 => ?_) (fun c78 => (by omega : False).elim)
                refine h_blk 192 [(3, vi q74.1), (2, vi q51.1), (0, vr 3 o), (1, vr 6 a0)] [vi q74.1] C f_hx_Read_readOne_191_1 rfl ?_
                obtain ⟨c79, h⟩ := igd h
                exact h_zret C Rm E c79 e_hx_Read_readOne_192 (fin1 h)
              · have h := ifn c77 h
                refine h_blk 167 [(3, vi q74.1), (2, vi q51.1), (0, vr 3 o), (1, vr 6 a0)] [vi q51.1] C f_hx_Read_readOne_166_1 rfl ?_
                refine h_if_eq (tgt := 183) C e_hx_Read_readOne_167 (by decide) c55 (fun c80 => (by omega : False).elim) (fun c80 => ?_)
                refine h_blk 171 [(3, vi q74.1), (2, vi q51.1), (0, vr 3 o), (1, vr 6 a0)] [vr 3 o] C f_hx_Read_readOne_170_1 rfl ?_
                obtain ⟨c81, h⟩ := igd h
                refine h_getr5 C e_hx_Read_readOne_171 fg_Read_25 h_o rfl rfl rfl rfl c81 (fun g82 => ?_)
                refine h_blk 177 [(3, vi q74.1), (2, vi q51.1), (0, vr 3 o), (1, vr 6 a0)] [vi 150, vr 2 ((q74.2 3 o 2).toNat)] C f_hx_Read_readOne_174_1 rfl ?_
                obtain ⟨q83, e84, h⟩ := obd h
                refine h_callV C Rm Y [vi 150] [] (hx_Prog_emit l D B H0 G _ ((q74.2 3 o 2).toNat) 150 g82 _ _ e84) cl_Read_143 g82 rfl rfl rfl e_hx_Read_readOne_177 rfl rfl rfl ⟨by show _ ≤ ((fr + 40) : Nat); omega, by show _ ≤ ((lo + 1600) : Nat); omega⟩ ?_
                rintro _ _ ⟨rfl, rfl⟩
                show HM g D G q q83.2 180 [(3, vi q74.1), (2, vi q51.1), (0, vr 3 o), (1, vr 6 a0)] []
                refine h_blk 191 [(3, vi q74.1), (2, vi q51.1), (0, vr 3 o), (1, vr 6 a0)] [] C f_hx_Read_readOne_180_1 rfl ?_
                refine h_blk 192 [(3, vi q74.1), (2, vi q51.1), (0, vr 3 o), (1, vr 6 a0)] [vi q74.1] C f_hx_Read_readOne_191_1 rfl ?_
                obtain ⟨c85, h⟩ := igd h
                exact h_zret C Rm E c85 e_hx_Read_readOne_192 (fin1 h)
          · have h := ifn c50 h
            refine h_blk 95 [(0, vr 3 o), (1, vr 6 a0)] [vi 0] C f_hx_Read_readOne_94_1 rfl ?_
            exact h_zret C Rm E (Or.inl rfl) e_hx_Read_readOne_95 (fin1 h)
    · have h := ifp c3 h
      refine h_blk 35 [(0, vr 3 o), (1, vr 6 a0)] [vr 6 a0, vr 6 a0] C f_hx_Read_readOne_33_2 rfl ?_
      refine h_geti C e_hx_Read_readOne_35 fg_Read_153 h_a0 rfl rfl rfl (A 6 a0 6) rfl ?_
      refine h_blk 40 [(0, vr 3 o), (1, vr 6 a0)] [vr 3 o, vi 1, vi (A 6 a0 6), vr 6 a0] C f_hx_Read_readOne_38_2 rfl ?_
      refine h_geti C e_hx_Read_readOne_40 fg_Read_64 h_o rfl rfl rfl (A 3 o 8) rfl ?_
      refine h_blk 45 [(0, vr 3 o), (1, vr 6 a0)] [vi (iOr (A 6 a0 6) (iShl 1 (A 3 o 8))), vr 6 a0] C f_hx_Read_readOne_43_2 rfl ?_
      refine h_puti C e_hx_Read_readOne_45 fp_Read_153 h_a0 rfl rfl rfl ?_
      refine h_blk 49 [(0, vr 3 o), (1, vr 6 a0)] [vr 3 o] C f_hx_Read_readOne_48_1 rfl ?_
      obtain ⟨c86, h⟩ := igd h
      refine h_getr5 C e_hx_Read_readOne_49 fg_Read_25 h_o rfl rfl rfl rfl c86 (fun g87 => ?_)
      refine h_blk 55 [(0, vr 3 o), (1, vr 6 a0)] [vr 3 o, vi 100, vr 2 ((A 3 o 2).toNat)] C f_hx_Read_readOne_52_2 rfl ?_
      refine h_geti C e_hx_Read_readOne_55 fg_Read_64 h_o rfl rfl rfl (A 3 o 8) rfl ?_
      refine h_blk 59 [(0, vr 3 o), (1, vr 6 a0)] [vi (100 + (A 3 o 8)), vr 2 ((A 3 o 2).toNat)] C f_hx_Read_readOne_58_1 rfl ?_
      obtain ⟨q88, e89, h⟩ := obd h
      refine h_callV C Rm Y [vi (100 + (A 3 o 8))] [] (hx_Prog_emit l D B H0 G _ ((A 3 o 2).toNat) (100 + (A 3 o 8)) g87 _ _ e89) cl_Read_143 g87 rfl rfl rfl e_hx_Read_readOne_59 rfl rfl rfl ⟨by show _ ≤ ((fr + 40) : Nat); omega, by show _ ≤ ((lo + 1600) : Nat); omega⟩ ?_
      rintro _ _ ⟨rfl, rfl⟩
      show HM g D G q q88.2 62 [(0, vr 3 o), (1, vr 6 a0)] []
      refine h_blk 63 [(0, vr 3 o), (1, vr 6 a0)] [vr 3 o] C f_hx_Read_readOne_62_1 rfl ?_
      obtain ⟨q90, e91, h⟩ := obd h
      refine h_callV C Rm Y [] [] (hx_Read_advance l D B H0 G _ o h_o _ _ e91) cl_Read_43 h_o rfl rfl rfl e_hx_Read_readOne_63 rfl rfl rfl ⟨by show _ ≤ ((fr + 40) : Nat); omega, by show _ ≤ ((lo + 1600) : Nat); omega⟩ ?_
      rintro _ _ ⟨rfl, rfl⟩
      show HM g D G q q90.2 66 [(0, vr 3 o), (1, vr 6 a0)] []
      refine h_blk 67 [(0, vr 3 o), (1, vr 6 a0)] [vi 1] C f_hx_Read_readOne_66_1 rfl ?_
      exact h_zret C Rm E (Or.inr rfl) e_hx_Read_readOne_67 (fin1 h)
  · have h := ifp c2 h
    refine h_blk 9 [(0, vr 3 o), (1, vr 6 a0)] [vr 3 o] C f_hx_Read_readOne_8_1 rfl ?_
    obtain ⟨c92, h⟩ := igd h
    refine h_getr5 C e_hx_Read_readOne_9 fg_Read_25 h_o rfl rfl rfl rfl c92 (fun g93 => ?_)
    refine h_blk 13 [(0, vr 3 o), (1, vr 6 a0)] [vr 3 o, vr 2 ((A 3 o 2).toNat)] C f_hx_Read_readOne_12_1 rfl ?_
    refine h_geti C e_hx_Read_readOne_13 fg_Read_64 h_o rfl rfl rfl (A 3 o 8) rfl ?_
    obtain ⟨q94, e95, h⟩ := obd h
    refine h_callV C Rm Y [vi (A 3 o 8)] [] (hx_Prog_emit l D B H0 G _ ((A 3 o 2).toNat) (A 3 o 8) g93 _ _ e95) cl_Read_143 g93 rfl rfl rfl e_hx_Read_readOne_16 rfl rfl rfl ⟨by show _ ≤ ((fr + 40) : Nat); omega, by show _ ≤ ((lo + 1600) : Nat); omega⟩ ?_
    rintro _ _ ⟨rfl, rfl⟩
    show HM g D G q q94.2 19 [(0, vr 3 o), (1, vr 6 a0)] []
    refine h_blk 20 [(0, vr 3 o), (1, vr 6 a0)] [vr 3 o] C f_hx_Read_readOne_19_1 rfl ?_
    obtain ⟨q96, e97, h⟩ := obd h
    refine h_callV C Rm Y [] [] (hx_Read_advance l D B H0 G _ o h_o _ _ e97) cl_Read_43 h_o rfl rfl rfl e_hx_Read_readOne_20 rfl rfl rfl ⟨by show _ ≤ ((fr + 40) : Nat); omega, by show _ ≤ ((lo + 1600) : Nat); omega⟩ ?_
    rintro _ _ ⟨rfl, rfl⟩
    show HM g D G q q96.2 23 [(0, vr 3 o), (1, vr 6 a0)] []
    refine h_blk 24 [(0, vr 3 o), (1, vr 6 a0)] [vi 1] C f_hx_Read_readOne_23_1 rfl ?_
    exact h_zret C Rm E (Or.inr rfl) e_hx_Read_readOne_24 (fin1 h)

def f_Read_oneN : Nat → mA → Nat → Nat → Option (Int × mA)
  | 0, _, _, _ => none
  | n + 1, A, o, a0 => f_Read_readOne (f_Read_oneN n) A o a0
theorem hx_Read_oneN : ∀ n : Nat, ∀ (l : Launch) (D : va_G) (B : Nat) (H0 : Heap) (G : tG) (A : mA) (o : Nat) (a0 : Nat) (h_o : G o = some 3) (h_a0 : G a0 = some 6)  (r9 : Int) (A9 : mA), f_Read_oneN n A o a0 = some (r9, A9) → hMet l D B H0 G y_Read_readOne b_Read_readOne 4 (some .boolean) (40 * n) (1600 * n) [vr 3 o, vr 6 a0] A (fun v A' => v = some (vi r9) ∧ A' = A9) := by
  intro n
  induction n with
  | zero => intro l D B H0 G A o a0 ho ha r9 A9 h; cases h
  | succ n ih =>
    intro l D B H0 G A o a0 ho ha r9 A9 h
    have k := hx_Read_readOne ih l D B H0 G A o a0 ho ha r9 A9 h
    have e1 : 40 * (n + 1) = 40 * n + 40 := by omega
    have e2 : 1600 * (n + 1) = 1600 * n + 1600 := by omega
    rw [e1, e2]
    exact k
def f_Read_readFormula (A : mA) (o : Nat) (a0 : Nat) : Option (Int × mA) := (if 0 ≤ (A 3 o 2) then (Option.bind (f_Read_readComparison (f_Read_oneN 6) (mu A 6 a0 9 (A 2 ((A 3 o 2).toNat) 3)) o a0) (fun q3 => (if 0 ≤ (q3.2 3 o 2) then (if (q3.1 = 0 ∨ q3.1 = 1) then (some (q3.1, (mu q3.2 6 a0 10 (q3.2 2 ((q3.2 3 o 2).toNat) 3)))) else none) else none))) else none)
theorem f_hx_Read_readFormula_0_2 : mblkB b_Read_readFormula [(0, .aload_n 1, vi 0), (1, .aload_n 0, vi 0)] = true := by decide +kernel
theorem e_hx_Read_readFormula_2 : decode b_Read_readFormula 2 = .ok (.getfield 25, 3) := by decide +kernel
theorem e_hx_Read_readFormula_5 : decode b_Read_readFormula 5 = .ok (.getfield 128, 3) := by decide +kernel
theorem e_hx_Read_readFormula_8 : decode b_Read_readFormula 8 = .ok (.putfield 131, 3) := by decide +kernel
theorem f_hx_Read_readFormula_11_2 : mblkB b_Read_readFormula [(11, .aload_n 0, vi 0), (12, .aload_n 1, vi 0)] = true := by decide +kernel
theorem e_hx_Read_readFormula_13 : decode b_Read_readFormula 13 = .ok (.invokevirtual 134, 3) := by decide +kernel
theorem f_hx_Read_readFormula_16_3 : mblkB b_Read_readFormula [(16, .istore_n 2, vi 0), (17, .aload_n 1, vi 0), (18, .aload_n 0, vi 0)] = true := by decide +kernel
theorem e_hx_Read_readFormula_19 : decode b_Read_readFormula 19 = .ok (.getfield 25, 3) := by decide +kernel
theorem e_hx_Read_readFormula_22 : decode b_Read_readFormula 22 = .ok (.getfield 128, 3) := by decide +kernel
theorem e_hx_Read_readFormula_25 : decode b_Read_readFormula 25 = .ok (.putfield 137, 3) := by decide +kernel
theorem f_hx_Read_readFormula_28_1 : mblkB b_Read_readFormula [(28, .iload_n 2, vi 0)] = true := by decide +kernel
theorem e_hx_Read_readFormula_29 : decode b_Read_readFormula 29 = .ok (.ireturn, 1) := by decide +kernel
set_option maxHeartbeats 4000000 in
set_option maxRecDepth 20000 in
theorem hx_Read_readFormula  : ∀ (l : Launch) (D : va_G) (B : Nat) (H0 : Heap) (G : tG) (A : mA) (o : Nat) (a0 : Nat) (h_o : G o = some 3) (h_a0 : G a0 = some 6)  (r9 : Int) (A9 : mA), f_Read_readFormula  A o a0 = some (r9, A9) → hMet l D B H0 G y_Read_readFormula b_Read_readFormula 3 (some .boolean) 271 10823 [vr 3 o, vr 6 a0] A (fun v A' => v = some (vi r9) ∧ A' = A9) := by
  intro l D B H0 G A o a0 h_o h_a0 r9 A9 h
  refine h_met (by decide) rfl (fun g q C Rm Y E => ?_)
  show HM g D G q A 0 [(0, vr 3 o), (1, vr 6 a0)] []
  unfold f_Read_readFormula at h
  refine h_blk 2 [(0, vr 3 o), (1, vr 6 a0)] [vr 3 o, vr 6 a0] C f_hx_Read_readFormula_0_2 rfl ?_
  obtain ⟨c1, h⟩ := igd h
  refine h_getr5 C e_hx_Read_readFormula_2 fg_Read_25 h_o rfl rfl rfl rfl c1 (fun g2 => ?_)
  refine h_geti C e_hx_Read_readFormula_5 fg_Read_128 g2 rfl rfl rfl (A 2 ((A 3 o 2).toNat) 3) rfl ?_
  refine h_puti C e_hx_Read_readFormula_8 fp_Read_131 h_a0 rfl rfl rfl ?_
  refine h_blk 13 [(0, vr 3 o), (1, vr 6 a0)] [vr 6 a0, vr 3 o] C f_hx_Read_readFormula_11_2 rfl ?_
  obtain ⟨q3, e4, h⟩ := obd h
  refine h_callV C Rm Y [vr 6 a0] [] (hx_Read_readComparison (hx_Read_oneN 6) l D B H0 G _ o a0 h_o h_a0 _ _ e4) cl_Read_134 h_o rfl rfl rfl e_hx_Read_readFormula_13 rfl rfl rfl ⟨by decide, by decide⟩ ?_
  rintro _ _ ⟨rfl, rfl⟩
  show HM g D G q q3.2 16 [(0, vr 3 o), (1, vr 6 a0)] [vi q3.1]
  refine h_blk 19 [(2, vi q3.1), (0, vr 3 o), (1, vr 6 a0)] [vr 3 o, vr 6 a0] C f_hx_Read_readFormula_16_3 rfl ?_
  obtain ⟨c5, h⟩ := igd h
  refine h_getr5 C e_hx_Read_readFormula_19 fg_Read_25 h_o rfl rfl rfl rfl c5 (fun g6 => ?_)
  refine h_geti C e_hx_Read_readFormula_22 fg_Read_128 g6 rfl rfl rfl (q3.2 2 ((q3.2 3 o 2).toNat) 3) rfl ?_
  refine h_puti C e_hx_Read_readFormula_25 fp_Read_137 h_a0 rfl rfl rfl ?_
  refine h_blk 29 [(2, vi q3.1), (0, vr 3 o), (1, vr 6 a0)] [vi q3.1] C f_hx_Read_readFormula_28_1 rfl ?_
  obtain ⟨c7, h⟩ := igd h
  exact h_zret C Rm E c7 e_hx_Read_readFormula_29 (fin1 h)

def f_Read_readBlock_11 (stp : mA → Nat → Option (Int × mA)) : Nat → mA → Nat → Int → Option (Int × mA)
  | 0, _, _, _ => none
  | n + 1, A, b0, b1 => (if g32 b1 then (if 120 ≤ b1 then (some (1, A)) else (Option.bind (f_Read_isSign A b0 59) (fun q3 => (if g32 q3.1 then (if q3.1 = 0 then (some (1, q3.2)) else (Option.bind (f_Read_advance q3.2 b0) (fun q7 => (Option.bind (stp q7.2 b0) (fun q9 => (if g32 q9.1 then (if q9.1 = 0 then (some (0, q9.2)) else (f_Read_readBlock_11 stp n q9.2 b0 (b1 + 1))) else none)))))) else none)))) else none)
def f_Read_readBlock (stp : mA → Nat → Option (Int × mA)) (A : mA) (o : Nat) : Option (Int × mA) := (Option.bind (stp A o) (fun q13 => (if g32 q13.1 then (if q13.1 = 0 then (some (0, q13.2)) else (f_Read_readBlock_11 stp 200 q13.2 o 0)) else none)))
theorem f_hx_Read_readBlock_0_1 : mblkB b_Read_readBlock [(0, .aload_n 0, vi 0)] = true := by decide +kernel
theorem e_hx_Read_readBlock_1 : decode b_Read_readBlock 1 = .ok (.invokevirtual 56, 3) := by decide +kernel
theorem e_hx_Read_readBlock_4 : decode b_Read_readBlock 4 = .ok (.ifCond .ne 5, 3) := by decide +kernel
theorem f_hx_Read_readBlock_9_2 : mblkB b_Read_readBlock [(9, .iconst 0, vi 0), (10, .istore_n 1, vi 0)] = true := by decide +kernel
theorem f_hx_Read_readBlock_7_1 : mblkB b_Read_readBlock [(7, .iconst 0, vi 0)] = true := by decide +kernel
theorem e_hx_Read_readBlock_8 : decode b_Read_readBlock 8 = .ok (.ireturn, 1) := by decide +kernel
theorem f_hx_Read_readBlock_11_2 : mblkB b_Read_readBlock [(11, .iload_n 1, vi 0), (12, .bipush 120, vi 120)] = true := by decide +kernel
theorem e_hx_Read_readBlock_14 : decode b_Read_readBlock 14 = .ok (.if_icmp .ge 31, 3) := by decide +kernel
theorem f_hx_Read_readBlock_45_1 : mblkB b_Read_readBlock [(45, .iconst 1, vi 1)] = true := by decide +kernel
theorem e_hx_Read_readBlock_46 : decode b_Read_readBlock 46 = .ok (.ireturn, 1) := by decide +kernel
theorem f_hx_Read_readBlock_17_2 : mblkB b_Read_readBlock [(17, .aload_n 0, vi 0), (18, .bipush 59, vi 59)] = true := by decide +kernel
theorem e_hx_Read_readBlock_20 : decode b_Read_readBlock 20 = .ok (.invokevirtual 59, 3) := by decide +kernel
theorem e_hx_Read_readBlock_23 : decode b_Read_readBlock 23 = .ok (.ifCond .eq 22, 3) := by decide +kernel
theorem f_hx_Read_readBlock_26_1 : mblkB b_Read_readBlock [(26, .aload_n 0, vi 0)] = true := by decide +kernel
theorem e_hx_Read_readBlock_27 : decode b_Read_readBlock 27 = .ok (.invokevirtual 43, 3) := by decide +kernel
theorem f_hx_Read_readBlock_30_1 : mblkB b_Read_readBlock [(30, .aload_n 0, vi 0)] = true := by decide +kernel
theorem e_hx_Read_readBlock_31 : decode b_Read_readBlock 31 = .ok (.invokevirtual 56, 3) := by decide +kernel
theorem e_hx_Read_readBlock_34 : decode b_Read_readBlock 34 = .ok (.ifCond .ne 5, 3) := by decide +kernel
theorem f_hx_Read_readBlock_39_2 : mblkB b_Read_readBlock [(39, .iinc 1 1, vi 1), (42, .goto (-31), vi 11)] = true := by decide +kernel
theorem f_hx_Read_readBlock_37_1 : mblkB b_Read_readBlock [(37, .iconst 0, vi 0)] = true := by decide +kernel
theorem e_hx_Read_readBlock_38 : decode b_Read_readBlock 38 = .ok (.ireturn, 1) := by decide +kernel
set_option maxHeartbeats 4000000 in
set_option maxRecDepth 20000 in
theorem hx_Read_readBlock {stp : mA → Nat → Option (Int × mA)} {fr lo : Nat} (hstp : ∀ (l : Launch) (D : va_G) (B : Nat) (H0 : Heap) (G : tG) (A : mA) (o : Nat) (h_o : G o = some 3)  (r9 : Int) (A9 : mA), stp A o = some (r9, A9) → hMet l D B H0 G y_Read_readStep b_Read_readStep 4 (some .boolean) fr lo [vr 3 o] A (fun v A' => v = some (vi r9) ∧ A' = A9)) : ∀ (l : Launch) (D : va_G) (B : Nat) (H0 : Heap) (G : tG) (A : mA) (o : Nat) (h_o : G o = some 3)  (r9 : Int) (A9 : mA), f_Read_readBlock stp A o = some (r9, A9) → hMet l D B H0 G y_Read_readBlock b_Read_readBlock 2 (some .boolean) (fr + 300) (lo + 12000) [vr 3 o] A (fun v A' => v = some (vi r9) ∧ A' = A9) := by
  intro l D B H0 G A o h_o r9 A9 h
  refine h_met (by decide) rfl (fun g q C Rm Y E => ?_)
  have hd_11 : ∀ (n : Nat) (A : mA) (b0 : Nat) (b1 : Int) , G b0 = some 3 → f_Read_readBlock_11 stp n A b0 b1 = some (r9, A9) → HM g D G q A 11 [(0, vr 3 b0), (1, vi b1)] [] := by
    intro n
    induction n with
    | zero => intro A b0 b1 h_b0 h; cases h
    | succ n ih =>
      intro A b0 b1 h_b0 h
      unfold f_Read_readBlock_11 at h
      refine h_blk 14 [(0, vr 3 b0), (1, vi b1)] [vi 120, vi b1] C f_hx_Read_readBlock_11_2 rfl ?_
      obtain ⟨c1, h⟩ := igd h
      refine h_icmp_ge (tgt := 45) C e_hx_Read_readBlock_14 (by decide) c1 (by decide) (fun c2 => ?_) (fun c2 => ?_)
      · have h := ifp c2 h
        refine h_blk 46 [(0, vr 3 b0), (1, vi b1)] [vi 1] C f_hx_Read_readBlock_45_1 rfl ?_
        exact h_zret C Rm E (Or.inr rfl) e_hx_Read_readBlock_46 (fin1 h)
      · have h := ifn c2 h
        refine h_blk 20 [(0, vr 3 b0), (1, vi b1)] [vi 59, vr 3 b0] C f_hx_Read_readBlock_17_2 rfl ?_
        obtain ⟨q3, e4, h⟩ := obd h
        refine h_callV C Rm Y [vi 59] [] (hx_Read_isSign l D B H0 G _ b0 59 h_b0 _ _ e4) cl_Read_59 h_b0 rfl rfl rfl e_hx_Read_readBlock_20 rfl rfl rfl ⟨by show _ ≤ ((fr + 300) : Nat); omega, by show _ ≤ ((lo + 12000) : Nat); omega⟩ ?_
        rintro _ _ ⟨rfl, rfl⟩
        show HM g D G q q3.2 23 [(0, vr 3 b0), (1, vi b1)] [vi q3.1]
        obtain ⟨c5, h⟩ := igd h
        refine h_if_eq (tgt := 45) C e_hx_Read_readBlock_23 (by decide) c5 (fun c6 => ?_) (fun c6 => ?_)
        · have h := ifp c6 h
          refine h_blk 46 [(0, vr 3 b0), (1, vi b1)] [vi 1] C f_hx_Read_readBlock_45_1 rfl ?_
          exact h_zret C Rm E (Or.inr rfl) e_hx_Read_readBlock_46 (fin1 h)
        · have h := ifn c6 h
          refine h_blk 27 [(0, vr 3 b0), (1, vi b1)] [vr 3 b0] C f_hx_Read_readBlock_26_1 rfl ?_
          obtain ⟨q7, e8, h⟩ := obd h
          refine h_callV C Rm Y [] [] (hx_Read_advance l D B H0 G _ b0 h_b0 _ _ e8) cl_Read_43 h_b0 rfl rfl rfl e_hx_Read_readBlock_27 rfl rfl rfl ⟨by show _ ≤ ((fr + 300) : Nat); omega, by show _ ≤ ((lo + 12000) : Nat); omega⟩ ?_
          rintro _ _ ⟨rfl, rfl⟩
          show HM g D G q q7.2 30 [(0, vr 3 b0), (1, vi b1)] []
          refine h_blk 31 [(0, vr 3 b0), (1, vi b1)] [vr 3 b0] C f_hx_Read_readBlock_30_1 rfl ?_
          obtain ⟨q9, e10, h⟩ := obd h
          refine h_callV C Rm Y [] [] (hstp l D B H0 G _ b0 h_b0 _ _ e10) cl_Read_56 h_b0 rfl rfl rfl e_hx_Read_readBlock_31 rfl rfl rfl ⟨by show _ ≤ ((fr + 300) : Nat); omega, by show _ ≤ ((lo + 12000) : Nat); omega⟩ ?_
          rintro _ _ ⟨rfl, rfl⟩
          show HM g D G q q9.2 34 [(0, vr 3 b0), (1, vi b1)] [vi q9.1]
          obtain ⟨c11, h⟩ := igd h
          refine h_if_ne (tgt := 39) C e_hx_Read_readBlock_34 (by decide) c11 (fun c12 => ?_) (fun c12 => ?_)
          · have h := ifn c12 h
            refine h_blk 11 [(1, vi (b1 + 1)), (0, vr 3 b0)] [] C f_hx_Read_readBlock_39_2 rfl ?_
            refine h_loc [(0, vr 3 b0), (1, vi (b1 + 1))] ⟨rfl, rfl, trivial⟩ ?_
            exact ih q9.2 b0 (b1 + 1) (h_b0) h
          · have h := ifp c12 h
            refine h_blk 38 [(0, vr 3 b0), (1, vi b1)] [vi 0] C f_hx_Read_readBlock_37_1 rfl ?_
            exact h_zret C Rm E (Or.inl rfl) e_hx_Read_readBlock_38 (fin1 h)
  show HM g D G q A 0 [(0, vr 3 o)] []
  unfold f_Read_readBlock at h
  refine h_blk 1 [(0, vr 3 o)] [vr 3 o] C f_hx_Read_readBlock_0_1 rfl ?_
  obtain ⟨q13, e14, h⟩ := obd h
  refine h_callV C Rm Y [] [] (hstp l D B H0 G _ o h_o _ _ e14) cl_Read_56 h_o rfl rfl rfl e_hx_Read_readBlock_1 rfl rfl rfl ⟨by show _ ≤ ((fr + 300) : Nat); omega, by show _ ≤ ((lo + 12000) : Nat); omega⟩ ?_
  rintro _ _ ⟨rfl, rfl⟩
  show HM g D G q q13.2 4 [(0, vr 3 o)] [vi q13.1]
  obtain ⟨c15, h⟩ := igd h
  refine h_if_ne (tgt := 9) C e_hx_Read_readBlock_4 (by decide) c15 (fun c16 => ?_) (fun c16 => ?_)
  · have h := ifn c16 h
    refine h_blk 11 [(1, vi 0), (0, vr 3 o)] [] C f_hx_Read_readBlock_9_2 rfl ?_
    refine h_loc [(0, vr 3 o), (1, vi 0)] ⟨rfl, rfl, trivial⟩ ?_
    exact hd_11 _ q13.2 o 0 (h_o) h
  · have h := ifp c16 h
    refine h_blk 8 [(0, vr 3 o)] [vi 0] C f_hx_Read_readBlock_7_1 rfl ?_
    exact h_zret C Rm E (Or.inl rfl) e_hx_Read_readBlock_8 (fin1 h)

def f_Read_readBraces (stp : mA → Nat → Option (Int × mA)) (A : mA) (o : Nat) : Option (Int × mA) := (Option.bind (f_Read_isSign A o 123) (fun q1 => (if g32 q1.1 then (if q1.1 = 0 then (some (0, q1.2)) else (if g32 (q1.2 3 o 5) then (if (q1.2 3 o 5) < 4 then (Option.bind (f_Read_advance (mu q1.2 3 o 5 ((q1.2 3 o 5) + 1)) o) (fun q7 => (Option.bind (f_Read_readBlock stp q7.2 o) (fun q9 => (if g32 q9.1 then (if q9.1 = 0 then (some (0, q9.2)) else (Option.bind (f_Read_isSign q9.2 o 125) (fun q13 => (if g32 q13.1 then (if q13.1 = 0 then (some (0, q13.2)) else (Option.bind (f_Read_advance (mu q13.2 3 o 5 ((q13.2 3 o 5) - 1)) o) (fun q17 => (some (1, q17.2))))) else none)))) else none))))) else (some (0, q1.2))) else none)) else none)))
theorem f_hx_Read_readBraces_0_2 : mblkB b_Read_readBraces [(0, .aload_n 0, vi 0), (1, .bipush 123, vi 123)] = true := by decide +kernel
theorem e_hx_Read_readBraces_3 : decode b_Read_readBraces 3 = .ok (.invokevirtual 59, 3) := by decide +kernel
theorem e_hx_Read_readBraces_6 : decode b_Read_readBraces 6 = .ok (.ifCond .eq 11, 3) := by decide +kernel
theorem f_hx_Read_readBraces_17_1 : mblkB b_Read_readBraces [(17, .iconst 0, vi 0)] = true := by decide +kernel
theorem e_hx_Read_readBraces_18 : decode b_Read_readBraces 18 = .ok (.ireturn, 1) := by decide +kernel
theorem f_hx_Read_readBraces_9_1 : mblkB b_Read_readBraces [(9, .aload_n 0, vi 0)] = true := by decide +kernel
theorem e_hx_Read_readBraces_10 : decode b_Read_readBraces 10 = .ok (.getfield 40, 3) := by decide +kernel
theorem f_hx_Read_readBraces_13_1 : mblkB b_Read_readBraces [(13, .iconst 4, vi 4)] = true := by decide +kernel
theorem e_hx_Read_readBraces_14 : decode b_Read_readBraces 14 = .ok (.if_icmp .lt 5, 3) := by decide +kernel
theorem f_hx_Read_readBraces_19_2 : mblkB b_Read_readBraces [(19, .aload_n 0, vi 0), (20, .dup, vi 0)] = true := by decide +kernel
theorem e_hx_Read_readBraces_21 : decode b_Read_readBraces 21 = .ok (.getfield 40, 3) := by decide +kernel
theorem f_hx_Read_readBraces_24_2 : mblkB b_Read_readBraces [(24, .iconst 1, vi 1), (25, .iadd, vi 0)] = true := by decide +kernel
theorem e_hx_Read_readBraces_26 : decode b_Read_readBraces 26 = .ok (.putfield 40, 3) := by decide +kernel
theorem f_hx_Read_readBraces_29_1 : mblkB b_Read_readBraces [(29, .aload_n 0, vi 0)] = true := by decide +kernel
theorem e_hx_Read_readBraces_30 : decode b_Read_readBraces 30 = .ok (.invokevirtual 43, 3) := by decide +kernel
theorem f_hx_Read_readBraces_33_1 : mblkB b_Read_readBraces [(33, .aload_n 0, vi 0)] = true := by decide +kernel
theorem e_hx_Read_readBraces_34 : decode b_Read_readBraces 34 = .ok (.invokevirtual 46, 3) := by decide +kernel
theorem e_hx_Read_readBraces_37 : decode b_Read_readBraces 37 = .ok (.ifCond .eq 12, 3) := by decide +kernel
theorem f_hx_Read_readBraces_49_1 : mblkB b_Read_readBraces [(49, .iconst 0, vi 0)] = true := by decide +kernel
theorem e_hx_Read_readBraces_50 : decode b_Read_readBraces 50 = .ok (.ireturn, 1) := by decide +kernel
theorem f_hx_Read_readBraces_40_2 : mblkB b_Read_readBraces [(40, .aload_n 0, vi 0), (41, .bipush 125, vi 125)] = true := by decide +kernel
theorem e_hx_Read_readBraces_43 : decode b_Read_readBraces 43 = .ok (.invokevirtual 59, 3) := by decide +kernel
theorem e_hx_Read_readBraces_46 : decode b_Read_readBraces 46 = .ok (.ifCond .ne 5, 3) := by decide +kernel
theorem f_hx_Read_readBraces_51_2 : mblkB b_Read_readBraces [(51, .aload_n 0, vi 0), (52, .dup, vi 0)] = true := by decide +kernel
theorem e_hx_Read_readBraces_53 : decode b_Read_readBraces 53 = .ok (.getfield 40, 3) := by decide +kernel
theorem f_hx_Read_readBraces_56_2 : mblkB b_Read_readBraces [(56, .iconst 1, vi 1), (57, .isub, vi 0)] = true := by decide +kernel
theorem e_hx_Read_readBraces_58 : decode b_Read_readBraces 58 = .ok (.putfield 40, 3) := by decide +kernel
theorem f_hx_Read_readBraces_61_1 : mblkB b_Read_readBraces [(61, .aload_n 0, vi 0)] = true := by decide +kernel
theorem e_hx_Read_readBraces_62 : decode b_Read_readBraces 62 = .ok (.invokevirtual 43, 3) := by decide +kernel
theorem f_hx_Read_readBraces_65_1 : mblkB b_Read_readBraces [(65, .iconst 1, vi 1)] = true := by decide +kernel
theorem e_hx_Read_readBraces_66 : decode b_Read_readBraces 66 = .ok (.ireturn, 1) := by decide +kernel
set_option maxHeartbeats 4000000 in
set_option maxRecDepth 20000 in
theorem hx_Read_readBraces {stp : mA → Nat → Option (Int × mA)} {fr lo : Nat} (hstp : ∀ (l : Launch) (D : va_G) (B : Nat) (H0 : Heap) (G : tG) (A : mA) (o : Nat) (h_o : G o = some 3)  (r9 : Int) (A9 : mA), stp A o = some (r9, A9) → hMet l D B H0 G y_Read_readStep b_Read_readStep 4 (some .boolean) fr lo [vr 3 o] A (fun v A' => v = some (vi r9) ∧ A' = A9)) : ∀ (l : Launch) (D : va_G) (B : Nat) (H0 : Heap) (G : tG) (A : mA) (o : Nat) (h_o : G o = some 3)  (r9 : Int) (A9 : mA), f_Read_readBraces stp A o = some (r9, A9) → hMet l D B H0 G y_Read_readBraces b_Read_readBraces 1 (some .boolean) (fr + 302) (lo + 12100) [vr 3 o] A (fun v A' => v = some (vi r9) ∧ A' = A9) := by
  intro l D B H0 G A o h_o r9 A9 h
  refine h_met (by decide) rfl (fun g q C Rm Y E => ?_)
  show HM g D G q A 0 [(0, vr 3 o)] []
  unfold f_Read_readBraces at h
  refine h_blk 3 [(0, vr 3 o)] [vi 123, vr 3 o] C f_hx_Read_readBraces_0_2 rfl ?_
  obtain ⟨q1, e2, h⟩ := obd h
  refine h_callV C Rm Y [vi 123] [] (hx_Read_isSign l D B H0 G _ o 123 h_o _ _ e2) cl_Read_59 h_o rfl rfl rfl e_hx_Read_readBraces_3 rfl rfl rfl ⟨by show _ ≤ ((fr + 302) : Nat); omega, by show _ ≤ ((lo + 12100) : Nat); omega⟩ ?_
  rintro _ _ ⟨rfl, rfl⟩
  show HM g D G q q1.2 6 [(0, vr 3 o)] [vi q1.1]
  obtain ⟨c3, h⟩ := igd h
  refine h_if_eq (tgt := 17) C e_hx_Read_readBraces_6 (by decide) c3 (fun c4 => ?_) (fun c4 => ?_)
  · have h := ifp c4 h
    refine h_blk 18 [(0, vr 3 o)] [vi 0] C f_hx_Read_readBraces_17_1 rfl ?_
    exact h_zret C Rm E (Or.inl rfl) e_hx_Read_readBraces_18 (fin1 h)
  · have h := ifn c4 h
    refine h_blk 10 [(0, vr 3 o)] [vr 3 o] C f_hx_Read_readBraces_9_1 rfl ?_
    refine h_geti C e_hx_Read_readBraces_10 fg_Read_40 h_o rfl rfl rfl (q1.2 3 o 5) rfl ?_
    refine h_blk 14 [(0, vr 3 o)] [vi 4, vi (q1.2 3 o 5)] C f_hx_Read_readBraces_13_1 rfl ?_
    obtain ⟨c5, h⟩ := igd h
    refine h_icmp_lt (tgt := 19) C e_hx_Read_readBraces_14 (by decide) c5 (by decide) (fun c6 => ?_) (fun c6 => ?_)
    · have h := ifp c6 h
      refine h_blk 21 [(0, vr 3 o)] [vr 3 o, vr 3 o] C f_hx_Read_readBraces_19_2 rfl ?_
      refine h_geti C e_hx_Read_readBraces_21 fg_Read_40 h_o rfl rfl rfl (q1.2 3 o 5) rfl ?_
      refine h_blk 26 [(0, vr 3 o)] [vi ((q1.2 3 o 5) + 1), vr 3 o] C f_hx_Read_readBraces_24_2 rfl ?_
      refine h_puti C e_hx_Read_readBraces_26 fp_Read_40 h_o rfl rfl rfl ?_
      refine h_blk 30 [(0, vr 3 o)] [vr 3 o] C f_hx_Read_readBraces_29_1 rfl ?_
      obtain ⟨q7, e8, h⟩ := obd h
      refine h_callV C Rm Y [] [] (hx_Read_advance l D B H0 G _ o h_o _ _ e8) cl_Read_43 h_o rfl rfl rfl e_hx_Read_readBraces_30 rfl rfl rfl ⟨by show _ ≤ ((fr + 302) : Nat); omega, by show _ ≤ ((lo + 12100) : Nat); omega⟩ ?_
      rintro _ _ ⟨rfl, rfl⟩
      show HM g D G q q7.2 33 [(0, vr 3 o)] []
      refine h_blk 34 [(0, vr 3 o)] [vr 3 o] C f_hx_Read_readBraces_33_1 rfl ?_
      obtain ⟨q9, e10, h⟩ := obd h
      refine h_callV C Rm Y [] [] (hx_Read_readBlock hstp l D B H0 G _ o h_o _ _ e10) cl_Read_46 h_o rfl rfl rfl e_hx_Read_readBraces_34 rfl rfl rfl ⟨by show _ ≤ ((fr + 302) : Nat); omega, by show _ ≤ ((lo + 12100) : Nat); omega⟩ ?_
      rintro _ _ ⟨rfl, rfl⟩
      show HM g D G q q9.2 37 [(0, vr 3 o)] [vi q9.1]
      obtain ⟨c11, h⟩ := igd h
      refine h_if_eq (tgt := 49) C e_hx_Read_readBraces_37 (by decide) c11 (fun c12 => ?_) (fun c12 => ?_)
      · have h := ifp c12 h
        refine h_blk 50 [(0, vr 3 o)] [vi 0] C f_hx_Read_readBraces_49_1 rfl ?_
        exact h_zret C Rm E (Or.inl rfl) e_hx_Read_readBraces_50 (fin1 h)
      · have h := ifn c12 h
        refine h_blk 43 [(0, vr 3 o)] [vi 125, vr 3 o] C f_hx_Read_readBraces_40_2 rfl ?_
        obtain ⟨q13, e14, h⟩ := obd h
        refine h_callV C Rm Y [vi 125] [] (hx_Read_isSign l D B H0 G _ o 125 h_o _ _ e14) cl_Read_59 h_o rfl rfl rfl e_hx_Read_readBraces_43 rfl rfl rfl ⟨by show _ ≤ ((fr + 302) : Nat); omega, by show _ ≤ ((lo + 12100) : Nat); omega⟩ ?_
        rintro _ _ ⟨rfl, rfl⟩
        show HM g D G q q13.2 46 [(0, vr 3 o)] [vi q13.1]
        obtain ⟨c15, h⟩ := igd h
        refine h_if_ne (tgt := 51) C e_hx_Read_readBraces_46 (by decide) c15 (fun c16 => ?_) (fun c16 => ?_)
        · have h := ifn c16 h
          refine h_blk 53 [(0, vr 3 o)] [vr 3 o, vr 3 o] C f_hx_Read_readBraces_51_2 rfl ?_
          refine h_geti C e_hx_Read_readBraces_53 fg_Read_40 h_o rfl rfl rfl (q13.2 3 o 5) rfl ?_
          refine h_blk 58 [(0, vr 3 o)] [vi ((q13.2 3 o 5) - 1), vr 3 o] C f_hx_Read_readBraces_56_2 rfl ?_
          refine h_puti C e_hx_Read_readBraces_58 fp_Read_40 h_o rfl rfl rfl ?_
          refine h_blk 62 [(0, vr 3 o)] [vr 3 o] C f_hx_Read_readBraces_61_1 rfl ?_
          obtain ⟨q17, e18, h⟩ := obd h
          refine h_callV C Rm Y [] [] (hx_Read_advance l D B H0 G _ o h_o _ _ e18) cl_Read_43 h_o rfl rfl rfl e_hx_Read_readBraces_62 rfl rfl rfl ⟨by show _ ≤ ((fr + 302) : Nat); omega, by show _ ≤ ((lo + 12100) : Nat); omega⟩ ?_
          rintro _ _ ⟨rfl, rfl⟩
          show HM g D G q q17.2 65 [(0, vr 3 o)] []
          refine h_blk 66 [(0, vr 3 o)] [vi 1] C f_hx_Read_readBraces_65_1 rfl ?_
          exact h_zret C Rm E (Or.inr rfl) e_hx_Read_readBraces_66 (fin1 h)
        · have h := ifp c16 h
          refine h_blk 50 [(0, vr 3 o)] [vi 0] C f_hx_Read_readBraces_49_1 rfl ?_
          exact h_zret C Rm E (Or.inl rfl) e_hx_Read_readBraces_50 (fin1 h)
    · have h := ifn c6 h
      refine h_blk 18 [(0, vr 3 o)] [vi 0] C f_hx_Read_readBraces_17_1 rfl ?_
      exact h_zret C Rm E (Or.inl rfl) e_hx_Read_readBraces_18 (fin1 h)

def f_Read_readSecond (stp : mA → Nat → Option (Int × mA)) (A : mA) (o : Nat) (a0 : Nat) : Option (Int × mA) := (if 0 ≤ (A 3 o 2) then (Option.bind (f_Read_readBraces stp (mu A 6 a0 5 (A 2 ((A 3 o 2).toNat) 1)) o) (fun q3 => (if (q3.1 = 0 ∨ q3.1 = 1) then (some (q3.1, q3.2)) else none))) else none)
theorem f_hx_Read_readSecond_0_2 : mblkB b_Read_readSecond [(0, .aload_n 1, vi 0), (1, .aload_n 0, vi 0)] = true := by decide +kernel
theorem e_hx_Read_readSecond_2 : decode b_Read_readSecond 2 = .ok (.getfield 25, 3) := by decide +kernel
theorem e_hx_Read_readSecond_5 : decode b_Read_readSecond 5 = .ok (.getfield 63, 3) := by decide +kernel
theorem e_hx_Read_readSecond_8 : decode b_Read_readSecond 8 = .ok (.putfield 108, 3) := by decide +kernel
theorem f_hx_Read_readSecond_11_1 : mblkB b_Read_readSecond [(11, .aload_n 0, vi 0)] = true := by decide +kernel
theorem e_hx_Read_readSecond_12 : decode b_Read_readSecond 12 = .ok (.invokevirtual 92, 3) := by decide +kernel
theorem e_hx_Read_readSecond_15 : decode b_Read_readSecond 15 = .ok (.ireturn, 1) := by decide +kernel
set_option maxHeartbeats 4000000 in
set_option maxRecDepth 20000 in
theorem hx_Read_readSecond {stp : mA → Nat → Option (Int × mA)} {fr lo : Nat} (hstp : ∀ (l : Launch) (D : va_G) (B : Nat) (H0 : Heap) (G : tG) (A : mA) (o : Nat) (h_o : G o = some 3)  (r9 : Int) (A9 : mA), stp A o = some (r9, A9) → hMet l D B H0 G y_Read_readStep b_Read_readStep 4 (some .boolean) fr lo [vr 3 o] A (fun v A' => v = some (vi r9) ∧ A' = A9)) : ∀ (l : Launch) (D : va_G) (B : Nat) (H0 : Heap) (G : tG) (A : mA) (o : Nat) (a0 : Nat) (h_o : G o = some 3) (h_a0 : G a0 = some 6)  (r9 : Int) (A9 : mA), f_Read_readSecond stp A o a0 = some (r9, A9) → hMet l D B H0 G y_Read_readSecond b_Read_readSecond 2 (some .boolean) (fr + 304) (lo + 12200) [vr 3 o, vr 6 a0] A (fun v A' => v = some (vi r9) ∧ A' = A9) := by
  intro l D B H0 G A o a0 h_o h_a0 r9 A9 h
  refine h_met (by decide) rfl (fun g q C Rm Y E => ?_)
  show HM g D G q A 0 [(0, vr 3 o), (1, vr 6 a0)] []
  unfold f_Read_readSecond at h
  refine h_blk 2 [(0, vr 3 o), (1, vr 6 a0)] [vr 3 o, vr 6 a0] C f_hx_Read_readSecond_0_2 rfl ?_
  obtain ⟨c1, h⟩ := igd h
  refine h_getr5 C e_hx_Read_readSecond_2 fg_Read_25 h_o rfl rfl rfl rfl c1 (fun g2 => ?_)
  refine h_geti C e_hx_Read_readSecond_5 fg_Read_63 g2 rfl rfl rfl (A 2 ((A 3 o 2).toNat) 1) rfl ?_
  refine h_puti C e_hx_Read_readSecond_8 fp_Read_108 h_a0 rfl rfl rfl ?_
  refine h_blk 12 [(0, vr 3 o), (1, vr 6 a0)] [vr 3 o] C f_hx_Read_readSecond_11_1 rfl ?_
  obtain ⟨q3, e4, h⟩ := obd h
  refine h_callV C Rm Y [] [] (hx_Read_readBraces hstp l D B H0 G _ o h_o _ _ e4) cl_Read_92 h_o rfl rfl rfl e_hx_Read_readSecond_12 rfl rfl rfl ⟨by show _ ≤ ((fr + 304) : Nat); omega, by show _ ≤ ((lo + 12200) : Nat); omega⟩ ?_
  rintro _ _ ⟨rfl, rfl⟩
  show HM g D G q q3.2 15 [(0, vr 3 o), (1, vr 6 a0)] [vi q3.1]
  obtain ⟨c5, h⟩ := igd h
  exact h_zret C Rm E c5 e_hx_Read_readSecond_15 (fin1 h)

def f_Read_readRest (stp : mA → Nat → Option (Int × mA)) (A : mA) (o : Nat) (a0 : Nat) : Option (Int × mA) := (if g32 (A 6 a0 0) then (if (A 6 a0 0) = 0 then (Option.bind (f_Read_readName A o a0) (fun q3 => (if g32 q3.1 then (if q3.1 = 0 then (some (0, q3.2)) else (Option.bind (f_Read_readLots q3.2 o a0) (fun q7 => (if g32 q7.1 then (if q7.1 = 0 then (some (0, q7.2)) else (some (1, q7.2))) else none)))) else none))) else if (A 6 a0 0) = 1 then (Option.bind (f_Read_readName A o a0) (fun q12 => (if g32 q12.1 then (if q12.1 = 0 then (some (0, q12.2)) else (Option.bind (f_Read_readFormula q12.2 o a0) (fun q16 => (if g32 q16.1 then (if q16.1 = 0 then (some (0, q16.2)) else (some (1, q16.2))) else none)))) else none))) else if (A 6 a0 0) = 2 then (Option.bind (f_Read_readFormula A o a0) (fun q21 => (if (q21.1 = 0 ∨ q21.1 = 1) then (some (q21.1, q21.2)) else none))) else if (A 6 a0 0) = 3 then (Option.bind (f_Read_readFormula A o a0) (fun q25 => (if g32 q25.1 then (if q25.1 = 0 then (some (0, q25.2)) else (Option.bind (f_Read_readBraces stp q25.2 o) (fun q29 => (if g32 q29.1 then (if q29.1 = 0 then (some (0, q29.2)) else (Option.bind (f_Read_readSecond stp q29.2 o a0) (fun q33 => (if g32 q33.1 then (if q33.1 = 0 then (some (0, q33.2)) else (some (1, q33.2))) else none)))) else none)))) else none))) else if (A 6 a0 0) = 4 then (Option.bind (f_Read_readNumber A o a0 10) (fun q38 => (if g32 q38.1 then (if q38.1 = 0 then (some (0, q38.2)) else (Option.bind (f_Read_readBraces stp q38.2 o) (fun q42 => (if g32 q42.1 then (if q42.1 = 0 then (some (0, q42.2)) else (some (1, q42.2))) else none)))) else none))) else (Option.bind (f_Read_readName A o a0) (fun q46 => (if g32 q46.1 then (if q46.1 = 0 then (some (0, q46.2)) else (Option.bind (f_Read_readNumber q46.2 o a0 (q46.2 3 o 3)) (fun q50 => (if g32 q50.1 then (if q50.1 = 0 then (some (0, q50.2)) else (Option.bind (f_Read_readFormula q50.2 o a0) (fun q54 => (if g32 q54.1 then (if q54.1 = 0 then (some (0, q54.2)) else (some (1, q54.2))) else none)))) else none)))) else none)))) else none)
theorem f_hx_Read_readRest_0_1 : mblkB b_Read_readRest [(0, .aload_n 1, vi 0)] = true := by decide +kernel
theorem e_hx_Read_readRest_1 : decode b_Read_readRest 1 = .ok (.getfield 80, 3) := by decide +kernel
theorem e_hx_Read_readRest_4 : decode b_Read_readRest 4 = .ok (.tableswitch 138 0 4 #[36, 58, 80, 86, 115], 36) := by decide +kernel
theorem f_hx_Read_readRest_40_2 : mblkB b_Read_readRest [(40, .aload_n 0, vi 0), (41, .aload_n 1, vi 0)] = true := by decide +kernel
theorem e_hx_Read_readRest_42 : decode b_Read_readRest 42 = .ok (.invokevirtual 83, 3) := by decide +kernel
theorem e_hx_Read_readRest_45 : decode b_Read_readRest 45 = .ok (.ifCond .eq 15, 3) := by decide +kernel
theorem f_hx_Read_readRest_60_1 : mblkB b_Read_readRest [(60, .iconst 0, vi 0)] = true := by decide +kernel
theorem e_hx_Read_readRest_61 : decode b_Read_readRest 61 = .ok (.ireturn, 1) := by decide +kernel
theorem f_hx_Read_readRest_48_2 : mblkB b_Read_readRest [(48, .aload_n 0, vi 0), (49, .aload_n 1, vi 0)] = true := by decide +kernel
theorem e_hx_Read_readRest_50 : decode b_Read_readRest 50 = .ok (.invokevirtual 86, 3) := by decide +kernel
theorem e_hx_Read_readRest_53 : decode b_Read_readRest 53 = .ok (.ifCond .eq 7, 3) := by decide +kernel
theorem f_hx_Read_readRest_56_2 : mblkB b_Read_readRest [(56, .iconst 1, vi 1), (57, .goto 4, vi 61)] = true := by decide +kernel
theorem f_hx_Read_readRest_62_2 : mblkB b_Read_readRest [(62, .aload_n 0, vi 0), (63, .aload_n 1, vi 0)] = true := by decide +kernel
theorem e_hx_Read_readRest_64 : decode b_Read_readRest 64 = .ok (.invokevirtual 83, 3) := by decide +kernel
theorem e_hx_Read_readRest_67 : decode b_Read_readRest 67 = .ok (.ifCond .eq 15, 3) := by decide +kernel
theorem f_hx_Read_readRest_82_1 : mblkB b_Read_readRest [(82, .iconst 0, vi 0)] = true := by decide +kernel
theorem e_hx_Read_readRest_83 : decode b_Read_readRest 83 = .ok (.ireturn, 1) := by decide +kernel
theorem f_hx_Read_readRest_70_2 : mblkB b_Read_readRest [(70, .aload_n 0, vi 0), (71, .aload_n 1, vi 0)] = true := by decide +kernel
theorem e_hx_Read_readRest_72 : decode b_Read_readRest 72 = .ok (.invokevirtual 89, 3) := by decide +kernel
theorem e_hx_Read_readRest_75 : decode b_Read_readRest 75 = .ok (.ifCond .eq 7, 3) := by decide +kernel
theorem f_hx_Read_readRest_78_2 : mblkB b_Read_readRest [(78, .iconst 1, vi 1), (79, .goto 4, vi 83)] = true := by decide +kernel
theorem f_hx_Read_readRest_84_2 : mblkB b_Read_readRest [(84, .aload_n 0, vi 0), (85, .aload_n 1, vi 0)] = true := by decide +kernel
theorem e_hx_Read_readRest_86 : decode b_Read_readRest 86 = .ok (.invokevirtual 89, 3) := by decide +kernel
theorem e_hx_Read_readRest_89 : decode b_Read_readRest 89 = .ok (.ireturn, 1) := by decide +kernel
theorem f_hx_Read_readRest_90_2 : mblkB b_Read_readRest [(90, .aload_n 0, vi 0), (91, .aload_n 1, vi 0)] = true := by decide +kernel
theorem e_hx_Read_readRest_92 : decode b_Read_readRest 92 = .ok (.invokevirtual 89, 3) := by decide +kernel
theorem e_hx_Read_readRest_95 : decode b_Read_readRest 95 = .ok (.ifCond .eq 22, 3) := by decide +kernel
theorem f_hx_Read_readRest_117_1 : mblkB b_Read_readRest [(117, .iconst 0, vi 0)] = true := by decide +kernel
theorem e_hx_Read_readRest_118 : decode b_Read_readRest 118 = .ok (.ireturn, 1) := by decide +kernel
theorem f_hx_Read_readRest_98_1 : mblkB b_Read_readRest [(98, .aload_n 0, vi 0)] = true := by decide +kernel
theorem e_hx_Read_readRest_99 : decode b_Read_readRest 99 = .ok (.invokevirtual 92, 3) := by decide +kernel
theorem e_hx_Read_readRest_102 : decode b_Read_readRest 102 = .ok (.ifCond .eq 15, 3) := by decide +kernel
theorem f_hx_Read_readRest_105_2 : mblkB b_Read_readRest [(105, .aload_n 0, vi 0), (106, .aload_n 1, vi 0)] = true := by decide +kernel
theorem e_hx_Read_readRest_107 : decode b_Read_readRest 107 = .ok (.invokevirtual 95, 3) := by decide +kernel
theorem e_hx_Read_readRest_110 : decode b_Read_readRest 110 = .ok (.ifCond .eq 7, 3) := by decide +kernel
theorem f_hx_Read_readRest_113_2 : mblkB b_Read_readRest [(113, .iconst 1, vi 1), (114, .goto 4, vi 118)] = true := by decide +kernel
theorem f_hx_Read_readRest_119_3 : mblkB b_Read_readRest [(119, .aload_n 0, vi 0), (120, .aload_n 1, vi 0), (121, .bipush 10, vi 10)] = true := by decide +kernel
theorem e_hx_Read_readRest_123 : decode b_Read_readRest 123 = .ok (.invokevirtual 98, 3) := by decide +kernel
theorem e_hx_Read_readRest_126 : decode b_Read_readRest 126 = .ok (.ifCond .eq 14, 3) := by decide +kernel
theorem f_hx_Read_readRest_140_1 : mblkB b_Read_readRest [(140, .iconst 0, vi 0)] = true := by decide +kernel
theorem e_hx_Read_readRest_141 : decode b_Read_readRest 141 = .ok (.ireturn, 1) := by decide +kernel
theorem f_hx_Read_readRest_129_1 : mblkB b_Read_readRest [(129, .aload_n 0, vi 0)] = true := by decide +kernel
theorem e_hx_Read_readRest_130 : decode b_Read_readRest 130 = .ok (.invokevirtual 92, 3) := by decide +kernel
theorem e_hx_Read_readRest_133 : decode b_Read_readRest 133 = .ok (.ifCond .eq 7, 3) := by decide +kernel
theorem f_hx_Read_readRest_136_2 : mblkB b_Read_readRest [(136, .iconst 1, vi 1), (137, .goto 4, vi 141)] = true := by decide +kernel
theorem f_hx_Read_readRest_142_2 : mblkB b_Read_readRest [(142, .aload_n 0, vi 0), (143, .aload_n 1, vi 0)] = true := by decide +kernel
theorem e_hx_Read_readRest_144 : decode b_Read_readRest 144 = .ok (.invokevirtual 83, 3) := by decide +kernel
theorem e_hx_Read_readRest_147 : decode b_Read_readRest 147 = .ok (.ifCond .eq 27, 3) := by decide +kernel
theorem f_hx_Read_readRest_174_1 : mblkB b_Read_readRest [(174, .iconst 0, vi 0)] = true := by decide +kernel
theorem e_hx_Read_readRest_175 : decode b_Read_readRest 175 = .ok (.ireturn, 1) := by decide +kernel
theorem f_hx_Read_readRest_150_3 : mblkB b_Read_readRest [(150, .aload_n 0, vi 0), (151, .aload_n 1, vi 0), (152, .aload_n 0, vi 0)] = true := by decide +kernel
theorem e_hx_Read_readRest_153 : decode b_Read_readRest 153 = .ok (.getfield 34, 3) := by decide +kernel
theorem e_hx_Read_readRest_156 : decode b_Read_readRest 156 = .ok (.invokevirtual 98, 3) := by decide +kernel
theorem e_hx_Read_readRest_159 : decode b_Read_readRest 159 = .ok (.ifCond .eq 15, 3) := by decide +kernel
theorem f_hx_Read_readRest_162_2 : mblkB b_Read_readRest [(162, .aload_n 0, vi 0), (163, .aload_n 1, vi 0)] = true := by decide +kernel
theorem e_hx_Read_readRest_164 : decode b_Read_readRest 164 = .ok (.invokevirtual 89, 3) := by decide +kernel
theorem e_hx_Read_readRest_167 : decode b_Read_readRest 167 = .ok (.ifCond .eq 7, 3) := by decide +kernel
theorem f_hx_Read_readRest_170_2 : mblkB b_Read_readRest [(170, .iconst 1, vi 1), (171, .goto 4, vi 175)] = true := by decide +kernel
set_option maxHeartbeats 4000000 in
set_option maxRecDepth 20000 in
theorem hx_Read_readRest {stp : mA → Nat → Option (Int × mA)} {fr lo : Nat} (hstp : ∀ (l : Launch) (D : va_G) (B : Nat) (H0 : Heap) (G : tG) (A : mA) (o : Nat) (h_o : G o = some 3)  (r9 : Int) (A9 : mA), stp A o = some (r9, A9) → hMet l D B H0 G y_Read_readStep b_Read_readStep 4 (some .boolean) fr lo [vr 3 o] A (fun v A' => v = some (vi r9) ∧ A' = A9)) : ∀ (l : Launch) (D : va_G) (B : Nat) (H0 : Heap) (G : tG) (A : mA) (o : Nat) (a0 : Nat) (h_o : G o = some 3) (h_a0 : G a0 = some 6)  (r9 : Int) (A9 : mA), f_Read_readRest stp A o a0 = some (r9, A9) → hMet l D B H0 G y_Read_readRest b_Read_readRest 2 (some .boolean) (fr + 306) (lo + 12300) [vr 3 o, vr 6 a0] A (fun v A' => v = some (vi r9) ∧ A' = A9) := by
  intro l D B H0 G A o a0 h_o h_a0 r9 A9 h
  refine h_met (by decide) rfl (fun g q C Rm Y E => ?_)
  show HM g D G q A 0 [(0, vr 3 o), (1, vr 6 a0)] []
  unfold f_Read_readRest at h
  refine h_blk 1 [(0, vr 3 o), (1, vr 6 a0)] [vr 6 a0] C f_hx_Read_readRest_0_1 rfl ?_
  refine h_geti C e_hx_Read_readRest_1 fg_Read_80 h_a0 rfl rfl rfl (A 6 a0 0) rfl ?_
  obtain ⟨c1, h⟩ := igd h
  by_cases c2 : (A 6 a0 0) = 0
  · have h := ifp c2 h
    refine h_tabIn (tgt := 40) C e_hx_Read_readRest_4 c1 (by omega) (by omega) (by rw [c2]; rfl) (by decide) ?_
    refine h_blk 42 [(0, vr 3 o), (1, vr 6 a0)] [vr 6 a0, vr 3 o] C f_hx_Read_readRest_40_2 rfl ?_
    obtain ⟨q3, e4, h⟩ := obd h
    refine h_callV C Rm Y [vr 6 a0] [] (hx_Read_readName l D B H0 G _ o a0 h_o h_a0 _ _ e4) cl_Read_83 h_o rfl rfl rfl e_hx_Read_readRest_42 rfl rfl rfl ⟨by show _ ≤ ((fr + 306) : Nat); omega, by show _ ≤ ((lo + 12300) : Nat); omega⟩ ?_
    rintro _ _ ⟨rfl, rfl⟩
    show HM g D G q q3.2 45 [(0, vr 3 o), (1, vr 6 a0)] [vi q3.1]
    obtain ⟨c5, h⟩ := igd h
    refine h_if_eq (tgt := 60) C e_hx_Read_readRest_45 (by decide) c5 (fun c6 => ?_) (fun c6 => ?_)
    · have h := ifp c6 h
      refine h_blk 61 [(0, vr 3 o), (1, vr 6 a0)] [vi 0] C f_hx_Read_readRest_60_1 rfl ?_
      exact h_zret C Rm E (Or.inl rfl) e_hx_Read_readRest_61 (fin1 h)
    · have h := ifn c6 h
      refine h_blk 50 [(0, vr 3 o), (1, vr 6 a0)] [vr 6 a0, vr 3 o] C f_hx_Read_readRest_48_2 rfl ?_
      obtain ⟨q7, e8, h⟩ := obd h
      refine h_callV C Rm Y [vr 6 a0] [] (hx_Read_readLots l D B H0 G _ o a0 h_o h_a0 _ _ e8) cl_Read_86 h_o rfl rfl rfl e_hx_Read_readRest_50 rfl rfl rfl ⟨by show _ ≤ ((fr + 306) : Nat); omega, by show _ ≤ ((lo + 12300) : Nat); omega⟩ ?_
      rintro _ _ ⟨rfl, rfl⟩
      show HM g D G q q7.2 53 [(0, vr 3 o), (1, vr 6 a0)] [vi q7.1]
      obtain ⟨c9, h⟩ := igd h
      refine h_if_eq (tgt := 60) C e_hx_Read_readRest_53 (by decide) c9 (fun c10 => ?_) (fun c10 => ?_)
      · have h := ifp c10 h
        refine h_blk 61 [(0, vr 3 o), (1, vr 6 a0)] [vi 0] C f_hx_Read_readRest_60_1 rfl ?_
        exact h_zret C Rm E (Or.inl rfl) e_hx_Read_readRest_61 (fin1 h)
      · have h := ifn c10 h
        refine h_blk 61 [(0, vr 3 o), (1, vr 6 a0)] [vi 1] C f_hx_Read_readRest_56_2 rfl ?_
        exact h_zret C Rm E (Or.inr rfl) e_hx_Read_readRest_61 (fin1 h)
  have h := ifn c2 h
  by_cases c11 : (A 6 a0 0) = 1
  · have h := ifp c11 h
    refine h_tabIn (tgt := 62) C e_hx_Read_readRest_4 c1 (by omega) (by omega) (by rw [c11]; rfl) (by decide) ?_
    refine h_blk 64 [(0, vr 3 o), (1, vr 6 a0)] [vr 6 a0, vr 3 o] C f_hx_Read_readRest_62_2 rfl ?_
    obtain ⟨q12, e13, h⟩ := obd h
    refine h_callV C Rm Y [vr 6 a0] [] (hx_Read_readName l D B H0 G _ o a0 h_o h_a0 _ _ e13) cl_Read_83 h_o rfl rfl rfl e_hx_Read_readRest_64 rfl rfl rfl ⟨by show _ ≤ ((fr + 306) : Nat); omega, by show _ ≤ ((lo + 12300) : Nat); omega⟩ ?_
    rintro _ _ ⟨rfl, rfl⟩
    show HM g D G q q12.2 67 [(0, vr 3 o), (1, vr 6 a0)] [vi q12.1]
    obtain ⟨c14, h⟩ := igd h
    refine h_if_eq (tgt := 82) C e_hx_Read_readRest_67 (by decide) c14 (fun c15 => ?_) (fun c15 => ?_)
    · have h := ifp c15 h
      refine h_blk 83 [(0, vr 3 o), (1, vr 6 a0)] [vi 0] C f_hx_Read_readRest_82_1 rfl ?_
      exact h_zret C Rm E (Or.inl rfl) e_hx_Read_readRest_83 (fin1 h)
    · have h := ifn c15 h
      refine h_blk 72 [(0, vr 3 o), (1, vr 6 a0)] [vr 6 a0, vr 3 o] C f_hx_Read_readRest_70_2 rfl ?_
      obtain ⟨q16, e17, h⟩ := obd h
      refine h_callV C Rm Y [vr 6 a0] [] (hx_Read_readFormula l D B H0 G _ o a0 h_o h_a0 _ _ e17) cl_Read_89 h_o rfl rfl rfl e_hx_Read_readRest_72 rfl rfl rfl ⟨by show _ ≤ ((fr + 306) : Nat); omega, by show _ ≤ ((lo + 12300) : Nat); omega⟩ ?_
      rintro _ _ ⟨rfl, rfl⟩
      show HM g D G q q16.2 75 [(0, vr 3 o), (1, vr 6 a0)] [vi q16.1]
      obtain ⟨c18, h⟩ := igd h
      refine h_if_eq (tgt := 82) C e_hx_Read_readRest_75 (by decide) c18 (fun c19 => ?_) (fun c19 => ?_)
      · have h := ifp c19 h
        refine h_blk 83 [(0, vr 3 o), (1, vr 6 a0)] [vi 0] C f_hx_Read_readRest_82_1 rfl ?_
        exact h_zret C Rm E (Or.inl rfl) e_hx_Read_readRest_83 (fin1 h)
      · have h := ifn c19 h
        refine h_blk 83 [(0, vr 3 o), (1, vr 6 a0)] [vi 1] C f_hx_Read_readRest_78_2 rfl ?_
        exact h_zret C Rm E (Or.inr rfl) e_hx_Read_readRest_83 (fin1 h)
  have h := ifn c11 h
  by_cases c20 : (A 6 a0 0) = 2
  · have h := ifp c20 h
    refine h_tabIn (tgt := 84) C e_hx_Read_readRest_4 c1 (by omega) (by omega) (by rw [c20]; rfl) (by decide) ?_
    refine h_blk 86 [(0, vr 3 o), (1, vr 6 a0)] [vr 6 a0, vr 3 o] C f_hx_Read_readRest_84_2 rfl ?_
    obtain ⟨q21, e22, h⟩ := obd h
    refine h_callV C Rm Y [vr 6 a0] [] (hx_Read_readFormula l D B H0 G _ o a0 h_o h_a0 _ _ e22) cl_Read_89 h_o rfl rfl rfl e_hx_Read_readRest_86 rfl rfl rfl ⟨by show _ ≤ ((fr + 306) : Nat); omega, by show _ ≤ ((lo + 12300) : Nat); omega⟩ ?_
    rintro _ _ ⟨rfl, rfl⟩
    show HM g D G q q21.2 89 [(0, vr 3 o), (1, vr 6 a0)] [vi q21.1]
    obtain ⟨c23, h⟩ := igd h
    exact h_zret C Rm E c23 e_hx_Read_readRest_89 (fin1 h)
  have h := ifn c20 h
  by_cases c24 : (A 6 a0 0) = 3
  · have h := ifp c24 h
    refine h_tabIn (tgt := 90) C e_hx_Read_readRest_4 c1 (by omega) (by omega) (by rw [c24]; rfl) (by decide) ?_
    refine h_blk 92 [(0, vr 3 o), (1, vr 6 a0)] [vr 6 a0, vr 3 o] C f_hx_Read_readRest_90_2 rfl ?_
    obtain ⟨q25, e26, h⟩ := obd h
    refine h_callV C Rm Y [vr 6 a0] [] (hx_Read_readFormula l D B H0 G _ o a0 h_o h_a0 _ _ e26) cl_Read_89 h_o rfl rfl rfl e_hx_Read_readRest_92 rfl rfl rfl ⟨by show _ ≤ ((fr + 306) : Nat); omega, by show _ ≤ ((lo + 12300) : Nat); omega⟩ ?_
    rintro _ _ ⟨rfl, rfl⟩
    show HM g D G q q25.2 95 [(0, vr 3 o), (1, vr 6 a0)] [vi q25.1]
    obtain ⟨c27, h⟩ := igd h
    refine h_if_eq (tgt := 117) C e_hx_Read_readRest_95 (by decide) c27 (fun c28 => ?_) (fun c28 => ?_)
    · have h := ifp c28 h
      refine h_blk 118 [(0, vr 3 o), (1, vr 6 a0)] [vi 0] C f_hx_Read_readRest_117_1 rfl ?_
      exact h_zret C Rm E (Or.inl rfl) e_hx_Read_readRest_118 (fin1 h)
    · have h := ifn c28 h
      refine h_blk 99 [(0, vr 3 o), (1, vr 6 a0)] [vr 3 o] C f_hx_Read_readRest_98_1 rfl ?_
      obtain ⟨q29, e30, h⟩ := obd h
      refine h_callV C Rm Y [] [] (hx_Read_readBraces hstp l D B H0 G _ o h_o _ _ e30) cl_Read_92 h_o rfl rfl rfl e_hx_Read_readRest_99 rfl rfl rfl ⟨by show _ ≤ ((fr + 306) : Nat); omega, by show _ ≤ ((lo + 12300) : Nat); omega⟩ ?_
      rintro _ _ ⟨rfl, rfl⟩
      show HM g D G q q29.2 102 [(0, vr 3 o), (1, vr 6 a0)] [vi q29.1]
      obtain ⟨c31, h⟩ := igd h
      refine h_if_eq (tgt := 117) C e_hx_Read_readRest_102 (by decide) c31 (fun c32 => ?_) (fun c32 => ?_)
      · have h := ifp c32 h
        refine h_blk 118 [(0, vr 3 o), (1, vr 6 a0)] [vi 0] C f_hx_Read_readRest_117_1 rfl ?_
        exact h_zret C Rm E (Or.inl rfl) e_hx_Read_readRest_118 (fin1 h)
      · have h := ifn c32 h
        refine h_blk 107 [(0, vr 3 o), (1, vr 6 a0)] [vr 6 a0, vr 3 o] C f_hx_Read_readRest_105_2 rfl ?_
        obtain ⟨q33, e34, h⟩ := obd h
        refine h_callV C Rm Y [vr 6 a0] [] (hx_Read_readSecond hstp l D B H0 G _ o a0 h_o h_a0 _ _ e34) cl_Read_95 h_o rfl rfl rfl e_hx_Read_readRest_107 rfl rfl rfl ⟨by show _ ≤ ((fr + 306) : Nat); omega, by show _ ≤ ((lo + 12300) : Nat); omega⟩ ?_
        rintro _ _ ⟨rfl, rfl⟩
        show HM g D G q q33.2 110 [(0, vr 3 o), (1, vr 6 a0)] [vi q33.1]
        obtain ⟨c35, h⟩ := igd h
        refine h_if_eq (tgt := 117) C e_hx_Read_readRest_110 (by decide) c35 (fun c36 => ?_) (fun c36 => ?_)
        · have h := ifp c36 h
          refine h_blk 118 [(0, vr 3 o), (1, vr 6 a0)] [vi 0] C f_hx_Read_readRest_117_1 rfl ?_
          exact h_zret C Rm E (Or.inl rfl) e_hx_Read_readRest_118 (fin1 h)
        · have h := ifn c36 h
          refine h_blk 118 [(0, vr 3 o), (1, vr 6 a0)] [vi 1] C f_hx_Read_readRest_113_2 rfl ?_
          exact h_zret C Rm E (Or.inr rfl) e_hx_Read_readRest_118 (fin1 h)
  have h := ifn c24 h
  by_cases c37 : (A 6 a0 0) = 4
  · have h := ifp c37 h
    refine h_tabIn (tgt := 119) C e_hx_Read_readRest_4 c1 (by omega) (by omega) (by rw [c37]; rfl) (by decide) ?_
    refine h_blk 123 [(0, vr 3 o), (1, vr 6 a0)] [vi 10, vr 6 a0, vr 3 o] C f_hx_Read_readRest_119_3 rfl ?_
    obtain ⟨q38, e39, h⟩ := obd h
    refine h_callV C Rm Y [vr 6 a0, vi 10] [] (hx_Read_readNumber l D B H0 G _ o a0 10 h_o h_a0 _ _ e39) cl_Read_98 h_o rfl rfl rfl e_hx_Read_readRest_123 rfl rfl rfl ⟨by show _ ≤ ((fr + 306) : Nat); omega, by show _ ≤ ((lo + 12300) : Nat); omega⟩ ?_
    rintro _ _ ⟨rfl, rfl⟩
    show HM g D G q q38.2 126 [(0, vr 3 o), (1, vr 6 a0)] [vi q38.1]
    obtain ⟨c40, h⟩ := igd h
    refine h_if_eq (tgt := 140) C e_hx_Read_readRest_126 (by decide) c40 (fun c41 => ?_) (fun c41 => ?_)
    · have h := ifp c41 h
      refine h_blk 141 [(0, vr 3 o), (1, vr 6 a0)] [vi 0] C f_hx_Read_readRest_140_1 rfl ?_
      exact h_zret C Rm E (Or.inl rfl) e_hx_Read_readRest_141 (fin1 h)
    · have h := ifn c41 h
      refine h_blk 130 [(0, vr 3 o), (1, vr 6 a0)] [vr 3 o] C f_hx_Read_readRest_129_1 rfl ?_
      obtain ⟨q42, e43, h⟩ := obd h
      refine h_callV C Rm Y [] [] (hx_Read_readBraces hstp l D B H0 G _ o h_o _ _ e43) cl_Read_92 h_o rfl rfl rfl e_hx_Read_readRest_130 rfl rfl rfl ⟨by show _ ≤ ((fr + 306) : Nat); omega, by show _ ≤ ((lo + 12300) : Nat); omega⟩ ?_
      rintro _ _ ⟨rfl, rfl⟩
      show HM g D G q q42.2 133 [(0, vr 3 o), (1, vr 6 a0)] [vi q42.1]
      obtain ⟨c44, h⟩ := igd h
      refine h_if_eq (tgt := 140) C e_hx_Read_readRest_133 (by decide) c44 (fun c45 => ?_) (fun c45 => ?_)
      · have h := ifp c45 h
        refine h_blk 141 [(0, vr 3 o), (1, vr 6 a0)] [vi 0] C f_hx_Read_readRest_140_1 rfl ?_
        exact h_zret C Rm E (Or.inl rfl) e_hx_Read_readRest_141 (fin1 h)
      · have h := ifn c45 h
        refine h_blk 141 [(0, vr 3 o), (1, vr 6 a0)] [vi 1] C f_hx_Read_readRest_136_2 rfl ?_
        exact h_zret C Rm E (Or.inr rfl) e_hx_Read_readRest_141 (fin1 h)
  have h := ifn c37 h
  refine h_tabOut (tgt := 142) C e_hx_Read_readRest_4 c1 (by omega) (by decide) ?_
  refine h_blk 144 [(0, vr 3 o), (1, vr 6 a0)] [vr 6 a0, vr 3 o] C f_hx_Read_readRest_142_2 rfl ?_
  obtain ⟨q46, e47, h⟩ := obd h
  refine h_callV C Rm Y [vr 6 a0] [] (hx_Read_readName l D B H0 G _ o a0 h_o h_a0 _ _ e47) cl_Read_83 h_o rfl rfl rfl e_hx_Read_readRest_144 rfl rfl rfl ⟨by show _ ≤ ((fr + 306) : Nat); omega, by show _ ≤ ((lo + 12300) : Nat); omega⟩ ?_
  rintro _ _ ⟨rfl, rfl⟩
  show HM g D G q q46.2 147 [(0, vr 3 o), (1, vr 6 a0)] [vi q46.1]
  obtain ⟨c48, h⟩ := igd h
  refine h_if_eq (tgt := 174) C e_hx_Read_readRest_147 (by decide) c48 (fun c49 => ?_) (fun c49 => ?_)
  · have h := ifp c49 h
    refine h_blk 175 [(0, vr 3 o), (1, vr 6 a0)] [vi 0] C f_hx_Read_readRest_174_1 rfl ?_
    exact h_zret C Rm E (Or.inl rfl) e_hx_Read_readRest_175 (fin1 h)
  · have h := ifn c49 h
    refine h_blk 153 [(0, vr 3 o), (1, vr 6 a0)] [vr 3 o, vr 6 a0, vr 3 o] C f_hx_Read_readRest_150_3 rfl ?_
    refine h_geti C e_hx_Read_readRest_153 fg_Read_34 h_o rfl rfl rfl (q46.2 3 o 3) rfl ?_
    obtain ⟨q50, e51, h⟩ := obd h
    refine h_callV C Rm Y [vr 6 a0, vi (q46.2 3 o 3)] [] (hx_Read_readNumber l D B H0 G _ o a0 (q46.2 3 o 3) h_o h_a0 _ _ e51) cl_Read_98 h_o rfl rfl rfl e_hx_Read_readRest_156 rfl rfl rfl ⟨by show _ ≤ ((fr + 306) : Nat); omega, by show _ ≤ ((lo + 12300) : Nat); omega⟩ ?_
    rintro _ _ ⟨rfl, rfl⟩
    show HM g D G q q50.2 159 [(0, vr 3 o), (1, vr 6 a0)] [vi q50.1]
    obtain ⟨c52, h⟩ := igd h
    refine h_if_eq (tgt := 174) C e_hx_Read_readRest_159 (by decide) c52 (fun c53 => ?_) (fun c53 => ?_)
    · have h := ifp c53 h
      refine h_blk 175 [(0, vr 3 o), (1, vr 6 a0)] [vi 0] C f_hx_Read_readRest_174_1 rfl ?_
      exact h_zret C Rm E (Or.inl rfl) e_hx_Read_readRest_175 (fin1 h)
    · have h := ifn c53 h
      refine h_blk 164 [(0, vr 3 o), (1, vr 6 a0)] [vr 6 a0, vr 3 o] C f_hx_Read_readRest_162_2 rfl ?_
      obtain ⟨q54, e55, h⟩ := obd h
      refine h_callV C Rm Y [vr 6 a0] [] (hx_Read_readFormula l D B H0 G _ o a0 h_o h_a0 _ _ e55) cl_Read_89 h_o rfl rfl rfl e_hx_Read_readRest_164 rfl rfl rfl ⟨by show _ ≤ ((fr + 306) : Nat); omega, by show _ ≤ ((lo + 12300) : Nat); omega⟩ ?_
      rintro _ _ ⟨rfl, rfl⟩
      show HM g D G q q54.2 167 [(0, vr 3 o), (1, vr 6 a0)] [vi q54.1]
      obtain ⟨c56, h⟩ := igd h
      refine h_if_eq (tgt := 174) C e_hx_Read_readRest_167 (by decide) c56 (fun c57 => ?_) (fun c57 => ?_)
      · have h := ifp c57 h
        refine h_blk 175 [(0, vr 3 o), (1, vr 6 a0)] [vi 0] C f_hx_Read_readRest_174_1 rfl ?_
        exact h_zret C Rm E (Or.inl rfl) e_hx_Read_readRest_175 (fin1 h)
      · have h := ifn c57 h
        refine h_blk 175 [(0, vr 3 o), (1, vr 6 a0)] [vi 1] C f_hx_Read_readRest_170_2 rfl ?_
        exact h_zret C Rm E (Or.inr rfl) e_hx_Read_readRest_175 (fin1 h)

def f_Read_readStep (stp : mA → Nat → Option (Int × mA)) (A : mA) (o : Nat) : Option (Int × mA) := (if g32 (A 3 o 7) then (if (A 3 o 7) = 2 then (if 0 ≤ (A 3 o 2) then (if g32 (A 2 ((A 3 o 2).toNat) 1) then (if (A 2 ((A 3 o 2).toNat) 1) < 16 then (Option.bind (f_Prog_beginStep A ((A 3 o 2).toNat) (A 3 o 8) (A 3 o 5)) (fun q9 => (Option.bind (f_Read_advance q9.2 o) (fun q12 => (Option.bind (f_Read_readRest stp q12.2 o q9.1.toNat) (fun q14 => (if 0 ≤ (q14.2 3 o 2) then (if (q14.1 = 0 ∨ q14.1 = 1) then (some (q14.1, (mu q14.2 6 q9.1.toNat 3 ((q14.2 2 ((q14.2 3 o 2).toNat) 1) - (A 2 ((A 3 o 2).toNat) 1))))) else none) else none))))))) else (some (0, A))) else none) else none) else (some (0, A))) else none)
theorem f_hx_Read_readStep_0_1 : mblkB b_Read_readStep [(0, .aload_n 0, vi 0)] = true := by decide +kernel
theorem e_hx_Read_readStep_1 : decode b_Read_readStep 1 = .ok (.getfield 50, 3) := by decide +kernel
theorem f_hx_Read_readStep_4_1 : mblkB b_Read_readStep [(4, .iconst 2, vi 2)] = true := by decide +kernel
theorem e_hx_Read_readStep_5 : decode b_Read_readStep 5 = .ok (.if_icmp .ne 15, 3) := by decide +kernel
theorem f_hx_Read_readStep_20_1 : mblkB b_Read_readStep [(20, .iconst 0, vi 0)] = true := by decide +kernel
theorem e_hx_Read_readStep_21 : decode b_Read_readStep 21 = .ok (.ireturn, 1) := by decide +kernel
theorem f_hx_Read_readStep_8_1 : mblkB b_Read_readStep [(8, .aload_n 0, vi 0)] = true := by decide +kernel
theorem e_hx_Read_readStep_9 : decode b_Read_readStep 9 = .ok (.getfield 25, 3) := by decide +kernel
theorem e_hx_Read_readStep_12 : decode b_Read_readStep 12 = .ok (.getfield 63, 3) := by decide +kernel
theorem f_hx_Read_readStep_15_1 : mblkB b_Read_readStep [(15, .bipush 16, vi 16)] = true := by decide +kernel
theorem e_hx_Read_readStep_17 : decode b_Read_readStep 17 = .ok (.if_icmp .lt 5, 3) := by decide +kernel
theorem f_hx_Read_readStep_22_1 : mblkB b_Read_readStep [(22, .aload_n 0, vi 0)] = true := by decide +kernel
theorem e_hx_Read_readStep_23 : decode b_Read_readStep 23 = .ok (.getfield 25, 3) := by decide +kernel
theorem e_hx_Read_readStep_26 : decode b_Read_readStep 26 = .ok (.getfield 63, 3) := by decide +kernel
theorem f_hx_Read_readStep_29_2 : mblkB b_Read_readStep [(29, .istore_n 1, vi 0), (30, .aload_n 0, vi 0)] = true := by decide +kernel
theorem e_hx_Read_readStep_31 : decode b_Read_readStep 31 = .ok (.getfield 25, 3) := by decide +kernel
theorem f_hx_Read_readStep_34_1 : mblkB b_Read_readStep [(34, .aload_n 0, vi 0)] = true := by decide +kernel
theorem e_hx_Read_readStep_35 : decode b_Read_readStep 35 = .ok (.getfield 64, 3) := by decide +kernel
theorem f_hx_Read_readStep_38_1 : mblkB b_Read_readStep [(38, .aload_n 0, vi 0)] = true := by decide +kernel
theorem e_hx_Read_readStep_39 : decode b_Read_readStep 39 = .ok (.getfield 40, 3) := by decide +kernel
theorem e_hx_Read_readStep_42 : decode b_Read_readStep 42 = .ok (.invokevirtual 67, 3) := by decide +kernel
theorem f_hx_Read_readStep_45_2 : mblkB b_Read_readStep [(45, .astore_n 2, vi 0), (46, .aload_n 0, vi 0)] = true := by decide +kernel
theorem e_hx_Read_readStep_47 : decode b_Read_readStep 47 = .ok (.invokevirtual 43, 3) := by decide +kernel
theorem f_hx_Read_readStep_50_2 : mblkB b_Read_readStep [(50, .aload_n 0, vi 0), (51, .aload_n 2, vi 0)] = true := by decide +kernel
theorem e_hx_Read_readStep_52 : decode b_Read_readStep 52 = .ok (.invokevirtual 71, 3) := by decide +kernel
theorem f_hx_Read_readStep_55_3 : mblkB b_Read_readStep [(55, .istore_n 3, vi 0), (56, .aload_n 2, vi 0), (57, .aload_n 0, vi 0)] = true := by decide +kernel
theorem e_hx_Read_readStep_58 : decode b_Read_readStep 58 = .ok (.getfield 25, 3) := by decide +kernel
theorem e_hx_Read_readStep_61 : decode b_Read_readStep 61 = .ok (.getfield 63, 3) := by decide +kernel
theorem f_hx_Read_readStep_64_2 : mblkB b_Read_readStep [(64, .iload_n 1, vi 0), (65, .isub, vi 0)] = true := by decide +kernel
theorem e_hx_Read_readStep_66 : decode b_Read_readStep 66 = .ok (.putfield 75, 3) := by decide +kernel
theorem f_hx_Read_readStep_69_1 : mblkB b_Read_readStep [(69, .iload_n 3, vi 0)] = true := by decide +kernel
theorem e_hx_Read_readStep_70 : decode b_Read_readStep 70 = .ok (.ireturn, 1) := by decide +kernel
set_option maxHeartbeats 4000000 in
set_option maxRecDepth 20000 in
theorem hx_Read_readStep {stp : mA → Nat → Option (Int × mA)} {fr lo : Nat} (hstp : ∀ (l : Launch) (D : va_G) (B : Nat) (H0 : Heap) (G : tG) (A : mA) (o : Nat) (h_o : G o = some 3)  (r9 : Int) (A9 : mA), stp A o = some (r9, A9) → hMet l D B H0 G y_Read_readStep b_Read_readStep 4 (some .boolean) fr lo [vr 3 o] A (fun v A' => v = some (vi r9) ∧ A' = A9)) : ∀ (l : Launch) (D : va_G) (B : Nat) (H0 : Heap) (G : tG) (A : mA) (o : Nat) (h_o : G o = some 3)  (r9 : Int) (A9 : mA), f_Read_readStep stp A o = some (r9, A9) → hMet l D B H0 G y_Read_readStep b_Read_readStep 4 (some .boolean) (fr + 308) (lo + 12400) [vr 3 o] A (fun v A' => v = some (vi r9) ∧ A' = A9) := by
  intro l D B H0 G A o h_o r9 A9 h
  refine h_met (by decide) rfl (fun g q C Rm Y E => ?_)
  show HM g D G q A 0 [(0, vr 3 o)] []
  unfold f_Read_readStep at h
  refine h_blk 1 [(0, vr 3 o)] [vr 3 o] C f_hx_Read_readStep_0_1 rfl ?_
  refine h_geti C e_hx_Read_readStep_1 fg_Read_50 h_o rfl rfl rfl (A 3 o 7) rfl ?_
  refine h_blk 5 [(0, vr 3 o)] [vi 2, vi (A 3 o 7)] C f_hx_Read_readStep_4_1 rfl ?_
  obtain ⟨c1, h⟩ := igd h
  refine h_icmp_ne (tgt := 20) C e_hx_Read_readStep_5 (by decide) c1 (by decide) (fun c2 => ?_) (fun c2 => ?_)
  · have h := ifn c2 h
    refine h_blk 21 [(0, vr 3 o)] [vi 0] C f_hx_Read_readStep_20_1 rfl ?_
    exact h_zret C Rm E (Or.inl rfl) e_hx_Read_readStep_21 (fin1 h)
  · have h := ifp c2 h
    refine h_blk 9 [(0, vr 3 o)] [vr 3 o] C f_hx_Read_readStep_8_1 rfl ?_
    obtain ⟨c3, h⟩ := igd h
    refine h_getr5 C e_hx_Read_readStep_9 fg_Read_25 h_o rfl rfl rfl rfl c3 (fun g4 => ?_)
    refine h_geti C e_hx_Read_readStep_12 fg_Read_63 g4 rfl rfl rfl (A 2 ((A 3 o 2).toNat) 1) rfl ?_
    refine h_blk 17 [(0, vr 3 o)] [vi 16, vi (A 2 ((A 3 o 2).toNat) 1)] C f_hx_Read_readStep_15_1 rfl ?_
    obtain ⟨c5, h⟩ := igd h
    refine h_icmp_lt (tgt := 22) C e_hx_Read_readStep_17 (by decide) c5 (by decide) (fun c6 => ?_) (fun c6 => ?_)
    · have h := ifp c6 h
      refine h_blk 23 [(0, vr 3 o)] [vr 3 o] C f_hx_Read_readStep_22_1 rfl ?_
      refine h_getr5 C e_hx_Read_readStep_23 fg_Read_25 h_o rfl rfl rfl rfl c3 (fun g7 => ?_)
      refine h_geti C e_hx_Read_readStep_26 fg_Read_63 g7 rfl rfl rfl (A 2 ((A 3 o 2).toNat) 1) rfl ?_
      refine h_blk 31 [(1, vi (A 2 ((A 3 o 2).toNat) 1)), (0, vr 3 o)] [vr 3 o] C f_hx_Read_readStep_29_2 rfl ?_
      refine h_getr5 C e_hx_Read_readStep_31 fg_Read_25 h_o rfl rfl rfl rfl c3 (fun g8 => ?_)
      refine h_blk 35 [(1, vi (A 2 ((A 3 o 2).toNat) 1)), (0, vr 3 o)] [vr 3 o, vr 2 ((A 3 o 2).toNat)] C f_hx_Read_readStep_34_1 rfl ?_
      refine h_geti C e_hx_Read_readStep_35 fg_Read_64 h_o rfl rfl rfl (A 3 o 8) rfl ?_
      refine h_blk 39 [(1, vi (A 2 ((A 3 o 2).toNat) 1)), (0, vr 3 o)] [vr 3 o, vi (A 3 o 8), vr 2 ((A 3 o 2).toNat)] C f_hx_Read_readStep_38_1 rfl ?_
      refine h_geti C e_hx_Read_readStep_39 fg_Read_40 h_o rfl rfl rfl (A 3 o 5) rfl ?_
      obtain ⟨q9, e10, h⟩ := obd h
      refine h_callV C Rm Y [vi (A 3 o 8), vi (A 3 o 5)] [] (hx_Prog_beginStep l D B H0 G _ ((A 3 o 2).toNat) (A 3 o 8) (A 3 o 5) g8 _ _ e10) cl_Read_67 g8 rfl rfl rfl e_hx_Read_readStep_42 rfl rfl rfl ⟨by show _ ≤ ((fr + 308) : Nat); omega, by show _ ≤ ((lo + 12400) : Nat); omega⟩ ?_
      rintro _ _ ⟨rfl, rfl, g11⟩
      show HM g D G q q9.2 45 [(1, vi (A 2 ((A 3 o 2).toNat) 1)), (0, vr 3 o)] [vr 6 q9.1.toNat]
      refine h_blk 47 [(2, vr 6 q9.1.toNat), (1, vi (A 2 ((A 3 o 2).toNat) 1)), (0, vr 3 o)] [vr 3 o] C f_hx_Read_readStep_45_2 rfl ?_
      obtain ⟨q12, e13, h⟩ := obd h
      refine h_callV C Rm Y [] [] (hx_Read_advance l D B H0 G _ o h_o _ _ e13) cl_Read_43 h_o rfl rfl rfl e_hx_Read_readStep_47 rfl rfl rfl ⟨by show _ ≤ ((fr + 308) : Nat); omega, by show _ ≤ ((lo + 12400) : Nat); omega⟩ ?_
      rintro _ _ ⟨rfl, rfl⟩
      show HM g D G q q12.2 50 [(2, vr 6 q9.1.toNat), (1, vi (A 2 ((A 3 o 2).toNat) 1)), (0, vr 3 o)] []
      refine h_blk 52 [(2, vr 6 q9.1.toNat), (1, vi (A 2 ((A 3 o 2).toNat) 1)), (0, vr 3 o)] [vr 6 q9.1.toNat, vr 3 o] C f_hx_Read_readStep_50_2 rfl ?_
      obtain ⟨q14, e15, h⟩ := obd h
      refine h_callV C Rm Y [vr 6 q9.1.toNat] [] (hx_Read_readRest hstp l D B H0 G _ o q9.1.toNat h_o g11 _ _ e15) cl_Read_71 h_o rfl rfl rfl e_hx_Read_readStep_52 rfl rfl rfl ⟨by show _ ≤ ((fr + 308) : Nat); omega, by show _ ≤ ((lo + 12400) : Nat); omega⟩ ?_
      rintro _ _ ⟨rfl, rfl⟩
      show HM g D G q q14.2 55 [(2, vr 6 q9.1.toNat), (1, vi (A 2 ((A 3 o 2).toNat) 1)), (0, vr 3 o)] [vi q14.1]
      refine h_blk 58 [(3, vi q14.1), (2, vr 6 q9.1.toNat), (1, vi (A 2 ((A 3 o 2).toNat) 1)), (0, vr 3 o)] [vr 3 o, vr 6 q9.1.toNat] C f_hx_Read_readStep_55_3 rfl ?_
      obtain ⟨c16, h⟩ := igd h
      refine h_getr5 C e_hx_Read_readStep_58 fg_Read_25 h_o rfl rfl rfl rfl c16 (fun g17 => ?_)
      refine h_geti C e_hx_Read_readStep_61 fg_Read_63 g17 rfl rfl rfl (q14.2 2 ((q14.2 3 o 2).toNat) 1) rfl ?_
      refine h_blk 66 [(3, vi q14.1), (2, vr 6 q9.1.toNat), (1, vi (A 2 ((A 3 o 2).toNat) 1)), (0, vr 3 o)] [vi ((q14.2 2 ((q14.2 3 o 2).toNat) 1) - (A 2 ((A 3 o 2).toNat) 1)), vr 6 q9.1.toNat] C f_hx_Read_readStep_64_2 rfl ?_
      refine h_puti C e_hx_Read_readStep_66 fp_Read_75 g11 rfl rfl rfl ?_
      refine h_blk 70 [(3, vi q14.1), (2, vr 6 q9.1.toNat), (1, vi (A 2 ((A 3 o 2).toNat) 1)), (0, vr 3 o)] [vi q14.1] C f_hx_Read_readStep_69_1 rfl ?_
      obtain ⟨c18, h⟩ := igd h
      exact h_zret C Rm E c18 e_hx_Read_readStep_70 (fin1 h)
    · have h := ifn c6 h
      refine h_blk 21 [(0, vr 3 o)] [vi 0] C f_hx_Read_readStep_20_1 rfl ?_
      exact h_zret C Rm E (Or.inl rfl) e_hx_Read_readStep_21 (fin1 h)

def f_Read_stepN : Nat → mA → Nat → Option (Int × mA)
  | 0, _, _ => none
  | n + 1, A, o => f_Read_readStep (f_Read_stepN n) A o
theorem hx_Read_stepN : ∀ n : Nat, ∀ (l : Launch) (D : va_G) (B : Nat) (H0 : Heap) (G : tG) (A : mA) (o : Nat) (h_o : G o = some 3)  (r9 : Int) (A9 : mA), f_Read_stepN n A o = some (r9, A9) → hMet l D B H0 G y_Read_readStep b_Read_readStep 4 (some .boolean) (308 * n) (12400 * n) [vr 3 o] A (fun v A' => v = some (vi r9) ∧ A' = A9) := by
  intro n
  induction n with
  | zero => intro l D B H0 G A o ho r9 A9 h; cases h
  | succ n ih =>
    intro l D B H0 G A o ho r9 A9 h
    have k := hx_Read_readStep ih l D B H0 G A o ho r9 A9 h
    have e1 : 308 * (n + 1) = 308 * n + 308 := by omega
    have e2 : 12400 * (n + 1) = 12400 * n + 12400 := by omega
    rw [e1, e2]
    exact k
def f_Read_faultOf (A : mA) (o : Nat) (a0 : Nat) (a1 : Int) (a2 : Nat) (a3 : Int) : Option (Int × mA) := (if g32 a1 then (if g32 ((120 : Nat) : Int) then (if 0 ≤ ((mu (mu (mu A 3 o 0 ((a0 : Nat) : Int)) 3 o 1 (min a1 ((120 : Nat) : Int))) 3 o 2 ((a2 : Nat) : Int)) 3 o 2) then (Option.bind (f_Prog_clear (mu (mu (mu A 3 o 0 ((a0 : Nat) : Int)) 3 o 1 (min a1 ((120 : Nat) : Int))) 3 o 2 ((a2 : Nat) : Int)) (((mu (mu (mu A 3 o 0 ((a0 : Nat) : Int)) 3 o 1 (min a1 ((120 : Nat) : Int))) 3 o 2 ((a2 : Nat) : Int)) 3 o 2).toNat)) (fun q6 => (Option.bind (f_Read_advance (mu (mu (mu q6.2 3 o 3 a3) 3 o 4 0) 3 o 5 0) o) (fun q8 => (Option.bind (f_Read_readBlock (f_Read_stepN 6) q8.2 o) (fun q10 => (if g32 q10.1 then (if q10.1 = 0 then (some ((q10.2 3 o 6), q10.2)) else (if g32 (q10.2 3 o 7) then (if (q10.2 3 o 7) = 0 then (some ((-1), q10.2)) else (some ((q10.2 3 o 6), q10.2))) else none)) else none))))))) else none) else none) else none)
theorem f_hx_Read_faultOf_0_2 : mblkB b_Read_faultOf [(0, .aload_n 0, vi 0), (1, .aload_n 1, vi 0)] = true := by decide +kernel
theorem e_hx_Read_faultOf_2 : decode b_Read_faultOf 2 = .ok (.putfield 9, 3) := by decide +kernel
theorem f_hx_Read_faultOf_5_3 : mblkB b_Read_faultOf [(5, .aload_n 0, vi 0), (6, .iload_n 2, vi 0), (7, .aload_n 1, vi 0)] = true := by decide +kernel
theorem e_hx_Read_faultOf_8 : decode b_Read_faultOf 8 = .ok (.arraylength, 1) := by decide +kernel
theorem e_hx_Read_faultOf_9 : decode b_Read_faultOf 9 = .ok (.invokestatic 15, 3) := by decide +kernel
theorem e_hx_Read_faultOf_12 : decode b_Read_faultOf 12 = .ok (.putfield 21, 3) := by decide +kernel
theorem f_hx_Read_faultOf_15_2 : mblkB b_Read_faultOf [(15, .aload_n 0, vi 0), (16, .aload_n 3, vi 0)] = true := by decide +kernel
theorem e_hx_Read_faultOf_17 : decode b_Read_faultOf 17 = .ok (.putfield 25, 3) := by decide +kernel
theorem f_hx_Read_faultOf_20_1 : mblkB b_Read_faultOf [(20, .aload_n 0, vi 0)] = true := by decide +kernel
theorem e_hx_Read_faultOf_21 : decode b_Read_faultOf 21 = .ok (.getfield 25, 3) := by decide +kernel
theorem e_hx_Read_faultOf_24 : decode b_Read_faultOf 24 = .ok (.invokevirtual 29, 3) := by decide +kernel
theorem f_hx_Read_faultOf_27_2 : mblkB b_Read_faultOf [(27, .aload_n 0, vi 0), (28, .iload 4, vi 0)] = true := by decide +kernel
theorem e_hx_Read_faultOf_30 : decode b_Read_faultOf 30 = .ok (.putfield 34, 3) := by decide +kernel
theorem f_hx_Read_faultOf_33_2 : mblkB b_Read_faultOf [(33, .aload_n 0, vi 0), (34, .iconst 0, vi 0)] = true := by decide +kernel
theorem e_hx_Read_faultOf_35 : decode b_Read_faultOf 35 = .ok (.putfield 37, 3) := by decide +kernel
theorem f_hx_Read_faultOf_38_2 : mblkB b_Read_faultOf [(38, .aload_n 0, vi 0), (39, .iconst 0, vi 0)] = true := by decide +kernel
theorem e_hx_Read_faultOf_40 : decode b_Read_faultOf 40 = .ok (.putfield 40, 3) := by decide +kernel
theorem f_hx_Read_faultOf_43_1 : mblkB b_Read_faultOf [(43, .aload_n 0, vi 0)] = true := by decide +kernel
theorem e_hx_Read_faultOf_44 : decode b_Read_faultOf 44 = .ok (.invokevirtual 43, 3) := by decide +kernel
theorem f_hx_Read_faultOf_47_1 : mblkB b_Read_faultOf [(47, .aload_n 0, vi 0)] = true := by decide +kernel
theorem e_hx_Read_faultOf_48 : decode b_Read_faultOf 48 = .ok (.invokevirtual 46, 3) := by decide +kernel
theorem e_hx_Read_faultOf_51 : decode b_Read_faultOf 51 = .ok (.ifCond .eq 14, 3) := by decide +kernel
theorem f_hx_Read_faultOf_65_1 : mblkB b_Read_faultOf [(65, .aload_n 0, vi 0)] = true := by decide +kernel
theorem e_hx_Read_faultOf_66 : decode b_Read_faultOf 66 = .ok (.getfield 53, 3) := by decide +kernel
theorem e_hx_Read_faultOf_69 : decode b_Read_faultOf 69 = .ok (.ireturn, 1) := by decide +kernel
theorem f_hx_Read_faultOf_54_1 : mblkB b_Read_faultOf [(54, .aload_n 0, vi 0)] = true := by decide +kernel
theorem e_hx_Read_faultOf_55 : decode b_Read_faultOf 55 = .ok (.getfield 50, 3) := by decide +kernel
theorem e_hx_Read_faultOf_58 : decode b_Read_faultOf 58 = .ok (.ifCond .ne 7, 3) := by decide +kernel
theorem f_hx_Read_faultOf_61_2 : mblkB b_Read_faultOf [(61, .iconst (-1), vi (-1)), (62, .goto 7, vi 69)] = true := by decide +kernel
set_option maxHeartbeats 4000000 in
set_option maxRecDepth 20000 in
theorem hx_Read_faultOf  : ∀ (l : Launch) (D : va_G) (B : Nat) (H0 : Heap) (G : tG) (A : mA) (o : Nat) (a0 : Nat) (a1 : Int) (a2 : Nat) (a3 : Int) (h_o : G o = some 3) (h_a0 : G a0 = some 20) (h_a2 : G a2 = some 2)  (r9 : Int) (A9 : mA), f_Read_faultOf  A o a0 a1 a2 a3 = some (r9, A9) → hMet l D B H0 G y_Read_faultOf b_Read_faultOf 5 (some .int) 2149 86421 [vr 3 o, vr 20 a0, vi a1, vr 2 a2, vi a3] A (fun v A' => v = some (vi r9) ∧ A' = A9) := by
  intro l D B H0 G A o a0 a1 a2 a3 h_o h_a0 h_a2 r9 A9 h
  refine h_met (by decide) rfl (fun g q C Rm Y E => ?_)
  show HM g D G q A 0 [(0, vr 3 o), (1, vr 20 a0), (2, vi a1), (3, vr 2 a2), (4, vi a3)] []
  unfold f_Read_faultOf at h
  refine h_blk 2 [(0, vr 3 o), (1, vr 20 a0), (2, vi a1), (3, vr 2 a2), (4, vi a3)] [vr 20 a0, vr 3 o] C f_hx_Read_faultOf_0_2 rfl ?_
  refine h_putr C e_hx_Read_faultOf_2 fp_Read_9 ⟨rfl, rfl⟩ h_o rfl rfl (Or.inr rfl) rfl h_a0 ?_
  refine h_blk 8 [(0, vr 3 o), (1, vr 20 a0), (2, vi a1), (3, vr 2 a2), (4, vi a3)] [vr 20 a0, vi a1, vr 3 o] C f_hx_Read_faultOf_5_3 rfl ?_
  refine h_alen C e_hx_Read_faultOf_8 h_a0 rfl rfl ?_
  obtain ⟨c1, h⟩ := igd h
  obtain ⟨c2, h⟩ := igd h
  refine h_mmin C Rm cl_Read_15 e_hx_Read_faultOf_9 (by decide) (Nat.le_of_ble_eq_true rfl) c1 c2 (fun z3 hz3 => ?_)
  obtain rfl : z3 = min a1 ((120 : Nat) : Int) := by omega
  refine h_puti C e_hx_Read_faultOf_12 fp_Read_21 h_o rfl rfl rfl ?_
  refine h_blk 17 [(0, vr 3 o), (1, vr 20 a0), (2, vi a1), (3, vr 2 a2), (4, vi a3)] [vr 2 a2, vr 3 o] C f_hx_Read_faultOf_15_2 rfl ?_
  refine h_putr C e_hx_Read_faultOf_17 fp_Read_25 ⟨rfl, rfl⟩ h_o rfl rfl (Or.inr rfl) rfl h_a2 ?_
  refine h_blk 21 [(0, vr 3 o), (1, vr 20 a0), (2, vi a1), (3, vr 2 a2), (4, vi a3)] [vr 3 o] C f_hx_Read_faultOf_20_1 rfl ?_
  obtain ⟨c4, h⟩ := igd h
  refine h_getr5 C e_hx_Read_faultOf_21 fg_Read_25 h_o rfl rfl rfl rfl c4 (fun g5 => ?_)
  obtain ⟨q6, e7, h⟩ := obd h
  refine h_callV C Rm Y [] [] (hx_Prog_clear l D B H0 G _ (((mu (mu (mu A 3 o 0 ((a0 : Nat) : Int)) 3 o 1 (min a1 ((120 : Nat) : Int))) 3 o 2 ((a2 : Nat) : Int)) 3 o 2).toNat) g5 _ _ e7) cl_Read_29 g5 rfl rfl rfl e_hx_Read_faultOf_24 rfl rfl rfl ⟨by decide, by decide⟩ ?_
  rintro _ _ ⟨rfl, rfl⟩
  show HM g D G q q6.2 27 [(0, vr 3 o), (1, vr 20 a0), (2, vi a1), (3, vr 2 a2), (4, vi a3)] []
  refine h_blk 30 [(0, vr 3 o), (1, vr 20 a0), (2, vi a1), (3, vr 2 a2), (4, vi a3)] [vi a3, vr 3 o] C f_hx_Read_faultOf_27_2 rfl ?_
  refine h_puti C e_hx_Read_faultOf_30 fp_Read_34 h_o rfl rfl rfl ?_
  refine h_blk 35 [(0, vr 3 o), (1, vr 20 a0), (2, vi a1), (3, vr 2 a2), (4, vi a3)] [vi 0, vr 3 o] C f_hx_Read_faultOf_33_2 rfl ?_
  refine h_puti C e_hx_Read_faultOf_35 fp_Read_37 h_o rfl rfl rfl ?_
  refine h_blk 40 [(0, vr 3 o), (1, vr 20 a0), (2, vi a1), (3, vr 2 a2), (4, vi a3)] [vi 0, vr 3 o] C f_hx_Read_faultOf_38_2 rfl ?_
  refine h_puti C e_hx_Read_faultOf_40 fp_Read_40 h_o rfl rfl rfl ?_
  refine h_blk 44 [(0, vr 3 o), (1, vr 20 a0), (2, vi a1), (3, vr 2 a2), (4, vi a3)] [vr 3 o] C f_hx_Read_faultOf_43_1 rfl ?_
  obtain ⟨q8, e9, h⟩ := obd h
  refine h_callV C Rm Y [] [] (hx_Read_advance l D B H0 G _ o h_o _ _ e9) cl_Read_43 h_o rfl rfl rfl e_hx_Read_faultOf_44 rfl rfl rfl ⟨by decide, by decide⟩ ?_
  rintro _ _ ⟨rfl, rfl⟩
  show HM g D G q q8.2 47 [(0, vr 3 o), (1, vr 20 a0), (2, vi a1), (3, vr 2 a2), (4, vi a3)] []
  refine h_blk 48 [(0, vr 3 o), (1, vr 20 a0), (2, vi a1), (3, vr 2 a2), (4, vi a3)] [vr 3 o] C f_hx_Read_faultOf_47_1 rfl ?_
  obtain ⟨q10, e11, h⟩ := obd h
  refine h_callV C Rm Y [] [] (hx_Read_readBlock (hx_Read_stepN 6) l D B H0 G _ o h_o _ _ e11) cl_Read_46 h_o rfl rfl rfl e_hx_Read_faultOf_48 rfl rfl rfl ⟨by decide, by decide⟩ ?_
  rintro _ _ ⟨rfl, rfl⟩
  show HM g D G q q10.2 51 [(0, vr 3 o), (1, vr 20 a0), (2, vi a1), (3, vr 2 a2), (4, vi a3)] [vi q10.1]
  obtain ⟨c12, h⟩ := igd h
  refine h_if_eq (tgt := 65) C e_hx_Read_faultOf_51 (by decide) c12 (fun c13 => ?_) (fun c13 => ?_)
  · have h := ifp c13 h
    refine h_blk 66 [(0, vr 3 o), (1, vr 20 a0), (2, vi a1), (3, vr 2 a2), (4, vi a3)] [vr 3 o] C f_hx_Read_faultOf_65_1 rfl ?_
    refine h_geti C e_hx_Read_faultOf_66 fg_Read_53 h_o rfl rfl rfl (q10.2 3 o 6) rfl ?_
    exact h_iret C Rm E e_hx_Read_faultOf_69 (fin1 h)
  · have h := ifn c13 h
    refine h_blk 55 [(0, vr 3 o), (1, vr 20 a0), (2, vi a1), (3, vr 2 a2), (4, vi a3)] [vr 3 o] C f_hx_Read_faultOf_54_1 rfl ?_
    refine h_geti C e_hx_Read_faultOf_55 fg_Read_50 h_o rfl rfl rfl (q10.2 3 o 7) rfl ?_
    obtain ⟨c14, h⟩ := igd h
    refine h_if_ne (tgt := 65) C e_hx_Read_faultOf_58 (by decide) c14 (fun c15 => ?_) (fun c15 => ?_)
    · have h := ifn c15 h
      refine h_blk 66 [(0, vr 3 o), (1, vr 20 a0), (2, vi a1), (3, vr 2 a2), (4, vi a3)] [vr 3 o] C f_hx_Read_faultOf_65_1 rfl ?_
      refine h_geti C e_hx_Read_faultOf_66 fg_Read_53 h_o rfl rfl rfl (q10.2 3 o 6) rfl ?_
      exact h_iret C Rm E e_hx_Read_faultOf_69 (fin1 h)
    · have h := ifp c15 h
      refine h_blk 69 [(0, vr 3 o), (1, vr 20 a0), (2, vi a1), (3, vr 2 a2), (4, vi a3)] [vi (-1)] C f_hx_Read_faultOf_61_2 rfl ?_
      exact h_iret C Rm E e_hx_Read_faultOf_69 (fin1 h)

def f_Prog_bitsOf_5 : Nat → mA → Nat → Int → Int → Int → Int → Option (Int × mA)
  | 0, _, _, _, _, _, _ => none
  | n + 1, A, b0, b1, b2, b3, b4 => (if g32 b4 then if g32 b2 then (if b2 ≤ b4 then (some (b3, A)) else (Option.bind (f_Prog_stepAt A b0 b4) (fun q4 => (Option.bind (f_Prog_stepAt q4.2 b0 b1) (fun q7 => (if g32 (q4.2 6 q4.1.toNat 4) then if g32 (q7.2 6 q7.1.toNat 4) then (if (q4.2 6 q4.1.toNat 4) = (q7.2 6 q7.1.toNat 4) then (Option.bind (f_Prog_stepAt q7.2 b0 b4) (fun q13 => (f_Prog_bitsOf_5  n q13.2 b0 b1 b2 (b3 + (q13.2 6 q13.1.toNat 7)) (b4 + 1)))) else (f_Prog_bitsOf_5  n q7.2 b0 b1 b2 (b3 + 0) (b4 + 1))) else none else none)))))) else none else none)
def f_Prog_bitsOf (A : mA) (o : Nat) (a0 : Int) (a1 : Int) : Option (Int × mA) := (f_Prog_bitsOf_5  20 A o a0 a1 0 a0)
theorem f_hx_Prog_bitsOf_0_4 : mblkB b_Prog_bitsOf [(0, .iconst 0, vi 0), (1, .istore_n 3, vi 0), (2, .iload_n 1, vi 0), (3, .istore 4, vi 0)] = true := by decide +kernel
theorem f_hx_Prog_bitsOf_5_2 : mblkB b_Prog_bitsOf [(5, .iload 4, vi 0), (7, .iload_n 2, vi 0)] = true := by decide +kernel
theorem e_hx_Prog_bitsOf_8 : decode b_Prog_bitsOf 8 = .ok (.if_icmp .ge 45, 3) := by decide +kernel
theorem f_hx_Prog_bitsOf_53_1 : mblkB b_Prog_bitsOf [(53, .iload_n 3, vi 0)] = true := by decide +kernel
theorem e_hx_Prog_bitsOf_54 : decode b_Prog_bitsOf 54 = .ok (.ireturn, 1) := by decide +kernel
theorem f_hx_Prog_bitsOf_11_3 : mblkB b_Prog_bitsOf [(11, .iload_n 3, vi 0), (12, .aload_n 0, vi 0), (13, .iload 4, vi 0)] = true := by decide +kernel
theorem e_hx_Prog_bitsOf_15 : decode b_Prog_bitsOf 15 = .ok (.invokevirtual 54, 3) := by decide +kernel
theorem e_hx_Prog_bitsOf_18 : decode b_Prog_bitsOf 18 = .ok (.getfield 123, 3) := by decide +kernel
theorem f_hx_Prog_bitsOf_21_2 : mblkB b_Prog_bitsOf [(21, .aload_n 0, vi 0), (22, .iload_n 1, vi 0)] = true := by decide +kernel
theorem e_hx_Prog_bitsOf_23 : decode b_Prog_bitsOf 23 = .ok (.invokevirtual 54, 3) := by decide +kernel
theorem e_hx_Prog_bitsOf_26 : decode b_Prog_bitsOf 26 = .ok (.getfield 123, 3) := by decide +kernel
theorem e_hx_Prog_bitsOf_29 : decode b_Prog_bitsOf 29 = .ok (.if_icmp .ne 15, 3) := by decide +kernel
theorem f_hx_Prog_bitsOf_44_5 : mblkB b_Prog_bitsOf [(44, .iconst 0, vi 0), (45, .iadd, vi 0), (46, .istore_n 3, vi 0), (47, .iinc 4 1, vi 1), (50, .goto (-45), vi 5)] = true := by decide +kernel
theorem f_hx_Prog_bitsOf_32_2 : mblkB b_Prog_bitsOf [(32, .aload_n 0, vi 0), (33, .iload 4, vi 0)] = true := by decide +kernel
theorem e_hx_Prog_bitsOf_35 : decode b_Prog_bitsOf 35 = .ok (.invokevirtual 54, 3) := by decide +kernel
theorem e_hx_Prog_bitsOf_38 : decode b_Prog_bitsOf 38 = .ok (.getfield 114, 3) := by decide +kernel
theorem f_hx_Prog_bitsOf_41_1 : mblkB b_Prog_bitsOf [(41, .goto 4, vi 45)] = true := by decide +kernel
theorem f_hx_Prog_bitsOf_45_4 : mblkB b_Prog_bitsOf [(45, .iadd, vi 0), (46, .istore_n 3, vi 0), (47, .iinc 4 1, vi 1), (50, .goto (-45), vi 5)] = true := by decide +kernel
set_option maxHeartbeats 4000000 in
set_option maxRecDepth 20000 in
theorem hx_Prog_bitsOf  : ∀ (l : Launch) (D : va_G) (B : Nat) (H0 : Heap) (G : tG) (A : mA) (o : Nat) (a0 : Int) (a1 : Int) (h_o : G o = some 2)  (r9 : Int) (A9 : mA), f_Prog_bitsOf  A o a0 a1 = some (r9, A9) → hMet l D B H0 G y_Prog_bitsOf b_Prog_bitsOf 5 (some .int) 1 21 [vr 2 o, vi a0, vi a1] A (fun v A' => v = some (vi r9) ∧ A' = A9) := by
  intro l D B H0 G A o a0 a1 h_o r9 A9 h
  refine h_met (by decide) rfl (fun g q C Rm Y E => ?_)
  have hd_5 : ∀ (n : Nat) (A : mA) (b0 : Nat) (b1 : Int) (b2 : Int) (b3 : Int) (b4 : Int) , G b0 = some 2 → f_Prog_bitsOf_5  n A b0 b1 b2 b3 b4 = some (r9, A9) → HM g D G q A 5 [(0, vr 2 b0), (1, vi b1), (2, vi b2), (3, vi b3), (4, vi b4)] [] := by
    intro n
    induction n with
    | zero => intro A b0 b1 b2 b3 b4 h_b0 h; cases h
    | succ n ih =>
      intro A b0 b1 b2 b3 b4 h_b0 h
      unfold f_Prog_bitsOf_5 at h
      refine h_blk 8 [(0, vr 2 b0), (1, vi b1), (2, vi b2), (3, vi b3), (4, vi b4)] [vi b2, vi b4] C f_hx_Prog_bitsOf_5_2 rfl ?_
      obtain ⟨c1, h⟩ := igd h
      obtain ⟨c2, h⟩ := igd h
      refine h_icmp_ge (tgt := 53) C e_hx_Prog_bitsOf_8 (by decide) c1 c2 (fun c3 => ?_) (fun c3 => ?_)
      · have h := ifp c3 h
        refine h_blk 54 [(0, vr 2 b0), (1, vi b1), (2, vi b2), (3, vi b3), (4, vi b4)] [vi b3] C f_hx_Prog_bitsOf_53_1 rfl ?_
        exact h_iret C Rm E e_hx_Prog_bitsOf_54 (fin1 h)
      · have h := ifn c3 h
        refine h_blk 15 [(0, vr 2 b0), (1, vi b1), (2, vi b2), (3, vi b3), (4, vi b4)] [vi b4, vr 2 b0, vi b3] C f_hx_Prog_bitsOf_11_3 rfl ?_
        obtain ⟨q4, e5, h⟩ := obd h
        refine h_callV C Rm Y [vi b4] [vi b3] (hx_Prog_stepAt l D B H0 G _ b0 b4 h_b0 _ _ e5) cl_Prog_54 h_b0 rfl rfl rfl e_hx_Prog_bitsOf_15 rfl rfl rfl ⟨by decide, by decide⟩ ?_
        rintro _ _ ⟨rfl, rfl, g6⟩
        show HM g D G q q4.2 18 [(0, vr 2 b0), (1, vi b1), (2, vi b2), (3, vi b3), (4, vi b4)] [vr 6 q4.1.toNat, vi b3]
        refine h_geti C e_hx_Prog_bitsOf_18 fg_Prog_123 g6 rfl rfl rfl (q4.2 6 q4.1.toNat 4) rfl ?_
        refine h_blk 23 [(0, vr 2 b0), (1, vi b1), (2, vi b2), (3, vi b3), (4, vi b4)] [vi b1, vr 2 b0, vi (q4.2 6 q4.1.toNat 4), vi b3] C f_hx_Prog_bitsOf_21_2 rfl ?_
        obtain ⟨q7, e8, h⟩ := obd h
        refine h_callV C Rm Y [vi b1] [vi (q4.2 6 q4.1.toNat 4), vi b3] (hx_Prog_stepAt l D B H0 G _ b0 b1 h_b0 _ _ e8) cl_Prog_54 h_b0 rfl rfl rfl e_hx_Prog_bitsOf_23 rfl rfl rfl ⟨by decide, by decide⟩ ?_
        rintro _ _ ⟨rfl, rfl, g9⟩
        show HM g D G q q7.2 26 [(0, vr 2 b0), (1, vi b1), (2, vi b2), (3, vi b3), (4, vi b4)] [vr 6 q7.1.toNat, vi (q4.2 6 q4.1.toNat 4), vi b3]
        refine h_geti C e_hx_Prog_bitsOf_26 fg_Prog_123 g9 rfl rfl rfl (q7.2 6 q7.1.toNat 4) rfl ?_
        obtain ⟨c10, h⟩ := igd h
        obtain ⟨c11, h⟩ := igd h
        refine h_icmp_ne (tgt := 44) C e_hx_Prog_bitsOf_29 (by decide) c10 c11 (fun c12 => ?_) (fun c12 => ?_)
        · have h := ifn c12 h
          refine h_blk 5 [(4, vi (b4 + 1)), (3, vi (b3 + 0)), (0, vr 2 b0), (1, vi b1), (2, vi b2)] [] C f_hx_Prog_bitsOf_44_5 rfl ?_
          refine h_loc [(0, vr 2 b0), (1, vi b1), (2, vi b2), (3, vi (b3 + 0)), (4, vi (b4 + 1))] ⟨rfl, rfl, rfl, rfl, rfl, trivial⟩ ?_
          exact ih q7.2 b0 b1 b2 (b3 + 0) (b4 + 1) (h_b0) h
        · have h := ifp c12 h
          refine h_blk 35 [(0, vr 2 b0), (1, vi b1), (2, vi b2), (3, vi b3), (4, vi b4)] [vi b4, vr 2 b0, vi b3] C f_hx_Prog_bitsOf_32_2 rfl ?_
          obtain ⟨q13, e14, h⟩ := obd h
          refine h_callV C Rm Y [vi b4] [vi b3] (hx_Prog_stepAt l D B H0 G _ b0 b4 h_b0 _ _ e14) cl_Prog_54 h_b0 rfl rfl rfl e_hx_Prog_bitsOf_35 rfl rfl rfl ⟨by decide, by decide⟩ ?_
          rintro _ _ ⟨rfl, rfl, g15⟩
          show HM g D G q q13.2 38 [(0, vr 2 b0), (1, vi b1), (2, vi b2), (3, vi b3), (4, vi b4)] [vr 6 q13.1.toNat, vi b3]
          refine h_geti C e_hx_Prog_bitsOf_38 fg_Prog_114 g15 rfl rfl rfl (q13.2 6 q13.1.toNat 7) rfl ?_
          refine h_blk 45 [(0, vr 2 b0), (1, vi b1), (2, vi b2), (3, vi b3), (4, vi b4)] [vi (q13.2 6 q13.1.toNat 7), vi b3] C f_hx_Prog_bitsOf_41_1 rfl ?_
          refine h_blk 5 [(4, vi (b4 + 1)), (3, vi (b3 + (q13.2 6 q13.1.toNat 7))), (0, vr 2 b0), (1, vi b1), (2, vi b2)] [] C f_hx_Prog_bitsOf_45_4 rfl ?_
          refine h_loc [(0, vr 2 b0), (1, vi b1), (2, vi b2), (3, vi (b3 + (q13.2 6 q13.1.toNat 7))), (4, vi (b4 + 1))] ⟨rfl, rfl, rfl, rfl, rfl, trivial⟩ ?_
          exact ih q13.2 b0 b1 b2 (b3 + (q13.2 6 q13.1.toNat 7)) (b4 + 1) (h_b0) h
  show HM g D G q A 0 [(0, vr 2 o), (1, vi a0), (2, vi a1)] []
  unfold f_Prog_bitsOf at h
  refine h_blk 5 [(4, vi a0), (3, vi 0), (0, vr 2 o), (1, vi a0), (2, vi a1)] [] C f_hx_Prog_bitsOf_0_4 rfl ?_
  refine h_loc [(0, vr 2 o), (1, vi a0), (2, vi a1), (3, vi 0), (4, vi a0)] ⟨rfl, rfl, rfl, rfl, rfl, trivial⟩ ?_
  exact hd_5 _ A o a0 a1 0 a0 (h_o) h

def f_Prog_turnsOf_5 : Nat → mA → Nat → Int → Int → Int → Int → Option (Int × mA)
  | 0, _, _, _, _, _, _ => none
  | n + 1, A, b0, b1, b2, b3, b4 => (if g32 b4 then if g32 b2 then (if b2 ≤ b4 then (some (b3, A)) else (Option.bind (f_Prog_stepAt A b0 b4) (fun q4 => (Option.bind (f_Prog_stepAt q4.2 b0 b1) (fun q7 => (if g32 (q4.2 6 q4.1.toNat 4) then if g32 (q7.2 6 q7.1.toNat 4) then (if (q4.2 6 q4.1.toNat 4) = (q7.2 6 q7.1.toNat 4) then (Option.bind (f_Prog_stepAt q7.2 b0 b4) (fun q13 => (f_Prog_turnsOf_5  n q13.2 b0 b1 b2 (b3 + (q13.2 6 q13.1.toNat 8)) (b4 + 1)))) else (f_Prog_turnsOf_5  n q7.2 b0 b1 b2 (b3 + 0) (b4 + 1))) else none else none)))))) else none else none)
def f_Prog_turnsOf (A : mA) (o : Nat) (a0 : Int) (a1 : Int) : Option (Int × mA) := (f_Prog_turnsOf_5  20 A o a0 a1 0 a0)
theorem f_hx_Prog_turnsOf_0_4 : mblkB b_Prog_turnsOf [(0, .iconst 0, vi 0), (1, .istore_n 3, vi 0), (2, .iload_n 1, vi 0), (3, .istore 4, vi 0)] = true := by decide +kernel
theorem f_hx_Prog_turnsOf_5_2 : mblkB b_Prog_turnsOf [(5, .iload 4, vi 0), (7, .iload_n 2, vi 0)] = true := by decide +kernel
theorem e_hx_Prog_turnsOf_8 : decode b_Prog_turnsOf 8 = .ok (.if_icmp .ge 45, 3) := by decide +kernel
theorem f_hx_Prog_turnsOf_53_1 : mblkB b_Prog_turnsOf [(53, .iload_n 3, vi 0)] = true := by decide +kernel
theorem e_hx_Prog_turnsOf_54 : decode b_Prog_turnsOf 54 = .ok (.ireturn, 1) := by decide +kernel
theorem f_hx_Prog_turnsOf_11_3 : mblkB b_Prog_turnsOf [(11, .iload_n 3, vi 0), (12, .aload_n 0, vi 0), (13, .iload 4, vi 0)] = true := by decide +kernel
theorem e_hx_Prog_turnsOf_15 : decode b_Prog_turnsOf 15 = .ok (.invokevirtual 54, 3) := by decide +kernel
theorem e_hx_Prog_turnsOf_18 : decode b_Prog_turnsOf 18 = .ok (.getfield 123, 3) := by decide +kernel
theorem f_hx_Prog_turnsOf_21_2 : mblkB b_Prog_turnsOf [(21, .aload_n 0, vi 0), (22, .iload_n 1, vi 0)] = true := by decide +kernel
theorem e_hx_Prog_turnsOf_23 : decode b_Prog_turnsOf 23 = .ok (.invokevirtual 54, 3) := by decide +kernel
theorem e_hx_Prog_turnsOf_26 : decode b_Prog_turnsOf 26 = .ok (.getfield 123, 3) := by decide +kernel
theorem e_hx_Prog_turnsOf_29 : decode b_Prog_turnsOf 29 = .ok (.if_icmp .ne 15, 3) := by decide +kernel
theorem f_hx_Prog_turnsOf_44_5 : mblkB b_Prog_turnsOf [(44, .iconst 0, vi 0), (45, .iadd, vi 0), (46, .istore_n 3, vi 0), (47, .iinc 4 1, vi 1), (50, .goto (-45), vi 5)] = true := by decide +kernel
theorem f_hx_Prog_turnsOf_32_2 : mblkB b_Prog_turnsOf [(32, .aload_n 0, vi 0), (33, .iload 4, vi 0)] = true := by decide +kernel
theorem e_hx_Prog_turnsOf_35 : decode b_Prog_turnsOf 35 = .ok (.invokevirtual 54, 3) := by decide +kernel
theorem e_hx_Prog_turnsOf_38 : decode b_Prog_turnsOf 38 = .ok (.getfield 115, 3) := by decide +kernel
theorem f_hx_Prog_turnsOf_41_1 : mblkB b_Prog_turnsOf [(41, .goto 4, vi 45)] = true := by decide +kernel
theorem f_hx_Prog_turnsOf_45_4 : mblkB b_Prog_turnsOf [(45, .iadd, vi 0), (46, .istore_n 3, vi 0), (47, .iinc 4 1, vi 1), (50, .goto (-45), vi 5)] = true := by decide +kernel
set_option maxHeartbeats 4000000 in
set_option maxRecDepth 20000 in
theorem hx_Prog_turnsOf  : ∀ (l : Launch) (D : va_G) (B : Nat) (H0 : Heap) (G : tG) (A : mA) (o : Nat) (a0 : Int) (a1 : Int) (h_o : G o = some 2)  (r9 : Int) (A9 : mA), f_Prog_turnsOf  A o a0 a1 = some (r9, A9) → hMet l D B H0 G y_Prog_turnsOf b_Prog_turnsOf 5 (some .int) 1 21 [vr 2 o, vi a0, vi a1] A (fun v A' => v = some (vi r9) ∧ A' = A9) := by
  intro l D B H0 G A o a0 a1 h_o r9 A9 h
  refine h_met (by decide) rfl (fun g q C Rm Y E => ?_)
  have hd_5 : ∀ (n : Nat) (A : mA) (b0 : Nat) (b1 : Int) (b2 : Int) (b3 : Int) (b4 : Int) , G b0 = some 2 → f_Prog_turnsOf_5  n A b0 b1 b2 b3 b4 = some (r9, A9) → HM g D G q A 5 [(0, vr 2 b0), (1, vi b1), (2, vi b2), (3, vi b3), (4, vi b4)] [] := by
    intro n
    induction n with
    | zero => intro A b0 b1 b2 b3 b4 h_b0 h; cases h
    | succ n ih =>
      intro A b0 b1 b2 b3 b4 h_b0 h
      unfold f_Prog_turnsOf_5 at h
      refine h_blk 8 [(0, vr 2 b0), (1, vi b1), (2, vi b2), (3, vi b3), (4, vi b4)] [vi b2, vi b4] C f_hx_Prog_turnsOf_5_2 rfl ?_
      obtain ⟨c1, h⟩ := igd h
      obtain ⟨c2, h⟩ := igd h
      refine h_icmp_ge (tgt := 53) C e_hx_Prog_turnsOf_8 (by decide) c1 c2 (fun c3 => ?_) (fun c3 => ?_)
      · have h := ifp c3 h
        refine h_blk 54 [(0, vr 2 b0), (1, vi b1), (2, vi b2), (3, vi b3), (4, vi b4)] [vi b3] C f_hx_Prog_turnsOf_53_1 rfl ?_
        exact h_iret C Rm E e_hx_Prog_turnsOf_54 (fin1 h)
      · have h := ifn c3 h
        refine h_blk 15 [(0, vr 2 b0), (1, vi b1), (2, vi b2), (3, vi b3), (4, vi b4)] [vi b4, vr 2 b0, vi b3] C f_hx_Prog_turnsOf_11_3 rfl ?_
        obtain ⟨q4, e5, h⟩ := obd h
        refine h_callV C Rm Y [vi b4] [vi b3] (hx_Prog_stepAt l D B H0 G _ b0 b4 h_b0 _ _ e5) cl_Prog_54 h_b0 rfl rfl rfl e_hx_Prog_turnsOf_15 rfl rfl rfl ⟨by decide, by decide⟩ ?_
        rintro _ _ ⟨rfl, rfl, g6⟩
        show HM g D G q q4.2 18 [(0, vr 2 b0), (1, vi b1), (2, vi b2), (3, vi b3), (4, vi b4)] [vr 6 q4.1.toNat, vi b3]
        refine h_geti C e_hx_Prog_turnsOf_18 fg_Prog_123 g6 rfl rfl rfl (q4.2 6 q4.1.toNat 4) rfl ?_
        refine h_blk 23 [(0, vr 2 b0), (1, vi b1), (2, vi b2), (3, vi b3), (4, vi b4)] [vi b1, vr 2 b0, vi (q4.2 6 q4.1.toNat 4), vi b3] C f_hx_Prog_turnsOf_21_2 rfl ?_
        obtain ⟨q7, e8, h⟩ := obd h
        refine h_callV C Rm Y [vi b1] [vi (q4.2 6 q4.1.toNat 4), vi b3] (hx_Prog_stepAt l D B H0 G _ b0 b1 h_b0 _ _ e8) cl_Prog_54 h_b0 rfl rfl rfl e_hx_Prog_turnsOf_23 rfl rfl rfl ⟨by decide, by decide⟩ ?_
        rintro _ _ ⟨rfl, rfl, g9⟩
        show HM g D G q q7.2 26 [(0, vr 2 b0), (1, vi b1), (2, vi b2), (3, vi b3), (4, vi b4)] [vr 6 q7.1.toNat, vi (q4.2 6 q4.1.toNat 4), vi b3]
        refine h_geti C e_hx_Prog_turnsOf_26 fg_Prog_123 g9 rfl rfl rfl (q7.2 6 q7.1.toNat 4) rfl ?_
        obtain ⟨c10, h⟩ := igd h
        obtain ⟨c11, h⟩ := igd h
        refine h_icmp_ne (tgt := 44) C e_hx_Prog_turnsOf_29 (by decide) c10 c11 (fun c12 => ?_) (fun c12 => ?_)
        · have h := ifn c12 h
          refine h_blk 5 [(4, vi (b4 + 1)), (3, vi (b3 + 0)), (0, vr 2 b0), (1, vi b1), (2, vi b2)] [] C f_hx_Prog_turnsOf_44_5 rfl ?_
          refine h_loc [(0, vr 2 b0), (1, vi b1), (2, vi b2), (3, vi (b3 + 0)), (4, vi (b4 + 1))] ⟨rfl, rfl, rfl, rfl, rfl, trivial⟩ ?_
          exact ih q7.2 b0 b1 b2 (b3 + 0) (b4 + 1) (h_b0) h
        · have h := ifp c12 h
          refine h_blk 35 [(0, vr 2 b0), (1, vi b1), (2, vi b2), (3, vi b3), (4, vi b4)] [vi b4, vr 2 b0, vi b3] C f_hx_Prog_turnsOf_32_2 rfl ?_
          obtain ⟨q13, e14, h⟩ := obd h
          refine h_callV C Rm Y [vi b4] [vi b3] (hx_Prog_stepAt l D B H0 G _ b0 b4 h_b0 _ _ e14) cl_Prog_54 h_b0 rfl rfl rfl e_hx_Prog_turnsOf_35 rfl rfl rfl ⟨by decide, by decide⟩ ?_
          rintro _ _ ⟨rfl, rfl, g15⟩
          show HM g D G q q13.2 38 [(0, vr 2 b0), (1, vi b1), (2, vi b2), (3, vi b3), (4, vi b4)] [vr 6 q13.1.toNat, vi b3]
          refine h_geti C e_hx_Prog_turnsOf_38 fg_Prog_115 g15 rfl rfl rfl (q13.2 6 q13.1.toNat 8) rfl ?_
          refine h_blk 45 [(0, vr 2 b0), (1, vi b1), (2, vi b2), (3, vi b3), (4, vi b4)] [vi (q13.2 6 q13.1.toNat 8), vi b3] C f_hx_Prog_turnsOf_41_1 rfl ?_
          refine h_blk 5 [(4, vi (b4 + 1)), (3, vi (b3 + (q13.2 6 q13.1.toNat 8))), (0, vr 2 b0), (1, vi b1), (2, vi b2)] [] C f_hx_Prog_turnsOf_45_4 rfl ?_
          refine h_loc [(0, vr 2 b0), (1, vi b1), (2, vi b2), (3, vi (b3 + (q13.2 6 q13.1.toNat 8))), (4, vi (b4 + 1))] ⟨rfl, rfl, rfl, rfl, rfl, trivial⟩ ?_
          exact ih q13.2 b0 b1 b2 (b3 + (q13.2 6 q13.1.toNat 8)) (b4 + 1) (h_b0) h
  show HM g D G q A 0 [(0, vr 2 o), (1, vi a0), (2, vi a1)] []
  unfold f_Prog_turnsOf at h
  refine h_blk 5 [(4, vi a0), (3, vi 0), (0, vr 2 o), (1, vi a0), (2, vi a1)] [] C f_hx_Prog_turnsOf_0_4 rfl ?_
  refine h_loc [(0, vr 2 o), (1, vi a0), (2, vi a1), (3, vi 0), (4, vi a0)] ⟨rfl, rfl, rfl, rfl, rfl, trivial⟩ ?_
  exact hd_5 _ A o a0 a1 0 a0 (h_o) h

def f_Prog_weighStep (A : mA) (o : Nat) (a0 : Nat) (a1 : Int) (a2 : Nat) : Option (Int × mA) := (Option.bind (f_Prog_behind A o a1) (fun q1 => (if g32 (q1.2 6 a0 0) then (if (q1.2 6 a0 0) = 2 then (some (0, (mu q1.2 6 a0 12 1))) else (if (q1.2 6 a0 0) = 3 then (Option.bind (f_Prog_bitsOf q1.2 o (a1 + 1) (q1.2 6 a0 5)) (fun q25 => (Option.bind (f_Prog_bitsOf q25.2 o (q25.2 6 a0 5) q1.1) (fun q27 => (if g32 q25.1 then (if g32 q27.1 then (Option.bind (f_Prog_turnsOf (mu q27.2 6 a0 7 (max q25.1 q27.1)) o (a1 + 1) (q27.2 6 a0 5)) (fun q32 => (Option.bind (f_Prog_turnsOf q32.2 o (q32.2 6 a0 5) q1.1) (fun q34 => (some (0, (mu q34.2 6 a0 8 ((1 + q32.1) + q34.1)))))))) else none) else none))))) else (if (q1.2 6 a0 0) = 4 then (Option.bind (f_Prog_bitsOf q1.2 o (a1 + 1) q1.1) (fun q21 => (Option.bind (f_Prog_turnsOf (mu q21.2 6 a0 7 ((q1.2 6 a0 2) * q21.1)) o (a1 + 1) q1.1) (fun q23 => (some (0, (mu q23.2 6 a0 8 (1 + ((q21.2 6 a0 2) * q23.1))))))))) else (if (q1.2 6 a0 0) = 5 then (if g32 (q1.2 6 a0 2) then (if (q1.2 6 a0 2) < 0 then (some (0, q1.2)) else (if g32 ((6 : Nat) : Int) then (if ((6 : Nat) : Int) ≤ (q1.2 6 a0 2) then (some (0, q1.2)) else (if (0 ≤ (q1.2 6 a0 2) ∧ (q1.2 6 a0 2) < ((6 : Nat) : Int)) then (if 0 ≤ (q1.2 21 a2 ((q1.2 6 a0 2).toNat)) then (if 0 ≤ ((mu q1.2 6 a0 13 (((q1.2 21 a2 ((q1.2 6 a0 2).toNat)).toNat : Nat) : Int)) 6 a0 13) then (if ((q1.2 2 (((mu q1.2 6 a0 13 (((q1.2 21 a2 ((q1.2 6 a0 2).toNat)).toNat : Nat) : Int)) 6 a0 13).toNat) 11) = 0 ∨ (q1.2 2 (((mu q1.2 6 a0 13 (((q1.2 21 a2 ((q1.2 6 a0 2).toNat)).toNat : Nat) : Int)) 6 a0 13).toNat) 11) = 1) then (some (0, (mu (mu (mu (mu q1.2 6 a0 13 (((q1.2 21 a2 ((q1.2 6 a0 2).toNat)).toNat : Nat) : Int)) 6 a0 7 (q1.2 2 (((mu q1.2 6 a0 13 (((q1.2 21 a2 ((q1.2 6 a0 2).toNat)).toNat : Nat) : Int)) 6 a0 13).toNat) 8)) 6 a0 8 (1 + (q1.2 2 (((mu q1.2 6 a0 13 (((q1.2 21 a2 ((q1.2 6 a0 2).toNat)).toNat : Nat) : Int)) 6 a0 13).toNat) 9))) 6 a0 12 (q1.2 2 (((mu q1.2 6 a0 13 (((q1.2 21 a2 ((q1.2 6 a0 2).toNat)).toNat : Nat) : Int)) 6 a0 13).toNat) 11)))) else none) else none) else none) else none)) else none)) else none) else (some (0, q1.2)))))) else none)))
theorem f_hx_Prog_weighStep_0_2 : mblkB b_Prog_weighStep [(0, .aload_n 0, vi 0), (1, .iload_n 2, vi 0)] = true := by decide +kernel
theorem e_hx_Prog_weighStep_2 : decode b_Prog_weighStep 2 = .ok (.invokevirtual 104, 3) := by decide +kernel
theorem f_hx_Prog_weighStep_5_2 : mblkB b_Prog_weighStep [(5, .istore 4, vi 0), (7, .aload_n 1, vi 0)] = true := by decide +kernel
theorem e_hx_Prog_weighStep_8 : decode b_Prog_weighStep 8 = .ok (.getfield 108, 3) := by decide +kernel
theorem f_hx_Prog_weighStep_11_1 : mblkB b_Prog_weighStep [(11, .iconst 2, vi 2)] = true := by decide +kernel
theorem e_hx_Prog_weighStep_12 : decode b_Prog_weighStep 12 = .ok (.if_icmp .ne 11, 3) := by decide +kernel
theorem f_hx_Prog_weighStep_23_1 : mblkB b_Prog_weighStep [(23, .aload_n 1, vi 0)] = true := by decide +kernel
theorem e_hx_Prog_weighStep_24 : decode b_Prog_weighStep 24 = .ok (.getfield 108, 3) := by decide +kernel
theorem f_hx_Prog_weighStep_27_1 : mblkB b_Prog_weighStep [(27, .iconst 3, vi 3)] = true := by decide +kernel
theorem e_hx_Prog_weighStep_28 : decode b_Prog_weighStep 28 = .ok (.if_icmp .ne 62, 3) := by decide +kernel
theorem f_hx_Prog_weighStep_90_1 : mblkB b_Prog_weighStep [(90, .aload_n 1, vi 0)] = true := by decide +kernel
theorem e_hx_Prog_weighStep_91 : decode b_Prog_weighStep 91 = .ok (.getfield 108, 3) := by decide +kernel
theorem f_hx_Prog_weighStep_94_1 : mblkB b_Prog_weighStep [(94, .iconst 4, vi 4)] = true := by decide +kernel
theorem e_hx_Prog_weighStep_95 : decode b_Prog_weighStep 95 = .ok (.if_icmp .ne 44, 3) := by decide +kernel
theorem f_hx_Prog_weighStep_139_1 : mblkB b_Prog_weighStep [(139, .aload_n 1, vi 0)] = true := by decide +kernel
theorem e_hx_Prog_weighStep_140 : decode b_Prog_weighStep 140 = .ok (.getfield 108, 3) := by decide +kernel
theorem f_hx_Prog_weighStep_143_1 : mblkB b_Prog_weighStep [(143, .iconst 5, vi 5)] = true := by decide +kernel
theorem e_hx_Prog_weighStep_144 : decode b_Prog_weighStep 144 = .ok (.if_icmp .ne 71, 3) := by decide +kernel
theorem e_hx_Prog_weighStep_215 : decode b_Prog_weighStep 215 = .ok (.return_, 1) := by decide +kernel
theorem f_hx_Prog_weighStep_147_1 : mblkB b_Prog_weighStep [(147, .aload_n 1, vi 0)] = true := by decide +kernel
theorem e_hx_Prog_weighStep_148 : decode b_Prog_weighStep 148 = .ok (.getfield 116, 3) := by decide +kernel
theorem e_hx_Prog_weighStep_151 : decode b_Prog_weighStep 151 = .ok (.ifCond .lt 64, 3) := by decide +kernel
theorem f_hx_Prog_weighStep_154_1 : mblkB b_Prog_weighStep [(154, .aload_n 1, vi 0)] = true := by decide +kernel
theorem e_hx_Prog_weighStep_155 : decode b_Prog_weighStep 155 = .ok (.getfield 116, 3) := by decide +kernel
theorem f_hx_Prog_weighStep_158_1 : mblkB b_Prog_weighStep [(158, .aload_n 3, vi 0)] = true := by decide +kernel
theorem e_hx_Prog_weighStep_159 : decode b_Prog_weighStep 159 = .ok (.arraylength, 1) := by decide +kernel
theorem e_hx_Prog_weighStep_160 : decode b_Prog_weighStep 160 = .ok (.if_icmp .ge 55, 3) := by decide +kernel
theorem f_hx_Prog_weighStep_163_3 : mblkB b_Prog_weighStep [(163, .aload_n 1, vi 0), (164, .aload_n 3, vi 0), (165, .aload_n 1, vi 0)] = true := by decide +kernel
theorem e_hx_Prog_weighStep_166 : decode b_Prog_weighStep 166 = .ok (.getfield 116, 3) := by decide +kernel
theorem e_hx_Prog_weighStep_169 : decode b_Prog_weighStep 169 = .ok (.aaload, 1) := by decide +kernel
theorem e_hx_Prog_weighStep_170 : decode b_Prog_weighStep 170 = .ok (.putfield 119, 3) := by decide +kernel
theorem f_hx_Prog_weighStep_173_1 : mblkB b_Prog_weighStep [(173, .aload_n 1, vi 0)] = true := by decide +kernel
theorem e_hx_Prog_weighStep_174 : decode b_Prog_weighStep 174 = .ok (.getfield 119, 3) := by decide +kernel
theorem e_hx_Prog_weighStep_177 : decode b_Prog_weighStep 177 = .ok (.ifnull 38, 3) := by decide +kernel
theorem f_hx_Prog_weighStep_180_2 : mblkB b_Prog_weighStep [(180, .aload_n 1, vi 0), (181, .aload_n 1, vi 0)] = true := by decide +kernel
theorem e_hx_Prog_weighStep_182 : decode b_Prog_weighStep 182 = .ok (.getfield 119, 3) := by decide +kernel
theorem e_hx_Prog_weighStep_185 : decode b_Prog_weighStep 185 = .ok (.getfield 95, 3) := by decide +kernel
theorem e_hx_Prog_weighStep_188 : decode b_Prog_weighStep 188 = .ok (.putfield 114, 3) := by decide +kernel
theorem f_hx_Prog_weighStep_191_3 : mblkB b_Prog_weighStep [(191, .aload_n 1, vi 0), (192, .iconst 1, vi 1), (193, .aload_n 1, vi 0)] = true := by decide +kernel
theorem e_hx_Prog_weighStep_194 : decode b_Prog_weighStep 194 = .ok (.getfield 119, 3) := by decide +kernel
theorem e_hx_Prog_weighStep_197 : decode b_Prog_weighStep 197 = .ok (.getfield 101, 3) := by decide +kernel
theorem f_hx_Prog_weighStep_200_1 : mblkB b_Prog_weighStep [(200, .iadd, vi 0)] = true := by decide +kernel
theorem e_hx_Prog_weighStep_201 : decode b_Prog_weighStep 201 = .ok (.putfield 115, 3) := by decide +kernel
theorem f_hx_Prog_weighStep_204_2 : mblkB b_Prog_weighStep [(204, .aload_n 1, vi 0), (205, .aload_n 1, vi 0)] = true := by decide +kernel
theorem e_hx_Prog_weighStep_206 : decode b_Prog_weighStep 206 = .ok (.getfield 119, 3) := by decide +kernel
theorem e_hx_Prog_weighStep_209 : decode b_Prog_weighStep 209 = .ok (.getfield 77, 3) := by decide +kernel
theorem e_hx_Prog_weighStep_212 : decode b_Prog_weighStep 212 = .ok (.putfield 91, 3) := by decide +kernel
theorem f_hx_Prog_weighStep_98_2 : mblkB b_Prog_weighStep [(98, .aload_n 1, vi 0), (99, .aload_n 1, vi 0)] = true := by decide +kernel
theorem e_hx_Prog_weighStep_100 : decode b_Prog_weighStep 100 = .ok (.getfield 116, 3) := by decide +kernel
theorem f_hx_Prog_weighStep_103_5 : mblkB b_Prog_weighStep [(103, .aload_n 0, vi 0), (104, .iload_n 2, vi 0), (105, .iconst 1, vi 1), (106, .iadd, vi 0), (107, .iload 4, vi 0)] = true := by decide +kernel
theorem e_hx_Prog_weighStep_109 : decode b_Prog_weighStep 109 = .ok (.invokevirtual 92, 3) := by decide +kernel
theorem f_hx_Prog_weighStep_112_1 : mblkB b_Prog_weighStep [(112, .imul, vi 0)] = true := by decide +kernel
theorem e_hx_Prog_weighStep_113 : decode b_Prog_weighStep 113 = .ok (.putfield 114, 3) := by decide +kernel
theorem f_hx_Prog_weighStep_116_3 : mblkB b_Prog_weighStep [(116, .aload_n 1, vi 0), (117, .iconst 1, vi 1), (118, .aload_n 1, vi 0)] = true := by decide +kernel
theorem e_hx_Prog_weighStep_119 : decode b_Prog_weighStep 119 = .ok (.getfield 116, 3) := by decide +kernel
theorem f_hx_Prog_weighStep_122_5 : mblkB b_Prog_weighStep [(122, .aload_n 0, vi 0), (123, .iload_n 2, vi 0), (124, .iconst 1, vi 1), (125, .iadd, vi 0), (126, .iload 4, vi 0)] = true := by decide +kernel
theorem e_hx_Prog_weighStep_128 : decode b_Prog_weighStep 128 = .ok (.invokevirtual 98, 3) := by decide +kernel
theorem f_hx_Prog_weighStep_131_2 : mblkB b_Prog_weighStep [(131, .imul, vi 0), (132, .iadd, vi 0)] = true := by decide +kernel
theorem e_hx_Prog_weighStep_133 : decode b_Prog_weighStep 133 = .ok (.putfield 115, 3) := by decide +kernel
theorem f_hx_Prog_weighStep_136_1 : mblkB b_Prog_weighStep [(136, .goto 79, vi 215)] = true := by decide +kernel
theorem f_hx_Prog_weighStep_31_6 : mblkB b_Prog_weighStep [(31, .aload_n 1, vi 0), (32, .aload_n 0, vi 0), (33, .iload_n 2, vi 0), (34, .iconst 1, vi 1), (35, .iadd, vi 0), (36, .aload_n 1, vi 0)] = true := by decide +kernel
theorem e_hx_Prog_weighStep_37 : decode b_Prog_weighStep 37 = .ok (.getfield 111, 3) := by decide +kernel
theorem e_hx_Prog_weighStep_40 : decode b_Prog_weighStep 40 = .ok (.invokevirtual 92, 3) := by decide +kernel
theorem f_hx_Prog_weighStep_43_2 : mblkB b_Prog_weighStep [(43, .aload_n 0, vi 0), (44, .aload_n 1, vi 0)] = true := by decide +kernel
theorem e_hx_Prog_weighStep_45 : decode b_Prog_weighStep 45 = .ok (.getfield 111, 3) := by decide +kernel
theorem f_hx_Prog_weighStep_48_1 : mblkB b_Prog_weighStep [(48, .iload 4, vi 0)] = true := by decide +kernel
theorem e_hx_Prog_weighStep_50 : decode b_Prog_weighStep 50 = .ok (.invokevirtual 92, 3) := by decide +kernel
theorem e_hx_Prog_weighStep_53 : decode b_Prog_weighStep 53 = .ok (.invokestatic 68, 3) := by decide +kernel
theorem e_hx_Prog_weighStep_56 : decode b_Prog_weighStep 56 = .ok (.putfield 114, 3) := by decide +kernel
theorem f_hx_Prog_weighStep_59_7 : mblkB b_Prog_weighStep [(59, .aload_n 1, vi 0), (60, .iconst 1, vi 1), (61, .aload_n 0, vi 0), (62, .iload_n 2, vi 0), (63, .iconst 1, vi 1), (64, .iadd, vi 0), (65, .aload_n 1, vi 0)] = true := by decide +kernel
theorem e_hx_Prog_weighStep_66 : decode b_Prog_weighStep 66 = .ok (.getfield 111, 3) := by decide +kernel
theorem e_hx_Prog_weighStep_69 : decode b_Prog_weighStep 69 = .ok (.invokevirtual 98, 3) := by decide +kernel
theorem f_hx_Prog_weighStep_72_3 : mblkB b_Prog_weighStep [(72, .iadd, vi 0), (73, .aload_n 0, vi 0), (74, .aload_n 1, vi 0)] = true := by decide +kernel
theorem e_hx_Prog_weighStep_75 : decode b_Prog_weighStep 75 = .ok (.getfield 111, 3) := by decide +kernel
theorem f_hx_Prog_weighStep_78_1 : mblkB b_Prog_weighStep [(78, .iload 4, vi 0)] = true := by decide +kernel
theorem e_hx_Prog_weighStep_80 : decode b_Prog_weighStep 80 = .ok (.invokevirtual 98, 3) := by decide +kernel
theorem f_hx_Prog_weighStep_83_1 : mblkB b_Prog_weighStep [(83, .iadd, vi 0)] = true := by decide +kernel
theorem e_hx_Prog_weighStep_84 : decode b_Prog_weighStep 84 = .ok (.putfield 115, 3) := by decide +kernel
theorem f_hx_Prog_weighStep_87_1 : mblkB b_Prog_weighStep [(87, .goto 128, vi 215)] = true := by decide +kernel
theorem f_hx_Prog_weighStep_15_2 : mblkB b_Prog_weighStep [(15, .aload_n 1, vi 0), (16, .iconst 1, vi 1)] = true := by decide +kernel
theorem e_hx_Prog_weighStep_17 : decode b_Prog_weighStep 17 = .ok (.putfield 91, 3) := by decide +kernel
theorem f_hx_Prog_weighStep_20_1 : mblkB b_Prog_weighStep [(20, .goto 195, vi 215)] = true := by decide +kernel
set_option maxHeartbeats 4000000 in
set_option maxRecDepth 20000 in
theorem hx_Prog_weighStep  : ∀ (l : Launch) (D : va_G) (B : Nat) (H0 : Heap) (G : tG) (A : mA) (o : Nat) (a0 : Nat) (a1 : Int) (a2 : Nat) (h_o : G o = some 2) (h_a0 : G a0 = some 6) (h_a2 : G a2 = some 21)  (r9 : Int) (A9 : mA), f_Prog_weighStep  A o a0 a1 a2 = some (r9, A9) → hMet l D B H0 G y_Prog_weighStep b_Prog_weighStep 5 none 2 61 [vr 2 o, vr 6 a0, vi a1, vr 21 a2] A (fun v A' => v = none ∧ A' = A9) := by
  intro l D B H0 G A o a0 a1 a2 h_o h_a0 h_a2 r9 A9 h
  refine h_met (by decide) rfl (fun g q C Rm Y E => ?_)
  show HM g D G q A 0 [(0, vr 2 o), (1, vr 6 a0), (2, vi a1), (3, vr 21 a2)] []
  unfold f_Prog_weighStep at h
  refine h_blk 2 [(0, vr 2 o), (1, vr 6 a0), (2, vi a1), (3, vr 21 a2)] [vi a1, vr 2 o] C f_hx_Prog_weighStep_0_2 rfl ?_
  obtain ⟨q1, e2, h⟩ := obd h
  refine h_callV C Rm Y [vi a1] [] (hx_Prog_behind l D B H0 G _ o a1 h_o _ _ e2) cl_Prog_104 h_o rfl rfl rfl e_hx_Prog_weighStep_2 rfl rfl rfl ⟨by decide, by decide⟩ ?_
  rintro _ _ ⟨rfl, rfl⟩
  show HM g D G q q1.2 5 [(0, vr 2 o), (1, vr 6 a0), (2, vi a1), (3, vr 21 a2)] [vi q1.1]
  refine h_blk 8 [(4, vi q1.1), (0, vr 2 o), (1, vr 6 a0), (2, vi a1), (3, vr 21 a2)] [vr 6 a0] C f_hx_Prog_weighStep_5_2 rfl ?_
  refine h_geti C e_hx_Prog_weighStep_8 fg_Prog_108 h_a0 rfl rfl rfl (q1.2 6 a0 0) rfl ?_
  refine h_blk 12 [(4, vi q1.1), (0, vr 2 o), (1, vr 6 a0), (2, vi a1), (3, vr 21 a2)] [vi 2, vi (q1.2 6 a0 0)] C f_hx_Prog_weighStep_11_1 rfl ?_
  obtain ⟨c3, h⟩ := igd h
  refine h_icmp_ne (tgt := 23) C e_hx_Prog_weighStep_12 (by decide) c3 (by decide) (fun c4 => ?_) (fun c4 => ?_)
  · have h := ifn c4 h
    refine h_blk 24 [(4, vi q1.1), (0, vr 2 o), (1, vr 6 a0), (2, vi a1), (3, vr 21 a2)] [vr 6 a0] C f_hx_Prog_weighStep_23_1 rfl ?_
    refine h_geti C e_hx_Prog_weighStep_24 fg_Prog_108 h_a0 rfl rfl rfl (q1.2 6 a0 0) rfl ?_
    refine h_blk 28 [(4, vi q1.1), (0, vr 2 o), (1, vr 6 a0), (2, vi a1), (3, vr 21 a2)] [vi 3, vi (q1.2 6 a0 0)] C f_hx_Prog_weighStep_27_1 rfl ?_
    refine h_icmp_ne (tgt := 90) C e_hx_Prog_weighStep_28 (by decide) c3 (by decide) (fun c5 => ?_) (fun c5 => ?_)
    · have h := ifn c5 h
      refine h_blk 91 [(4, vi q1.1), (0, vr 2 o), (1, vr 6 a0), (2, vi a1), (3, vr 21 a2)] [vr 6 a0] C f_hx_Prog_weighStep_90_1 rfl ?_
      refine h_geti C e_hx_Prog_weighStep_91 fg_Prog_108 h_a0 rfl rfl rfl (q1.2 6 a0 0) rfl ?_
      refine h_blk 95 [(4, vi q1.1), (0, vr 2 o), (1, vr 6 a0), (2, vi a1), (3, vr 21 a2)] [vi 4, vi (q1.2 6 a0 0)] C f_hx_Prog_weighStep_94_1 rfl ?_
      refine h_icmp_ne (tgt := 139) C e_hx_Prog_weighStep_95 (by decide) c3 (by decide) (fun c6 => ?_) (fun c6 => ?_)
      · have h := ifn c6 h
        refine h_blk 140 [(4, vi q1.1), (0, vr 2 o), (1, vr 6 a0), (2, vi a1), (3, vr 21 a2)] [vr 6 a0] C f_hx_Prog_weighStep_139_1 rfl ?_
        refine h_geti C e_hx_Prog_weighStep_140 fg_Prog_108 h_a0 rfl rfl rfl (q1.2 6 a0 0) rfl ?_
        refine h_blk 144 [(4, vi q1.1), (0, vr 2 o), (1, vr 6 a0), (2, vi a1), (3, vr 21 a2)] [vi 5, vi (q1.2 6 a0 0)] C f_hx_Prog_weighStep_143_1 rfl ?_
        refine h_icmp_ne (tgt := 215) C e_hx_Prog_weighStep_144 (by decide) c3 (by decide) (fun c7 => ?_) (fun c7 => ?_)
        · have h := ifn c7 h
          exact h_vret C Rm E e_hx_Prog_weighStep_215 (fin0 h)
        · have h := ifp c7 h
          refine h_blk 148 [(4, vi q1.1), (0, vr 2 o), (1, vr 6 a0), (2, vi a1), (3, vr 21 a2)] [vr 6 a0] C f_hx_Prog_weighStep_147_1 rfl ?_
          refine h_geti C e_hx_Prog_weighStep_148 fg_Prog_116 h_a0 rfl rfl rfl (q1.2 6 a0 2) rfl ?_
          obtain ⟨c8, h⟩ := igd h
          refine h_if_lt (tgt := 215) C e_hx_Prog_weighStep_151 (by decide) c8 (fun c9 => ?_) (fun c9 => ?_)
          · have h := ifp c9 h
            exact h_vret C Rm E e_hx_Prog_weighStep_215 (fin0 h)
          · have h := ifn c9 h
            refine h_blk 155 [(4, vi q1.1), (0, vr 2 o), (1, vr 6 a0), (2, vi a1), (3, vr 21 a2)] [vr 6 a0] C f_hx_Prog_weighStep_154_1 rfl ?_
            refine h_geti C e_hx_Prog_weighStep_155 fg_Prog_116 h_a0 rfl rfl rfl (q1.2 6 a0 2) rfl ?_
            refine h_blk 159 [(4, vi q1.1), (0, vr 2 o), (1, vr 6 a0), (2, vi a1), (3, vr 21 a2)] [vr 21 a2, vi (q1.2 6 a0 2)] C f_hx_Prog_weighStep_158_1 rfl ?_
            refine h_alen2 C e_hx_Prog_weighStep_159 rfl h_a2 rfl rfl ?_
            obtain ⟨c10, h⟩ := igd h
            refine h_icmp_ge (tgt := 215) C e_hx_Prog_weighStep_160 (by decide) c8 c10 (fun c11 => ?_) (fun c11 => ?_)
            · have h := ifp c11 h
              exact h_vret C Rm E e_hx_Prog_weighStep_215 (fin0 h)
            · have h := ifn c11 h
              refine h_blk 166 [(4, vi q1.1), (0, vr 2 o), (1, vr 6 a0), (2, vi a1), (3, vr 21 a2)] [vr 6 a0, vr 21 a2, vr 6 a0] C f_hx_Prog_weighStep_163_3 rfl ?_
              refine h_geti C e_hx_Prog_weighStep_166 fg_Prog_116 h_a0 rfl rfl rfl (q1.2 6 a0 2) rfl ?_
              obtain ⟨c12, h⟩ := igd h
              obtain ⟨c13, h⟩ := igd h
              refine h_aald5 C e_hx_Prog_weighStep_169 rfl rfl h_a2 rfl rfl rfl rfl (by decide) c12.1 c12.2 c13 (fun g14 => ?_)
              refine h_putr C e_hx_Prog_weighStep_170 fp_Prog_119 ⟨rfl, rfl⟩ h_a0 rfl rfl (Or.inr rfl) rfl g14 ?_
              refine h_blk 174 [(4, vi q1.1), (0, vr 2 o), (1, vr 6 a0), (2, vi a1), (3, vr 21 a2)] [vr 6 a0] C f_hx_Prog_weighStep_173_1 rfl ?_
              obtain ⟨c15, h⟩ := igd h
              refine h_getr5 C e_hx_Prog_weighStep_174 fg_Prog_119 h_a0 rfl rfl rfl rfl c15 (fun g16 => ?_)
              refine h_ifnull C e_hx_Prog_weighStep_177 ?_
              refine h_blk 182 [(4, vi q1.1), (0, vr 2 o), (1, vr 6 a0), (2, vi a1), (3, vr 21 a2)] [vr 6 a0, vr 6 a0] C f_hx_Prog_weighStep_180_2 rfl ?_
              refine h_getr5 C e_hx_Prog_weighStep_182 fg_Prog_119 h_a0 rfl rfl rfl rfl c15 (fun g17 => ?_)
              refine h_geti C e_hx_Prog_weighStep_185 fg_Prog_95 g17 rfl rfl rfl (q1.2 2 (((mu q1.2 6 a0 13 (((q1.2 21 a2 ((q1.2 6 a0 2).toNat)).toNat : Nat) : Int)) 6 a0 13).toNat) 8) rfl ?_
              refine h_puti C e_hx_Prog_weighStep_188 fp_Prog_114 h_a0 rfl rfl rfl ?_
              refine h_blk 194 [(4, vi q1.1), (0, vr 2 o), (1, vr 6 a0), (2, vi a1), (3, vr 21 a2)] [vr 6 a0, vi 1, vr 6 a0] C f_hx_Prog_weighStep_191_3 rfl ?_
              refine h_getr5 C e_hx_Prog_weighStep_194 fg_Prog_119 h_a0 rfl rfl rfl rfl c15 (fun g18 => ?_)
              refine h_geti C e_hx_Prog_weighStep_197 fg_Prog_101 g18 rfl rfl rfl (q1.2 2 (((mu q1.2 6 a0 13 (((q1.2 21 a2 ((q1.2 6 a0 2).toNat)).toNat : Nat) : Int)) 6 a0 13).toNat) 9) rfl ?_
              refine h_blk 201 [(4, vi q1.1), (0, vr 2 o), (1, vr 6 a0), (2, vi a1), (3, vr 21 a2)] [vi (1 + (q1.2 2 (((mu q1.2 6 a0 13 (((q1.2 21 a2 ((q1.2 6 a0 2).toNat)).toNat : Nat) : Int)) 6 a0 13).toNat) 9)), vr 6 a0] C f_hx_Prog_weighStep_200_1 rfl ?_
              refine h_puti C e_hx_Prog_weighStep_201 fp_Prog_115 h_a0 rfl rfl rfl ?_
              refine h_blk 206 [(4, vi q1.1), (0, vr 2 o), (1, vr 6 a0), (2, vi a1), (3, vr 21 a2)] [vr 6 a0, vr 6 a0] C f_hx_Prog_weighStep_204_2 rfl ?_
              refine h_getr5 C e_hx_Prog_weighStep_206 fg_Prog_119 h_a0 rfl rfl rfl rfl c15 (fun g19 => ?_)
              refine h_geti C e_hx_Prog_weighStep_209 fg_Prog_77 g19 rfl rfl rfl (q1.2 2 (((mu q1.2 6 a0 13 (((q1.2 21 a2 ((q1.2 6 a0 2).toNat)).toNat : Nat) : Int)) 6 a0 13).toNat) 11) rfl ?_
              obtain ⟨c20, h⟩ := igd h
              refine h_putz C e_hx_Prog_weighStep_212 fp_Prog_91 h_a0 rfl rfl rfl c20 ?_
              exact h_vret C Rm E e_hx_Prog_weighStep_215 (fin0 h)
      · have h := ifp c6 h
        refine h_blk 100 [(4, vi q1.1), (0, vr 2 o), (1, vr 6 a0), (2, vi a1), (3, vr 21 a2)] [vr 6 a0, vr 6 a0] C f_hx_Prog_weighStep_98_2 rfl ?_
        refine h_geti C e_hx_Prog_weighStep_100 fg_Prog_116 h_a0 rfl rfl rfl (q1.2 6 a0 2) rfl ?_
        refine h_blk 109 [(4, vi q1.1), (0, vr 2 o), (1, vr 6 a0), (2, vi a1), (3, vr 21 a2)] [vi q1.1, vi (a1 + 1), vr 2 o, vi (q1.2 6 a0 2), vr 6 a0] C f_hx_Prog_weighStep_103_5 rfl ?_
        obtain ⟨q21, e22, h⟩ := obd h
        refine h_callV C Rm Y [vi (a1 + 1), vi q1.1] [vi (q1.2 6 a0 2), vr 6 a0] (hx_Prog_bitsOf l D B H0 G _ o (a1 + 1) q1.1 h_o _ _ e22) cl_Prog_92 h_o rfl rfl rfl e_hx_Prog_weighStep_109 rfl rfl rfl ⟨by decide, by decide⟩ ?_
        rintro _ _ ⟨rfl, rfl⟩
        show HM g D G q q21.2 112 [(4, vi q1.1), (0, vr 2 o), (1, vr 6 a0), (2, vi a1), (3, vr 21 a2)] [vi q21.1, vi (q1.2 6 a0 2), vr 6 a0]
        refine h_blk 113 [(4, vi q1.1), (0, vr 2 o), (1, vr 6 a0), (2, vi a1), (3, vr 21 a2)] [vi ((q1.2 6 a0 2) * q21.1), vr 6 a0] C f_hx_Prog_weighStep_112_1 rfl ?_
        refine h_puti C e_hx_Prog_weighStep_113 fp_Prog_114 h_a0 rfl rfl rfl ?_
        refine h_blk 119 [(4, vi q1.1), (0, vr 2 o), (1, vr 6 a0), (2, vi a1), (3, vr 21 a2)] [vr 6 a0, vi 1, vr 6 a0] C f_hx_Prog_weighStep_116_3 rfl ?_
        refine h_geti C e_hx_Prog_weighStep_119 fg_Prog_116 h_a0 rfl rfl rfl (q21.2 6 a0 2) rfl ?_
        refine h_blk 128 [(4, vi q1.1), (0, vr 2 o), (1, vr 6 a0), (2, vi a1), (3, vr 21 a2)] [vi q1.1, vi (a1 + 1), vr 2 o, vi (q21.2 6 a0 2), vi 1, vr 6 a0] C f_hx_Prog_weighStep_122_5 rfl ?_
        obtain ⟨q23, e24, h⟩ := obd h
        refine h_callV C Rm Y [vi (a1 + 1), vi q1.1] [vi (q21.2 6 a0 2), vi 1, vr 6 a0] (hx_Prog_turnsOf l D B H0 G _ o (a1 + 1) q1.1 h_o _ _ e24) cl_Prog_98 h_o rfl rfl rfl e_hx_Prog_weighStep_128 rfl rfl rfl ⟨by decide, by decide⟩ ?_
        rintro _ _ ⟨rfl, rfl⟩
        show HM g D G q q23.2 131 [(4, vi q1.1), (0, vr 2 o), (1, vr 6 a0), (2, vi a1), (3, vr 21 a2)] [vi q23.1, vi (q21.2 6 a0 2), vi 1, vr 6 a0]
        refine h_blk 133 [(4, vi q1.1), (0, vr 2 o), (1, vr 6 a0), (2, vi a1), (3, vr 21 a2)] [vi (1 + ((q21.2 6 a0 2) * q23.1)), vr 6 a0] C f_hx_Prog_weighStep_131_2 rfl ?_
        refine h_puti C e_hx_Prog_weighStep_133 fp_Prog_115 h_a0 rfl rfl rfl ?_
        refine h_blk 215 [(4, vi q1.1), (0, vr 2 o), (1, vr 6 a0), (2, vi a1), (3, vr 21 a2)] [] C f_hx_Prog_weighStep_136_1 rfl ?_
        exact h_vret C Rm E e_hx_Prog_weighStep_215 (fin0 h)
    · have h := ifp c5 h
      refine h_blk 37 [(4, vi q1.1), (0, vr 2 o), (1, vr 6 a0), (2, vi a1), (3, vr 21 a2)] [vr 6 a0, vi (a1 + 1), vr 2 o, vr 6 a0] C f_hx_Prog_weighStep_31_6 rfl ?_
      refine h_geti C e_hx_Prog_weighStep_37 fg_Prog_111 h_a0 rfl rfl rfl (q1.2 6 a0 5) rfl ?_
      obtain ⟨q25, e26, h⟩ := obd h
      refine h_callV C Rm Y [vi (a1 + 1), vi (q1.2 6 a0 5)] [vr 6 a0] (hx_Prog_bitsOf l D B H0 G _ o (a1 + 1) (q1.2 6 a0 5) h_o _ _ e26) cl_Prog_92 h_o rfl rfl rfl e_hx_Prog_weighStep_40 rfl rfl rfl ⟨by decide, by decide⟩ ?_
      rintro _ _ ⟨rfl, rfl⟩
      show HM g D G q q25.2 43 [(4, vi q1.1), (0, vr 2 o), (1, vr 6 a0), (2, vi a1), (3, vr 21 a2)] [vi q25.1, vr 6 a0]
      refine h_blk 45 [(4, vi q1.1), (0, vr 2 o), (1, vr 6 a0), (2, vi a1), (3, vr 21 a2)] [vr 6 a0, vr 2 o, vi q25.1, vr 6 a0] C f_hx_Prog_weighStep_43_2 rfl ?_
      refine h_geti C e_hx_Prog_weighStep_45 fg_Prog_111 h_a0 rfl rfl rfl (q25.2 6 a0 5) rfl ?_
      refine h_blk 50 [(4, vi q1.1), (0, vr 2 o), (1, vr 6 a0), (2, vi a1), (3, vr 21 a2)] [vi q1.1, vi (q25.2 6 a0 5), vr 2 o, vi q25.1, vr 6 a0] C f_hx_Prog_weighStep_48_1 rfl ?_
      obtain ⟨q27, e28, h⟩ := obd h
      refine h_callV C Rm Y [vi (q25.2 6 a0 5), vi q1.1] [vi q25.1, vr 6 a0] (hx_Prog_bitsOf l D B H0 G _ o (q25.2 6 a0 5) q1.1 h_o _ _ e28) cl_Prog_92 h_o rfl rfl rfl e_hx_Prog_weighStep_50 rfl rfl rfl ⟨by decide, by decide⟩ ?_
      rintro _ _ ⟨rfl, rfl⟩
      show HM g D G q q27.2 53 [(4, vi q1.1), (0, vr 2 o), (1, vr 6 a0), (2, vi a1), (3, vr 21 a2)] [vi q27.1, vi q25.1, vr 6 a0]
      obtain ⟨c29, h⟩ := igd h
      obtain ⟨c30, h⟩ := igd h
      refine h_mmax C Rm cl_Prog_68 e_hx_Prog_weighStep_53 (by decide) (Nat.le_of_ble_eq_true rfl) c29 c30 (fun z31 hz31 => ?_)
      obtain rfl : z31 = max q25.1 q27.1 := by omega
      refine h_puti C e_hx_Prog_weighStep_56 fp_Prog_114 h_a0 rfl rfl rfl ?_
      refine h_blk 66 [(4, vi q1.1), (0, vr 2 o), (1, vr 6 a0), (2, vi a1), (3, vr 21 a2)] [vr 6 a0, vi (a1 + 1), vr 2 o, vi 1, vr 6 a0] C f_hx_Prog_weighStep_59_7 rfl ?_
      refine h_geti C e_hx_Prog_weighStep_66 fg_Prog_111 h_a0 rfl rfl rfl (q27.2 6 a0 5) rfl ?_
      obtain ⟨q32, e33, h⟩ := obd h
      refine h_callV C Rm Y [vi (a1 + 1), vi (q27.2 6 a0 5)] [vi 1, vr 6 a0] (hx_Prog_turnsOf l D B H0 G _ o (a1 + 1) (q27.2 6 a0 5) h_o _ _ e33) cl_Prog_98 h_o rfl rfl rfl e_hx_Prog_weighStep_69 rfl rfl rfl ⟨by decide, by decide⟩ ?_
      rintro _ _ ⟨rfl, rfl⟩
      show HM g D G q q32.2 72 [(4, vi q1.1), (0, vr 2 o), (1, vr 6 a0), (2, vi a1), (3, vr 21 a2)] [vi q32.1, vi 1, vr 6 a0]
      refine h_blk 75 [(4, vi q1.1), (0, vr 2 o), (1, vr 6 a0), (2, vi a1), (3, vr 21 a2)] [vr 6 a0, vr 2 o, vi (1 + q32.1), vr 6 a0] C f_hx_Prog_weighStep_72_3 rfl ?_
      refine h_geti C e_hx_Prog_weighStep_75 fg_Prog_111 h_a0 rfl rfl rfl (q32.2 6 a0 5) rfl ?_
      refine h_blk 80 [(4, vi q1.1), (0, vr 2 o), (1, vr 6 a0), (2, vi a1), (3, vr 21 a2)] [vi q1.1, vi (q32.2 6 a0 5), vr 2 o, vi (1 + q32.1), vr 6 a0] C f_hx_Prog_weighStep_78_1 rfl ?_
      obtain ⟨q34, e35, h⟩ := obd h
      refine h_callV C Rm Y [vi (q32.2 6 a0 5), vi q1.1] [vi (1 + q32.1), vr 6 a0] (hx_Prog_turnsOf l D B H0 G _ o (q32.2 6 a0 5) q1.1 h_o _ _ e35) cl_Prog_98 h_o rfl rfl rfl e_hx_Prog_weighStep_80 rfl rfl rfl ⟨by decide, by decide⟩ ?_
      rintro _ _ ⟨rfl, rfl⟩
      show HM g D G q q34.2 83 [(4, vi q1.1), (0, vr 2 o), (1, vr 6 a0), (2, vi a1), (3, vr 21 a2)] [vi q34.1, vi (1 + q32.1), vr 6 a0]
      refine h_blk 84 [(4, vi q1.1), (0, vr 2 o), (1, vr 6 a0), (2, vi a1), (3, vr 21 a2)] [vi ((1 + q32.1) + q34.1), vr 6 a0] C f_hx_Prog_weighStep_83_1 rfl ?_
      refine h_puti C e_hx_Prog_weighStep_84 fp_Prog_115 h_a0 rfl rfl rfl ?_
      refine h_blk 215 [(4, vi q1.1), (0, vr 2 o), (1, vr 6 a0), (2, vi a1), (3, vr 21 a2)] [] C f_hx_Prog_weighStep_87_1 rfl ?_
      exact h_vret C Rm E e_hx_Prog_weighStep_215 (fin0 h)
  · have h := ifp c4 h
    refine h_blk 17 [(4, vi q1.1), (0, vr 2 o), (1, vr 6 a0), (2, vi a1), (3, vr 21 a2)] [vi 1, vr 6 a0] C f_hx_Prog_weighStep_15_2 rfl ?_
    refine h_putz C e_hx_Prog_weighStep_17 fp_Prog_91 h_a0 rfl rfl rfl (Or.inr rfl) ?_
    refine h_blk 215 [(4, vi q1.1), (0, vr 2 o), (1, vr 6 a0), (2, vi a1), (3, vr 21 a2)] [] C f_hx_Prog_weighStep_20_1 rfl ?_
    exact h_vret C Rm E e_hx_Prog_weighStep_215 (fin0 h)

def f_Prog_weigh_17 : Nat → mA → Nat → Nat → Int → Option (Int × mA)
  | 0, _, _, _, _ => none
  | n + 1, A, b0, b1, b2 => (if g32 b2 then (if b2 < 0 then (Option.bind (f_Prog_bitsOf A b0 0 (A 2 b0 1)) (fun q3 => (Option.bind (f_Prog_turnsOf (mu q3.2 2 b0 8 q3.1) b0 0 (q3.2 2 b0 1)) (fun q5 => (some (0, (mu q5.2 2 b0 9 q5.1))))))) else (Option.bind (f_Prog_stepAt A b0 b2) (fun q7 => (Option.bind (f_Prog_weighStep q7.2 b0 q7.1.toNat b2 b1) (fun q10 => (if g32 (q10.2 6 q7.1.toNat 1) then (if (q10.2 6 q7.1.toNat 1) = (-1) then (if ((iOr (q10.2 2 b0 11) (q10.2 6 q7.1.toNat 12)) = 0 ∨ (iOr (q10.2 2 b0 11) (q10.2 6 q7.1.toNat 12)) = 1) then (f_Prog_weigh_17  n (mu (mu q10.2 2 b0 10 (iOr (q10.2 2 b0 10) (iOr (q10.2 6 q7.1.toNat 6) 0))) 2 b0 11 (iOr (q10.2 2 b0 11) (q10.2 6 q7.1.toNat 12))) b0 b1 (b2 + (-1))) else none) else (if ((iOr (q10.2 2 b0 11) (q10.2 6 q7.1.toNat 12)) = 0 ∨ (iOr (q10.2 2 b0 11) (q10.2 6 q7.1.toNat 12)) = 1) then (f_Prog_weigh_17  n (mu (mu q10.2 2 b0 10 (iOr (q10.2 2 b0 10) (iOr (q10.2 6 q7.1.toNat 6) (iShl 1 (q10.2 6 q7.1.toNat 1))))) 2 b0 11 (iOr (q10.2 2 b0 11) (q10.2 6 q7.1.toNat 12))) b0 b1 (b2 + (-1))) else none)) else none)))))) else none)
def f_Prog_weigh (A : mA) (o : Nat) (a0 : Nat) : Option (Int × mA) := (f_Prog_weigh_17  20 (mu (mu A 2 o 10 0) 2 o 11 0) o a0 ((A 2 o 1) - 1))
theorem f_hx_Prog_weigh_0_2 : mblkB b_Prog_weigh [(0, .aload_n 0, vi 0), (1, .iconst 0, vi 0)] = true := by decide +kernel
theorem e_hx_Prog_weigh_2 : decode b_Prog_weigh 2 = .ok (.putfield 74, 3) := by decide +kernel
theorem f_hx_Prog_weigh_5_2 : mblkB b_Prog_weigh [(5, .aload_n 0, vi 0), (6, .iconst 0, vi 0)] = true := by decide +kernel
theorem e_hx_Prog_weigh_7 : decode b_Prog_weigh 7 = .ok (.putfield 77, 3) := by decide +kernel
theorem f_hx_Prog_weigh_10_1 : mblkB b_Prog_weigh [(10, .aload_n 0, vi 0)] = true := by decide +kernel
theorem e_hx_Prog_weigh_11 : decode b_Prog_weigh 11 = .ok (.getfield 42, 3) := by decide +kernel
theorem f_hx_Prog_weigh_14_3 : mblkB b_Prog_weigh [(14, .iconst 1, vi 1), (15, .isub, vi 0), (16, .istore_n 2, vi 0)] = true := by decide +kernel
theorem f_hx_Prog_weigh_17_1 : mblkB b_Prog_weigh [(17, .iload_n 2, vi 0)] = true := by decide +kernel
theorem e_hx_Prog_weigh_18 : decode b_Prog_weigh 18 = .ok (.ifCond .lt 67, 3) := by decide +kernel
theorem f_hx_Prog_weigh_85_4 : mblkB b_Prog_weigh [(85, .aload_n 0, vi 0), (86, .aload_n 0, vi 0), (87, .iconst 0, vi 0), (88, .aload_n 0, vi 0)] = true := by decide +kernel
theorem e_hx_Prog_weigh_89 : decode b_Prog_weigh 89 = .ok (.getfield 42, 3) := by decide +kernel
theorem e_hx_Prog_weigh_92 : decode b_Prog_weigh 92 = .ok (.invokevirtual 92, 3) := by decide +kernel
theorem e_hx_Prog_weigh_95 : decode b_Prog_weigh 95 = .ok (.putfield 95, 3) := by decide +kernel
theorem f_hx_Prog_weigh_98_4 : mblkB b_Prog_weigh [(98, .aload_n 0, vi 0), (99, .aload_n 0, vi 0), (100, .iconst 0, vi 0), (101, .aload_n 0, vi 0)] = true := by decide +kernel
theorem e_hx_Prog_weigh_102 : decode b_Prog_weigh 102 = .ok (.getfield 42, 3) := by decide +kernel
theorem e_hx_Prog_weigh_105 : decode b_Prog_weigh 105 = .ok (.invokevirtual 98, 3) := by decide +kernel
theorem e_hx_Prog_weigh_108 : decode b_Prog_weigh 108 = .ok (.putfield 101, 3) := by decide +kernel
theorem e_hx_Prog_weigh_111 : decode b_Prog_weigh 111 = .ok (.return_, 1) := by decide +kernel
theorem f_hx_Prog_weigh_21_2 : mblkB b_Prog_weigh [(21, .aload_n 0, vi 0), (22, .iload_n 2, vi 0)] = true := by decide +kernel
theorem e_hx_Prog_weigh_23 : decode b_Prog_weigh 23 = .ok (.invokevirtual 54, 3) := by decide +kernel
theorem f_hx_Prog_weigh_26_5 : mblkB b_Prog_weigh [(26, .astore_n 3, vi 0), (27, .aload_n 0, vi 0), (28, .aload_n 3, vi 0), (29, .iload_n 2, vi 0), (30, .aload_n 1, vi 0)] = true := by decide +kernel
theorem e_hx_Prog_weigh_31 : decode b_Prog_weigh 31 = .ok (.invokevirtual 81, 3) := by decide +kernel
theorem f_hx_Prog_weigh_34_2 : mblkB b_Prog_weigh [(34, .aload_n 0, vi 0), (35, .dup, vi 0)] = true := by decide +kernel
theorem e_hx_Prog_weigh_36 : decode b_Prog_weigh 36 = .ok (.getfield 74, 3) := by decide +kernel
theorem f_hx_Prog_weigh_39_1 : mblkB b_Prog_weigh [(39, .aload_n 3, vi 0)] = true := by decide +kernel
theorem e_hx_Prog_weigh_40 : decode b_Prog_weigh 40 = .ok (.getfield 85, 3) := by decide +kernel
theorem f_hx_Prog_weigh_43_1 : mblkB b_Prog_weigh [(43, .aload_n 3, vi 0)] = true := by decide +kernel
theorem e_hx_Prog_weigh_44 : decode b_Prog_weigh 44 = .ok (.getfield 88, 3) := by decide +kernel
theorem f_hx_Prog_weigh_47_1 : mblkB b_Prog_weigh [(47, .iconst (-1), vi (-1))] = true := by decide +kernel
theorem e_hx_Prog_weigh_48 : decode b_Prog_weigh 48 = .ok (.if_icmp .ne 7, 3) := by decide +kernel
theorem f_hx_Prog_weigh_55_2 : mblkB b_Prog_weigh [(55, .iconst 1, vi 1), (56, .aload_n 3, vi 0)] = true := by decide +kernel
theorem e_hx_Prog_weigh_57 : decode b_Prog_weigh 57 = .ok (.getfield 88, 3) := by decide +kernel
theorem f_hx_Prog_weigh_60_3 : mblkB b_Prog_weigh [(60, .ishl, vi 0), (61, .ior, vi 0), (62, .ior, vi 0)] = true := by decide +kernel
theorem e_hx_Prog_weigh_63 : decode b_Prog_weigh 63 = .ok (.putfield 74, 3) := by decide +kernel
theorem f_hx_Prog_weigh_66_2 : mblkB b_Prog_weigh [(66, .aload_n 0, vi 0), (67, .dup, vi 0)] = true := by decide +kernel
theorem e_hx_Prog_weigh_68 : decode b_Prog_weigh 68 = .ok (.getfield 77, 3) := by decide +kernel
theorem f_hx_Prog_weigh_71_1 : mblkB b_Prog_weigh [(71, .aload_n 3, vi 0)] = true := by decide +kernel
theorem e_hx_Prog_weigh_72 : decode b_Prog_weigh 72 = .ok (.getfield 91, 3) := by decide +kernel
theorem f_hx_Prog_weigh_75_1 : mblkB b_Prog_weigh [(75, .ior, vi 0)] = true := by decide +kernel
theorem e_hx_Prog_weigh_76 : decode b_Prog_weigh 76 = .ok (.putfield 77, 3) := by decide +kernel
theorem f_hx_Prog_weigh_79_2 : mblkB b_Prog_weigh [(79, .iinc 2 (-1), vi (-1)), (82, .goto (-65), vi 17)] = true := by decide +kernel
theorem f_hx_Prog_weigh_51_2 : mblkB b_Prog_weigh [(51, .iconst 0, vi 0), (52, .goto 9, vi 61)] = true := by decide +kernel
theorem f_hx_Prog_weigh_61_2 : mblkB b_Prog_weigh [(61, .ior, vi 0), (62, .ior, vi 0)] = true := by decide +kernel
set_option maxHeartbeats 4000000 in
set_option maxRecDepth 20000 in
theorem hx_Prog_weigh  : ∀ (l : Launch) (D : va_G) (B : Nat) (H0 : Heap) (G : tG) (A : mA) (o : Nat) (a0 : Nat) (h_o : G o = some 2) (h_a0 : G a0 = some 21)  (r9 : Int) (A9 : mA), f_Prog_weigh  A o a0 = some (r9, A9) → hMet l D B H0 G y_Prog_weigh b_Prog_weigh 4 none 3 85 [vr 2 o, vr 21 a0] A (fun v A' => v = none ∧ A' = A9) := by
  intro l D B H0 G A o a0 h_o h_a0 r9 A9 h
  refine h_met (by decide) rfl (fun g q C Rm Y E => ?_)
  have hd_17 : ∀ (n : Nat) (A : mA) (b0 : Nat) (b1 : Nat) (b2 : Int) , G b0 = some 2 → G b1 = some 21 → f_Prog_weigh_17  n A b0 b1 b2 = some (r9, A9) → HM g D G q A 17 [(0, vr 2 b0), (1, vr 21 b1), (2, vi b2)] [] := by
    intro n
    induction n with
    | zero => intro A b0 b1 b2 h_b0 h_b1 h; cases h
    | succ n ih =>
      intro A b0 b1 b2 h_b0 h_b1 h
      unfold f_Prog_weigh_17 at h
      refine h_blk 18 [(0, vr 2 b0), (1, vr 21 b1), (2, vi b2)] [vi b2] C f_hx_Prog_weigh_17_1 rfl ?_
      obtain ⟨c1, h⟩ := igd h
      refine h_if_lt (tgt := 85) C e_hx_Prog_weigh_18 (by decide) c1 (fun c2 => ?_) (fun c2 => ?_)
      · have h := ifp c2 h
        refine h_blk 89 [(0, vr 2 b0), (1, vr 21 b1), (2, vi b2)] [vr 2 b0, vi 0, vr 2 b0, vr 2 b0] C f_hx_Prog_weigh_85_4 rfl ?_
        refine h_geti C e_hx_Prog_weigh_89 fg_Prog_42 h_b0 rfl rfl rfl (A 2 b0 1) rfl ?_
        obtain ⟨q3, e4, h⟩ := obd h
        refine h_callV C Rm Y [vi 0, vi (A 2 b0 1)] [vr 2 b0] (hx_Prog_bitsOf l D B H0 G _ b0 0 (A 2 b0 1) h_b0 _ _ e4) cl_Prog_92 h_b0 rfl rfl rfl e_hx_Prog_weigh_92 rfl rfl rfl ⟨by decide, by decide⟩ ?_
        rintro _ _ ⟨rfl, rfl⟩
        show HM g D G q q3.2 95 [(0, vr 2 b0), (1, vr 21 b1), (2, vi b2)] [vi q3.1, vr 2 b0]
        refine h_puti C e_hx_Prog_weigh_95 fp_Prog_95 h_b0 rfl rfl rfl ?_
        refine h_blk 102 [(0, vr 2 b0), (1, vr 21 b1), (2, vi b2)] [vr 2 b0, vi 0, vr 2 b0, vr 2 b0] C f_hx_Prog_weigh_98_4 rfl ?_
        refine h_geti C e_hx_Prog_weigh_102 fg_Prog_42 h_b0 rfl rfl rfl (q3.2 2 b0 1) rfl ?_
        obtain ⟨q5, e6, h⟩ := obd h
        refine h_callV C Rm Y [vi 0, vi (q3.2 2 b0 1)] [vr 2 b0] (hx_Prog_turnsOf l D B H0 G _ b0 0 (q3.2 2 b0 1) h_b0 _ _ e6) cl_Prog_98 h_b0 rfl rfl rfl e_hx_Prog_weigh_105 rfl rfl rfl ⟨by decide, by decide⟩ ?_
        rintro _ _ ⟨rfl, rfl⟩
        show HM g D G q q5.2 108 [(0, vr 2 b0), (1, vr 21 b1), (2, vi b2)] [vi q5.1, vr 2 b0]
        refine h_puti C e_hx_Prog_weigh_108 fp_Prog_101 h_b0 rfl rfl rfl ?_
        exact h_vret C Rm E e_hx_Prog_weigh_111 (fin0 h)
      · have h := ifn c2 h
        refine h_blk 23 [(0, vr 2 b0), (1, vr 21 b1), (2, vi b2)] [vi b2, vr 2 b0] C f_hx_Prog_weigh_21_2 rfl ?_
        obtain ⟨q7, e8, h⟩ := obd h
        refine h_callV C Rm Y [vi b2] [] (hx_Prog_stepAt l D B H0 G _ b0 b2 h_b0 _ _ e8) cl_Prog_54 h_b0 rfl rfl rfl e_hx_Prog_weigh_23 rfl rfl rfl ⟨by decide, by decide⟩ ?_
        rintro _ _ ⟨rfl, rfl, g9⟩
        show HM g D G q q7.2 26 [(0, vr 2 b0), (1, vr 21 b1), (2, vi b2)] [vr 6 q7.1.toNat]
        refine h_blk 31 [(3, vr 6 q7.1.toNat), (0, vr 2 b0), (1, vr 21 b1), (2, vi b2)] [vr 21 b1, vi b2, vr 6 q7.1.toNat, vr 2 b0] C f_hx_Prog_weigh_26_5 rfl ?_
        obtain ⟨q10, e11, h⟩ := obd h
        refine h_callV C Rm Y [vr 6 q7.1.toNat, vi b2, vr 21 b1] [] (hx_Prog_weighStep l D B H0 G _ b0 q7.1.toNat b2 b1 h_b0 g9 h_b1 _ _ e11) cl_Prog_81 h_b0 rfl rfl rfl e_hx_Prog_weigh_31 rfl rfl rfl ⟨by decide, by decide⟩ ?_
        rintro _ _ ⟨rfl, rfl⟩
        show HM g D G q q10.2 34 [(3, vr 6 q7.1.toNat), (0, vr 2 b0), (1, vr 21 b1), (2, vi b2)] []
        refine h_blk 36 [(3, vr 6 q7.1.toNat), (0, vr 2 b0), (1, vr 21 b1), (2, vi b2)] [vr 2 b0, vr 2 b0] C f_hx_Prog_weigh_34_2 rfl ?_
        refine h_geti C e_hx_Prog_weigh_36 fg_Prog_74 h_b0 rfl rfl rfl (q10.2 2 b0 10) rfl ?_
        refine h_blk 40 [(3, vr 6 q7.1.toNat), (0, vr 2 b0), (1, vr 21 b1), (2, vi b2)] [vr 6 q7.1.toNat, vi (q10.2 2 b0 10), vr 2 b0] C f_hx_Prog_weigh_39_1 rfl ?_
        refine h_geti C e_hx_Prog_weigh_40 fg_Prog_85 g9 rfl rfl rfl (q10.2 6 q7.1.toNat 6) rfl ?_
        refine h_blk 44 [(3, vr 6 q7.1.toNat), (0, vr 2 b0), (1, vr 21 b1), (2, vi b2)] [vr 6 q7.1.toNat, vi (q10.2 6 q7.1.toNat 6), vi (q10.2 2 b0 10), vr 2 b0] C f_hx_Prog_weigh_43_1 rfl ?_
        refine h_geti C e_hx_Prog_weigh_44 fg_Prog_88 g9 rfl rfl rfl (q10.2 6 q7.1.toNat 1) rfl ?_
        refine h_blk 48 [(3, vr 6 q7.1.toNat), (0, vr 2 b0), (1, vr 21 b1), (2, vi b2)] [vi (-1), vi (q10.2 6 q7.1.toNat 1), vi (q10.2 6 q7.1.toNat 6), vi (q10.2 2 b0 10), vr 2 b0] C f_hx_Prog_weigh_47_1 rfl ?_
        obtain ⟨c12, h⟩ := igd h
        refine h_icmp_ne (tgt := 55) C e_hx_Prog_weigh_48 (by decide) c12 (by decide) (fun c13 => ?_) (fun c13 => ?_)
        · have h := ifn c13 h
          refine h_blk 57 [(3, vr 6 q7.1.toNat), (0, vr 2 b0), (1, vr 21 b1), (2, vi b2)] [vr 6 q7.1.toNat, vi 1, vi (q10.2 6 q7.1.toNat 6), vi (q10.2 2 b0 10), vr 2 b0] C f_hx_Prog_weigh_55_2 rfl ?_
          refine h_geti C e_hx_Prog_weigh_57 fg_Prog_88 g9 rfl rfl rfl (q10.2 6 q7.1.toNat 1) rfl ?_
          refine h_blk 63 [(3, vr 6 q7.1.toNat), (0, vr 2 b0), (1, vr 21 b1), (2, vi b2)] [vi (iOr (q10.2 2 b0 10) (iOr (q10.2 6 q7.1.toNat 6) (iShl 1 (q10.2 6 q7.1.toNat 1)))), vr 2 b0] C f_hx_Prog_weigh_60_3 rfl ?_
          refine h_puti C e_hx_Prog_weigh_63 fp_Prog_74 h_b0 rfl rfl rfl ?_
          refine h_blk 68 [(3, vr 6 q7.1.toNat), (0, vr 2 b0), (1, vr 21 b1), (2, vi b2)] [vr 2 b0, vr 2 b0] C f_hx_Prog_weigh_66_2 rfl ?_
          refine h_geti C e_hx_Prog_weigh_68 fg_Prog_77 h_b0 rfl rfl rfl (q10.2 2 b0 11) rfl ?_
          refine h_blk 72 [(3, vr 6 q7.1.toNat), (0, vr 2 b0), (1, vr 21 b1), (2, vi b2)] [vr 6 q7.1.toNat, vi (q10.2 2 b0 11), vr 2 b0] C f_hx_Prog_weigh_71_1 rfl ?_
          refine h_geti C e_hx_Prog_weigh_72 fg_Prog_91 g9 rfl rfl rfl (q10.2 6 q7.1.toNat 12) rfl ?_
          refine h_blk 76 [(3, vr 6 q7.1.toNat), (0, vr 2 b0), (1, vr 21 b1), (2, vi b2)] [vi (iOr (q10.2 2 b0 11) (q10.2 6 q7.1.toNat 12)), vr 2 b0] C f_hx_Prog_weigh_75_1 rfl ?_
          obtain ⟨c14, h⟩ := igd h
          refine h_putz C e_hx_Prog_weigh_76 fp_Prog_77 h_b0 rfl rfl rfl c14 ?_
          refine h_blk 17 [(2, vi (b2 + (-1))), (3, vr 6 q7.1.toNat), (0, vr 2 b0), (1, vr 21 b1)] [] C f_hx_Prog_weigh_79_2 rfl ?_
          refine h_loc [(0, vr 2 b0), (1, vr 21 b1), (2, vi (b2 + (-1)))] ⟨rfl, rfl, rfl, trivial⟩ ?_
          exact ih (mu (mu q10.2 2 b0 10 (iOr (q10.2 2 b0 10) (iOr (q10.2 6 q7.1.toNat 6) (iShl 1 (q10.2 6 q7.1.toNat 1))))) 2 b0 11 (iOr (q10.2 2 b0 11) (q10.2 6 q7.1.toNat 12))) b0 b1 (b2 + (-1)) (h_b0) (h_b1) h
        · have h := ifp c13 h
          refine h_blk 61 [(3, vr 6 q7.1.toNat), (0, vr 2 b0), (1, vr 21 b1), (2, vi b2)] [vi 0, vi (q10.2 6 q7.1.toNat 6), vi (q10.2 2 b0 10), vr 2 b0] C f_hx_Prog_weigh_51_2 rfl ?_
          refine h_blk 63 [(3, vr 6 q7.1.toNat), (0, vr 2 b0), (1, vr 21 b1), (2, vi b2)] [vi (iOr (q10.2 2 b0 10) (iOr (q10.2 6 q7.1.toNat 6) 0)), vr 2 b0] C f_hx_Prog_weigh_61_2 rfl ?_
          refine h_puti C e_hx_Prog_weigh_63 fp_Prog_74 h_b0 rfl rfl rfl ?_
          refine h_blk 68 [(3, vr 6 q7.1.toNat), (0, vr 2 b0), (1, vr 21 b1), (2, vi b2)] [vr 2 b0, vr 2 b0] C f_hx_Prog_weigh_66_2 rfl ?_
          refine h_geti C e_hx_Prog_weigh_68 fg_Prog_77 h_b0 rfl rfl rfl (q10.2 2 b0 11) rfl ?_
          refine h_blk 72 [(3, vr 6 q7.1.toNat), (0, vr 2 b0), (1, vr 21 b1), (2, vi b2)] [vr 6 q7.1.toNat, vi (q10.2 2 b0 11), vr 2 b0] C f_hx_Prog_weigh_71_1 rfl ?_
          refine h_geti C e_hx_Prog_weigh_72 fg_Prog_91 g9 rfl rfl rfl (q10.2 6 q7.1.toNat 12) rfl ?_
          refine h_blk 76 [(3, vr 6 q7.1.toNat), (0, vr 2 b0), (1, vr 21 b1), (2, vi b2)] [vi (iOr (q10.2 2 b0 11) (q10.2 6 q7.1.toNat 12)), vr 2 b0] C f_hx_Prog_weigh_75_1 rfl ?_
          obtain ⟨c15, h⟩ := igd h
          refine h_putz C e_hx_Prog_weigh_76 fp_Prog_77 h_b0 rfl rfl rfl c15 ?_
          refine h_blk 17 [(2, vi (b2 + (-1))), (3, vr 6 q7.1.toNat), (0, vr 2 b0), (1, vr 21 b1)] [] C f_hx_Prog_weigh_79_2 rfl ?_
          refine h_loc [(0, vr 2 b0), (1, vr 21 b1), (2, vi (b2 + (-1)))] ⟨rfl, rfl, rfl, trivial⟩ ?_
          exact ih (mu (mu q10.2 2 b0 10 (iOr (q10.2 2 b0 10) (iOr (q10.2 6 q7.1.toNat 6) 0))) 2 b0 11 (iOr (q10.2 2 b0 11) (q10.2 6 q7.1.toNat 12))) b0 b1 (b2 + (-1)) (h_b0) (h_b1) h
  show HM g D G q A 0 [(0, vr 2 o), (1, vr 21 a0)] []
  unfold f_Prog_weigh at h
  refine h_blk 2 [(0, vr 2 o), (1, vr 21 a0)] [vi 0, vr 2 o] C f_hx_Prog_weigh_0_2 rfl ?_
  refine h_puti C e_hx_Prog_weigh_2 fp_Prog_74 h_o rfl rfl rfl ?_
  refine h_blk 7 [(0, vr 2 o), (1, vr 21 a0)] [vi 0, vr 2 o] C f_hx_Prog_weigh_5_2 rfl ?_
  refine h_putz C e_hx_Prog_weigh_7 fp_Prog_77 h_o rfl rfl rfl (Or.inl rfl) ?_
  refine h_blk 11 [(0, vr 2 o), (1, vr 21 a0)] [vr 2 o] C f_hx_Prog_weigh_10_1 rfl ?_
  refine h_geti C e_hx_Prog_weigh_11 fg_Prog_42 h_o rfl rfl rfl (A 2 o 1) rfl ?_
  refine h_blk 17 [(2, vi ((A 2 o 1) - 1)), (0, vr 2 o), (1, vr 21 a0)] [] C f_hx_Prog_weigh_14_3 rfl ?_
  refine h_loc [(0, vr 2 o), (1, vr 21 a0), (2, vi ((A 2 o 1) - 1))] ⟨rfl, rfl, rfl, trivial⟩ ?_
  exact hd_17 _ (mu (mu A 2 o 10 0) 2 o 11 0) o a0 ((A 2 o 1) - 1) (h_o) (h_a0) h

def f_CS_append (A : mA) (o : Nat) (a0 : Int) : Option (Int × mA) := (if g32 (A 8 o 1) then (if 120 ≤ (A 8 o 1) then (some (0, A)) else (if (0 ≤ (A 8 o 1) ∧ (A 8 o 1) < ((120 : Nat) : Int)) then (some (0, (mu (mu A 20 ((A 8 o 0).toNat) ((A 8 o 1).toNat) a0) 8 o 1 ((A 8 o 1) + 1)))) else none)) else none)
theorem f_hx_CS_append_0_1 : mblkB b_CS_append [(0, .aload_n 0, vi 0)] = true := by decide +kernel
theorem e_hx_CS_append_1 : decode b_CS_append 1 = .ok (.getfield 51, 3) := by decide +kernel
theorem f_hx_CS_append_4_1 : mblkB b_CS_append [(4, .bipush 120, vi 120)] = true := by decide +kernel
theorem e_hx_CS_append_6 : decode b_CS_append 6 = .ok (.if_icmp .ge 23, 3) := by decide +kernel
theorem e_hx_CS_append_29 : decode b_CS_append 29 = .ok (.return_, 1) := by decide +kernel
theorem f_hx_CS_append_9_1 : mblkB b_CS_append [(9, .aload_n 0, vi 0)] = true := by decide +kernel
theorem e_hx_CS_append_10 : decode b_CS_append 10 = .ok (.getfield 9, 3) := by decide +kernel
theorem f_hx_CS_append_13_1 : mblkB b_CS_append [(13, .aload_n 0, vi 0)] = true := by decide +kernel
theorem e_hx_CS_append_14 : decode b_CS_append 14 = .ok (.getfield 51, 3) := by decide +kernel
theorem f_hx_CS_append_17_1 : mblkB b_CS_append [(17, .iload_n 1, vi 0)] = true := by decide +kernel
theorem e_hx_CS_append_18 : decode b_CS_append 18 = .ok (.iastore, 1) := by decide +kernel
theorem f_hx_CS_append_19_2 : mblkB b_CS_append [(19, .aload_n 0, vi 0), (20, .dup, vi 0)] = true := by decide +kernel
theorem e_hx_CS_append_21 : decode b_CS_append 21 = .ok (.getfield 51, 3) := by decide +kernel
theorem f_hx_CS_append_24_2 : mblkB b_CS_append [(24, .iconst 1, vi 1), (25, .iadd, vi 0)] = true := by decide +kernel
theorem e_hx_CS_append_26 : decode b_CS_append 26 = .ok (.putfield 51, 3) := by decide +kernel
set_option maxHeartbeats 4000000 in
set_option maxRecDepth 20000 in
theorem hx_CS_append  : ∀ (l : Launch) (D : va_G) (B : Nat) (H0 : Heap) (G : tG) (A : mA) (o : Nat) (a0 : Int) (h_o : G o = some 8)  (r9 : Int) (A9 : mA), f_CS_append  A o a0 = some (r9, A9) → hMet l D B H0 G y_CS_append b_CS_append 2 none 0 0 [vr 8 o, vi a0] A (fun v A' => v = none ∧ A' = A9) := by
  intro l D B H0 G A o a0 h_o r9 A9 h
  refine h_met (by decide) rfl (fun g q C Rm Y E => ?_)
  show HM g D G q A 0 [(0, vr 8 o), (1, vi a0)] []
  unfold f_CS_append at h
  refine h_blk 1 [(0, vr 8 o), (1, vi a0)] [vr 8 o] C f_hx_CS_append_0_1 rfl ?_
  refine h_geti C e_hx_CS_append_1 fg_CS_51 h_o rfl rfl rfl (A 8 o 1) rfl ?_
  refine h_blk 6 [(0, vr 8 o), (1, vi a0)] [vi 120, vi (A 8 o 1)] C f_hx_CS_append_4_1 rfl ?_
  obtain ⟨c1, h⟩ := igd h
  refine h_icmp_ge (tgt := 29) C e_hx_CS_append_6 (by decide) c1 (by decide) (fun c2 => ?_) (fun c2 => ?_)
  · have h := ifp c2 h
    exact h_vret C Rm E e_hx_CS_append_29 (fin0 h)
  · have h := ifn c2 h
    refine h_blk 10 [(0, vr 8 o), (1, vi a0)] [vr 8 o] C f_hx_CS_append_9_1 rfl ?_
    refine h_getr4 C e_hx_CS_append_10 fg_CS_9 h_o rfl rfl rfl rfl (fun g3 => ?_)
    refine h_blk 14 [(0, vr 8 o), (1, vi a0)] [vr 8 o, vr 20 ((A 8 o 0).toNat)] C f_hx_CS_append_13_1 rfl ?_
    refine h_geti C e_hx_CS_append_14 fg_CS_51 h_o rfl rfl rfl (A 8 o 1) rfl ?_
    refine h_blk 18 [(0, vr 8 o), (1, vi a0)] [vi a0, vi (A 8 o 1), vr 20 ((A 8 o 0).toNat)] C f_hx_CS_append_17_1 rfl ?_
    obtain ⟨c4, h⟩ := igd h
    refine h_iast C e_hx_CS_append_18 g3 rfl rfl (by decide) c4.1 c4.2 ?_
    refine h_blk 21 [(0, vr 8 o), (1, vi a0)] [vr 8 o, vr 8 o] C f_hx_CS_append_19_2 rfl ?_
    refine h_geti C e_hx_CS_append_21 fg_CS_51 h_o rfl rfl rfl (A 8 o 1) rfl ?_
    refine h_blk 26 [(0, vr 8 o), (1, vi a0)] [vi ((A 8 o 1) + 1), vr 8 o] C f_hx_CS_append_24_2 rfl ?_
    refine h_puti C e_hx_CS_append_26 fp_CS_51 h_o rfl rfl rfl ?_
    exact h_vret C Rm E e_hx_CS_append_29 (fin0 h)

def f_CS_isByte (A : mA) (a0 : Int) : Option (Int × mA) := (if g32 a0 then (if a0 < 0 then (some (0, A)) else (if 255 < a0 then (some (0, A)) else (some (1, A)))) else none)
theorem f_hx_CS_isByte_0_1 : mblkB b_CS_isByte [(0, .iload_n 0, vi 0)] = true := by decide +kernel
theorem e_hx_CS_isByte_1 : decode b_CS_isByte 1 = .ok (.ifCond .lt 14, 3) := by decide +kernel
theorem f_hx_CS_isByte_15_1 : mblkB b_CS_isByte [(15, .iconst 0, vi 0)] = true := by decide +kernel
theorem e_hx_CS_isByte_16 : decode b_CS_isByte 16 = .ok (.ireturn, 1) := by decide +kernel
theorem f_hx_CS_isByte_4_2 : mblkB b_CS_isByte [(4, .iload_n 0, vi 0), (5, .sipush 255, vi 255)] = true := by decide +kernel
theorem e_hx_CS_isByte_8 : decode b_CS_isByte 8 = .ok (.if_icmp .gt 7, 3) := by decide +kernel
theorem f_hx_CS_isByte_11_2 : mblkB b_CS_isByte [(11, .iconst 1, vi 1), (12, .goto 4, vi 16)] = true := by decide +kernel
set_option maxHeartbeats 4000000 in
set_option maxRecDepth 20000 in
theorem hx_CS_isByte  : ∀ (l : Launch) (D : va_G) (B : Nat) (H0 : Heap) (G : tG) (A : mA) (a0 : Int)  (r9 : Int) (A9 : mA), f_CS_isByte  A a0 = some (r9, A9) → hMet l D B H0 G y_CS_isByte b_CS_isByte 1 (some .boolean) 0 0 [vi a0] A (fun v A' => v = some (vi r9) ∧ A' = A9) := by
  intro l D B H0 G A a0  r9 A9 h
  refine h_met (by decide) rfl (fun g q C Rm Y E => ?_)
  show HM g D G q A 0 [(0, vi a0)] []
  unfold f_CS_isByte at h
  refine h_blk 1 [(0, vi a0)] [vi a0] C f_hx_CS_isByte_0_1 rfl ?_
  obtain ⟨c1, h⟩ := igd h
  refine h_if_lt (tgt := 15) C e_hx_CS_isByte_1 (by decide) c1 (fun c2 => ?_) (fun c2 => ?_)
  · have h := ifp c2 h
    refine h_blk 16 [(0, vi a0)] [vi 0] C f_hx_CS_isByte_15_1 rfl ?_
    exact h_zret C Rm E (Or.inl rfl) e_hx_CS_isByte_16 (fin1 h)
  · have h := ifn c2 h
    refine h_blk 8 [(0, vi a0)] [vi 255, vi a0] C f_hx_CS_isByte_4_2 rfl ?_
    refine h_icmp_gt (tgt := 15) C e_hx_CS_isByte_8 (by decide) c1 (by decide) (fun c3 => ?_) (fun c3 => ?_)
    · have h := ifp c3 h
      refine h_blk 16 [(0, vi a0)] [vi 0] C f_hx_CS_isByte_15_1 rfl ?_
      exact h_zret C Rm E (Or.inl rfl) e_hx_CS_isByte_16 (fin1 h)
    · have h := ifn c3 h
      refine h_blk 16 [(0, vi a0)] [vi 1] C f_hx_CS_isByte_11_2 rfl ?_
      exact h_zret C Rm E (Or.inr rfl) e_hx_CS_isByte_16 (fin1 h)

def f_CS_isProgram (A : mA) (o : Nat) (a0 : Int) : Option (Int × mA) := (if g32 a0 then (if a0 < 0 then (some (0, A)) else (if g32 (A 8 o 3) then (if (A 8 o 3) ≤ a0 then (some (0, A)) else (if 6 ≤ a0 then (some (0, A)) else (if (0 ≤ a0 ∧ a0 < ((6 : Nat) : Int)) then (if 0 ≤ (A 21 ((A 8 o 2).toNat) a0.toNat) then (some (1, A)) else none) else none))) else none)) else none)
theorem f_hx_CS_isProgram_0_1 : mblkB b_CS_isProgram [(0, .iload_n 1, vi 0)] = true := by decide +kernel
theorem e_hx_CS_isProgram_1 : decode b_CS_isProgram 1 = .ok (.ifCond .lt 30, 3) := by decide +kernel
theorem f_hx_CS_isProgram_31_1 : mblkB b_CS_isProgram [(31, .iconst 0, vi 0)] = true := by decide +kernel
theorem e_hx_CS_isProgram_32 : decode b_CS_isProgram 32 = .ok (.ireturn, 1) := by decide +kernel
theorem f_hx_CS_isProgram_4_2 : mblkB b_CS_isProgram [(4, .iload_n 1, vi 0), (5, .aload_n 0, vi 0)] = true := by decide +kernel
theorem e_hx_CS_isProgram_6 : decode b_CS_isProgram 6 = .ok (.getfield 59, 3) := by decide +kernel
theorem e_hx_CS_isProgram_9 : decode b_CS_isProgram 9 = .ok (.if_icmp .ge 22, 3) := by decide +kernel
theorem f_hx_CS_isProgram_12_2 : mblkB b_CS_isProgram [(12, .iload_n 1, vi 0), (13, .bipush 6, vi 6)] = true := by decide +kernel
theorem e_hx_CS_isProgram_15 : decode b_CS_isProgram 15 = .ok (.if_icmp .ge 16, 3) := by decide +kernel
theorem f_hx_CS_isProgram_18_1 : mblkB b_CS_isProgram [(18, .aload_n 0, vi 0)] = true := by decide +kernel
theorem e_hx_CS_isProgram_19 : decode b_CS_isProgram 19 = .ok (.getfield 15, 3) := by decide +kernel
theorem f_hx_CS_isProgram_22_1 : mblkB b_CS_isProgram [(22, .iload_n 1, vi 0)] = true := by decide +kernel
theorem e_hx_CS_isProgram_23 : decode b_CS_isProgram 23 = .ok (.aaload, 1) := by decide +kernel
theorem e_hx_CS_isProgram_24 : decode b_CS_isProgram 24 = .ok (.ifnull 7, 3) := by decide +kernel
theorem f_hx_CS_isProgram_27_2 : mblkB b_CS_isProgram [(27, .iconst 1, vi 1), (28, .goto 4, vi 32)] = true := by decide +kernel
set_option maxHeartbeats 4000000 in
set_option maxRecDepth 20000 in
theorem hx_CS_isProgram  : ∀ (l : Launch) (D : va_G) (B : Nat) (H0 : Heap) (G : tG) (A : mA) (o : Nat) (a0 : Int) (h_o : G o = some 8)  (r9 : Int) (A9 : mA), f_CS_isProgram  A o a0 = some (r9, A9) → hMet l D B H0 G y_CS_isProgram b_CS_isProgram 2 (some .boolean) 0 0 [vr 8 o, vi a0] A (fun v A' => v = some (vi r9) ∧ A' = A9) := by
  intro l D B H0 G A o a0 h_o r9 A9 h
  refine h_met (by decide) rfl (fun g q C Rm Y E => ?_)
  show HM g D G q A 0 [(0, vr 8 o), (1, vi a0)] []
  unfold f_CS_isProgram at h
  refine h_blk 1 [(0, vr 8 o), (1, vi a0)] [vi a0] C f_hx_CS_isProgram_0_1 rfl ?_
  obtain ⟨c1, h⟩ := igd h
  refine h_if_lt (tgt := 31) C e_hx_CS_isProgram_1 (by decide) c1 (fun c2 => ?_) (fun c2 => ?_)
  · have h := ifp c2 h
    refine h_blk 32 [(0, vr 8 o), (1, vi a0)] [vi 0] C f_hx_CS_isProgram_31_1 rfl ?_
    exact h_zret C Rm E (Or.inl rfl) e_hx_CS_isProgram_32 (fin1 h)
  · have h := ifn c2 h
    refine h_blk 6 [(0, vr 8 o), (1, vi a0)] [vr 8 o, vi a0] C f_hx_CS_isProgram_4_2 rfl ?_
    refine h_geti C e_hx_CS_isProgram_6 fg_CS_59 h_o rfl rfl rfl (A 8 o 3) rfl ?_
    obtain ⟨c3, h⟩ := igd h
    refine h_icmp_ge (tgt := 31) C e_hx_CS_isProgram_9 (by decide) c1 c3 (fun c4 => ?_) (fun c4 => ?_)
    · have h := ifp c4 h
      refine h_blk 32 [(0, vr 8 o), (1, vi a0)] [vi 0] C f_hx_CS_isProgram_31_1 rfl ?_
      exact h_zret C Rm E (Or.inl rfl) e_hx_CS_isProgram_32 (fin1 h)
    · have h := ifn c4 h
      refine h_blk 15 [(0, vr 8 o), (1, vi a0)] [vi 6, vi a0] C f_hx_CS_isProgram_12_2 rfl ?_
      refine h_icmp_ge (tgt := 31) C e_hx_CS_isProgram_15 (by decide) c1 (by decide) (fun c5 => ?_) (fun c5 => ?_)
      · have h := ifp c5 h
        refine h_blk 32 [(0, vr 8 o), (1, vi a0)] [vi 0] C f_hx_CS_isProgram_31_1 rfl ?_
        exact h_zret C Rm E (Or.inl rfl) e_hx_CS_isProgram_32 (fin1 h)
      · have h := ifn c5 h
        refine h_blk 19 [(0, vr 8 o), (1, vi a0)] [vr 8 o] C f_hx_CS_isProgram_18_1 rfl ?_
        refine h_getr4 C e_hx_CS_isProgram_19 fg_CS_15 h_o rfl rfl rfl rfl (fun g6 => ?_)
        refine h_blk 23 [(0, vr 8 o), (1, vi a0)] [vi a0, vr 21 ((A 8 o 2).toNat)] C f_hx_CS_isProgram_22_1 rfl ?_
        obtain ⟨c7, h⟩ := igd h
        obtain ⟨c8, h⟩ := igd h
        refine h_aald5 C e_hx_CS_isProgram_23 rfl rfl g6 rfl rfl rfl rfl (by decide) c7.1 c7.2 c8 (fun g9 => ?_)
        refine h_ifnull C e_hx_CS_isProgram_24 ?_
        refine h_blk 32 [(0, vr 8 o), (1, vi a0)] [vi 1] C f_hx_CS_isProgram_27_2 rfl ?_
        exact h_zret C Rm E (Or.inr rfl) e_hx_CS_isProgram_32 (fin1 h)

def f_CS_feed_68 : Nat → mA → Nat → Int → Int → Int → Int → Int → Int → Int → Option (Int × mA)
  | 0, _, _, _, _, _, _, _, _, _ => none
  | n + 1, A, b0, b1, b2, b3, b4, b5, b6, b7 => (if g32 b7 then if g32 b1 then (if b1 ≤ b7 then (some ((A 8 b0 1), A)) else (if b7 = 0 then (Option.bind (f_CS_append A b0 b2) (fun q16 => (f_CS_feed_68  n q16.2 b0 b1 b2 b3 b4 b5 b6 (b7 + 1)))) else (if b7 = 1 then (Option.bind (f_CS_append A b0 b3) (fun q14 => (f_CS_feed_68  n q14.2 b0 b1 b2 b3 b4 b5 b6 (b7 + 1)))) else (if b7 = 2 then (Option.bind (f_CS_append A b0 b4) (fun q12 => (f_CS_feed_68  n q12.2 b0 b1 b2 b3 b4 b5 b6 (b7 + 1)))) else (if b7 = 3 then (Option.bind (f_CS_append A b0 b5) (fun q10 => (f_CS_feed_68  n q10.2 b0 b1 b2 b3 b4 b5 b6 (b7 + 1)))) else (Option.bind (f_CS_append A b0 b6) (fun q8 => (f_CS_feed_68  n q8.2 b0 b1 b2 b3 b4 b5 b6 (b7 + 1))))))))) else none else none)
def f_CS_feed (A : mA) (o : Nat) (a0 : Int) (a1 : Int) (a2 : Int) (a3 : Int) (a4 : Int) (a5 : Int) : Option (Int × mA) := (if g32 a0 then (if a0 < 1 then (some ((-2), A)) else (if 5 < a0 then (some ((-2), A)) else (Option.bind (f_CS_isByte A a1) (fun q21 => (if g32 q21.1 then (if q21.1 = 0 then (some ((-2), q21.2)) else (Option.bind (f_CS_isByte q21.2 a2) (fun q25 => (if g32 q25.1 then (if q25.1 = 0 then (some ((-2), q25.2)) else (Option.bind (f_CS_isByte q25.2 a3) (fun q29 => (if g32 q29.1 then (if q29.1 = 0 then (some ((-2), q29.2)) else (Option.bind (f_CS_isByte q29.2 a4) (fun q33 => (if g32 q33.1 then (if q33.1 = 0 then (some ((-2), q33.2)) else (Option.bind (f_CS_isByte q33.2 a5) (fun q37 => (if g32 q37.1 then (if q37.1 = 0 then (some ((-2), q37.2)) else (if g32 (120 - (q37.2 8 o 1)) then (if a0 ≤ (120 - (q37.2 8 o 1)) then (f_CS_feed_68  10 q37.2 o a0 a1 a2 a3 a4 a5 0) else (some ((-4), q37.2))) else none)) else none)))) else none)))) else none)))) else none)))) else none))))) else none)
theorem f_hx_CS_feed_0_2 : mblkB b_CS_feed [(0, .iload_n 1, vi 0), (1, .iconst 1, vi 1)] = true := by decide +kernel
theorem e_hx_CS_feed_2 : decode b_CS_feed 2 = .ok (.if_icmp .lt 46, 3) := by decide +kernel
theorem f_hx_CS_feed_48_1 : mblkB b_CS_feed [(48, .bipush (-2), vi (-2))] = true := by decide +kernel
theorem e_hx_CS_feed_50 : decode b_CS_feed 50 = .ok (.ireturn, 1) := by decide +kernel
theorem f_hx_CS_feed_5_2 : mblkB b_CS_feed [(5, .iload_n 1, vi 0), (6, .iconst 5, vi 5)] = true := by decide +kernel
theorem e_hx_CS_feed_7 : decode b_CS_feed 7 = .ok (.if_icmp .gt 41, 3) := by decide +kernel
theorem f_hx_CS_feed_10_1 : mblkB b_CS_feed [(10, .iload_n 2, vi 0)] = true := by decide +kernel
theorem e_hx_CS_feed_11 : decode b_CS_feed 11 = .ok (.invokestatic 47, 3) := by decide +kernel
theorem e_hx_CS_feed_14 : decode b_CS_feed 14 = .ok (.ifCond .eq 34, 3) := by decide +kernel
theorem f_hx_CS_feed_17_1 : mblkB b_CS_feed [(17, .iload_n 3, vi 0)] = true := by decide +kernel
theorem e_hx_CS_feed_18 : decode b_CS_feed 18 = .ok (.invokestatic 47, 3) := by decide +kernel
theorem e_hx_CS_feed_21 : decode b_CS_feed 21 = .ok (.ifCond .eq 27, 3) := by decide +kernel
theorem f_hx_CS_feed_24_1 : mblkB b_CS_feed [(24, .iload 4, vi 0)] = true := by decide +kernel
theorem e_hx_CS_feed_26 : decode b_CS_feed 26 = .ok (.invokestatic 47, 3) := by decide +kernel
theorem e_hx_CS_feed_29 : decode b_CS_feed 29 = .ok (.ifCond .eq 19, 3) := by decide +kernel
theorem f_hx_CS_feed_32_1 : mblkB b_CS_feed [(32, .iload 5, vi 0)] = true := by decide +kernel
theorem e_hx_CS_feed_34 : decode b_CS_feed 34 = .ok (.invokestatic 47, 3) := by decide +kernel
theorem e_hx_CS_feed_37 : decode b_CS_feed 37 = .ok (.ifCond .eq 11, 3) := by decide +kernel
theorem f_hx_CS_feed_40_1 : mblkB b_CS_feed [(40, .iload 6, vi 0)] = true := by decide +kernel
theorem e_hx_CS_feed_42 : decode b_CS_feed 42 = .ok (.invokestatic 47, 3) := by decide +kernel
theorem e_hx_CS_feed_45 : decode b_CS_feed 45 = .ok (.ifCond .ne 6, 3) := by decide +kernel
theorem f_hx_CS_feed_51_3 : mblkB b_CS_feed [(51, .iload_n 1, vi 0), (52, .bipush 120, vi 120), (54, .aload_n 0, vi 0)] = true := by decide +kernel
theorem e_hx_CS_feed_55 : decode b_CS_feed 55 = .ok (.getfield 51, 3) := by decide +kernel
theorem f_hx_CS_feed_58_1 : mblkB b_CS_feed [(58, .isub, vi 0)] = true := by decide +kernel
theorem e_hx_CS_feed_59 : decode b_CS_feed 59 = .ok (.if_icmp .le 6, 3) := by decide +kernel
theorem f_hx_CS_feed_65_2 : mblkB b_CS_feed [(65, .iconst 0, vi 0), (66, .istore 7, vi 0)] = true := by decide +kernel
theorem f_hx_CS_feed_62_1 : mblkB b_CS_feed [(62, .bipush (-4), vi (-4))] = true := by decide +kernel
theorem e_hx_CS_feed_64 : decode b_CS_feed 64 = .ok (.ireturn, 1) := by decide +kernel
theorem f_hx_CS_feed_68_2 : mblkB b_CS_feed [(68, .iload 7, vi 0), (70, .iload_n 1, vi 0)] = true := by decide +kernel
theorem e_hx_CS_feed_71 : decode b_CS_feed 71 = .ok (.if_icmp .ge 56, 3) := by decide +kernel
theorem f_hx_CS_feed_127_1 : mblkB b_CS_feed [(127, .aload_n 0, vi 0)] = true := by decide +kernel
theorem e_hx_CS_feed_128 : decode b_CS_feed 128 = .ok (.getfield 51, 3) := by decide +kernel
theorem e_hx_CS_feed_131 : decode b_CS_feed 131 = .ok (.ireturn, 1) := by decide +kernel
theorem f_hx_CS_feed_74_2 : mblkB b_CS_feed [(74, .aload_n 0, vi 0), (75, .iload 7, vi 0)] = true := by decide +kernel
theorem e_hx_CS_feed_77 : decode b_CS_feed 77 = .ok (.ifCond .ne 7, 3) := by decide +kernel
theorem f_hx_CS_feed_84_2 : mblkB b_CS_feed [(84, .iload 7, vi 0), (86, .iconst 1, vi 1)] = true := by decide +kernel
theorem e_hx_CS_feed_87 : decode b_CS_feed 87 = .ok (.if_icmp .ne 7, 3) := by decide +kernel
theorem f_hx_CS_feed_94_2 : mblkB b_CS_feed [(94, .iload 7, vi 0), (96, .iconst 2, vi 2)] = true := by decide +kernel
theorem e_hx_CS_feed_97 : decode b_CS_feed 97 = .ok (.if_icmp .ne 8, 3) := by decide +kernel
theorem f_hx_CS_feed_105_2 : mblkB b_CS_feed [(105, .iload 7, vi 0), (107, .iconst 3, vi 3)] = true := by decide +kernel
theorem e_hx_CS_feed_108 : decode b_CS_feed 108 = .ok (.if_icmp .ne 8, 3) := by decide +kernel
theorem f_hx_CS_feed_116_1 : mblkB b_CS_feed [(116, .iload 6, vi 0)] = true := by decide +kernel
theorem e_hx_CS_feed_118 : decode b_CS_feed 118 = .ok (.invokevirtual 55, 3) := by decide +kernel
theorem f_hx_CS_feed_121_2 : mblkB b_CS_feed [(121, .iinc 7 1, vi 1), (124, .goto (-56), vi 68)] = true := by decide +kernel
theorem f_hx_CS_feed_111_2 : mblkB b_CS_feed [(111, .iload 5, vi 0), (113, .goto 5, vi 118)] = true := by decide +kernel
theorem f_hx_CS_feed_100_2 : mblkB b_CS_feed [(100, .iload 4, vi 0), (102, .goto 16, vi 118)] = true := by decide +kernel
theorem f_hx_CS_feed_90_2 : mblkB b_CS_feed [(90, .iload_n 3, vi 0), (91, .goto 27, vi 118)] = true := by decide +kernel
theorem f_hx_CS_feed_80_2 : mblkB b_CS_feed [(80, .iload_n 2, vi 0), (81, .goto 37, vi 118)] = true := by decide +kernel
set_option maxHeartbeats 4000000 in
set_option maxRecDepth 20000 in
theorem hx_CS_feed  : ∀ (l : Launch) (D : va_G) (B : Nat) (H0 : Heap) (G : tG) (A : mA) (o : Nat) (a0 : Int) (a1 : Int) (a2 : Int) (a3 : Int) (a4 : Int) (a5 : Int) (h_o : G o = some 8)  (r9 : Int) (A9 : mA), f_CS_feed  A o a0 a1 a2 a3 a4 a5 = some (r9, A9) → hMet l D B H0 G y_CS_feed b_CS_feed 8 (some .int) 1 21 [vr 8 o, vi a0, vi a1, vi a2, vi a3, vi a4, vi a5] A (fun v A' => v = some (vi r9) ∧ A' = A9) := by
  intro l D B H0 G A o a0 a1 a2 a3 a4 a5 h_o r9 A9 h
  refine h_met (by decide) rfl (fun g q C Rm Y E => ?_)
  have hd_68 : ∀ (n : Nat) (A : mA) (b0 : Nat) (b1 : Int) (b2 : Int) (b3 : Int) (b4 : Int) (b5 : Int) (b6 : Int) (b7 : Int) , G b0 = some 8 → f_CS_feed_68  n A b0 b1 b2 b3 b4 b5 b6 b7 = some (r9, A9) → HM g D G q A 68 [(0, vr 8 b0), (1, vi b1), (2, vi b2), (3, vi b3), (4, vi b4), (5, vi b5), (6, vi b6), (7, vi b7)] [] := by
    intro n
    induction n with
    | zero => intro A b0 b1 b2 b3 b4 b5 b6 b7 h_b0 h; cases h
    | succ n ih =>
      intro A b0 b1 b2 b3 b4 b5 b6 b7 h_b0 h
      unfold f_CS_feed_68 at h
      refine h_blk 71 [(0, vr 8 b0), (1, vi b1), (2, vi b2), (3, vi b3), (4, vi b4), (5, vi b5), (6, vi b6), (7, vi b7)] [vi b1, vi b7] C f_hx_CS_feed_68_2 rfl ?_
      obtain ⟨c1, h⟩ := igd h
      obtain ⟨c2, h⟩ := igd h
      refine h_icmp_ge (tgt := 127) C e_hx_CS_feed_71 (by decide) c1 c2 (fun c3 => ?_) (fun c3 => ?_)
      · have h := ifp c3 h
        refine h_blk 128 [(0, vr 8 b0), (1, vi b1), (2, vi b2), (3, vi b3), (4, vi b4), (5, vi b5), (6, vi b6), (7, vi b7)] [vr 8 b0] C f_hx_CS_feed_127_1 rfl ?_
        refine h_geti C e_hx_CS_feed_128 fg_CS_51 h_b0 rfl rfl rfl (A 8 b0 1) rfl ?_
        exact h_iret C Rm E e_hx_CS_feed_131 (fin1 h)
      · have h := ifn c3 h
        refine h_blk 77 [(0, vr 8 b0), (1, vi b1), (2, vi b2), (3, vi b3), (4, vi b4), (5, vi b5), (6, vi b6), (7, vi b7)] [vi b7, vr 8 b0] C f_hx_CS_feed_74_2 rfl ?_
        refine h_if_ne (tgt := 84) C e_hx_CS_feed_77 (by decide) c1 (fun c4 => ?_) (fun c4 => ?_)
        · have h := ifn c4 h
          refine h_blk 87 [(0, vr 8 b0), (1, vi b1), (2, vi b2), (3, vi b3), (4, vi b4), (5, vi b5), (6, vi b6), (7, vi b7)] [vi 1, vi b7, vr 8 b0] C f_hx_CS_feed_84_2 rfl ?_
          refine h_icmp_ne (tgt := 94) C e_hx_CS_feed_87 (by decide) c1 (by decide) (fun c5 => ?_) (fun c5 => ?_)
          · have h := ifn c5 h
            refine h_blk 97 [(0, vr 8 b0), (1, vi b1), (2, vi b2), (3, vi b3), (4, vi b4), (5, vi b5), (6, vi b6), (7, vi b7)] [vi 2, vi b7, vr 8 b0] C f_hx_CS_feed_94_2 rfl ?_
            refine h_icmp_ne (tgt := 105) C e_hx_CS_feed_97 (by decide) c1 (by decide) (fun c6 => ?_) (fun c6 => ?_)
            · have h := ifn c6 h
              refine h_blk 108 [(0, vr 8 b0), (1, vi b1), (2, vi b2), (3, vi b3), (4, vi b4), (5, vi b5), (6, vi b6), (7, vi b7)] [vi 3, vi b7, vr 8 b0] C f_hx_CS_feed_105_2 rfl ?_
              refine h_icmp_ne (tgt := 116) C e_hx_CS_feed_108 (by decide) c1 (by decide) (fun c7 => ?_) (fun c7 => ?_)
              · have h := ifn c7 h
                refine h_blk 118 [(0, vr 8 b0), (1, vi b1), (2, vi b2), (3, vi b3), (4, vi b4), (5, vi b5), (6, vi b6), (7, vi b7)] [vi b6, vr 8 b0] C f_hx_CS_feed_116_1 rfl ?_
                obtain ⟨q8, e9, h⟩ := obd h
                refine h_callV C Rm Y [vi b6] [] (hx_CS_append l D B H0 G _ b0 b6 h_b0 _ _ e9) cl_CS_55 h_b0 rfl rfl rfl e_hx_CS_feed_118 rfl rfl rfl ⟨by decide, by decide⟩ ?_
                rintro _ _ ⟨rfl, rfl⟩
                show HM g D G q q8.2 121 [(0, vr 8 b0), (1, vi b1), (2, vi b2), (3, vi b3), (4, vi b4), (5, vi b5), (6, vi b6), (7, vi b7)] []
                refine h_blk 68 [(7, vi (b7 + 1)), (0, vr 8 b0), (1, vi b1), (2, vi b2), (3, vi b3), (4, vi b4), (5, vi b5), (6, vi b6)] [] C f_hx_CS_feed_121_2 rfl ?_
                refine h_loc [(0, vr 8 b0), (1, vi b1), (2, vi b2), (3, vi b3), (4, vi b4), (5, vi b5), (6, vi b6), (7, vi (b7 + 1))] ⟨rfl, rfl, rfl, rfl, rfl, rfl, rfl, rfl, trivial⟩ ?_
                exact ih q8.2 b0 b1 b2 b3 b4 b5 b6 (b7 + 1) (h_b0) h
              · have h := ifp c7 h
                refine h_blk 118 [(0, vr 8 b0), (1, vi b1), (2, vi b2), (3, vi b3), (4, vi b4), (5, vi b5), (6, vi b6), (7, vi b7)] [vi b5, vr 8 b0] C f_hx_CS_feed_111_2 rfl ?_
                obtain ⟨q10, e11, h⟩ := obd h
                refine h_callV C Rm Y [vi b5] [] (hx_CS_append l D B H0 G _ b0 b5 h_b0 _ _ e11) cl_CS_55 h_b0 rfl rfl rfl e_hx_CS_feed_118 rfl rfl rfl ⟨by decide, by decide⟩ ?_
                rintro _ _ ⟨rfl, rfl⟩
                show HM g D G q q10.2 121 [(0, vr 8 b0), (1, vi b1), (2, vi b2), (3, vi b3), (4, vi b4), (5, vi b5), (6, vi b6), (7, vi b7)] []
                refine h_blk 68 [(7, vi (b7 + 1)), (0, vr 8 b0), (1, vi b1), (2, vi b2), (3, vi b3), (4, vi b4), (5, vi b5), (6, vi b6)] [] C f_hx_CS_feed_121_2 rfl ?_
                refine h_loc [(0, vr 8 b0), (1, vi b1), (2, vi b2), (3, vi b3), (4, vi b4), (5, vi b5), (6, vi b6), (7, vi (b7 + 1))] ⟨rfl, rfl, rfl, rfl, rfl, rfl, rfl, rfl, trivial⟩ ?_
                exact ih q10.2 b0 b1 b2 b3 b4 b5 b6 (b7 + 1) (h_b0) h
            · have h := ifp c6 h
              refine h_blk 118 [(0, vr 8 b0), (1, vi b1), (2, vi b2), (3, vi b3), (4, vi b4), (5, vi b5), (6, vi b6), (7, vi b7)] [vi b4, vr 8 b0] C f_hx_CS_feed_100_2 rfl ?_
              obtain ⟨q12, e13, h⟩ := obd h
              refine h_callV C Rm Y [vi b4] [] (hx_CS_append l D B H0 G _ b0 b4 h_b0 _ _ e13) cl_CS_55 h_b0 rfl rfl rfl e_hx_CS_feed_118 rfl rfl rfl ⟨by decide, by decide⟩ ?_
              rintro _ _ ⟨rfl, rfl⟩
              show HM g D G q q12.2 121 [(0, vr 8 b0), (1, vi b1), (2, vi b2), (3, vi b3), (4, vi b4), (5, vi b5), (6, vi b6), (7, vi b7)] []
              refine h_blk 68 [(7, vi (b7 + 1)), (0, vr 8 b0), (1, vi b1), (2, vi b2), (3, vi b3), (4, vi b4), (5, vi b5), (6, vi b6)] [] C f_hx_CS_feed_121_2 rfl ?_
              refine h_loc [(0, vr 8 b0), (1, vi b1), (2, vi b2), (3, vi b3), (4, vi b4), (5, vi b5), (6, vi b6), (7, vi (b7 + 1))] ⟨rfl, rfl, rfl, rfl, rfl, rfl, rfl, rfl, trivial⟩ ?_
              exact ih q12.2 b0 b1 b2 b3 b4 b5 b6 (b7 + 1) (h_b0) h
          · have h := ifp c5 h
            refine h_blk 118 [(0, vr 8 b0), (1, vi b1), (2, vi b2), (3, vi b3), (4, vi b4), (5, vi b5), (6, vi b6), (7, vi b7)] [vi b3, vr 8 b0] C f_hx_CS_feed_90_2 rfl ?_
            obtain ⟨q14, e15, h⟩ := obd h
            refine h_callV C Rm Y [vi b3] [] (hx_CS_append l D B H0 G _ b0 b3 h_b0 _ _ e15) cl_CS_55 h_b0 rfl rfl rfl e_hx_CS_feed_118 rfl rfl rfl ⟨by decide, by decide⟩ ?_
            rintro _ _ ⟨rfl, rfl⟩
            show HM g D G q q14.2 121 [(0, vr 8 b0), (1, vi b1), (2, vi b2), (3, vi b3), (4, vi b4), (5, vi b5), (6, vi b6), (7, vi b7)] []
            refine h_blk 68 [(7, vi (b7 + 1)), (0, vr 8 b0), (1, vi b1), (2, vi b2), (3, vi b3), (4, vi b4), (5, vi b5), (6, vi b6)] [] C f_hx_CS_feed_121_2 rfl ?_
            refine h_loc [(0, vr 8 b0), (1, vi b1), (2, vi b2), (3, vi b3), (4, vi b4), (5, vi b5), (6, vi b6), (7, vi (b7 + 1))] ⟨rfl, rfl, rfl, rfl, rfl, rfl, rfl, rfl, trivial⟩ ?_
            exact ih q14.2 b0 b1 b2 b3 b4 b5 b6 (b7 + 1) (h_b0) h
        · have h := ifp c4 h
          refine h_blk 118 [(0, vr 8 b0), (1, vi b1), (2, vi b2), (3, vi b3), (4, vi b4), (5, vi b5), (6, vi b6), (7, vi b7)] [vi b2, vr 8 b0] C f_hx_CS_feed_80_2 rfl ?_
          obtain ⟨q16, e17, h⟩ := obd h
          refine h_callV C Rm Y [vi b2] [] (hx_CS_append l D B H0 G _ b0 b2 h_b0 _ _ e17) cl_CS_55 h_b0 rfl rfl rfl e_hx_CS_feed_118 rfl rfl rfl ⟨by decide, by decide⟩ ?_
          rintro _ _ ⟨rfl, rfl⟩
          show HM g D G q q16.2 121 [(0, vr 8 b0), (1, vi b1), (2, vi b2), (3, vi b3), (4, vi b4), (5, vi b5), (6, vi b6), (7, vi b7)] []
          refine h_blk 68 [(7, vi (b7 + 1)), (0, vr 8 b0), (1, vi b1), (2, vi b2), (3, vi b3), (4, vi b4), (5, vi b5), (6, vi b6)] [] C f_hx_CS_feed_121_2 rfl ?_
          refine h_loc [(0, vr 8 b0), (1, vi b1), (2, vi b2), (3, vi b3), (4, vi b4), (5, vi b5), (6, vi b6), (7, vi (b7 + 1))] ⟨rfl, rfl, rfl, rfl, rfl, rfl, rfl, rfl, trivial⟩ ?_
          exact ih q16.2 b0 b1 b2 b3 b4 b5 b6 (b7 + 1) (h_b0) h
  show HM g D G q A 0 [(0, vr 8 o), (1, vi a0), (2, vi a1), (3, vi a2), (4, vi a3), (5, vi a4), (6, vi a5)] []
  unfold f_CS_feed at h
  refine h_blk 2 [(0, vr 8 o), (1, vi a0), (2, vi a1), (3, vi a2), (4, vi a3), (5, vi a4), (6, vi a5)] [vi 1, vi a0] C f_hx_CS_feed_0_2 rfl ?_
  obtain ⟨c18, h⟩ := igd h
  refine h_icmp_lt (tgt := 48) C e_hx_CS_feed_2 (by decide) c18 (by decide) (fun c19 => ?_) (fun c19 => ?_)
  · have h := ifp c19 h
    refine h_blk 50 [(0, vr 8 o), (1, vi a0), (2, vi a1), (3, vi a2), (4, vi a3), (5, vi a4), (6, vi a5)] [vi (-2)] C f_hx_CS_feed_48_1 rfl ?_
    exact h_iret C Rm E e_hx_CS_feed_50 (fin1 h)
  · have h := ifn c19 h
    refine h_blk 7 [(0, vr 8 o), (1, vi a0), (2, vi a1), (3, vi a2), (4, vi a3), (5, vi a4), (6, vi a5)] [vi 5, vi a0] C f_hx_CS_feed_5_2 rfl ?_
    refine h_icmp_gt (tgt := 48) C e_hx_CS_feed_7 (by decide) c18 (by decide) (fun c20 => ?_) (fun c20 => ?_)
    · have h := ifp c20 h
      refine h_blk 50 [(0, vr 8 o), (1, vi a0), (2, vi a1), (3, vi a2), (4, vi a3), (5, vi a4), (6, vi a5)] [vi (-2)] C f_hx_CS_feed_48_1 rfl ?_
      exact h_iret C Rm E e_hx_CS_feed_50 (fin1 h)
    · have h := ifn c20 h
      refine h_blk 11 [(0, vr 8 o), (1, vi a0), (2, vi a1), (3, vi a2), (4, vi a3), (5, vi a4), (6, vi a5)] [vi a1] C f_hx_CS_feed_10_1 rfl ?_
      obtain ⟨q21, e22, h⟩ := obd h
      refine h_callS C Rm Y [vi a1] [] (hx_CS_isByte l D B H0 G _ a1 _ _ e22) cl_CS_47 e_hx_CS_feed_11 rfl rfl rfl ⟨by decide, by decide⟩ ?_
      rintro _ _ ⟨rfl, rfl⟩
      show HM g D G q q21.2 14 [(0, vr 8 o), (1, vi a0), (2, vi a1), (3, vi a2), (4, vi a3), (5, vi a4), (6, vi a5)] [vi q21.1]
      obtain ⟨c23, h⟩ := igd h
      refine h_if_eq (tgt := 48) C e_hx_CS_feed_14 (by decide) c23 (fun c24 => ?_) (fun c24 => ?_)
      · have h := ifp c24 h
        refine h_blk 50 [(0, vr 8 o), (1, vi a0), (2, vi a1), (3, vi a2), (4, vi a3), (5, vi a4), (6, vi a5)] [vi (-2)] C f_hx_CS_feed_48_1 rfl ?_
        exact h_iret C Rm E e_hx_CS_feed_50 (fin1 h)
      · have h := ifn c24 h
        refine h_blk 18 [(0, vr 8 o), (1, vi a0), (2, vi a1), (3, vi a2), (4, vi a3), (5, vi a4), (6, vi a5)] [vi a2] C f_hx_CS_feed_17_1 rfl ?_
        obtain ⟨q25, e26, h⟩ := obd h
        refine h_callS C Rm Y [vi a2] [] (hx_CS_isByte l D B H0 G _ a2 _ _ e26) cl_CS_47 e_hx_CS_feed_18 rfl rfl rfl ⟨by decide, by decide⟩ ?_
        rintro _ _ ⟨rfl, rfl⟩
        show HM g D G q q25.2 21 [(0, vr 8 o), (1, vi a0), (2, vi a1), (3, vi a2), (4, vi a3), (5, vi a4), (6, vi a5)] [vi q25.1]
        obtain ⟨c27, h⟩ := igd h
        refine h_if_eq (tgt := 48) C e_hx_CS_feed_21 (by decide) c27 (fun c28 => ?_) (fun c28 => ?_)
        · have h := ifp c28 h
          refine h_blk 50 [(0, vr 8 o), (1, vi a0), (2, vi a1), (3, vi a2), (4, vi a3), (5, vi a4), (6, vi a5)] [vi (-2)] C f_hx_CS_feed_48_1 rfl ?_
          exact h_iret C Rm E e_hx_CS_feed_50 (fin1 h)
        · have h := ifn c28 h
          refine h_blk 26 [(0, vr 8 o), (1, vi a0), (2, vi a1), (3, vi a2), (4, vi a3), (5, vi a4), (6, vi a5)] [vi a3] C f_hx_CS_feed_24_1 rfl ?_
          obtain ⟨q29, e30, h⟩ := obd h
          refine h_callS C Rm Y [vi a3] [] (hx_CS_isByte l D B H0 G _ a3 _ _ e30) cl_CS_47 e_hx_CS_feed_26 rfl rfl rfl ⟨by decide, by decide⟩ ?_
          rintro _ _ ⟨rfl, rfl⟩
          show HM g D G q q29.2 29 [(0, vr 8 o), (1, vi a0), (2, vi a1), (3, vi a2), (4, vi a3), (5, vi a4), (6, vi a5)] [vi q29.1]
          obtain ⟨c31, h⟩ := igd h
          refine h_if_eq (tgt := 48) C e_hx_CS_feed_29 (by decide) c31 (fun c32 => ?_) (fun c32 => ?_)
          · have h := ifp c32 h
            refine h_blk 50 [(0, vr 8 o), (1, vi a0), (2, vi a1), (3, vi a2), (4, vi a3), (5, vi a4), (6, vi a5)] [vi (-2)] C f_hx_CS_feed_48_1 rfl ?_
            exact h_iret C Rm E e_hx_CS_feed_50 (fin1 h)
          · have h := ifn c32 h
            refine h_blk 34 [(0, vr 8 o), (1, vi a0), (2, vi a1), (3, vi a2), (4, vi a3), (5, vi a4), (6, vi a5)] [vi a4] C f_hx_CS_feed_32_1 rfl ?_
            obtain ⟨q33, e34, h⟩ := obd h
            refine h_callS C Rm Y [vi a4] [] (hx_CS_isByte l D B H0 G _ a4 _ _ e34) cl_CS_47 e_hx_CS_feed_34 rfl rfl rfl ⟨by decide, by decide⟩ ?_
            rintro _ _ ⟨rfl, rfl⟩
            show HM g D G q q33.2 37 [(0, vr 8 o), (1, vi a0), (2, vi a1), (3, vi a2), (4, vi a3), (5, vi a4), (6, vi a5)] [vi q33.1]
            obtain ⟨c35, h⟩ := igd h
            refine h_if_eq (tgt := 48) C e_hx_CS_feed_37 (by decide) c35 (fun c36 => ?_) (fun c36 => ?_)
            · have h := ifp c36 h
              refine h_blk 50 [(0, vr 8 o), (1, vi a0), (2, vi a1), (3, vi a2), (4, vi a3), (5, vi a4), (6, vi a5)] [vi (-2)] C f_hx_CS_feed_48_1 rfl ?_
              exact h_iret C Rm E e_hx_CS_feed_50 (fin1 h)
            · have h := ifn c36 h
              refine h_blk 42 [(0, vr 8 o), (1, vi a0), (2, vi a1), (3, vi a2), (4, vi a3), (5, vi a4), (6, vi a5)] [vi a5] C f_hx_CS_feed_40_1 rfl ?_
              obtain ⟨q37, e38, h⟩ := obd h
              refine h_callS C Rm Y [vi a5] [] (hx_CS_isByte l D B H0 G _ a5 _ _ e38) cl_CS_47 e_hx_CS_feed_42 rfl rfl rfl ⟨by decide, by decide⟩ ?_
              rintro _ _ ⟨rfl, rfl⟩
              show HM g D G q q37.2 45 [(0, vr 8 o), (1, vi a0), (2, vi a1), (3, vi a2), (4, vi a3), (5, vi a4), (6, vi a5)] [vi q37.1]
              obtain ⟨c39, h⟩ := igd h
              refine h_if_ne (tgt := 51) C e_hx_CS_feed_45 (by decide) c39 (fun c40 => ?_) (fun c40 => ?_)
              · have h := ifn c40 h
                refine h_blk 55 [(0, vr 8 o), (1, vi a0), (2, vi a1), (3, vi a2), (4, vi a3), (5, vi a4), (6, vi a5)] [vr 8 o, vi 120, vi a0] C f_hx_CS_feed_51_3 rfl ?_
                refine h_geti C e_hx_CS_feed_55 fg_CS_51 h_o rfl rfl rfl (q37.2 8 o 1) rfl ?_
                refine h_blk 59 [(0, vr 8 o), (1, vi a0), (2, vi a1), (3, vi a2), (4, vi a3), (5, vi a4), (6, vi a5)] [vi (120 - (q37.2 8 o 1)), vi a0] C f_hx_CS_feed_58_1 rfl ?_
                obtain ⟨c41, h⟩ := igd h
                refine h_icmp_le (tgt := 65) C e_hx_CS_feed_59 (by decide) c18 c41 (fun c42 => ?_) (fun c42 => ?_)
                · have h := ifp c42 h
                  refine h_blk 68 [(7, vi 0), (0, vr 8 o), (1, vi a0), (2, vi a1), (3, vi a2), (4, vi a3), (5, vi a4), (6, vi a5)] [] C f_hx_CS_feed_65_2 rfl ?_
                  refine h_loc [(0, vr 8 o), (1, vi a0), (2, vi a1), (3, vi a2), (4, vi a3), (5, vi a4), (6, vi a5), (7, vi 0)] ⟨rfl, rfl, rfl, rfl, rfl, rfl, rfl, rfl, trivial⟩ ?_
                  exact hd_68 _ q37.2 o a0 a1 a2 a3 a4 a5 0 (h_o) h
                · have h := ifn c42 h
                  refine h_blk 64 [(0, vr 8 o), (1, vi a0), (2, vi a1), (3, vi a2), (4, vi a3), (5, vi a4), (6, vi a5)] [vi (-4)] C f_hx_CS_feed_62_1 rfl ?_
                  exact h_iret C Rm E e_hx_CS_feed_64 (fin1 h)
              · have h := ifp c40 h
                refine h_blk 50 [(0, vr 8 o), (1, vi a0), (2, vi a1), (3, vi a2), (4, vi a3), (5, vi a4), (6, vi a5)] [vi (-2)] C f_hx_CS_feed_48_1 rfl ?_
                exact h_iret C Rm E e_hx_CS_feed_50 (fin1 h)
