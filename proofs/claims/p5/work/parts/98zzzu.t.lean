/-! crowds and the mixer as functions (own work, by program) -/
theorem h_alen3 {g : jG} {D : va_G} {G : tG} {q : Nat × Nat} {A : mA} {cc : ByteArray} {nL pc : Nat} {own : String} {L : List (Nat × mV)} {st : List mV} (C : jX g cc nL own D) {τ a n : Nat} {e : vT} (hd : decode cc pc = .ok (.arraylength, 1)) (hg : G a = some τ) (ho : tyO τ = none) (ha : tyA τ = some (1, n, e)) (kk : HM g D G q A (pc + 1) L (vi n :: st)) : HM g D G q A pc L (vr τ a :: st) := fun w hw hr => by
  obtain ⟨f, hc, -⟩ := (hcell_J ho ha).mp (hw a τ hg)
  exact j_alen (t := 1) C hd rfl hc rfl (by rw [← Int32.ofInt_eq_ofNat]; exact kk w hw hr)
def f_CS_maskOf_4 : Nat → mA → Int → Int → Int → Option (Int × mA)
  | 0, _, _, _, _ => none
  | n + 1, A, b0, b1, b2 => (if g32 b2 then (if 6 ≤ b2 then (some (b1, A)) else (if g32 b0 then (if b0 = (-1) then (Option.bind (f_CS_shiftOf A b2) (fun q5 => (f_CS_maskOf_4  n q5.2 b0 (iOr b1 (iShl 15 q5.1)) (b2 + 1)))) else (if (iAnd (iShr b0 b2) 1) = 1 then (Option.bind (f_CS_shiftOf A b2) (fun q8 => (f_CS_maskOf_4  n q8.2 b0 (iOr b1 (iShl 15 q8.1)) (b2 + 1)))) else (f_CS_maskOf_4  n A b0 (iOr b1 0) (b2 + 1)))) else none)) else none)
def f_CS_maskOf (A : mA) (a0 : Int) : Option (Int × mA) := (f_CS_maskOf_4  20 A a0 0 0)
theorem f_hx_CS_maskOf_0_4 : mblkB b_CS_maskOf [(0, .iconst 0, vi 0), (1, .istore_n 1, vi 0), (2, .iconst 0, vi 0), (3, .istore_n 2, vi 0)] = true := by decide +kernel
theorem f_hx_CS_maskOf_4_2 : mblkB b_CS_maskOf [(4, .iload_n 2, vi 0), (5, .bipush 6, vi 6)] = true := by decide +kernel
theorem e_hx_CS_maskOf_7 : decode b_CS_maskOf 7 = .ok (.if_icmp .ge 37, 3) := by decide +kernel
theorem f_hx_CS_maskOf_44_1 : mblkB b_CS_maskOf [(44, .iload_n 1, vi 0)] = true := by decide +kernel
theorem e_hx_CS_maskOf_45 : decode b_CS_maskOf 45 = .ok (.ireturn, 1) := by decide +kernel
theorem f_hx_CS_maskOf_10_3 : mblkB b_CS_maskOf [(10, .iload_n 1, vi 0), (11, .iload_n 0, vi 0), (12, .iconst (-1), vi (-1))] = true := by decide +kernel
theorem e_hx_CS_maskOf_13 : decode b_CS_maskOf 13 = .ok (.if_icmp .eq 12, 3) := by decide +kernel
theorem f_hx_CS_maskOf_25_2 : mblkB b_CS_maskOf [(25, .bipush 15, vi 15), (27, .iload_n 2, vi 0)] = true := by decide +kernel
theorem e_hx_CS_maskOf_28 : decode b_CS_maskOf 28 = .ok (.invokestatic 269, 3) := by decide +kernel
theorem f_hx_CS_maskOf_31_2 : mblkB b_CS_maskOf [(31, .ishl, vi 0), (32, .goto 4, vi 36)] = true := by decide +kernel
theorem f_hx_CS_maskOf_36_4 : mblkB b_CS_maskOf [(36, .ior, vi 0), (37, .istore_n 1, vi 0), (38, .iinc 2 1, vi 1), (41, .goto (-37), vi 4)] = true := by decide +kernel
theorem f_hx_CS_maskOf_16_6 : mblkB b_CS_maskOf [(16, .iload_n 0, vi 0), (17, .iload_n 2, vi 0), (18, .ishr, vi 0), (19, .iconst 1, vi 1), (20, .iand, vi 0), (21, .iconst 1, vi 1)] = true := by decide +kernel
theorem e_hx_CS_maskOf_22 : decode b_CS_maskOf 22 = .ok (.if_icmp .ne 13, 3) := by decide +kernel
theorem f_hx_CS_maskOf_35_5 : mblkB b_CS_maskOf [(35, .iconst 0, vi 0), (36, .ior, vi 0), (37, .istore_n 1, vi 0), (38, .iinc 2 1, vi 1), (41, .goto (-37), vi 4)] = true := by decide +kernel
set_option maxHeartbeats 4000000 in
set_option maxRecDepth 20000 in
theorem hx_CS_maskOf  : ∀ (l : Launch) (D : va_G) (B : Nat) (H0 : Heap) (G : tG) (A : mA) (a0 : Int)  (r9 : Int) (A9 : mA), f_CS_maskOf  A a0 = some (r9, A9) → hMet l D B H0 G y_CS_maskOf b_CS_maskOf 3 (some .int) 1 20 [vi a0] A (fun v A' => v = some (vi r9) ∧ A' = A9) := by
  intro l D B H0 G A a0  r9 A9 h
  refine h_met (by decide) rfl (fun g q C Rm Y E => ?_)
  have hd_4 : ∀ (n : Nat) (A : mA) (b0 : Int) (b1 : Int) (b2 : Int) , f_CS_maskOf_4  n A b0 b1 b2 = some (r9, A9) → HM g D G q A 4 [(0, vi b0), (1, vi b1), (2, vi b2)] [] := by
    intro n
    induction n with
    | zero => intro A b0 b1 b2  h; cases h
    | succ n ih =>
      intro A b0 b1 b2  h
      unfold f_CS_maskOf_4 at h
      refine h_blk 7 [(0, vi b0), (1, vi b1), (2, vi b2)] [vi 6, vi b2] C f_hx_CS_maskOf_4_2 rfl ?_
      obtain ⟨c1, h⟩ := igd h
      refine h_icmp_ge (tgt := 44) C e_hx_CS_maskOf_7 (by decide) c1 (by decide) (fun c2 => ?_) (fun c2 => ?_)
      · have h := ifp c2 h
        refine h_blk 45 [(0, vi b0), (1, vi b1), (2, vi b2)] [vi b1] C f_hx_CS_maskOf_44_1 rfl ?_
        exact h_iret C Rm E e_hx_CS_maskOf_45 (fin1 h)
      · have h := ifn c2 h
        refine h_blk 13 [(0, vi b0), (1, vi b1), (2, vi b2)] [vi (-1), vi b0, vi b1] C f_hx_CS_maskOf_10_3 rfl ?_
        obtain ⟨c3, h⟩ := igd h
        refine h_icmp_eq (tgt := 25) C e_hx_CS_maskOf_13 (by decide) c3 (by decide) (fun c4 => ?_) (fun c4 => ?_)
        · have h := ifp c4 h
          refine h_blk 28 [(0, vi b0), (1, vi b1), (2, vi b2)] [vi b2, vi 15, vi b1] C f_hx_CS_maskOf_25_2 rfl ?_
          obtain ⟨q5, e6, h⟩ := obd h
          refine h_callS C Rm Y [vi b2] [vi 15, vi b1] (hx_CS_shiftOf l D B H0 G _ b2 _ _ e6) cl_CS_269 e_hx_CS_maskOf_28 rfl rfl rfl ⟨by decide, by decide⟩ ?_
          rintro _ _ ⟨rfl, rfl⟩
          show HM g D G q q5.2 31 [(0, vi b0), (1, vi b1), (2, vi b2)] [vi q5.1, vi 15, vi b1]
          refine h_blk 36 [(0, vi b0), (1, vi b1), (2, vi b2)] [vi (iShl 15 q5.1), vi b1] C f_hx_CS_maskOf_31_2 rfl ?_
          refine h_blk 4 [(2, vi (b2 + 1)), (1, vi (iOr b1 (iShl 15 q5.1))), (0, vi b0)] [] C f_hx_CS_maskOf_36_4 rfl ?_
          refine h_loc [(0, vi b0), (1, vi (iOr b1 (iShl 15 q5.1))), (2, vi (b2 + 1))] ⟨rfl, rfl, rfl, trivial⟩ ?_
          exact ih q5.2 b0 (iOr b1 (iShl 15 q5.1)) (b2 + 1)  h
        · have h := ifn c4 h
          refine h_blk 22 [(0, vi b0), (1, vi b1), (2, vi b2)] [vi 1, vi (iAnd (iShr b0 b2) 1), vi b1] C f_hx_CS_maskOf_16_6 rfl ?_
          refine h_icmp_ne (tgt := 35) C e_hx_CS_maskOf_22 (by decide) (iAnd_r _ _) (by decide) (fun c7 => ?_) (fun c7 => ?_)
          · have h := ifn c7 h
            refine h_blk 4 [(2, vi (b2 + 1)), (1, vi (iOr b1 0)), (0, vi b0)] [] C f_hx_CS_maskOf_35_5 rfl ?_
            refine h_loc [(0, vi b0), (1, vi (iOr b1 0)), (2, vi (b2 + 1))] ⟨rfl, rfl, rfl, trivial⟩ ?_
            exact ih A b0 (iOr b1 0) (b2 + 1)  h
          · have h := ifp c7 h
            refine h_blk 28 [(0, vi b0), (1, vi b1), (2, vi b2)] [vi b2, vi 15, vi b1] C f_hx_CS_maskOf_25_2 rfl ?_
            obtain ⟨q8, e9, h⟩ := obd h
            refine h_callS C Rm Y [vi b2] [vi 15, vi b1] (hx_CS_shiftOf l D B H0 G _ b2 _ _ e9) cl_CS_269 e_hx_CS_maskOf_28 rfl rfl rfl ⟨by decide, by decide⟩ ?_
            rintro _ _ ⟨rfl, rfl⟩
            show HM g D G q q8.2 31 [(0, vi b0), (1, vi b1), (2, vi b2)] [vi q8.1, vi 15, vi b1]
            refine h_blk 36 [(0, vi b0), (1, vi b1), (2, vi b2)] [vi (iShl 15 q8.1), vi b1] C f_hx_CS_maskOf_31_2 rfl ?_
            refine h_blk 4 [(2, vi (b2 + 1)), (1, vi (iOr b1 (iShl 15 q8.1))), (0, vi b0)] [] C f_hx_CS_maskOf_36_4 rfl ?_
            refine h_loc [(0, vi b0), (1, vi (iOr b1 (iShl 15 q8.1))), (2, vi (b2 + 1))] ⟨rfl, rfl, rfl, trivial⟩ ?_
            exact ih q8.2 b0 (iOr b1 (iShl 15 q8.1)) (b2 + 1)  h
  show HM g D G q A 0 [(0, vi a0)] []
  unfold f_CS_maskOf at h
  refine h_blk 4 [(2, vi 0), (1, vi 0), (0, vi a0)] [] C f_hx_CS_maskOf_0_4 rfl ?_
  refine h_loc [(0, vi a0), (1, vi 0), (2, vi 0)] ⟨rfl, rfl, rfl, trivial⟩ ?_
  exact hd_4 _ A a0 0 0  h

def f_Crowd_add (A : mA) (o : Nat) (a0 : Int) (a1 : Int) : Option (Int × mA) := (if g32 (A 0 o 2) then (if 300 ≤ (A 0 o 2) then (some (0, A)) else (if (0 ≤ (A 0 o 2) ∧ (A 0 o 2) < ((300 : Nat) : Int)) then (some (0, (mu (mu (mu A 31 ((A 0 o 0).toNat) ((A 0 o 2).toNat) a0) 32 ((A 0 o 1).toNat) ((A 0 o 2).toNat) a1) 0 o 2 ((A 0 o 2) + 1)))) else none)) else none)
theorem f_hx_Crowd_add_0_1 : mblkB b_Crowd_add [(0, .aload_n 0, vi 0)] = true := by decide +kernel
theorem e_hx_Crowd_add_1 : decode b_Crowd_add 1 = .ok (.getfield 19, 3) := by decide +kernel
theorem f_hx_Crowd_add_4_1 : mblkB b_Crowd_add [(4, .sipush 300, vi 300)] = true := by decide +kernel
theorem e_hx_Crowd_add_7 : decode b_Crowd_add 7 = .ok (.if_icmp .ge 33, 3) := by decide +kernel
theorem e_hx_Crowd_add_40 : decode b_Crowd_add 40 = .ok (.return_, 1) := by decide +kernel
theorem f_hx_Crowd_add_10_1 : mblkB b_Crowd_add [(10, .aload_n 0, vi 0)] = true := by decide +kernel
theorem e_hx_Crowd_add_11 : decode b_Crowd_add 11 = .ok (.getfield 9, 3) := by decide +kernel
theorem f_hx_Crowd_add_14_1 : mblkB b_Crowd_add [(14, .aload_n 0, vi 0)] = true := by decide +kernel
theorem e_hx_Crowd_add_15 : decode b_Crowd_add 15 = .ok (.getfield 19, 3) := by decide +kernel
theorem f_hx_Crowd_add_18_1 : mblkB b_Crowd_add [(18, .iload_n 1, vi 0)] = true := by decide +kernel
theorem e_hx_Crowd_add_19 : decode b_Crowd_add 19 = .ok (.iastore, 1) := by decide +kernel
theorem f_hx_Crowd_add_20_1 : mblkB b_Crowd_add [(20, .aload_n 0, vi 0)] = true := by decide +kernel
theorem e_hx_Crowd_add_21 : decode b_Crowd_add 21 = .ok (.getfield 15, 3) := by decide +kernel
theorem f_hx_Crowd_add_24_1 : mblkB b_Crowd_add [(24, .aload_n 0, vi 0)] = true := by decide +kernel
theorem e_hx_Crowd_add_25 : decode b_Crowd_add 25 = .ok (.getfield 19, 3) := by decide +kernel
theorem f_hx_Crowd_add_28_1 : mblkB b_Crowd_add [(28, .lload_n 2, vi 0)] = true := by decide +kernel
theorem e_hx_Crowd_add_29 : decode b_Crowd_add 29 = .ok (.lastore, 1) := by decide +kernel
theorem f_hx_Crowd_add_30_2 : mblkB b_Crowd_add [(30, .aload_n 0, vi 0), (31, .dup, vi 0)] = true := by decide +kernel
theorem e_hx_Crowd_add_32 : decode b_Crowd_add 32 = .ok (.getfield 19, 3) := by decide +kernel
theorem f_hx_Crowd_add_35_2 : mblkB b_Crowd_add [(35, .iconst 1, vi 1), (36, .iadd, vi 0)] = true := by decide +kernel
theorem e_hx_Crowd_add_37 : decode b_Crowd_add 37 = .ok (.putfield 19, 3) := by decide +kernel
set_option maxHeartbeats 4000000 in
set_option maxRecDepth 20000 in
theorem hx_Crowd_add  : ∀ (l : Launch) (D : va_G) (B : Nat) (H0 : Heap) (G : tG) (A : mA) (o : Nat) (a0 : Int) (a1 : Int) (h_o : G o = some 0)  (r9 : Int) (A9 : mA), f_Crowd_add  A o a0 a1 = some (r9, A9) → hMet l D B H0 G y_Crowd_add b_Crowd_add 4 none 0 0 [vr 0 o, vi a0, vl a1] A (fun v A' => v = none ∧ A' = A9) := by
  intro l D B H0 G A o a0 a1 h_o r9 A9 h
  refine h_met (by decide) rfl (fun g q C Rm Y E => ?_)
  show HM g D G q A 0 [(0, vr 0 o), (1, vi a0), (2, vl a1)] []
  unfold f_Crowd_add at h
  refine h_blk 1 [(0, vr 0 o), (1, vi a0), (2, vl a1)] [vr 0 o] C f_hx_Crowd_add_0_1 rfl ?_
  refine h_geti C e_hx_Crowd_add_1 fg_Crowd_19 h_o rfl rfl rfl (A 0 o 2) rfl ?_
  refine h_blk 7 [(0, vr 0 o), (1, vi a0), (2, vl a1)] [vi 300, vi (A 0 o 2)] C f_hx_Crowd_add_4_1 rfl ?_
  obtain ⟨c1, h⟩ := igd h
  refine h_icmp_ge (tgt := 40) C e_hx_Crowd_add_7 (by decide) c1 (by decide) (fun c2 => ?_) (fun c2 => ?_)
  · have h := ifp c2 h
    exact h_vret C Rm E e_hx_Crowd_add_40 (fin0 h)
  · have h := ifn c2 h
    refine h_blk 11 [(0, vr 0 o), (1, vi a0), (2, vl a1)] [vr 0 o] C f_hx_Crowd_add_10_1 rfl ?_
    refine h_getr4 C e_hx_Crowd_add_11 fg_Crowd_9 h_o rfl rfl rfl rfl (fun g3 => ?_)
    refine h_blk 15 [(0, vr 0 o), (1, vi a0), (2, vl a1)] [vr 0 o, vr 31 ((A 0 o 0).toNat)] C f_hx_Crowd_add_14_1 rfl ?_
    refine h_geti C e_hx_Crowd_add_15 fg_Crowd_19 h_o rfl rfl rfl (A 0 o 2) rfl ?_
    refine h_blk 19 [(0, vr 0 o), (1, vi a0), (2, vl a1)] [vi a0, vi (A 0 o 2), vr 31 ((A 0 o 0).toNat)] C f_hx_Crowd_add_18_1 rfl ?_
    obtain ⟨c4, h⟩ := igd h
    refine h_iast C e_hx_Crowd_add_19 g3 rfl rfl (by decide) c4.1 c4.2 ?_
    refine h_blk 21 [(0, vr 0 o), (1, vi a0), (2, vl a1)] [vr 0 o] C f_hx_Crowd_add_20_1 rfl ?_
    refine h_getr4 C e_hx_Crowd_add_21 fg_Crowd_15 h_o rfl rfl rfl rfl (fun g5 => ?_)
    refine h_blk 25 [(0, vr 0 o), (1, vi a0), (2, vl a1)] [vr 0 o, vr 32 ((A 0 o 1).toNat)] C f_hx_Crowd_add_24_1 rfl ?_
    refine h_geti C e_hx_Crowd_add_25 fg_Crowd_19 h_o rfl rfl rfl (A 0 o 2) rfl ?_
    refine h_blk 29 [(0, vr 0 o), (1, vi a0), (2, vl a1)] [vl a1, vi (A 0 o 2), vr 32 ((A 0 o 1).toNat)] C f_hx_Crowd_add_28_1 rfl ?_
    refine h_last C e_hx_Crowd_add_29 g5 rfl rfl (by decide) c4.1 c4.2 ?_
    refine h_blk 32 [(0, vr 0 o), (1, vi a0), (2, vl a1)] [vr 0 o, vr 0 o] C f_hx_Crowd_add_30_2 rfl ?_
    refine h_geti C e_hx_Crowd_add_32 fg_Crowd_19 h_o rfl rfl rfl (A 0 o 2) rfl ?_
    refine h_blk 37 [(0, vr 0 o), (1, vi a0), (2, vl a1)] [vi ((A 0 o 2) + 1), vr 0 o] C f_hx_Crowd_add_35_2 rfl ?_
    refine h_puti C e_hx_Crowd_add_37 fp_Crowd_19 h_o rfl rfl rfl ?_
    exact h_vret C Rm E e_hx_Crowd_add_40 (fin0 h)

def f_Crowd_begin (A : mA) (o : Nat) (a0 : Int) : Option (Int × mA) := (Option.bind (f_Crowd_add (mu A 0 o 2 0) o a0 1125899906842624) (fun q1 => (some (0, (mu q1.2 0 o 3 1)))))
theorem f_hx_Crowd_begin_0_2 : mblkB b_Crowd_begin [(0, .aload_n 0, vi 0), (1, .iconst 0, vi 0)] = true := by decide +kernel
theorem e_hx_Crowd_begin_2 : decode b_Crowd_begin 2 = .ok (.putfield 19, 3) := by decide +kernel
theorem f_hx_Crowd_begin_5_2 : mblkB b_Crowd_begin [(5, .aload_n 0, vi 0), (6, .iload_n 1, vi 0)] = true := by decide +kernel
theorem e_hx_Crowd_begin_7 : decode b_Crowd_begin 7 = .ok (.ldc2_w 23, 3) := by decide +kernel
theorem e_hx_Crowd_begin_10 : decode b_Crowd_begin 10 = .ok (.invokevirtual 25, 3) := by decide +kernel
theorem f_hx_Crowd_begin_13_2 : mblkB b_Crowd_begin [(13, .aload_n 0, vi 0), (14, .iconst 1, vi 1)] = true := by decide +kernel
theorem e_hx_Crowd_begin_15 : decode b_Crowd_begin 15 = .ok (.putfield 29, 3) := by decide +kernel
theorem e_hx_Crowd_begin_18 : decode b_Crowd_begin 18 = .ok (.return_, 1) := by decide +kernel
set_option maxHeartbeats 4000000 in
set_option maxRecDepth 20000 in
theorem hx_Crowd_begin  : ∀ (l : Launch) (D : va_G) (B : Nat) (H0 : Heap) (G : tG) (A : mA) (o : Nat) (a0 : Int) (h_o : G o = some 0)  (r9 : Int) (A9 : mA), f_Crowd_begin  A o a0 = some (r9, A9) → hMet l D B H0 G y_Crowd_begin b_Crowd_begin 2 none 1 23 [vr 0 o, vi a0] A (fun v A' => v = none ∧ A' = A9) := by
  intro l D B H0 G A o a0 h_o r9 A9 h
  refine h_met (by decide) rfl (fun g q C Rm Y E => ?_)
  show HM g D G q A 0 [(0, vr 0 o), (1, vi a0)] []
  unfold f_Crowd_begin at h
  refine h_blk 2 [(0, vr 0 o), (1, vi a0)] [vi 0, vr 0 o] C f_hx_Crowd_begin_0_2 rfl ?_
  refine h_puti C e_hx_Crowd_begin_2 fp_Crowd_19 h_o rfl rfl rfl ?_
  refine h_blk 7 [(0, vr 0 o), (1, vi a0)] [vi a0, vr 0 o] C f_hx_Crowd_begin_5_2 rfl ?_
  refine h_ldc2 C 1125899906842624 e_hx_Crowd_begin_7 ld_Crowd_23 (by decide) ?_
  obtain ⟨q1, e2, h⟩ := obd h
  refine h_callV C Rm Y [vi a0, vl 1125899906842624] [] (hx_Crowd_add l D B H0 G _ o a0 1125899906842624 h_o _ _ e2) cl_Crowd_25 h_o rfl rfl rfl e_hx_Crowd_begin_10 rfl rfl rfl ⟨by decide, by decide⟩ ?_
  rintro _ _ ⟨rfl, rfl⟩
  show HM g D G q q1.2 13 [(0, vr 0 o), (1, vi a0)] []
  refine h_blk 15 [(0, vr 0 o), (1, vi a0)] [vi 1, vr 0 o] C f_hx_Crowd_begin_13_2 rfl ?_
  refine h_puti C e_hx_Crowd_begin_15 fp_Crowd_29 h_o rfl rfl rfl ?_
  exact h_vret C Rm E e_hx_Crowd_begin_18 (fin0 h)

def f_Crowd_weight_4 : Nat → mA → Nat → Int → Int → Option (Int × mA)
  | 0, _, _, _, _ => none
  | n + 1, A, b0, b1, b3 => (if g32 b3 then if g32 (A 0 b0 2) then (if (A 0 b0 2) ≤ b3 then (some (b1, A)) else (if 300 ≤ b3 then (some (b1, A)) else (if (0 ≤ b3 ∧ b3 < ((300 : Nat) : Int)) then (f_Crowd_weight_4  n A b0 (b1 + (A 32 ((A 0 b0 1).toNat) b3.toNat)) (b3 + 1)) else none))) else none else none)
def f_Crowd_weight (A : mA) (o : Nat) : Option (Int × mA) := (f_Crowd_weight_4  400 A o 0 0)
theorem f_hx_Crowd_weight_0_4 : mblkB b_Crowd_weight [(0, .lconst 0, vl 0), (1, .lstore_n 1, vi 0), (2, .iconst 0, vi 0), (3, .istore_n 3, vi 0)] = true := by decide +kernel
theorem f_hx_Crowd_weight_4_2 : mblkB b_Crowd_weight [(4, .iload_n 3, vi 0), (5, .aload_n 0, vi 0)] = true := by decide +kernel
theorem e_hx_Crowd_weight_6 : decode b_Crowd_weight 6 = .ok (.getfield 19, 3) := by decide +kernel
theorem e_hx_Crowd_weight_9 : decode b_Crowd_weight 9 = .ok (.if_icmp .ge 25, 3) := by decide +kernel
theorem f_hx_Crowd_weight_34_1 : mblkB b_Crowd_weight [(34, .lload_n 1, vi 0)] = true := by decide +kernel
theorem e_hx_Crowd_weight_35 : decode b_Crowd_weight 35 = .ok (.lreturn, 1) := by decide +kernel
theorem f_hx_Crowd_weight_12_2 : mblkB b_Crowd_weight [(12, .iload_n 3, vi 0), (13, .sipush 300, vi 300)] = true := by decide +kernel
theorem e_hx_Crowd_weight_16 : decode b_Crowd_weight 16 = .ok (.if_icmp .ge 18, 3) := by decide +kernel
theorem f_hx_Crowd_weight_19_2 : mblkB b_Crowd_weight [(19, .lload_n 1, vi 0), (20, .aload_n 0, vi 0)] = true := by decide +kernel
theorem e_hx_Crowd_weight_21 : decode b_Crowd_weight 21 = .ok (.getfield 15, 3) := by decide +kernel
theorem f_hx_Crowd_weight_24_1 : mblkB b_Crowd_weight [(24, .iload_n 3, vi 0)] = true := by decide +kernel
theorem e_hx_Crowd_weight_25 : decode b_Crowd_weight 25 = .ok (.laload, 1) := by decide +kernel
theorem f_hx_Crowd_weight_26_4 : mblkB b_Crowd_weight [(26, .ladd, vi 0), (27, .lstore_n 1, vi 0), (28, .iinc 3 1, vi 1), (31, .goto (-27), vi 4)] = true := by decide +kernel
set_option maxHeartbeats 4000000 in
set_option maxRecDepth 20000 in
theorem hx_Crowd_weight  : ∀ (l : Launch) (D : va_G) (B : Nat) (H0 : Heap) (G : tG) (A : mA) (o : Nat) (h_o : G o = some 0)  (r9 : Int) (A9 : mA), f_Crowd_weight  A o = some (r9, A9) → hMet l D B H0 G y_Crowd_weight b_Crowd_weight 4 (some .long) 0 0 [vr 0 o] A (fun v A' => v = some (vl r9) ∧ A' = A9) := by
  intro l D B H0 G A o h_o r9 A9 h
  refine h_met (by decide) rfl (fun g q C Rm Y E => ?_)
  have hd_4 : ∀ (n : Nat) (A : mA) (b0 : Nat) (b1 : Int) (b3 : Int) , G b0 = some 0 → f_Crowd_weight_4  n A b0 b1 b3 = some (r9, A9) → HM g D G q A 4 [(0, vr 0 b0), (1, vl b1), (3, vi b3)] [] := by
    intro n
    induction n with
    | zero => intro A b0 b1 b3 h_b0 h; cases h
    | succ n ih =>
      intro A b0 b1 b3 h_b0 h
      unfold f_Crowd_weight_4 at h
      refine h_blk 6 [(0, vr 0 b0), (1, vl b1), (3, vi b3)] [vr 0 b0, vi b3] C f_hx_Crowd_weight_4_2 rfl ?_
      refine h_geti C e_hx_Crowd_weight_6 fg_Crowd_19 h_b0 rfl rfl rfl (A 0 b0 2) rfl ?_
      obtain ⟨c1, h⟩ := igd h
      obtain ⟨c2, h⟩ := igd h
      refine h_icmp_ge (tgt := 34) C e_hx_Crowd_weight_9 (by decide) c1 c2 (fun c3 => ?_) (fun c3 => ?_)
      · have h := ifp c3 h
        refine h_blk 35 [(0, vr 0 b0), (1, vl b1), (3, vi b3)] [vl b1] C f_hx_Crowd_weight_34_1 rfl ?_
        exact h_lret C Rm E e_hx_Crowd_weight_35 (finL h)
      · have h := ifn c3 h
        refine h_blk 16 [(0, vr 0 b0), (1, vl b1), (3, vi b3)] [vi 300, vi b3] C f_hx_Crowd_weight_12_2 rfl ?_
        refine h_icmp_ge (tgt := 34) C e_hx_Crowd_weight_16 (by decide) c1 (by decide) (fun c4 => ?_) (fun c4 => ?_)
        · have h := ifp c4 h
          refine h_blk 35 [(0, vr 0 b0), (1, vl b1), (3, vi b3)] [vl b1] C f_hx_Crowd_weight_34_1 rfl ?_
          exact h_lret C Rm E e_hx_Crowd_weight_35 (finL h)
        · have h := ifn c4 h
          refine h_blk 21 [(0, vr 0 b0), (1, vl b1), (3, vi b3)] [vr 0 b0, vl b1] C f_hx_Crowd_weight_19_2 rfl ?_
          refine h_getr4 C e_hx_Crowd_weight_21 fg_Crowd_15 h_b0 rfl rfl rfl rfl (fun g5 => ?_)
          refine h_blk 25 [(0, vr 0 b0), (1, vl b1), (3, vi b3)] [vi b3, vr 32 ((A 0 b0 1).toNat), vl b1] C f_hx_Crowd_weight_24_1 rfl ?_
          obtain ⟨c6, h⟩ := igd h
          refine h_lald C e_hx_Crowd_weight_25 g5 rfl rfl (by decide) c6.1 c6.2 (A 32 ((A 0 b0 1).toNat) b3.toNat) rfl ?_
          refine h_blk 4 [(3, vi (b3 + 1)), (1, vl (b1 + (A 32 ((A 0 b0 1).toNat) b3.toNat))), (0, vr 0 b0)] [] C f_hx_Crowd_weight_26_4 rfl ?_
          refine h_loc [(0, vr 0 b0), (1, vl (b1 + (A 32 ((A 0 b0 1).toNat) b3.toNat))), (3, vi (b3 + 1))] ⟨rfl, rfl, rfl, trivial⟩ ?_
          exact ih A b0 (b1 + (A 32 ((A 0 b0 1).toNat) b3.toNat)) (b3 + 1) (h_b0) h
  show HM g D G q A 0 [(0, vr 0 o)] []
  unfold f_Crowd_weight at h
  refine h_blk 4 [(3, vi 0), (1, vl 0), (0, vr 0 o)] [] C f_hx_Crowd_weight_0_4 rfl ?_
  refine h_loc [(0, vr 0 o), (1, vl 0), (3, vi 0)] ⟨rfl, rfl, rfl, trivial⟩ ?_
  exact hd_4 _ A o 0 0 (h_o) h

def f_Crowd_weightOf_2 : Nat → mA → Nat → Int → Int → Option (Int × mA)
  | 0, _, _, _, _ => none
  | n + 1, A, b0, b1, b2 => (if g32 b2 then if g32 (A 0 b0 2) then (if (A 0 b0 2) ≤ b2 then (some (0, A)) else (if 300 ≤ b2 then (some (0, A)) else (if (0 ≤ b2 ∧ b2 < ((300 : Nat) : Int)) then (if g32 (A 31 ((A 0 b0 0).toNat) b2.toNat) then if g32 b1 then (if (A 31 ((A 0 b0 0).toNat) b2.toNat) = b1 then (some ((A 32 ((A 0 b0 1).toNat) b2.toNat), A)) else (f_Crowd_weightOf_2  n A b0 b1 (b2 + 1))) else none else none) else none))) else none else none)
def f_Crowd_weightOf (A : mA) (o : Nat) (a0 : Int) : Option (Int × mA) := (f_Crowd_weightOf_2  400 A o a0 0)
theorem f_hx_Crowd_weightOf_0_2 : mblkB b_Crowd_weightOf [(0, .iconst 0, vi 0), (1, .istore_n 2, vi 0)] = true := by decide +kernel
theorem f_hx_Crowd_weightOf_2_2 : mblkB b_Crowd_weightOf [(2, .iload_n 2, vi 0), (3, .aload_n 0, vi 0)] = true := by decide +kernel
theorem e_hx_Crowd_weightOf_4 : decode b_Crowd_weightOf 4 = .ok (.getfield 19, 3) := by decide +kernel
theorem e_hx_Crowd_weightOf_7 : decode b_Crowd_weightOf 7 = .ok (.if_icmp .ge 33, 3) := by decide +kernel
theorem f_hx_Crowd_weightOf_40_1 : mblkB b_Crowd_weightOf [(40, .lconst 0, vl 0)] = true := by decide +kernel
theorem e_hx_Crowd_weightOf_41 : decode b_Crowd_weightOf 41 = .ok (.lreturn, 1) := by decide +kernel
theorem f_hx_Crowd_weightOf_10_2 : mblkB b_Crowd_weightOf [(10, .iload_n 2, vi 0), (11, .sipush 300, vi 300)] = true := by decide +kernel
theorem e_hx_Crowd_weightOf_14 : decode b_Crowd_weightOf 14 = .ok (.if_icmp .ge 26, 3) := by decide +kernel
theorem f_hx_Crowd_weightOf_17_1 : mblkB b_Crowd_weightOf [(17, .aload_n 0, vi 0)] = true := by decide +kernel
theorem e_hx_Crowd_weightOf_18 : decode b_Crowd_weightOf 18 = .ok (.getfield 9, 3) := by decide +kernel
theorem f_hx_Crowd_weightOf_21_1 : mblkB b_Crowd_weightOf [(21, .iload_n 2, vi 0)] = true := by decide +kernel
theorem e_hx_Crowd_weightOf_22 : decode b_Crowd_weightOf 22 = .ok (.iaload, 1) := by decide +kernel
theorem f_hx_Crowd_weightOf_23_1 : mblkB b_Crowd_weightOf [(23, .iload_n 1, vi 0)] = true := by decide +kernel
theorem e_hx_Crowd_weightOf_24 : decode b_Crowd_weightOf 24 = .ok (.if_icmp .ne 10, 3) := by decide +kernel
theorem f_hx_Crowd_weightOf_34_2 : mblkB b_Crowd_weightOf [(34, .iinc 2 1, vi 1), (37, .goto (-35), vi 2)] = true := by decide +kernel
theorem f_hx_Crowd_weightOf_27_1 : mblkB b_Crowd_weightOf [(27, .aload_n 0, vi 0)] = true := by decide +kernel
theorem e_hx_Crowd_weightOf_28 : decode b_Crowd_weightOf 28 = .ok (.getfield 15, 3) := by decide +kernel
theorem f_hx_Crowd_weightOf_31_1 : mblkB b_Crowd_weightOf [(31, .iload_n 2, vi 0)] = true := by decide +kernel
theorem e_hx_Crowd_weightOf_32 : decode b_Crowd_weightOf 32 = .ok (.laload, 1) := by decide +kernel
theorem e_hx_Crowd_weightOf_33 : decode b_Crowd_weightOf 33 = .ok (.lreturn, 1) := by decide +kernel
set_option maxHeartbeats 4000000 in
set_option maxRecDepth 20000 in
theorem hx_Crowd_weightOf  : ∀ (l : Launch) (D : va_G) (B : Nat) (H0 : Heap) (G : tG) (A : mA) (o : Nat) (a0 : Int) (h_o : G o = some 0)  (r9 : Int) (A9 : mA), f_Crowd_weightOf  A o a0 = some (r9, A9) → hMet l D B H0 G y_Crowd_weightOf b_Crowd_weightOf 3 (some .long) 0 0 [vr 0 o, vi a0] A (fun v A' => v = some (vl r9) ∧ A' = A9) := by
  intro l D B H0 G A o a0 h_o r9 A9 h
  refine h_met (by decide) rfl (fun g q C Rm Y E => ?_)
  have hd_2 : ∀ (n : Nat) (A : mA) (b0 : Nat) (b1 : Int) (b2 : Int) , G b0 = some 0 → f_Crowd_weightOf_2  n A b0 b1 b2 = some (r9, A9) → HM g D G q A 2 [(0, vr 0 b0), (1, vi b1), (2, vi b2)] [] := by
    intro n
    induction n with
    | zero => intro A b0 b1 b2 h_b0 h; cases h
    | succ n ih =>
      intro A b0 b1 b2 h_b0 h
      unfold f_Crowd_weightOf_2 at h
      refine h_blk 4 [(0, vr 0 b0), (1, vi b1), (2, vi b2)] [vr 0 b0, vi b2] C f_hx_Crowd_weightOf_2_2 rfl ?_
      refine h_geti C e_hx_Crowd_weightOf_4 fg_Crowd_19 h_b0 rfl rfl rfl (A 0 b0 2) rfl ?_
      obtain ⟨c1, h⟩ := igd h
      obtain ⟨c2, h⟩ := igd h
      refine h_icmp_ge (tgt := 40) C e_hx_Crowd_weightOf_7 (by decide) c1 c2 (fun c3 => ?_) (fun c3 => ?_)
      · have h := ifp c3 h
        refine h_blk 41 [(0, vr 0 b0), (1, vi b1), (2, vi b2)] [vl 0] C f_hx_Crowd_weightOf_40_1 rfl ?_
        exact h_lret C Rm E e_hx_Crowd_weightOf_41 (finL h)
      · have h := ifn c3 h
        refine h_blk 14 [(0, vr 0 b0), (1, vi b1), (2, vi b2)] [vi 300, vi b2] C f_hx_Crowd_weightOf_10_2 rfl ?_
        refine h_icmp_ge (tgt := 40) C e_hx_Crowd_weightOf_14 (by decide) c1 (by decide) (fun c4 => ?_) (fun c4 => ?_)
        · have h := ifp c4 h
          refine h_blk 41 [(0, vr 0 b0), (1, vi b1), (2, vi b2)] [vl 0] C f_hx_Crowd_weightOf_40_1 rfl ?_
          exact h_lret C Rm E e_hx_Crowd_weightOf_41 (finL h)
        · have h := ifn c4 h
          refine h_blk 18 [(0, vr 0 b0), (1, vi b1), (2, vi b2)] [vr 0 b0] C f_hx_Crowd_weightOf_17_1 rfl ?_
          refine h_getr4 C e_hx_Crowd_weightOf_18 fg_Crowd_9 h_b0 rfl rfl rfl rfl (fun g5 => ?_)
          refine h_blk 22 [(0, vr 0 b0), (1, vi b1), (2, vi b2)] [vi b2, vr 31 ((A 0 b0 0).toNat)] C f_hx_Crowd_weightOf_21_1 rfl ?_
          obtain ⟨c6, h⟩ := igd h
          refine h_iald C e_hx_Crowd_weightOf_22 g5 rfl rfl (by decide) c6.1 c6.2 (A 31 ((A 0 b0 0).toNat) b2.toNat) rfl ?_
          refine h_blk 24 [(0, vr 0 b0), (1, vi b1), (2, vi b2)] [vi b1, vi (A 31 ((A 0 b0 0).toNat) b2.toNat)] C f_hx_Crowd_weightOf_23_1 rfl ?_
          obtain ⟨c7, h⟩ := igd h
          obtain ⟨c8, h⟩ := igd h
          refine h_icmp_ne (tgt := 34) C e_hx_Crowd_weightOf_24 (by decide) c7 c8 (fun c9 => ?_) (fun c9 => ?_)
          · have h := ifn c9 h
            refine h_blk 2 [(2, vi (b2 + 1)), (0, vr 0 b0), (1, vi b1)] [] C f_hx_Crowd_weightOf_34_2 rfl ?_
            refine h_loc [(0, vr 0 b0), (1, vi b1), (2, vi (b2 + 1))] ⟨rfl, rfl, rfl, trivial⟩ ?_
            exact ih A b0 b1 (b2 + 1) (h_b0) h
          · have h := ifp c9 h
            refine h_blk 28 [(0, vr 0 b0), (1, vi b1), (2, vi b2)] [vr 0 b0] C f_hx_Crowd_weightOf_27_1 rfl ?_
            refine h_getr4 C e_hx_Crowd_weightOf_28 fg_Crowd_15 h_b0 rfl rfl rfl rfl (fun g10 => ?_)
            refine h_blk 32 [(0, vr 0 b0), (1, vi b1), (2, vi b2)] [vi b2, vr 32 ((A 0 b0 1).toNat)] C f_hx_Crowd_weightOf_31_1 rfl ?_
            refine h_lald C e_hx_Crowd_weightOf_32 g10 rfl rfl (by decide) c6.1 c6.2 (A 32 ((A 0 b0 1).toNat) b2.toNat) rfl ?_
            exact h_lret C Rm E e_hx_Crowd_weightOf_33 (finL h)
  show HM g D G q A 0 [(0, vr 0 o), (1, vi a0)] []
  unfold f_Crowd_weightOf at h
  refine h_blk 2 [(2, vi 0), (0, vr 0 o), (1, vi a0)] [] C f_hx_Crowd_weightOf_0_2 rfl ?_
  refine h_loc [(0, vr 0 o), (1, vi a0), (2, vi 0)] ⟨rfl, rfl, rfl, trivial⟩ ?_
  exact hd_2 _ A o a0 0 (h_o) h

def f_Crowd_likeliestState_4 : Nat → mA → Nat → Int → Int → Option (Int × mA)
  | 0, _, _, _, _ => none
  | n + 1, A, b0, b1, b2 => (if g32 b2 then if g32 (A 0 b0 2) then (if (A 0 b0 2) ≤ b2 then (if (0 ≤ b1 ∧ b1 < ((300 : Nat) : Int)) then (some ((A 31 ((A 0 b0 0).toNat) b1.toNat), A)) else none) else (if 300 ≤ b2 then (if (0 ≤ b1 ∧ b1 < ((300 : Nat) : Int)) then (some ((A 31 ((A 0 b0 0).toNat) b1.toNat), A)) else none) else (if (0 ≤ b2 ∧ b2 < ((300 : Nat) : Int)) then (if (0 ≤ b1 ∧ b1 < ((300 : Nat) : Int)) then (if g64 (A 32 ((A 0 b0 1).toNat) b2.toNat) then (if g64 (A 32 ((A 0 b0 1).toNat) b1.toNat) then (if (lc (A 32 ((A 0 b0 1).toNat) b2.toNat) (A 32 ((A 0 b0 1).toNat) b1.toNat)) = 0 then (if g32 (A 31 ((A 0 b0 0).toNat) b2.toNat) then if g32 (A 31 ((A 0 b0 0).toNat) b1.toNat) then (if (A 31 ((A 0 b0 0).toNat) b1.toNat) ≤ (A 31 ((A 0 b0 0).toNat) b2.toNat) then (f_Crowd_likeliestState_4  n A b0 b1 (b2 + 1)) else (f_Crowd_likeliestState_4  n A b0 b2 (b2 + 1))) else none else none) else (if 0 < (lc (A 32 ((A 0 b0 1).toNat) b2.toNat) (A 32 ((A 0 b0 1).toNat) b1.toNat)) then (f_Crowd_likeliestState_4  n A b0 b2 (b2 + 1)) else (f_Crowd_likeliestState_4  n A b0 b1 (b2 + 1)))) else none) else none) else none) else none))) else none else none)
def f_Crowd_likeliestState (A : mA) (o : Nat) : Option (Int × mA) := (f_Crowd_likeliestState_4  400 A o 0 1)
theorem f_hx_Crowd_likeliestState_0_4 : mblkB b_Crowd_likeliestState [(0, .iconst 0, vi 0), (1, .istore_n 1, vi 0), (2, .iconst 1, vi 1), (3, .istore_n 2, vi 0)] = true := by decide +kernel
theorem f_hx_Crowd_likeliestState_4_2 : mblkB b_Crowd_likeliestState [(4, .iload_n 2, vi 0), (5, .aload_n 0, vi 0)] = true := by decide +kernel
theorem e_hx_Crowd_likeliestState_6 : decode b_Crowd_likeliestState 6 = .ok (.getfield 19, 3) := by decide +kernel
theorem e_hx_Crowd_likeliestState_9 : decode b_Crowd_likeliestState 9 = .ok (.if_icmp .ge 75, 3) := by decide +kernel
theorem f_hx_Crowd_likeliestState_84_1 : mblkB b_Crowd_likeliestState [(84, .aload_n 0, vi 0)] = true := by decide +kernel
theorem e_hx_Crowd_likeliestState_85 : decode b_Crowd_likeliestState 85 = .ok (.getfield 9, 3) := by decide +kernel
theorem f_hx_Crowd_likeliestState_88_1 : mblkB b_Crowd_likeliestState [(88, .iload_n 1, vi 0)] = true := by decide +kernel
theorem e_hx_Crowd_likeliestState_89 : decode b_Crowd_likeliestState 89 = .ok (.iaload, 1) := by decide +kernel
theorem e_hx_Crowd_likeliestState_90 : decode b_Crowd_likeliestState 90 = .ok (.ireturn, 1) := by decide +kernel
theorem f_hx_Crowd_likeliestState_12_2 : mblkB b_Crowd_likeliestState [(12, .iload_n 2, vi 0), (13, .sipush 300, vi 300)] = true := by decide +kernel
theorem e_hx_Crowd_likeliestState_16 : decode b_Crowd_likeliestState 16 = .ok (.if_icmp .ge 68, 3) := by decide +kernel
theorem f_hx_Crowd_likeliestState_19_1 : mblkB b_Crowd_likeliestState [(19, .aload_n 0, vi 0)] = true := by decide +kernel
theorem e_hx_Crowd_likeliestState_20 : decode b_Crowd_likeliestState 20 = .ok (.getfield 15, 3) := by decide +kernel
theorem f_hx_Crowd_likeliestState_23_1 : mblkB b_Crowd_likeliestState [(23, .iload_n 2, vi 0)] = true := by decide +kernel
theorem e_hx_Crowd_likeliestState_24 : decode b_Crowd_likeliestState 24 = .ok (.laload, 1) := by decide +kernel
theorem f_hx_Crowd_likeliestState_25_1 : mblkB b_Crowd_likeliestState [(25, .aload_n 0, vi 0)] = true := by decide +kernel
theorem e_hx_Crowd_likeliestState_26 : decode b_Crowd_likeliestState 26 = .ok (.getfield 15, 3) := by decide +kernel
theorem f_hx_Crowd_likeliestState_29_1 : mblkB b_Crowd_likeliestState [(29, .iload_n 1, vi 0)] = true := by decide +kernel
theorem e_hx_Crowd_likeliestState_30 : decode b_Crowd_likeliestState 30 = .ok (.laload, 1) := by decide +kernel
theorem e_hx_Crowd_likeliestState_31 : decode b_Crowd_likeliestState 31 = .ok (.lcmp, 1) := by decide +kernel
theorem e_hx_Crowd_likeliestState_32 : decode b_Crowd_likeliestState 32 = .ok (.ifCond .ne 7, 3) := by decide +kernel
theorem f_hx_Crowd_likeliestState_39_3 : mblkB b_Crowd_likeliestState [(39, .iconst 0, vi 0), (40, .istore_n 3, vi 0), (41, .aload_n 0, vi 0)] = true := by decide +kernel
theorem e_hx_Crowd_likeliestState_42 : decode b_Crowd_likeliestState 42 = .ok (.getfield 15, 3) := by decide +kernel
theorem f_hx_Crowd_likeliestState_45_1 : mblkB b_Crowd_likeliestState [(45, .iload_n 2, vi 0)] = true := by decide +kernel
theorem e_hx_Crowd_likeliestState_46 : decode b_Crowd_likeliestState 46 = .ok (.laload, 1) := by decide +kernel
theorem f_hx_Crowd_likeliestState_47_1 : mblkB b_Crowd_likeliestState [(47, .aload_n 0, vi 0)] = true := by decide +kernel
theorem e_hx_Crowd_likeliestState_48 : decode b_Crowd_likeliestState 48 = .ok (.getfield 15, 3) := by decide +kernel
theorem f_hx_Crowd_likeliestState_51_1 : mblkB b_Crowd_likeliestState [(51, .iload_n 1, vi 0)] = true := by decide +kernel
theorem e_hx_Crowd_likeliestState_52 : decode b_Crowd_likeliestState 52 = .ok (.laload, 1) := by decide +kernel
theorem e_hx_Crowd_likeliestState_53 : decode b_Crowd_likeliestState 53 = .ok (.lcmp, 1) := by decide +kernel
theorem e_hx_Crowd_likeliestState_54 : decode b_Crowd_likeliestState 54 = .ok (.ifCond .gt 22, 3) := by decide +kernel
theorem f_hx_Crowd_likeliestState_76_4 : mblkB b_Crowd_likeliestState [(76, .iload_n 2, vi 0), (77, .istore_n 1, vi 0), (78, .iinc 2 1, vi 1), (81, .goto (-77), vi 4)] = true := by decide +kernel
theorem f_hx_Crowd_likeliestState_57_1 : mblkB b_Crowd_likeliestState [(57, .iload_n 3, vi 0)] = true := by decide +kernel
theorem e_hx_Crowd_likeliestState_58 : decode b_Crowd_likeliestState 58 = .ok (.ifCond .eq 20, 3) := by decide +kernel
theorem f_hx_Crowd_likeliestState_78_2 : mblkB b_Crowd_likeliestState [(78, .iinc 2 1, vi 1), (81, .goto (-77), vi 4)] = true := by decide +kernel
theorem f_hx_Crowd_likeliestState_35_2 : mblkB b_Crowd_likeliestState [(35, .iconst 1, vi 1), (36, .goto 4, vi 40)] = true := by decide +kernel
theorem f_hx_Crowd_likeliestState_40_2 : mblkB b_Crowd_likeliestState [(40, .istore_n 3, vi 0), (41, .aload_n 0, vi 0)] = true := by decide +kernel
theorem f_hx_Crowd_likeliestState_61_1 : mblkB b_Crowd_likeliestState [(61, .aload_n 0, vi 0)] = true := by decide +kernel
theorem e_hx_Crowd_likeliestState_62 : decode b_Crowd_likeliestState 62 = .ok (.getfield 9, 3) := by decide +kernel
theorem f_hx_Crowd_likeliestState_65_1 : mblkB b_Crowd_likeliestState [(65, .iload_n 2, vi 0)] = true := by decide +kernel
theorem e_hx_Crowd_likeliestState_66 : decode b_Crowd_likeliestState 66 = .ok (.iaload, 1) := by decide +kernel
theorem f_hx_Crowd_likeliestState_67_1 : mblkB b_Crowd_likeliestState [(67, .aload_n 0, vi 0)] = true := by decide +kernel
theorem e_hx_Crowd_likeliestState_68 : decode b_Crowd_likeliestState 68 = .ok (.getfield 9, 3) := by decide +kernel
theorem f_hx_Crowd_likeliestState_71_1 : mblkB b_Crowd_likeliestState [(71, .iload_n 1, vi 0)] = true := by decide +kernel
theorem e_hx_Crowd_likeliestState_72 : decode b_Crowd_likeliestState 72 = .ok (.iaload, 1) := by decide +kernel
theorem e_hx_Crowd_likeliestState_73 : decode b_Crowd_likeliestState 73 = .ok (.if_icmp .ge 5, 3) := by decide +kernel
set_option maxHeartbeats 4000000 in
set_option maxRecDepth 20000 in
theorem hx_Crowd_likeliestState  : ∀ (l : Launch) (D : va_G) (B : Nat) (H0 : Heap) (G : tG) (A : mA) (o : Nat) (h_o : G o = some 0)  (r9 : Int) (A9 : mA), f_Crowd_likeliestState  A o = some (r9, A9) → hMet l D B H0 G y_Crowd_likeliestState b_Crowd_likeliestState 4 (some .int) 0 0 [vr 0 o] A (fun v A' => v = some (vi r9) ∧ A' = A9) := by
  intro l D B H0 G A o h_o r9 A9 h
  refine h_met (by decide) rfl (fun g q C Rm Y E => ?_)
  have hd_4 : ∀ (n : Nat) (A : mA) (b0 : Nat) (b1 : Int) (b2 : Int) , G b0 = some 0 → f_Crowd_likeliestState_4  n A b0 b1 b2 = some (r9, A9) → HM g D G q A 4 [(0, vr 0 b0), (1, vi b1), (2, vi b2)] [] := by
    intro n
    induction n with
    | zero => intro A b0 b1 b2 h_b0 h; cases h
    | succ n ih =>
      intro A b0 b1 b2 h_b0 h
      unfold f_Crowd_likeliestState_4 at h
      refine h_blk 6 [(0, vr 0 b0), (1, vi b1), (2, vi b2)] [vr 0 b0, vi b2] C f_hx_Crowd_likeliestState_4_2 rfl ?_
      refine h_geti C e_hx_Crowd_likeliestState_6 fg_Crowd_19 h_b0 rfl rfl rfl (A 0 b0 2) rfl ?_
      obtain ⟨c1, h⟩ := igd h
      obtain ⟨c2, h⟩ := igd h
      refine h_icmp_ge (tgt := 84) C e_hx_Crowd_likeliestState_9 (by decide) c1 c2 (fun c3 => ?_) (fun c3 => ?_)
      · have h := ifp c3 h
        refine h_blk 85 [(0, vr 0 b0), (1, vi b1), (2, vi b2)] [vr 0 b0] C f_hx_Crowd_likeliestState_84_1 rfl ?_
        refine h_getr4 C e_hx_Crowd_likeliestState_85 fg_Crowd_9 h_b0 rfl rfl rfl rfl (fun g4 => ?_)
        refine h_blk 89 [(0, vr 0 b0), (1, vi b1), (2, vi b2)] [vi b1, vr 31 ((A 0 b0 0).toNat)] C f_hx_Crowd_likeliestState_88_1 rfl ?_
        obtain ⟨c5, h⟩ := igd h
        refine h_iald C e_hx_Crowd_likeliestState_89 g4 rfl rfl (by decide) c5.1 c5.2 (A 31 ((A 0 b0 0).toNat) b1.toNat) rfl ?_
        exact h_iret C Rm E e_hx_Crowd_likeliestState_90 (fin1 h)
      · have h := ifn c3 h
        refine h_blk 16 [(0, vr 0 b0), (1, vi b1), (2, vi b2)] [vi 300, vi b2] C f_hx_Crowd_likeliestState_12_2 rfl ?_
        refine h_icmp_ge (tgt := 84) C e_hx_Crowd_likeliestState_16 (by decide) c1 (by decide) (fun c6 => ?_) (fun c6 => ?_)
        · have h := ifp c6 h
          refine h_blk 85 [(0, vr 0 b0), (1, vi b1), (2, vi b2)] [vr 0 b0] C f_hx_Crowd_likeliestState_84_1 rfl ?_
          refine h_getr4 C e_hx_Crowd_likeliestState_85 fg_Crowd_9 h_b0 rfl rfl rfl rfl (fun g7 => ?_)
          refine h_blk 89 [(0, vr 0 b0), (1, vi b1), (2, vi b2)] [vi b1, vr 31 ((A 0 b0 0).toNat)] C f_hx_Crowd_likeliestState_88_1 rfl ?_
          obtain ⟨c8, h⟩ := igd h
          refine h_iald C e_hx_Crowd_likeliestState_89 g7 rfl rfl (by decide) c8.1 c8.2 (A 31 ((A 0 b0 0).toNat) b1.toNat) rfl ?_
          exact h_iret C Rm E e_hx_Crowd_likeliestState_90 (fin1 h)
        · have h := ifn c6 h
          refine h_blk 20 [(0, vr 0 b0), (1, vi b1), (2, vi b2)] [vr 0 b0] C f_hx_Crowd_likeliestState_19_1 rfl ?_
          refine h_getr4 C e_hx_Crowd_likeliestState_20 fg_Crowd_15 h_b0 rfl rfl rfl rfl (fun g9 => ?_)
          refine h_blk 24 [(0, vr 0 b0), (1, vi b1), (2, vi b2)] [vi b2, vr 32 ((A 0 b0 1).toNat)] C f_hx_Crowd_likeliestState_23_1 rfl ?_
          obtain ⟨c10, h⟩ := igd h
          refine h_lald C e_hx_Crowd_likeliestState_24 g9 rfl rfl (by decide) c10.1 c10.2 (A 32 ((A 0 b0 1).toNat) b2.toNat) rfl ?_
          refine h_blk 26 [(0, vr 0 b0), (1, vi b1), (2, vi b2)] [vr 0 b0, vl (A 32 ((A 0 b0 1).toNat) b2.toNat)] C f_hx_Crowd_likeliestState_25_1 rfl ?_
          refine h_getr4 C e_hx_Crowd_likeliestState_26 fg_Crowd_15 h_b0 rfl rfl rfl rfl (fun g11 => ?_)
          refine h_blk 30 [(0, vr 0 b0), (1, vi b1), (2, vi b2)] [vi b1, vr 32 ((A 0 b0 1).toNat), vl (A 32 ((A 0 b0 1).toNat) b2.toNat)] C f_hx_Crowd_likeliestState_29_1 rfl ?_
          obtain ⟨c12, h⟩ := igd h
          refine h_lald C e_hx_Crowd_likeliestState_30 g11 rfl rfl (by decide) c12.1 c12.2 (A 32 ((A 0 b0 1).toNat) b1.toNat) rfl ?_
          obtain ⟨c13, h⟩ := igd h
          obtain ⟨c14, h⟩ := igd h
          refine h_lcmp C e_hx_Crowd_likeliestState_31 c13 c14 (fun z15 hz15 => ?_)
          obtain rfl : z15 = lc (A 32 ((A 0 b0 1).toNat) b2.toNat) (A 32 ((A 0 b0 1).toNat) b1.toNat) := lc_of hz15
          refine h_if_ne (tgt := 39) C e_hx_Crowd_likeliestState_32 (by decide) lc_r (fun c16 => ?_) (fun c16 => ?_)
          · have h := ifn c16 h
            refine h_blk 42 [(3, vi 0), (0, vr 0 b0), (1, vi b1), (2, vi b2)] [vr 0 b0] C f_hx_Crowd_likeliestState_39_3 rfl ?_
            refine h_getr4 C e_hx_Crowd_likeliestState_42 fg_Crowd_15 h_b0 rfl rfl rfl rfl (fun g17 => ?_)
            refine h_blk 46 [(3, vi 0), (0, vr 0 b0), (1, vi b1), (2, vi b2)] [vi b2, vr 32 ((A 0 b0 1).toNat)] C f_hx_Crowd_likeliestState_45_1 rfl ?_
            refine h_lald C e_hx_Crowd_likeliestState_46 g17 rfl rfl (by decide) c10.1 c10.2 (A 32 ((A 0 b0 1).toNat) b2.toNat) rfl ?_
            refine h_blk 48 [(3, vi 0), (0, vr 0 b0), (1, vi b1), (2, vi b2)] [vr 0 b0, vl (A 32 ((A 0 b0 1).toNat) b2.toNat)] C f_hx_Crowd_likeliestState_47_1 rfl ?_
            refine h_getr4 C e_hx_Crowd_likeliestState_48 fg_Crowd_15 h_b0 rfl rfl rfl rfl (fun g18 => ?_)
            refine h_blk 52 [(3, vi 0), (0, vr 0 b0), (1, vi b1), (2, vi b2)] [vi b1, vr 32 ((A 0 b0 1).toNat), vl (A 32 ((A 0 b0 1).toNat) b2.toNat)] C f_hx_Crowd_likeliestState_51_1 rfl ?_
            refine h_lald C e_hx_Crowd_likeliestState_52 g18 rfl rfl (by decide) c12.1 c12.2 (A 32 ((A 0 b0 1).toNat) b1.toNat) rfl ?_
            refine h_lcmp C e_hx_Crowd_likeliestState_53 c13 c14 (fun z19 hz19 => ?_)
            obtain rfl : z19 = lc (A 32 ((A 0 b0 1).toNat) b2.toNat) (A 32 ((A 0 b0 1).toNat) b1.toNat) := lc_of hz19
            refine h_if_gt (tgt := 76) C e_hx_Crowd_likeliestState_54 (by decide) lc_r (fun c20 => ?_) (fun c20 => ?_)
            · have h := ifp c20 h
              refine h_blk 4 [(2, vi (b2 + 1)), (1, vi b2), (3, vi 0), (0, vr 0 b0)] [] C f_hx_Crowd_likeliestState_76_4 rfl ?_
              refine h_loc [(0, vr 0 b0), (1, vi b2), (2, vi (b2 + 1))] ⟨rfl, rfl, rfl, trivial⟩ ?_
              exact ih A b0 b2 (b2 + 1) (h_b0) h
            · have h := ifn c20 h
              refine h_blk 58 [(3, vi 0), (0, vr 0 b0), (1, vi b1), (2, vi b2)] [vi 0] C f_hx_Crowd_likeliestState_57_1 rfl ?_
              refine h_if_eq (tgt := 78) C e_hx_Crowd_likeliestState_58 (by decide) (by decide) (fun c21 => ?_) (fun c21 => (by omega : False).elim)
              refine h_blk 4 [(2, vi (b2 + 1)), (3, vi 0), (0, vr 0 b0), (1, vi b1)] [] C f_hx_Crowd_likeliestState_78_2 rfl ?_
              refine h_loc [(0, vr 0 b0), (1, vi b1), (2, vi (b2 + 1))] ⟨rfl, rfl, rfl, trivial⟩ ?_
              exact ih A b0 b1 (b2 + 1) (h_b0) h
          · have h := ifp c16 h
            refine h_blk 40 [(0, vr 0 b0), (1, vi b1), (2, vi b2)] [vi 1] C f_hx_Crowd_likeliestState_35_2 rfl ?_
            refine h_blk 42 [(3, vi 1), (0, vr 0 b0), (1, vi b1), (2, vi b2)] [vr 0 b0] C f_hx_Crowd_likeliestState_40_2 rfl ?_
            refine h_getr4 C e_hx_Crowd_likeliestState_42 fg_Crowd_15 h_b0 rfl rfl rfl rfl (fun g22 => ?_)
            refine h_blk 46 [(3, vi 1), (0, vr 0 b0), (1, vi b1), (2, vi b2)] [vi b2, vr 32 ((A 0 b0 1).toNat)] C f_hx_Crowd_likeliestState_45_1 rfl ?_
            refine h_lald C e_hx_Crowd_likeliestState_46 g22 rfl rfl (by decide) c10.1 c10.2 (A 32 ((A 0 b0 1).toNat) b2.toNat) rfl ?_
            refine h_blk 48 [(3, vi 1), (0, vr 0 b0), (1, vi b1), (2, vi b2)] [vr 0 b0, vl (A 32 ((A 0 b0 1).toNat) b2.toNat)] C f_hx_Crowd_likeliestState_47_1 rfl ?_
            refine h_getr4 C e_hx_Crowd_likeliestState_48 fg_Crowd_15 h_b0 rfl rfl rfl rfl (fun g23 => ?_)
            refine h_blk 52 [(3, vi 1), (0, vr 0 b0), (1, vi b1), (2, vi b2)] [vi b1, vr 32 ((A 0 b0 1).toNat), vl (A 32 ((A 0 b0 1).toNat) b2.toNat)] C f_hx_Crowd_likeliestState_51_1 rfl ?_
            refine h_lald C e_hx_Crowd_likeliestState_52 g23 rfl rfl (by decide) c12.1 c12.2 (A 32 ((A 0 b0 1).toNat) b1.toNat) rfl ?_
            refine h_lcmp C e_hx_Crowd_likeliestState_53 c13 c14 (fun z24 hz24 => ?_)
            obtain rfl : z24 = lc (A 32 ((A 0 b0 1).toNat) b2.toNat) (A 32 ((A 0 b0 1).toNat) b1.toNat) := lc_of hz24
            refine h_if_gt (tgt := 76) C e_hx_Crowd_likeliestState_54 (by decide) lc_r (fun c25 => (by omega : False).elim) (fun c25 => ?_)
            refine h_blk 58 [(3, vi 1), (0, vr 0 b0), (1, vi b1), (2, vi b2)] [vi 1] C f_hx_Crowd_likeliestState_57_1 rfl ?_
            refine h_if_eq (tgt := 78) C e_hx_Crowd_likeliestState_58 (by decide) (by decide) (fun c26 => (by omega : False).elim) (fun c26 => ?_)
            refine h_blk 62 [(3, vi 1), (0, vr 0 b0), (1, vi b1), (2, vi b2)] [vr 0 b0] C f_hx_Crowd_likeliestState_61_1 rfl ?_
            refine h_getr4 C e_hx_Crowd_likeliestState_62 fg_Crowd_9 h_b0 rfl rfl rfl rfl (fun g27 => ?_)
            refine h_blk 66 [(3, vi 1), (0, vr 0 b0), (1, vi b1), (2, vi b2)] [vi b2, vr 31 ((A 0 b0 0).toNat)] C f_hx_Crowd_likeliestState_65_1 rfl ?_
            refine h_iald C e_hx_Crowd_likeliestState_66 g27 rfl rfl (by decide) c10.1 c10.2 (A 31 ((A 0 b0 0).toNat) b2.toNat) rfl ?_
            refine h_blk 68 [(3, vi 1), (0, vr 0 b0), (1, vi b1), (2, vi b2)] [vr 0 b0, vi (A 31 ((A 0 b0 0).toNat) b2.toNat)] C f_hx_Crowd_likeliestState_67_1 rfl ?_
            refine h_getr4 C e_hx_Crowd_likeliestState_68 fg_Crowd_9 h_b0 rfl rfl rfl rfl (fun g28 => ?_)
            refine h_blk 72 [(3, vi 1), (0, vr 0 b0), (1, vi b1), (2, vi b2)] [vi b1, vr 31 ((A 0 b0 0).toNat), vi (A 31 ((A 0 b0 0).toNat) b2.toNat)] C f_hx_Crowd_likeliestState_71_1 rfl ?_
            refine h_iald C e_hx_Crowd_likeliestState_72 g28 rfl rfl (by decide) c12.1 c12.2 (A 31 ((A 0 b0 0).toNat) b1.toNat) rfl ?_
            obtain ⟨c29, h⟩ := igd h
            obtain ⟨c30, h⟩ := igd h
            refine h_icmp_ge (tgt := 78) C e_hx_Crowd_likeliestState_73 (by decide) c29 c30 (fun c31 => ?_) (fun c31 => ?_)
            · have h := ifp c31 h
              refine h_blk 4 [(2, vi (b2 + 1)), (3, vi 1), (0, vr 0 b0), (1, vi b1)] [] C f_hx_Crowd_likeliestState_78_2 rfl ?_
              refine h_loc [(0, vr 0 b0), (1, vi b1), (2, vi (b2 + 1))] ⟨rfl, rfl, rfl, trivial⟩ ?_
              exact ih A b0 b1 (b2 + 1) (h_b0) h
            · have h := ifn c31 h
              refine h_blk 4 [(2, vi (b2 + 1)), (1, vi b2), (3, vi 1), (0, vr 0 b0)] [] C f_hx_Crowd_likeliestState_76_4 rfl ?_
              refine h_loc [(0, vr 0 b0), (1, vi b2), (2, vi (b2 + 1))] ⟨rfl, rfl, rfl, trivial⟩ ?_
              exact ih A b0 b2 (b2 + 1) (h_b0) h
  show HM g D G q A 0 [(0, vr 0 o)] []
  unfold f_Crowd_likeliestState at h
  refine h_blk 4 [(2, vi 1), (1, vi 0), (0, vr 0 o)] [] C f_hx_Crowd_likeliestState_0_4 rfl ?_
  refine h_loc [(0, vr 0 o), (1, vi 0), (2, vi 1)] ⟨rfl, rfl, rfl, trivial⟩ ?_
  exact hd_4 _ A o 0 1 (h_o) h

def f_Crowd_spread_20 : Nat → mA → Nat → Int → Nat → Int → Option (Int × mA)
  | 0, _, _, _, _, _ => none
  | n + 1, A, b0, b1, b2, b3 => (if g32 b3 then if g32 (A 0 b0 2) then (if (A 0 b0 2) ≤ b3 then (some (0, A)) else (if 300 ≤ b3 then (some (0, A)) else (if (0 ≤ b3 ∧ b3 < ((300 : Nat) : Int)) then (Option.bind (f_CS_digitAt A (A 31 ((A 0 b0 0).toNat) b3.toNat) b1) (fun q7 => (if g32 q7.1 then if g32 ((10 : Nat) : Int) then (if ((10 : Nat) : Int) ≤ q7.1 then (f_Crowd_spread_20  n q7.2 b0 b1 b2 (b3 + 1)) else (if (0 ≤ q7.1 ∧ q7.1 < ((10 : Nat) : Int)) then (f_Crowd_spread_20  n (mu q7.2 23 b2 q7.1.toNat ((q7.2 23 b2 q7.1.toNat) + (q7.2 32 ((q7.2 0 b0 1).toNat) b3.toNat))) b0 b1 b2 (b3 + 1)) else none)) else none else none))) else none))) else none else none)
def f_Crowd_spread_2 : Nat → mA → Nat → Int → Nat → Int → Option (Int × mA)
  | 0, _, _, _, _, _ => none
  | n + 1, A, b0, b1, b2, b3 => (if g32 b3 then if g32 ((10 : Nat) : Int) then (if ((10 : Nat) : Int) ≤ b3 then (f_Crowd_spread_20  400 A b0 b1 b2 0) else (if (0 ≤ b3 ∧ b3 < ((10 : Nat) : Int)) then (f_Crowd_spread_2  n (mu A 23 b2 b3.toNat 0) b0 b1 b2 (b3 + 1)) else none)) else none else none)
def f_Crowd_spread (A : mA) (o : Nat) (a0 : Int) (a1 : Nat) : Option (Int × mA) := (f_Crowd_spread_2  400 A o a0 a1 0)
theorem f_hx_Crowd_spread_0_2 : mblkB b_Crowd_spread [(0, .iconst 0, vi 0), (1, .istore_n 3, vi 0)] = true := by decide +kernel
theorem f_hx_Crowd_spread_2_2 : mblkB b_Crowd_spread [(2, .iload_n 3, vi 0), (3, .aload_n 2, vi 0)] = true := by decide +kernel
theorem e_hx_Crowd_spread_4 : decode b_Crowd_spread 4 = .ok (.arraylength, 1) := by decide +kernel
theorem e_hx_Crowd_spread_5 : decode b_Crowd_spread 5 = .ok (.if_icmp .ge 13, 3) := by decide +kernel
theorem f_hx_Crowd_spread_18_2 : mblkB b_Crowd_spread [(18, .iconst 0, vi 0), (19, .istore_n 3, vi 0)] = true := by decide +kernel
theorem f_hx_Crowd_spread_8_3 : mblkB b_Crowd_spread [(8, .aload_n 2, vi 0), (9, .iload_n 3, vi 0), (10, .lconst 0, vl 0)] = true := by decide +kernel
theorem e_hx_Crowd_spread_11 : decode b_Crowd_spread 11 = .ok (.lastore, 1) := by decide +kernel
theorem f_hx_Crowd_spread_12_2 : mblkB b_Crowd_spread [(12, .iinc 3 1, vi 1), (15, .goto (-13), vi 2)] = true := by decide +kernel
theorem f_hx_Crowd_spread_20_2 : mblkB b_Crowd_spread [(20, .iload_n 3, vi 0), (21, .aload_n 0, vi 0)] = true := by decide +kernel
theorem e_hx_Crowd_spread_22 : decode b_Crowd_spread 22 = .ok (.getfield 19, 3) := by decide +kernel
theorem e_hx_Crowd_spread_25 : decode b_Crowd_spread 25 = .ok (.if_icmp .ge 48, 3) := by decide +kernel
theorem e_hx_Crowd_spread_73 : decode b_Crowd_spread 73 = .ok (.return_, 1) := by decide +kernel
theorem f_hx_Crowd_spread_28_2 : mblkB b_Crowd_spread [(28, .iload_n 3, vi 0), (29, .sipush 300, vi 300)] = true := by decide +kernel
theorem e_hx_Crowd_spread_32 : decode b_Crowd_spread 32 = .ok (.if_icmp .ge 41, 3) := by decide +kernel
theorem f_hx_Crowd_spread_35_1 : mblkB b_Crowd_spread [(35, .aload_n 0, vi 0)] = true := by decide +kernel
theorem e_hx_Crowd_spread_36 : decode b_Crowd_spread 36 = .ok (.getfield 9, 3) := by decide +kernel
theorem f_hx_Crowd_spread_39_1 : mblkB b_Crowd_spread [(39, .iload_n 3, vi 0)] = true := by decide +kernel
theorem e_hx_Crowd_spread_40 : decode b_Crowd_spread 40 = .ok (.iaload, 1) := by decide +kernel
theorem f_hx_Crowd_spread_41_1 : mblkB b_Crowd_spread [(41, .iload_n 1, vi 0)] = true := by decide +kernel
theorem e_hx_Crowd_spread_42 : decode b_Crowd_spread 42 = .ok (.invokestatic 32, 3) := by decide +kernel
theorem f_hx_Crowd_spread_45_3 : mblkB b_Crowd_spread [(45, .istore 4, vi 0), (47, .iload 4, vi 0), (49, .aload_n 2, vi 0)] = true := by decide +kernel
theorem e_hx_Crowd_spread_50 : decode b_Crowd_spread 50 = .ok (.arraylength, 1) := by decide +kernel
theorem e_hx_Crowd_spread_51 : decode b_Crowd_spread 51 = .ok (.if_icmp .ge 16, 3) := by decide +kernel
theorem f_hx_Crowd_spread_67_2 : mblkB b_Crowd_spread [(67, .iinc 3 1, vi 1), (70, .goto (-50), vi 20)] = true := by decide +kernel
theorem f_hx_Crowd_spread_54_3 : mblkB b_Crowd_spread [(54, .aload_n 2, vi 0), (55, .iload 4, vi 0), (57, .dup2, vi 0)] = true := by decide +kernel
theorem e_hx_Crowd_spread_58 : decode b_Crowd_spread 58 = .ok (.laload, 1) := by decide +kernel
theorem f_hx_Crowd_spread_59_1 : mblkB b_Crowd_spread [(59, .aload_n 0, vi 0)] = true := by decide +kernel
theorem e_hx_Crowd_spread_60 : decode b_Crowd_spread 60 = .ok (.getfield 15, 3) := by decide +kernel
theorem f_hx_Crowd_spread_63_1 : mblkB b_Crowd_spread [(63, .iload_n 3, vi 0)] = true := by decide +kernel
theorem e_hx_Crowd_spread_64 : decode b_Crowd_spread 64 = .ok (.laload, 1) := by decide +kernel
theorem f_hx_Crowd_spread_65_1 : mblkB b_Crowd_spread [(65, .ladd, vi 0)] = true := by decide +kernel
theorem e_hx_Crowd_spread_66 : decode b_Crowd_spread 66 = .ok (.lastore, 1) := by decide +kernel
set_option maxHeartbeats 4000000 in
set_option maxRecDepth 20000 in
theorem hx_Crowd_spread  : ∀ (l : Launch) (D : va_G) (B : Nat) (H0 : Heap) (G : tG) (A : mA) (o : Nat) (a0 : Int) (a1 : Nat) (h_o : G o = some 0) (h_a1 : G a1 = some 23)  (r9 : Int) (A9 : mA), f_Crowd_spread  A o a0 a1 = some (r9, A9) → hMet l D B H0 G y_Crowd_spread b_Crowd_spread 5 none 1 21 [vr 0 o, vi a0, vr 23 a1] A (fun v A' => v = none ∧ A' = A9) := by
  intro l D B H0 G A o a0 a1 h_o h_a1 r9 A9 h
  refine h_met (by decide) rfl (fun g q C Rm Y E => ?_)
  have hd_20 : ∀ (n : Nat) (A : mA) (b0 : Nat) (b1 : Int) (b2 : Nat) (b3 : Int) , G b0 = some 0 → G b2 = some 23 → f_Crowd_spread_20  n A b0 b1 b2 b3 = some (r9, A9) → HM g D G q A 20 [(0, vr 0 b0), (1, vi b1), (2, vr 23 b2), (3, vi b3)] [] := by
    intro n
    induction n with
    | zero => intro A b0 b1 b2 b3 h_b0 h_b2 h; cases h
    | succ n ih =>
      intro A b0 b1 b2 b3 h_b0 h_b2 h
      unfold f_Crowd_spread_20 at h
      refine h_blk 22 [(0, vr 0 b0), (1, vi b1), (2, vr 23 b2), (3, vi b3)] [vr 0 b0, vi b3] C f_hx_Crowd_spread_20_2 rfl ?_
      refine h_geti C e_hx_Crowd_spread_22 fg_Crowd_19 h_b0 rfl rfl rfl (A 0 b0 2) rfl ?_
      obtain ⟨c1, h⟩ := igd h
      obtain ⟨c2, h⟩ := igd h
      refine h_icmp_ge (tgt := 73) C e_hx_Crowd_spread_25 (by decide) c1 c2 (fun c3 => ?_) (fun c3 => ?_)
      · have h := ifp c3 h
        exact h_vret C Rm E e_hx_Crowd_spread_73 (fin0 h)
      · have h := ifn c3 h
        refine h_blk 32 [(0, vr 0 b0), (1, vi b1), (2, vr 23 b2), (3, vi b3)] [vi 300, vi b3] C f_hx_Crowd_spread_28_2 rfl ?_
        refine h_icmp_ge (tgt := 73) C e_hx_Crowd_spread_32 (by decide) c1 (by decide) (fun c4 => ?_) (fun c4 => ?_)
        · have h := ifp c4 h
          exact h_vret C Rm E e_hx_Crowd_spread_73 (fin0 h)
        · have h := ifn c4 h
          refine h_blk 36 [(0, vr 0 b0), (1, vi b1), (2, vr 23 b2), (3, vi b3)] [vr 0 b0] C f_hx_Crowd_spread_35_1 rfl ?_
          refine h_getr4 C e_hx_Crowd_spread_36 fg_Crowd_9 h_b0 rfl rfl rfl rfl (fun g5 => ?_)
          refine h_blk 40 [(0, vr 0 b0), (1, vi b1), (2, vr 23 b2), (3, vi b3)] [vi b3, vr 31 ((A 0 b0 0).toNat)] C f_hx_Crowd_spread_39_1 rfl ?_
          obtain ⟨c6, h⟩ := igd h
          refine h_iald C e_hx_Crowd_spread_40 g5 rfl rfl (by decide) c6.1 c6.2 (A 31 ((A 0 b0 0).toNat) b3.toNat) rfl ?_
          refine h_blk 42 [(0, vr 0 b0), (1, vi b1), (2, vr 23 b2), (3, vi b3)] [vi b1, vi (A 31 ((A 0 b0 0).toNat) b3.toNat)] C f_hx_Crowd_spread_41_1 rfl ?_
          obtain ⟨q7, e8, h⟩ := obd h
          refine h_callSn C Rm Y [vi (A 31 ((A 0 b0 0).toNat) b3.toNat), vi b1] [] (hx_CS_digitAt l D B H0 G _ (A 31 ((A 0 b0 0).toNat) b3.toNat) b1 _ _ e8) cl_Crowd_32 e_hx_Crowd_spread_42 rfl rfl rfl ⟨by decide, by decide⟩ ?_
          rintro _ _ ⟨rfl, rfl⟩
          show HM g D G q q7.2 45 [(0, vr 0 b0), (1, vi b1), (2, vr 23 b2), (3, vi b3)] [vi q7.1]
          refine h_blk 50 [(4, vi q7.1), (0, vr 0 b0), (1, vi b1), (2, vr 23 b2), (3, vi b3)] [vr 23 b2, vi q7.1] C f_hx_Crowd_spread_45_3 rfl ?_
          refine h_alen3 C e_hx_Crowd_spread_50 h_b2 rfl rfl ?_
          obtain ⟨c9, h⟩ := igd h
          obtain ⟨c10, h⟩ := igd h
          refine h_icmp_ge (tgt := 67) C e_hx_Crowd_spread_51 (by decide) c9 c10 (fun c11 => ?_) (fun c11 => ?_)
          · have h := ifp c11 h
            refine h_blk 20 [(3, vi (b3 + 1)), (4, vi q7.1), (0, vr 0 b0), (1, vi b1), (2, vr 23 b2)] [] C f_hx_Crowd_spread_67_2 rfl ?_
            refine h_loc [(0, vr 0 b0), (1, vi b1), (2, vr 23 b2), (3, vi (b3 + 1))] ⟨rfl, rfl, rfl, rfl, trivial⟩ ?_
            exact ih q7.2 b0 b1 b2 (b3 + 1) (h_b0) (h_b2) h
          · have h := ifn c11 h
            refine h_blk 58 [(4, vi q7.1), (0, vr 0 b0), (1, vi b1), (2, vr 23 b2), (3, vi b3)] [vi q7.1, vr 23 b2, vi q7.1, vr 23 b2] C f_hx_Crowd_spread_54_3 rfl ?_
            obtain ⟨c12, h⟩ := igd h
            refine h_lald C e_hx_Crowd_spread_58 h_b2 rfl rfl (by decide) c12.1 c12.2 (q7.2 23 b2 q7.1.toNat) rfl ?_
            refine h_blk 60 [(4, vi q7.1), (0, vr 0 b0), (1, vi b1), (2, vr 23 b2), (3, vi b3)] [vr 0 b0, vl (q7.2 23 b2 q7.1.toNat), vi q7.1, vr 23 b2] C f_hx_Crowd_spread_59_1 rfl ?_
            refine h_getr4 C e_hx_Crowd_spread_60 fg_Crowd_15 h_b0 rfl rfl rfl rfl (fun g13 => ?_)
            refine h_blk 64 [(4, vi q7.1), (0, vr 0 b0), (1, vi b1), (2, vr 23 b2), (3, vi b3)] [vi b3, vr 32 ((q7.2 0 b0 1).toNat), vl (q7.2 23 b2 q7.1.toNat), vi q7.1, vr 23 b2] C f_hx_Crowd_spread_63_1 rfl ?_
            refine h_lald C e_hx_Crowd_spread_64 g13 rfl rfl (by decide) c6.1 c6.2 (q7.2 32 ((q7.2 0 b0 1).toNat) b3.toNat) rfl ?_
            refine h_blk 66 [(4, vi q7.1), (0, vr 0 b0), (1, vi b1), (2, vr 23 b2), (3, vi b3)] [vl ((q7.2 23 b2 q7.1.toNat) + (q7.2 32 ((q7.2 0 b0 1).toNat) b3.toNat)), vi q7.1, vr 23 b2] C f_hx_Crowd_spread_65_1 rfl ?_
            refine h_last C e_hx_Crowd_spread_66 h_b2 rfl rfl (by decide) c12.1 c12.2 ?_
            refine h_blk 20 [(3, vi (b3 + 1)), (4, vi q7.1), (0, vr 0 b0), (1, vi b1), (2, vr 23 b2)] [] C f_hx_Crowd_spread_67_2 rfl ?_
            refine h_loc [(0, vr 0 b0), (1, vi b1), (2, vr 23 b2), (3, vi (b3 + 1))] ⟨rfl, rfl, rfl, rfl, trivial⟩ ?_
            exact ih (mu q7.2 23 b2 q7.1.toNat ((q7.2 23 b2 q7.1.toNat) + (q7.2 32 ((q7.2 0 b0 1).toNat) b3.toNat))) b0 b1 b2 (b3 + 1) (h_b0) (h_b2) h
  have hd_2 : ∀ (n : Nat) (A : mA) (b0 : Nat) (b1 : Int) (b2 : Nat) (b3 : Int) , G b0 = some 0 → G b2 = some 23 → f_Crowd_spread_2  n A b0 b1 b2 b3 = some (r9, A9) → HM g D G q A 2 [(0, vr 0 b0), (1, vi b1), (2, vr 23 b2), (3, vi b3)] [] := by
    intro n
    induction n with
    | zero => intro A b0 b1 b2 b3 h_b0 h_b2 h; cases h
    | succ n ih =>
      intro A b0 b1 b2 b3 h_b0 h_b2 h
      unfold f_Crowd_spread_2 at h
      refine h_blk 4 [(0, vr 0 b0), (1, vi b1), (2, vr 23 b2), (3, vi b3)] [vr 23 b2, vi b3] C f_hx_Crowd_spread_2_2 rfl ?_
      refine h_alen3 C e_hx_Crowd_spread_4 h_b2 rfl rfl ?_
      obtain ⟨c14, h⟩ := igd h
      obtain ⟨c15, h⟩ := igd h
      refine h_icmp_ge (tgt := 18) C e_hx_Crowd_spread_5 (by decide) c14 c15 (fun c16 => ?_) (fun c16 => ?_)
      · have h := ifp c16 h
        refine h_blk 20 [(3, vi 0), (0, vr 0 b0), (1, vi b1), (2, vr 23 b2)] [] C f_hx_Crowd_spread_18_2 rfl ?_
        refine h_loc [(0, vr 0 b0), (1, vi b1), (2, vr 23 b2), (3, vi 0)] ⟨rfl, rfl, rfl, rfl, trivial⟩ ?_
        exact hd_20 _ A b0 b1 b2 0 (h_b0) (h_b2) h
      · have h := ifn c16 h
        refine h_blk 11 [(0, vr 0 b0), (1, vi b1), (2, vr 23 b2), (3, vi b3)] [vl 0, vi b3, vr 23 b2] C f_hx_Crowd_spread_8_3 rfl ?_
        obtain ⟨c17, h⟩ := igd h
        refine h_last C e_hx_Crowd_spread_11 h_b2 rfl rfl (by decide) c17.1 c17.2 ?_
        refine h_blk 2 [(3, vi (b3 + 1)), (0, vr 0 b0), (1, vi b1), (2, vr 23 b2)] [] C f_hx_Crowd_spread_12_2 rfl ?_
        refine h_loc [(0, vr 0 b0), (1, vi b1), (2, vr 23 b2), (3, vi (b3 + 1))] ⟨rfl, rfl, rfl, rfl, trivial⟩ ?_
        exact ih (mu A 23 b2 b3.toNat 0) b0 b1 b2 (b3 + 1) (h_b0) (h_b2) h
  show HM g D G q A 0 [(0, vr 0 o), (1, vi a0), (2, vr 23 a1)] []
  unfold f_Crowd_spread at h
  refine h_blk 2 [(3, vi 0), (0, vr 0 o), (1, vi a0), (2, vr 23 a1)] [] C f_hx_Crowd_spread_0_2 rfl ?_
  refine h_loc [(0, vr 0 o), (1, vi a0), (2, vr 23 a1), (3, vi 0)] ⟨rfl, rfl, rfl, rfl, trivial⟩ ?_
  exact hd_2 _ A o a0 a1 0 (h_o) (h_a1) h

def f_Crowd_spreadWhere_29 : Nat → mA → Nat → Int → Int → Int → Nat → Int → Int → Option (Int × mA)
  | 0, _, _, _, _, _, _, _, _ => none
  | n + 1, A, b0, b1, b2, b3, b4, b5, b7 => (if g32 b7 then if g32 (A 0 b0 2) then (if (A 0 b0 2) ≤ b7 then (some (b5, A)) else (if 300 ≤ b7 then (some (b5, A)) else (if (0 ≤ b7 ∧ b7 < ((300 : Nat) : Int)) then (Option.bind (f_CS_digitAt A (A 31 ((A 0 b0 0).toNat) b7.toNat) b3) (fun q7 => (Option.bind (f_CS_digitAt q7.2 (q7.2 31 ((q7.2 0 b0 0).toNat) b7.toNat) b1) (fun q10 => (if g32 q10.1 then if g32 b2 then (if q10.1 = b2 then (if g32 q7.1 then if g32 ((10 : Nat) : Int) then (if ((10 : Nat) : Int) ≤ q7.1 then (f_Crowd_spreadWhere_29  n q10.2 b0 b1 b2 b3 b4 b5 (b7 + 1)) else (if (0 ≤ q7.1 ∧ q7.1 < ((10 : Nat) : Int)) then (f_Crowd_spreadWhere_29  n (mu q10.2 23 b4 q7.1.toNat ((q10.2 23 b4 q7.1.toNat) + (q10.2 32 ((q10.2 0 b0 1).toNat) b7.toNat))) b0 b1 b2 b3 b4 (b5 + (q10.2 32 ((q10.2 0 b0 1).toNat) b7.toNat)) (b7 + 1)) else none)) else none else none) else (f_Crowd_spreadWhere_29  n q10.2 b0 b1 b2 b3 b4 b5 (b7 + 1))) else none else none))))) else none))) else none else none)
def f_Crowd_spreadWhere_6 : Nat → mA → Nat → Int → Int → Int → Nat → Int → Int → Option (Int × mA)
  | 0, _, _, _, _, _, _, _, _ => none
  | n + 1, A, b0, b1, b2, b3, b4, b5, b7 => (if g32 b7 then if g32 ((10 : Nat) : Int) then (if ((10 : Nat) : Int) ≤ b7 then (f_Crowd_spreadWhere_29  400 A b0 b1 b2 b3 b4 b5 0) else (if (0 ≤ b7 ∧ b7 < ((10 : Nat) : Int)) then (f_Crowd_spreadWhere_6  n (mu A 23 b4 b7.toNat 0) b0 b1 b2 b3 b4 b5 (b7 + 1)) else none)) else none else none)
def f_Crowd_spreadWhere (A : mA) (o : Nat) (a0 : Int) (a1 : Int) (a2 : Int) (a3 : Nat) : Option (Int × mA) := (f_Crowd_spreadWhere_6  400 A o a0 a1 a2 a3 0 0)
theorem f_hx_Crowd_spreadWhere_0_4 : mblkB b_Crowd_spreadWhere [(0, .lconst 0, vl 0), (1, .lstore 5, vi 0), (3, .iconst 0, vi 0), (4, .istore 7, vi 0)] = true := by decide +kernel
theorem f_hx_Crowd_spreadWhere_6_2 : mblkB b_Crowd_spreadWhere [(6, .iload 7, vi 0), (8, .aload 4, vi 0)] = true := by decide +kernel
theorem e_hx_Crowd_spreadWhere_10 : decode b_Crowd_spreadWhere 10 = .ok (.arraylength, 1) := by decide +kernel
theorem e_hx_Crowd_spreadWhere_11 : decode b_Crowd_spreadWhere 11 = .ok (.if_icmp .ge 15, 3) := by decide +kernel
theorem f_hx_Crowd_spreadWhere_26_2 : mblkB b_Crowd_spreadWhere [(26, .iconst 0, vi 0), (27, .istore 7, vi 0)] = true := by decide +kernel
theorem f_hx_Crowd_spreadWhere_14_3 : mblkB b_Crowd_spreadWhere [(14, .aload 4, vi 0), (16, .iload 7, vi 0), (18, .lconst 0, vl 0)] = true := by decide +kernel
theorem e_hx_Crowd_spreadWhere_19 : decode b_Crowd_spreadWhere 19 = .ok (.lastore, 1) := by decide +kernel
theorem f_hx_Crowd_spreadWhere_20_2 : mblkB b_Crowd_spreadWhere [(20, .iinc 7 1, vi 1), (23, .goto (-17), vi 6)] = true := by decide +kernel
theorem f_hx_Crowd_spreadWhere_29_2 : mblkB b_Crowd_spreadWhere [(29, .iload 7, vi 0), (31, .aload_n 0, vi 0)] = true := by decide +kernel
theorem e_hx_Crowd_spreadWhere_32 : decode b_Crowd_spreadWhere 32 = .ok (.getfield 19, 3) := by decide +kernel
theorem e_hx_Crowd_spreadWhere_35 : decode b_Crowd_spreadWhere 35 = .ok (.if_icmp .ge 80, 3) := by decide +kernel
theorem f_hx_Crowd_spreadWhere_115_1 : mblkB b_Crowd_spreadWhere [(115, .lload 5, vi 0)] = true := by decide +kernel
theorem e_hx_Crowd_spreadWhere_117 : decode b_Crowd_spreadWhere 117 = .ok (.lreturn, 1) := by decide +kernel
theorem f_hx_Crowd_spreadWhere_38_2 : mblkB b_Crowd_spreadWhere [(38, .iload 7, vi 0), (40, .sipush 300, vi 300)] = true := by decide +kernel
theorem e_hx_Crowd_spreadWhere_43 : decode b_Crowd_spreadWhere 43 = .ok (.if_icmp .ge 72, 3) := by decide +kernel
theorem f_hx_Crowd_spreadWhere_46_1 : mblkB b_Crowd_spreadWhere [(46, .aload_n 0, vi 0)] = true := by decide +kernel
theorem e_hx_Crowd_spreadWhere_47 : decode b_Crowd_spreadWhere 47 = .ok (.getfield 9, 3) := by decide +kernel
theorem f_hx_Crowd_spreadWhere_50_1 : mblkB b_Crowd_spreadWhere [(50, .iload 7, vi 0)] = true := by decide +kernel
theorem e_hx_Crowd_spreadWhere_52 : decode b_Crowd_spreadWhere 52 = .ok (.iaload, 1) := by decide +kernel
theorem f_hx_Crowd_spreadWhere_53_1 : mblkB b_Crowd_spreadWhere [(53, .iload_n 3, vi 0)] = true := by decide +kernel
theorem e_hx_Crowd_spreadWhere_54 : decode b_Crowd_spreadWhere 54 = .ok (.invokestatic 32, 3) := by decide +kernel
theorem f_hx_Crowd_spreadWhere_57_2 : mblkB b_Crowd_spreadWhere [(57, .istore 8, vi 0), (59, .aload_n 0, vi 0)] = true := by decide +kernel
theorem e_hx_Crowd_spreadWhere_60 : decode b_Crowd_spreadWhere 60 = .ok (.getfield 9, 3) := by decide +kernel
theorem f_hx_Crowd_spreadWhere_63_1 : mblkB b_Crowd_spreadWhere [(63, .iload 7, vi 0)] = true := by decide +kernel
theorem e_hx_Crowd_spreadWhere_65 : decode b_Crowd_spreadWhere 65 = .ok (.iaload, 1) := by decide +kernel
theorem f_hx_Crowd_spreadWhere_66_1 : mblkB b_Crowd_spreadWhere [(66, .iload_n 1, vi 0)] = true := by decide +kernel
theorem e_hx_Crowd_spreadWhere_67 : decode b_Crowd_spreadWhere 67 = .ok (.invokestatic 32, 3) := by decide +kernel
theorem f_hx_Crowd_spreadWhere_70_1 : mblkB b_Crowd_spreadWhere [(70, .iload_n 2, vi 0)] = true := by decide +kernel
theorem e_hx_Crowd_spreadWhere_71 : decode b_Crowd_spreadWhere 71 = .ok (.if_icmp .ne 38, 3) := by decide +kernel
theorem f_hx_Crowd_spreadWhere_109_2 : mblkB b_Crowd_spreadWhere [(109, .iinc 7 1, vi 1), (112, .goto (-83), vi 29)] = true := by decide +kernel
theorem f_hx_Crowd_spreadWhere_74_2 : mblkB b_Crowd_spreadWhere [(74, .iload 8, vi 0), (76, .aload 4, vi 0)] = true := by decide +kernel
theorem e_hx_Crowd_spreadWhere_78 : decode b_Crowd_spreadWhere 78 = .ok (.arraylength, 1) := by decide +kernel
theorem e_hx_Crowd_spreadWhere_79 : decode b_Crowd_spreadWhere 79 = .ok (.if_icmp .ge 30, 3) := by decide +kernel
theorem f_hx_Crowd_spreadWhere_82_3 : mblkB b_Crowd_spreadWhere [(82, .aload 4, vi 0), (84, .iload 8, vi 0), (86, .dup2, vi 0)] = true := by decide +kernel
theorem e_hx_Crowd_spreadWhere_87 : decode b_Crowd_spreadWhere 87 = .ok (.laload, 1) := by decide +kernel
theorem f_hx_Crowd_spreadWhere_88_1 : mblkB b_Crowd_spreadWhere [(88, .aload_n 0, vi 0)] = true := by decide +kernel
theorem e_hx_Crowd_spreadWhere_89 : decode b_Crowd_spreadWhere 89 = .ok (.getfield 15, 3) := by decide +kernel
theorem f_hx_Crowd_spreadWhere_92_1 : mblkB b_Crowd_spreadWhere [(92, .iload 7, vi 0)] = true := by decide +kernel
theorem e_hx_Crowd_spreadWhere_94 : decode b_Crowd_spreadWhere 94 = .ok (.laload, 1) := by decide +kernel
theorem f_hx_Crowd_spreadWhere_95_1 : mblkB b_Crowd_spreadWhere [(95, .ladd, vi 0)] = true := by decide +kernel
theorem e_hx_Crowd_spreadWhere_96 : decode b_Crowd_spreadWhere 96 = .ok (.lastore, 1) := by decide +kernel
theorem f_hx_Crowd_spreadWhere_97_2 : mblkB b_Crowd_spreadWhere [(97, .lload 5, vi 0), (99, .aload_n 0, vi 0)] = true := by decide +kernel
theorem e_hx_Crowd_spreadWhere_100 : decode b_Crowd_spreadWhere 100 = .ok (.getfield 15, 3) := by decide +kernel
theorem f_hx_Crowd_spreadWhere_103_1 : mblkB b_Crowd_spreadWhere [(103, .iload 7, vi 0)] = true := by decide +kernel
theorem e_hx_Crowd_spreadWhere_105 : decode b_Crowd_spreadWhere 105 = .ok (.laload, 1) := by decide +kernel
theorem f_hx_Crowd_spreadWhere_106_4 : mblkB b_Crowd_spreadWhere [(106, .ladd, vi 0), (107, .lstore 5, vi 0), (109, .iinc 7 1, vi 1), (112, .goto (-83), vi 29)] = true := by decide +kernel
set_option maxHeartbeats 4000000 in
set_option maxRecDepth 20000 in
theorem hx_Crowd_spreadWhere  : ∀ (l : Launch) (D : va_G) (B : Nat) (H0 : Heap) (G : tG) (A : mA) (o : Nat) (a0 : Int) (a1 : Int) (a2 : Int) (a3 : Nat) (h_o : G o = some 0) (h_a3 : G a3 = some 23)  (r9 : Int) (A9 : mA), f_Crowd_spreadWhere  A o a0 a1 a2 a3 = some (r9, A9) → hMet l D B H0 G y_Crowd_spreadWhere b_Crowd_spreadWhere 9 (some .long) 1 21 [vr 0 o, vi a0, vi a1, vi a2, vr 23 a3] A (fun v A' => v = some (vl r9) ∧ A' = A9) := by
  intro l D B H0 G A o a0 a1 a2 a3 h_o h_a3 r9 A9 h
  refine h_met (by decide) rfl (fun g q C Rm Y E => ?_)
  have hd_29 : ∀ (n : Nat) (A : mA) (b0 : Nat) (b1 : Int) (b2 : Int) (b3 : Int) (b4 : Nat) (b5 : Int) (b7 : Int) , G b0 = some 0 → G b4 = some 23 → f_Crowd_spreadWhere_29  n A b0 b1 b2 b3 b4 b5 b7 = some (r9, A9) → HM g D G q A 29 [(0, vr 0 b0), (1, vi b1), (2, vi b2), (3, vi b3), (4, vr 23 b4), (5, vl b5), (7, vi b7)] [] := by
    intro n
    induction n with
    | zero => intro A b0 b1 b2 b3 b4 b5 b7 h_b0 h_b4 h; cases h
    | succ n ih =>
      intro A b0 b1 b2 b3 b4 b5 b7 h_b0 h_b4 h
      unfold f_Crowd_spreadWhere_29 at h
      refine h_blk 32 [(0, vr 0 b0), (1, vi b1), (2, vi b2), (3, vi b3), (4, vr 23 b4), (5, vl b5), (7, vi b7)] [vr 0 b0, vi b7] C f_hx_Crowd_spreadWhere_29_2 rfl ?_
      refine h_geti C e_hx_Crowd_spreadWhere_32 fg_Crowd_19 h_b0 rfl rfl rfl (A 0 b0 2) rfl ?_
      obtain ⟨c1, h⟩ := igd h
      obtain ⟨c2, h⟩ := igd h
      refine h_icmp_ge (tgt := 115) C e_hx_Crowd_spreadWhere_35 (by decide) c1 c2 (fun c3 => ?_) (fun c3 => ?_)
      · have h := ifp c3 h
        refine h_blk 117 [(0, vr 0 b0), (1, vi b1), (2, vi b2), (3, vi b3), (4, vr 23 b4), (5, vl b5), (7, vi b7)] [vl b5] C f_hx_Crowd_spreadWhere_115_1 rfl ?_
        exact h_lret C Rm E e_hx_Crowd_spreadWhere_117 (finL h)
      · have h := ifn c3 h
        refine h_blk 43 [(0, vr 0 b0), (1, vi b1), (2, vi b2), (3, vi b3), (4, vr 23 b4), (5, vl b5), (7, vi b7)] [vi 300, vi b7] C f_hx_Crowd_spreadWhere_38_2 rfl ?_
        refine h_icmp_ge (tgt := 115) C e_hx_Crowd_spreadWhere_43 (by decide) c1 (by decide) (fun c4 => ?_) (fun c4 => ?_)
        · have h := ifp c4 h
          refine h_blk 117 [(0, vr 0 b0), (1, vi b1), (2, vi b2), (3, vi b3), (4, vr 23 b4), (5, vl b5), (7, vi b7)] [vl b5] C f_hx_Crowd_spreadWhere_115_1 rfl ?_
          exact h_lret C Rm E e_hx_Crowd_spreadWhere_117 (finL h)
        · have h := ifn c4 h
          refine h_blk 47 [(0, vr 0 b0), (1, vi b1), (2, vi b2), (3, vi b3), (4, vr 23 b4), (5, vl b5), (7, vi b7)] [vr 0 b0] C f_hx_Crowd_spreadWhere_46_1 rfl ?_
          refine h_getr4 C e_hx_Crowd_spreadWhere_47 fg_Crowd_9 h_b0 rfl rfl rfl rfl (fun g5 => ?_)
          refine h_blk 52 [(0, vr 0 b0), (1, vi b1), (2, vi b2), (3, vi b3), (4, vr 23 b4), (5, vl b5), (7, vi b7)] [vi b7, vr 31 ((A 0 b0 0).toNat)] C f_hx_Crowd_spreadWhere_50_1 rfl ?_
          obtain ⟨c6, h⟩ := igd h
          refine h_iald C e_hx_Crowd_spreadWhere_52 g5 rfl rfl (by decide) c6.1 c6.2 (A 31 ((A 0 b0 0).toNat) b7.toNat) rfl ?_
          refine h_blk 54 [(0, vr 0 b0), (1, vi b1), (2, vi b2), (3, vi b3), (4, vr 23 b4), (5, vl b5), (7, vi b7)] [vi b3, vi (A 31 ((A 0 b0 0).toNat) b7.toNat)] C f_hx_Crowd_spreadWhere_53_1 rfl ?_
          obtain ⟨q7, e8, h⟩ := obd h
          refine h_callSn C Rm Y [vi (A 31 ((A 0 b0 0).toNat) b7.toNat), vi b3] [] (hx_CS_digitAt l D B H0 G _ (A 31 ((A 0 b0 0).toNat) b7.toNat) b3 _ _ e8) cl_Crowd_32 e_hx_Crowd_spreadWhere_54 rfl rfl rfl ⟨by decide, by decide⟩ ?_
          rintro _ _ ⟨rfl, rfl⟩
          show HM g D G q q7.2 57 [(0, vr 0 b0), (1, vi b1), (2, vi b2), (3, vi b3), (4, vr 23 b4), (5, vl b5), (7, vi b7)] [vi q7.1]
          refine h_blk 60 [(8, vi q7.1), (0, vr 0 b0), (1, vi b1), (2, vi b2), (3, vi b3), (4, vr 23 b4), (5, vl b5), (7, vi b7)] [vr 0 b0] C f_hx_Crowd_spreadWhere_57_2 rfl ?_
          refine h_getr4 C e_hx_Crowd_spreadWhere_60 fg_Crowd_9 h_b0 rfl rfl rfl rfl (fun g9 => ?_)
          refine h_blk 65 [(8, vi q7.1), (0, vr 0 b0), (1, vi b1), (2, vi b2), (3, vi b3), (4, vr 23 b4), (5, vl b5), (7, vi b7)] [vi b7, vr 31 ((q7.2 0 b0 0).toNat)] C f_hx_Crowd_spreadWhere_63_1 rfl ?_
          refine h_iald C e_hx_Crowd_spreadWhere_65 g9 rfl rfl (by decide) c6.1 c6.2 (q7.2 31 ((q7.2 0 b0 0).toNat) b7.toNat) rfl ?_
          refine h_blk 67 [(8, vi q7.1), (0, vr 0 b0), (1, vi b1), (2, vi b2), (3, vi b3), (4, vr 23 b4), (5, vl b5), (7, vi b7)] [vi b1, vi (q7.2 31 ((q7.2 0 b0 0).toNat) b7.toNat)] C f_hx_Crowd_spreadWhere_66_1 rfl ?_
          obtain ⟨q10, e11, h⟩ := obd h
          refine h_callSn C Rm Y [vi (q7.2 31 ((q7.2 0 b0 0).toNat) b7.toNat), vi b1] [] (hx_CS_digitAt l D B H0 G _ (q7.2 31 ((q7.2 0 b0 0).toNat) b7.toNat) b1 _ _ e11) cl_Crowd_32 e_hx_Crowd_spreadWhere_67 rfl rfl rfl ⟨by decide, by decide⟩ ?_
          rintro _ _ ⟨rfl, rfl⟩
          show HM g D G q q10.2 70 [(8, vi q7.1), (0, vr 0 b0), (1, vi b1), (2, vi b2), (3, vi b3), (4, vr 23 b4), (5, vl b5), (7, vi b7)] [vi q10.1]
          refine h_blk 71 [(8, vi q7.1), (0, vr 0 b0), (1, vi b1), (2, vi b2), (3, vi b3), (4, vr 23 b4), (5, vl b5), (7, vi b7)] [vi b2, vi q10.1] C f_hx_Crowd_spreadWhere_70_1 rfl ?_
          obtain ⟨c12, h⟩ := igd h
          obtain ⟨c13, h⟩ := igd h
          refine h_icmp_ne (tgt := 109) C e_hx_Crowd_spreadWhere_71 (by decide) c12 c13 (fun c14 => ?_) (fun c14 => ?_)
          · have h := ifn c14 h
            refine h_blk 29 [(7, vi (b7 + 1)), (8, vi q7.1), (0, vr 0 b0), (1, vi b1), (2, vi b2), (3, vi b3), (4, vr 23 b4), (5, vl b5)] [] C f_hx_Crowd_spreadWhere_109_2 rfl ?_
            refine h_loc [(0, vr 0 b0), (1, vi b1), (2, vi b2), (3, vi b3), (4, vr 23 b4), (5, vl b5), (7, vi (b7 + 1))] ⟨rfl, rfl, rfl, rfl, rfl, rfl, rfl, trivial⟩ ?_
            exact ih q10.2 b0 b1 b2 b3 b4 b5 (b7 + 1) (h_b0) (h_b4) h
          · have h := ifp c14 h
            refine h_blk 78 [(8, vi q7.1), (0, vr 0 b0), (1, vi b1), (2, vi b2), (3, vi b3), (4, vr 23 b4), (5, vl b5), (7, vi b7)] [vr 23 b4, vi q7.1] C f_hx_Crowd_spreadWhere_74_2 rfl ?_
            refine h_alen3 C e_hx_Crowd_spreadWhere_78 h_b4 rfl rfl ?_
            obtain ⟨c15, h⟩ := igd h
            obtain ⟨c16, h⟩ := igd h
            refine h_icmp_ge (tgt := 109) C e_hx_Crowd_spreadWhere_79 (by decide) c15 c16 (fun c17 => ?_) (fun c17 => ?_)
            · have h := ifp c17 h
              refine h_blk 29 [(7, vi (b7 + 1)), (8, vi q7.1), (0, vr 0 b0), (1, vi b1), (2, vi b2), (3, vi b3), (4, vr 23 b4), (5, vl b5)] [] C f_hx_Crowd_spreadWhere_109_2 rfl ?_
              refine h_loc [(0, vr 0 b0), (1, vi b1), (2, vi b2), (3, vi b3), (4, vr 23 b4), (5, vl b5), (7, vi (b7 + 1))] ⟨rfl, rfl, rfl, rfl, rfl, rfl, rfl, trivial⟩ ?_
              exact ih q10.2 b0 b1 b2 b3 b4 b5 (b7 + 1) (h_b0) (h_b4) h
            · have h := ifn c17 h
              refine h_blk 87 [(8, vi q7.1), (0, vr 0 b0), (1, vi b1), (2, vi b2), (3, vi b3), (4, vr 23 b4), (5, vl b5), (7, vi b7)] [vi q7.1, vr 23 b4, vi q7.1, vr 23 b4] C f_hx_Crowd_spreadWhere_82_3 rfl ?_
              obtain ⟨c18, h⟩ := igd h
              refine h_lald C e_hx_Crowd_spreadWhere_87 h_b4 rfl rfl (by decide) c18.1 c18.2 (q10.2 23 b4 q7.1.toNat) rfl ?_
              refine h_blk 89 [(8, vi q7.1), (0, vr 0 b0), (1, vi b1), (2, vi b2), (3, vi b3), (4, vr 23 b4), (5, vl b5), (7, vi b7)] [vr 0 b0, vl (q10.2 23 b4 q7.1.toNat), vi q7.1, vr 23 b4] C f_hx_Crowd_spreadWhere_88_1 rfl ?_
              refine h_getr4 C e_hx_Crowd_spreadWhere_89 fg_Crowd_15 h_b0 rfl rfl rfl rfl (fun g19 => ?_)
              refine h_blk 94 [(8, vi q7.1), (0, vr 0 b0), (1, vi b1), (2, vi b2), (3, vi b3), (4, vr 23 b4), (5, vl b5), (7, vi b7)] [vi b7, vr 32 ((q10.2 0 b0 1).toNat), vl (q10.2 23 b4 q7.1.toNat), vi q7.1, vr 23 b4] C f_hx_Crowd_spreadWhere_92_1 rfl ?_
              refine h_lald C e_hx_Crowd_spreadWhere_94 g19 rfl rfl (by decide) c6.1 c6.2 (q10.2 32 ((q10.2 0 b0 1).toNat) b7.toNat) rfl ?_
              refine h_blk 96 [(8, vi q7.1), (0, vr 0 b0), (1, vi b1), (2, vi b2), (3, vi b3), (4, vr 23 b4), (5, vl b5), (7, vi b7)] [vl ((q10.2 23 b4 q7.1.toNat) + (q10.2 32 ((q10.2 0 b0 1).toNat) b7.toNat)), vi q7.1, vr 23 b4] C f_hx_Crowd_spreadWhere_95_1 rfl ?_
              refine h_last C e_hx_Crowd_spreadWhere_96 h_b4 rfl rfl (by decide) c18.1 c18.2 ?_
              refine h_blk 100 [(8, vi q7.1), (0, vr 0 b0), (1, vi b1), (2, vi b2), (3, vi b3), (4, vr 23 b4), (5, vl b5), (7, vi b7)] [vr 0 b0, vl b5] C f_hx_Crowd_spreadWhere_97_2 rfl ?_
              refine h_getr4 C e_hx_Crowd_spreadWhere_100 fg_Crowd_15 h_b0 rfl rfl rfl rfl (fun g20 => ?_)
              refine h_blk 105 [(8, vi q7.1), (0, vr 0 b0), (1, vi b1), (2, vi b2), (3, vi b3), (4, vr 23 b4), (5, vl b5), (7, vi b7)] [vi b7, vr 32 ((q10.2 0 b0 1).toNat), vl b5] C f_hx_Crowd_spreadWhere_103_1 rfl ?_
              refine h_lald C e_hx_Crowd_spreadWhere_105 g20 rfl rfl (by decide) c6.1 c6.2 (q10.2 32 ((q10.2 0 b0 1).toNat) b7.toNat) rfl ?_
              refine h_blk 29 [(7, vi (b7 + 1)), (5, vl (b5 + (q10.2 32 ((q10.2 0 b0 1).toNat) b7.toNat))), (8, vi q7.1), (0, vr 0 b0), (1, vi b1), (2, vi b2), (3, vi b3), (4, vr 23 b4)] [] C f_hx_Crowd_spreadWhere_106_4 rfl ?_
              refine h_loc [(0, vr 0 b0), (1, vi b1), (2, vi b2), (3, vi b3), (4, vr 23 b4), (5, vl (b5 + (q10.2 32 ((q10.2 0 b0 1).toNat) b7.toNat))), (7, vi (b7 + 1))] ⟨rfl, rfl, rfl, rfl, rfl, rfl, rfl, trivial⟩ ?_
              exact ih (mu q10.2 23 b4 q7.1.toNat ((q10.2 23 b4 q7.1.toNat) + (q10.2 32 ((q10.2 0 b0 1).toNat) b7.toNat))) b0 b1 b2 b3 b4 (b5 + (q10.2 32 ((q10.2 0 b0 1).toNat) b7.toNat)) (b7 + 1) (h_b0) (h_b4) h
  have hd_6 : ∀ (n : Nat) (A : mA) (b0 : Nat) (b1 : Int) (b2 : Int) (b3 : Int) (b4 : Nat) (b5 : Int) (b7 : Int) , G b0 = some 0 → G b4 = some 23 → f_Crowd_spreadWhere_6  n A b0 b1 b2 b3 b4 b5 b7 = some (r9, A9) → HM g D G q A 6 [(0, vr 0 b0), (1, vi b1), (2, vi b2), (3, vi b3), (4, vr 23 b4), (5, vl b5), (7, vi b7)] [] := by
    intro n
    induction n with
    | zero => intro A b0 b1 b2 b3 b4 b5 b7 h_b0 h_b4 h; cases h
    | succ n ih =>
      intro A b0 b1 b2 b3 b4 b5 b7 h_b0 h_b4 h
      unfold f_Crowd_spreadWhere_6 at h
      refine h_blk 10 [(0, vr 0 b0), (1, vi b1), (2, vi b2), (3, vi b3), (4, vr 23 b4), (5, vl b5), (7, vi b7)] [vr 23 b4, vi b7] C f_hx_Crowd_spreadWhere_6_2 rfl ?_
      refine h_alen3 C e_hx_Crowd_spreadWhere_10 h_b4 rfl rfl ?_
      obtain ⟨c21, h⟩ := igd h
      obtain ⟨c22, h⟩ := igd h
      refine h_icmp_ge (tgt := 26) C e_hx_Crowd_spreadWhere_11 (by decide) c21 c22 (fun c23 => ?_) (fun c23 => ?_)
      · have h := ifp c23 h
        refine h_blk 29 [(7, vi 0), (0, vr 0 b0), (1, vi b1), (2, vi b2), (3, vi b3), (4, vr 23 b4), (5, vl b5)] [] C f_hx_Crowd_spreadWhere_26_2 rfl ?_
        refine h_loc [(0, vr 0 b0), (1, vi b1), (2, vi b2), (3, vi b3), (4, vr 23 b4), (5, vl b5), (7, vi 0)] ⟨rfl, rfl, rfl, rfl, rfl, rfl, rfl, trivial⟩ ?_
        exact hd_29 _ A b0 b1 b2 b3 b4 b5 0 (h_b0) (h_b4) h
      · have h := ifn c23 h
        refine h_blk 19 [(0, vr 0 b0), (1, vi b1), (2, vi b2), (3, vi b3), (4, vr 23 b4), (5, vl b5), (7, vi b7)] [vl 0, vi b7, vr 23 b4] C f_hx_Crowd_spreadWhere_14_3 rfl ?_
        obtain ⟨c24, h⟩ := igd h
        refine h_last C e_hx_Crowd_spreadWhere_19 h_b4 rfl rfl (by decide) c24.1 c24.2 ?_
        refine h_blk 6 [(7, vi (b7 + 1)), (0, vr 0 b0), (1, vi b1), (2, vi b2), (3, vi b3), (4, vr 23 b4), (5, vl b5)] [] C f_hx_Crowd_spreadWhere_20_2 rfl ?_
        refine h_loc [(0, vr 0 b0), (1, vi b1), (2, vi b2), (3, vi b3), (4, vr 23 b4), (5, vl b5), (7, vi (b7 + 1))] ⟨rfl, rfl, rfl, rfl, rfl, rfl, rfl, trivial⟩ ?_
        exact ih (mu A 23 b4 b7.toNat 0) b0 b1 b2 b3 b4 b5 (b7 + 1) (h_b0) (h_b4) h
  show HM g D G q A 0 [(0, vr 0 o), (1, vi a0), (2, vi a1), (3, vi a2), (4, vr 23 a3)] []
  unfold f_Crowd_spreadWhere at h
  refine h_blk 6 [(7, vi 0), (5, vl 0), (0, vr 0 o), (1, vi a0), (2, vi a1), (3, vi a2), (4, vr 23 a3)] [] C f_hx_Crowd_spreadWhere_0_4 rfl ?_
  refine h_loc [(0, vr 0 o), (1, vi a0), (2, vi a1), (3, vi a2), (4, vr 23 a3), (5, vl 0), (7, vi 0)] ⟨rfl, rfl, rfl, rfl, rfl, rfl, rfl, trivial⟩ ?_
  exact hd_6 _ A o a0 a1 a2 a3 0 0 (h_o) (h_a3) h

def f_Mixer_clear (A : mA) (o : Nat) : Option (Int × mA) := (some (0, (mu A 1 o 2 0)))
theorem f_hx_Mixer_clear_0_2 : mblkB b_Mixer_clear [(0, .aload_n 0, vi 0), (1, .iconst 0, vi 0)] = true := by decide +kernel
theorem e_hx_Mixer_clear_2 : decode b_Mixer_clear 2 = .ok (.putfield 25, 3) := by decide +kernel
theorem e_hx_Mixer_clear_5 : decode b_Mixer_clear 5 = .ok (.return_, 1) := by decide +kernel
set_option maxHeartbeats 4000000 in
set_option maxRecDepth 20000 in
theorem hx_Mixer_clear  : ∀ (l : Launch) (D : va_G) (B : Nat) (H0 : Heap) (G : tG) (A : mA) (o : Nat) (h_o : G o = some 1)  (r9 : Int) (A9 : mA), f_Mixer_clear  A o = some (r9, A9) → hMet l D B H0 G y_Mixer_clear b_Mixer_clear 1 none 0 0 [vr 1 o] A (fun v A' => v = none ∧ A' = A9) := by
  intro l D B H0 G A o h_o r9 A9 h
  refine h_met (by decide) rfl (fun g q C Rm Y E => ?_)
  show HM g D G q A 0 [(0, vr 1 o)] []
  unfold f_Mixer_clear at h
  refine h_blk 2 [(0, vr 1 o)] [vi 0, vr 1 o] C f_hx_Mixer_clear_0_2 rfl ?_
  refine h_puti C e_hx_Mixer_clear_2 fp_Mixer_25 h_o rfl rfl rfl ?_
  exact h_vret C Rm E e_hx_Mixer_clear_5 (fin0 h)

def f_Mixer_putNew (A : mA) (o : Nat) (a0 : Int) (a1 : Int) (a2 : Int) : Option (Int × mA) := (if g32 (A 1 o 2) then (if (A 1 o 2) < 300 then (if (0 ≤ (A 1 o 2) ∧ (A 1 o 2) < ((300 : Nat) : Int)) then (if (0 ≤ a2 ∧ a2 < ((1024 : Nat) : Int)) then (some (1, (mu (mu (mu (mu (mu A 31 ((A 1 o 0).toNat) ((A 1 o 2).toNat) a0) 32 ((A 1 o 1).toNat) ((A 1 o 2).toNat) a1) 31 ((A 1 o 4).toNat) ((A 1 o 2).toNat) a2) 33 ((A 1 o 3).toNat) a2.toNat (A 1 o 2)) 1 o 2 ((A 1 o 2) + 1)))) else none) else none) else (some (0, A))) else none)
theorem f_hx_Mixer_putNew_0_1 : mblkB b_Mixer_putNew [(0, .aload_n 0, vi 0)] = true := by decide +kernel
theorem e_hx_Mixer_putNew_1 : decode b_Mixer_putNew 1 = .ok (.getfield 25, 3) := by decide +kernel
theorem f_hx_Mixer_putNew_4_1 : mblkB b_Mixer_putNew [(4, .sipush 300, vi 300)] = true := by decide +kernel
theorem e_hx_Mixer_putNew_7 : decode b_Mixer_putNew 7 = .ok (.if_icmp .lt 5, 3) := by decide +kernel
theorem f_hx_Mixer_putNew_12_1 : mblkB b_Mixer_putNew [(12, .aload_n 0, vi 0)] = true := by decide +kernel
theorem e_hx_Mixer_putNew_13 : decode b_Mixer_putNew 13 = .ok (.getfield 9, 3) := by decide +kernel
theorem f_hx_Mixer_putNew_16_1 : mblkB b_Mixer_putNew [(16, .aload_n 0, vi 0)] = true := by decide +kernel
theorem e_hx_Mixer_putNew_17 : decode b_Mixer_putNew 17 = .ok (.getfield 25, 3) := by decide +kernel
theorem f_hx_Mixer_putNew_20_1 : mblkB b_Mixer_putNew [(20, .iload_n 1, vi 0)] = true := by decide +kernel
theorem e_hx_Mixer_putNew_21 : decode b_Mixer_putNew 21 = .ok (.iastore, 1) := by decide +kernel
theorem f_hx_Mixer_putNew_22_1 : mblkB b_Mixer_putNew [(22, .aload_n 0, vi 0)] = true := by decide +kernel
theorem e_hx_Mixer_putNew_23 : decode b_Mixer_putNew 23 = .ok (.getfield 15, 3) := by decide +kernel
theorem f_hx_Mixer_putNew_26_1 : mblkB b_Mixer_putNew [(26, .aload_n 0, vi 0)] = true := by decide +kernel
theorem e_hx_Mixer_putNew_27 : decode b_Mixer_putNew 27 = .ok (.getfield 25, 3) := by decide +kernel
theorem f_hx_Mixer_putNew_30_1 : mblkB b_Mixer_putNew [(30, .lload_n 2, vi 0)] = true := by decide +kernel
theorem e_hx_Mixer_putNew_31 : decode b_Mixer_putNew 31 = .ok (.lastore, 1) := by decide +kernel
theorem f_hx_Mixer_putNew_32_1 : mblkB b_Mixer_putNew [(32, .aload_n 0, vi 0)] = true := by decide +kernel
theorem e_hx_Mixer_putNew_33 : decode b_Mixer_putNew 33 = .ok (.getfield 22, 3) := by decide +kernel
theorem f_hx_Mixer_putNew_36_1 : mblkB b_Mixer_putNew [(36, .aload_n 0, vi 0)] = true := by decide +kernel
theorem e_hx_Mixer_putNew_37 : decode b_Mixer_putNew 37 = .ok (.getfield 25, 3) := by decide +kernel
theorem f_hx_Mixer_putNew_40_1 : mblkB b_Mixer_putNew [(40, .iload 4, vi 0)] = true := by decide +kernel
theorem e_hx_Mixer_putNew_42 : decode b_Mixer_putNew 42 = .ok (.iastore, 1) := by decide +kernel
theorem f_hx_Mixer_putNew_43_1 : mblkB b_Mixer_putNew [(43, .aload_n 0, vi 0)] = true := by decide +kernel
theorem e_hx_Mixer_putNew_44 : decode b_Mixer_putNew 44 = .ok (.getfield 19, 3) := by decide +kernel
theorem f_hx_Mixer_putNew_47_2 : mblkB b_Mixer_putNew [(47, .iload 4, vi 0), (49, .aload_n 0, vi 0)] = true := by decide +kernel
theorem e_hx_Mixer_putNew_50 : decode b_Mixer_putNew 50 = .ok (.getfield 25, 3) := by decide +kernel
theorem e_hx_Mixer_putNew_53 : decode b_Mixer_putNew 53 = .ok (.iastore, 1) := by decide +kernel
theorem f_hx_Mixer_putNew_54_2 : mblkB b_Mixer_putNew [(54, .aload_n 0, vi 0), (55, .dup, vi 0)] = true := by decide +kernel
theorem e_hx_Mixer_putNew_56 : decode b_Mixer_putNew 56 = .ok (.getfield 25, 3) := by decide +kernel
theorem f_hx_Mixer_putNew_59_2 : mblkB b_Mixer_putNew [(59, .iconst 1, vi 1), (60, .iadd, vi 0)] = true := by decide +kernel
theorem e_hx_Mixer_putNew_61 : decode b_Mixer_putNew 61 = .ok (.putfield 25, 3) := by decide +kernel
theorem f_hx_Mixer_putNew_64_1 : mblkB b_Mixer_putNew [(64, .iconst 1, vi 1)] = true := by decide +kernel
theorem e_hx_Mixer_putNew_65 : decode b_Mixer_putNew 65 = .ok (.ireturn, 1) := by decide +kernel
theorem f_hx_Mixer_putNew_10_1 : mblkB b_Mixer_putNew [(10, .iconst 0, vi 0)] = true := by decide +kernel
theorem e_hx_Mixer_putNew_11 : decode b_Mixer_putNew 11 = .ok (.ireturn, 1) := by decide +kernel
set_option maxHeartbeats 4000000 in
set_option maxRecDepth 20000 in
theorem hx_Mixer_putNew  : ∀ (l : Launch) (D : va_G) (B : Nat) (H0 : Heap) (G : tG) (A : mA) (o : Nat) (a0 : Int) (a1 : Int) (a2 : Int) (h_o : G o = some 1)  (r9 : Int) (A9 : mA), f_Mixer_putNew  A o a0 a1 a2 = some (r9, A9) → hMet l D B H0 G y_Mixer_putNew b_Mixer_putNew 5 (some .boolean) 0 0 [vr 1 o, vi a0, vl a1, vi a2] A (fun v A' => v = some (vi r9) ∧ A' = A9) := by
  intro l D B H0 G A o a0 a1 a2 h_o r9 A9 h
  refine h_met (by decide) rfl (fun g q C Rm Y E => ?_)
  show HM g D G q A 0 [(0, vr 1 o), (1, vi a0), (2, vl a1), (4, vi a2)] []
  unfold f_Mixer_putNew at h
  refine h_blk 1 [(0, vr 1 o), (1, vi a0), (2, vl a1), (4, vi a2)] [vr 1 o] C f_hx_Mixer_putNew_0_1 rfl ?_
  refine h_geti C e_hx_Mixer_putNew_1 fg_Mixer_25 h_o rfl rfl rfl (A 1 o 2) rfl ?_
  refine h_blk 7 [(0, vr 1 o), (1, vi a0), (2, vl a1), (4, vi a2)] [vi 300, vi (A 1 o 2)] C f_hx_Mixer_putNew_4_1 rfl ?_
  obtain ⟨c1, h⟩ := igd h
  refine h_icmp_lt (tgt := 12) C e_hx_Mixer_putNew_7 (by decide) c1 (by decide) (fun c2 => ?_) (fun c2 => ?_)
  · have h := ifp c2 h
    refine h_blk 13 [(0, vr 1 o), (1, vi a0), (2, vl a1), (4, vi a2)] [vr 1 o] C f_hx_Mixer_putNew_12_1 rfl ?_
    refine h_getr4 C e_hx_Mixer_putNew_13 fg_Mixer_9 h_o rfl rfl rfl rfl (fun g3 => ?_)
    refine h_blk 17 [(0, vr 1 o), (1, vi a0), (2, vl a1), (4, vi a2)] [vr 1 o, vr 31 ((A 1 o 0).toNat)] C f_hx_Mixer_putNew_16_1 rfl ?_
    refine h_geti C e_hx_Mixer_putNew_17 fg_Mixer_25 h_o rfl rfl rfl (A 1 o 2) rfl ?_
    refine h_blk 21 [(0, vr 1 o), (1, vi a0), (2, vl a1), (4, vi a2)] [vi a0, vi (A 1 o 2), vr 31 ((A 1 o 0).toNat)] C f_hx_Mixer_putNew_20_1 rfl ?_
    obtain ⟨c4, h⟩ := igd h
    refine h_iast C e_hx_Mixer_putNew_21 g3 rfl rfl (by decide) c4.1 c4.2 ?_
    refine h_blk 23 [(0, vr 1 o), (1, vi a0), (2, vl a1), (4, vi a2)] [vr 1 o] C f_hx_Mixer_putNew_22_1 rfl ?_
    refine h_getr4 C e_hx_Mixer_putNew_23 fg_Mixer_15 h_o rfl rfl rfl rfl (fun g5 => ?_)
    refine h_blk 27 [(0, vr 1 o), (1, vi a0), (2, vl a1), (4, vi a2)] [vr 1 o, vr 32 ((A 1 o 1).toNat)] C f_hx_Mixer_putNew_26_1 rfl ?_
    refine h_geti C e_hx_Mixer_putNew_27 fg_Mixer_25 h_o rfl rfl rfl (A 1 o 2) rfl ?_
    refine h_blk 31 [(0, vr 1 o), (1, vi a0), (2, vl a1), (4, vi a2)] [vl a1, vi (A 1 o 2), vr 32 ((A 1 o 1).toNat)] C f_hx_Mixer_putNew_30_1 rfl ?_
    refine h_last C e_hx_Mixer_putNew_31 g5 rfl rfl (by decide) c4.1 c4.2 ?_
    refine h_blk 33 [(0, vr 1 o), (1, vi a0), (2, vl a1), (4, vi a2)] [vr 1 o] C f_hx_Mixer_putNew_32_1 rfl ?_
    refine h_getr4 C e_hx_Mixer_putNew_33 fg_Mixer_22 h_o rfl rfl rfl rfl (fun g6 => ?_)
    refine h_blk 37 [(0, vr 1 o), (1, vi a0), (2, vl a1), (4, vi a2)] [vr 1 o, vr 31 ((A 1 o 4).toNat)] C f_hx_Mixer_putNew_36_1 rfl ?_
    refine h_geti C e_hx_Mixer_putNew_37 fg_Mixer_25 h_o rfl rfl rfl (A 1 o 2) rfl ?_
    refine h_blk 42 [(0, vr 1 o), (1, vi a0), (2, vl a1), (4, vi a2)] [vi a2, vi (A 1 o 2), vr 31 ((A 1 o 4).toNat)] C f_hx_Mixer_putNew_40_1 rfl ?_
    refine h_iast C e_hx_Mixer_putNew_42 g6 rfl rfl (by decide) c4.1 c4.2 ?_
    refine h_blk 44 [(0, vr 1 o), (1, vi a0), (2, vl a1), (4, vi a2)] [vr 1 o] C f_hx_Mixer_putNew_43_1 rfl ?_
    refine h_getr4 C e_hx_Mixer_putNew_44 fg_Mixer_19 h_o rfl rfl rfl rfl (fun g7 => ?_)
    refine h_blk 50 [(0, vr 1 o), (1, vi a0), (2, vl a1), (4, vi a2)] [vr 1 o, vi a2, vr 33 ((A 1 o 3).toNat)] C f_hx_Mixer_putNew_47_2 rfl ?_
    refine h_geti C e_hx_Mixer_putNew_50 fg_Mixer_25 h_o rfl rfl rfl (A 1 o 2) rfl ?_
    obtain ⟨c8, h⟩ := igd h
    refine h_iast C e_hx_Mixer_putNew_53 g7 rfl rfl (by decide) c8.1 c8.2 ?_
    refine h_blk 56 [(0, vr 1 o), (1, vi a0), (2, vl a1), (4, vi a2)] [vr 1 o, vr 1 o] C f_hx_Mixer_putNew_54_2 rfl ?_
    refine h_geti C e_hx_Mixer_putNew_56 fg_Mixer_25 h_o rfl rfl rfl (A 1 o 2) rfl ?_
    refine h_blk 61 [(0, vr 1 o), (1, vi a0), (2, vl a1), (4, vi a2)] [vi ((A 1 o 2) + 1), vr 1 o] C f_hx_Mixer_putNew_59_2 rfl ?_
    refine h_puti C e_hx_Mixer_putNew_61 fp_Mixer_25 h_o rfl rfl rfl ?_
    refine h_blk 65 [(0, vr 1 o), (1, vi a0), (2, vl a1), (4, vi a2)] [vi 1] C f_hx_Mixer_putNew_64_1 rfl ?_
    exact h_zret C Rm E (Or.inr rfl) e_hx_Mixer_putNew_65 (fin1 h)
  · have h := ifn c2 h
    refine h_blk 11 [(0, vr 1 o), (1, vi a0), (2, vl a1), (4, vi a2)] [vi 0] C f_hx_Mixer_putNew_10_1 rfl ?_
    exact h_zret C Rm E (Or.inl rfl) e_hx_Mixer_putNew_11 (fin1 h)

def f_Mixer_put_12 : Nat → mA → Nat → Int → Int → Int → Int → Option (Int × mA)
  | 0, _, _, _, _, _, _ => none
  | n + 1, A, b0, b1, b2, b4, b5 => (if g32 b5 then (if 1024 ≤ b5 then (some (0, A)) else (if (0 ≤ b4 ∧ b4 < ((1024 : Nat) : Int)) then (if g32 (A 33 ((A 1 b0 3).toNat) b4.toNat) then (if (A 33 ((A 1 b0 3).toNat) b4.toNat) < 0 then (Option.bind (f_Mixer_putNew A b0 b1 b2 b4) (fun q7 => (if (q7.1 = 0 ∨ q7.1 = 1) then (some (q7.1, q7.2)) else none))) else (if g32 (A 1 b0 2) then (if (A 1 b0 2) ≤ (A 33 ((A 1 b0 3).toNat) b4.toNat) then (Option.bind (f_Mixer_putNew A b0 b1 b2 b4) (fun q12 => (if (q12.1 = 0 ∨ q12.1 = 1) then (some (q12.1, q12.2)) else none))) else (if 300 ≤ (A 33 ((A 1 b0 3).toNat) b4.toNat) then (Option.bind (f_Mixer_putNew A b0 b1 b2 b4) (fun q16 => (if (q16.1 = 0 ∨ q16.1 = 1) then (some (q16.1, q16.2)) else none))) else (if (0 ≤ (A 33 ((A 1 b0 3).toNat) b4.toNat) ∧ (A 33 ((A 1 b0 3).toNat) b4.toNat) < ((300 : Nat) : Int)) then (if g32 (A 31 ((A 1 b0 4).toNat) ((A 33 ((A 1 b0 3).toNat) b4.toNat).toNat)) then if g32 b4 then (if (A 31 ((A 1 b0 4).toNat) ((A 33 ((A 1 b0 3).toNat) b4.toNat).toNat)) = b4 then (if g32 (A 31 ((A 1 b0 0).toNat) ((A 33 ((A 1 b0 3).toNat) b4.toNat).toNat)) then if g32 b1 then (if (A 31 ((A 1 b0 0).toNat) ((A 33 ((A 1 b0 3).toNat) b4.toNat).toNat)) = b1 then (some (1, (mu A 32 ((A 1 b0 1).toNat) ((A 33 ((A 1 b0 3).toNat) b4.toNat).toNat) ((A 32 ((A 1 b0 1).toNat) ((A 33 ((A 1 b0 3).toNat) b4.toNat).toNat)) + b2)))) else (f_Mixer_put_12  n A b0 b1 b2 (iAnd (b4 + 1) 1023) (b5 + 1))) else none else none) else (Option.bind (f_Mixer_putNew A b0 b1 b2 b4) (fun q29 => (if (q29.1 = 0 ∨ q29.1 = 1) then (some (q29.1, q29.2)) else none)))) else none else none) else none))) else none)) else none) else none)) else none)
def f_Mixer_put (A : mA) (o : Nat) (a0 : Int) (a1 : Int) : Option (Int × mA) := (f_Mixer_put_12  1100 A o a0 a1 (iUsh (a0 * (-1640531535)) 22) 0)
theorem f_hx_Mixer_put_0_1 : mblkB b_Mixer_put [(0, .iload_n 1, vi 0)] = true := by decide +kernel
theorem e_hx_Mixer_put_1 : decode b_Mixer_put 1 = .ok (.ldc 29, 2) := by decide +kernel
theorem f_hx_Mixer_put_3_6 : mblkB b_Mixer_put [(3, .imul, vi 0), (4, .bipush 22, vi 22), (6, .iushr, vi 0), (7, .istore 4, vi 0), (9, .iconst 0, vi 0), (10, .istore 5, vi 0)] = true := by decide +kernel
theorem f_hx_Mixer_put_12_2 : mblkB b_Mixer_put [(12, .iload 5, vi 0), (14, .sipush 1024, vi 1024)] = true := by decide +kernel
theorem e_hx_Mixer_put_17 : decode b_Mixer_put 17 = .ok (.if_icmp .ge 95, 3) := by decide +kernel
theorem f_hx_Mixer_put_112_1 : mblkB b_Mixer_put [(112, .iconst 0, vi 0)] = true := by decide +kernel
theorem e_hx_Mixer_put_113 : decode b_Mixer_put 113 = .ok (.ireturn, 1) := by decide +kernel
theorem f_hx_Mixer_put_20_1 : mblkB b_Mixer_put [(20, .aload_n 0, vi 0)] = true := by decide +kernel
theorem e_hx_Mixer_put_21 : decode b_Mixer_put 21 = .ok (.getfield 19, 3) := by decide +kernel
theorem f_hx_Mixer_put_24_1 : mblkB b_Mixer_put [(24, .iload 4, vi 0)] = true := by decide +kernel
theorem e_hx_Mixer_put_26 : decode b_Mixer_put 26 = .ok (.iaload, 1) := by decide +kernel
theorem f_hx_Mixer_put_27_2 : mblkB b_Mixer_put [(27, .istore 6, vi 0), (29, .iload 6, vi 0)] = true := by decide +kernel
theorem e_hx_Mixer_put_31 : decode b_Mixer_put 31 = .ok (.ifCond .lt 32, 3) := by decide +kernel
theorem f_hx_Mixer_put_63_4 : mblkB b_Mixer_put [(63, .aload_n 0, vi 0), (64, .iload_n 1, vi 0), (65, .lload_n 2, vi 0), (66, .iload 4, vi 0)] = true := by decide +kernel
theorem e_hx_Mixer_put_68 : decode b_Mixer_put 68 = .ok (.invokevirtual 30, 3) := by decide +kernel
theorem e_hx_Mixer_put_71 : decode b_Mixer_put 71 = .ok (.ireturn, 1) := by decide +kernel
theorem f_hx_Mixer_put_34_2 : mblkB b_Mixer_put [(34, .iload 6, vi 0), (36, .aload_n 0, vi 0)] = true := by decide +kernel
theorem e_hx_Mixer_put_37 : decode b_Mixer_put 37 = .ok (.getfield 25, 3) := by decide +kernel
theorem e_hx_Mixer_put_40 : decode b_Mixer_put 40 = .ok (.if_icmp .ge 23, 3) := by decide +kernel
theorem f_hx_Mixer_put_43_2 : mblkB b_Mixer_put [(43, .iload 6, vi 0), (45, .sipush 300, vi 300)] = true := by decide +kernel
theorem e_hx_Mixer_put_48 : decode b_Mixer_put 48 = .ok (.if_icmp .ge 15, 3) := by decide +kernel
theorem f_hx_Mixer_put_51_1 : mblkB b_Mixer_put [(51, .aload_n 0, vi 0)] = true := by decide +kernel
theorem e_hx_Mixer_put_52 : decode b_Mixer_put 52 = .ok (.getfield 22, 3) := by decide +kernel
theorem f_hx_Mixer_put_55_1 : mblkB b_Mixer_put [(55, .iload 6, vi 0)] = true := by decide +kernel
theorem e_hx_Mixer_put_57 : decode b_Mixer_put 57 = .ok (.iaload, 1) := by decide +kernel
theorem f_hx_Mixer_put_58_1 : mblkB b_Mixer_put [(58, .iload 4, vi 0)] = true := by decide +kernel
theorem e_hx_Mixer_put_60 : decode b_Mixer_put 60 = .ok (.if_icmp .eq 12, 3) := by decide +kernel
theorem f_hx_Mixer_put_72_1 : mblkB b_Mixer_put [(72, .aload_n 0, vi 0)] = true := by decide +kernel
theorem e_hx_Mixer_put_73 : decode b_Mixer_put 73 = .ok (.getfield 9, 3) := by decide +kernel
theorem f_hx_Mixer_put_76_1 : mblkB b_Mixer_put [(76, .iload 6, vi 0)] = true := by decide +kernel
theorem e_hx_Mixer_put_78 : decode b_Mixer_put 78 = .ok (.iaload, 1) := by decide +kernel
theorem f_hx_Mixer_put_79_1 : mblkB b_Mixer_put [(79, .iload_n 1, vi 0)] = true := by decide +kernel
theorem e_hx_Mixer_put_80 : decode b_Mixer_put 80 = .ok (.if_icmp .ne 16, 3) := by decide +kernel
theorem f_hx_Mixer_put_96_8 : mblkB b_Mixer_put [(96, .iload 4, vi 0), (98, .iconst 1, vi 1), (99, .iadd, vi 0), (100, .sipush 1023, vi 1023), (103, .iand, vi 0), (104, .istore 4, vi 0), (106, .iinc 5 1, vi 1), (109, .goto (-97), vi 12)] = true := by decide +kernel
theorem f_hx_Mixer_put_83_1 : mblkB b_Mixer_put [(83, .aload_n 0, vi 0)] = true := by decide +kernel
theorem e_hx_Mixer_put_84 : decode b_Mixer_put 84 = .ok (.getfield 15, 3) := by decide +kernel
theorem f_hx_Mixer_put_87_2 : mblkB b_Mixer_put [(87, .iload 6, vi 0), (89, .dup2, vi 0)] = true := by decide +kernel
theorem e_hx_Mixer_put_90 : decode b_Mixer_put 90 = .ok (.laload, 1) := by decide +kernel
theorem f_hx_Mixer_put_91_2 : mblkB b_Mixer_put [(91, .lload_n 2, vi 0), (92, .ladd, vi 0)] = true := by decide +kernel
theorem e_hx_Mixer_put_93 : decode b_Mixer_put 93 = .ok (.lastore, 1) := by decide +kernel
theorem f_hx_Mixer_put_94_1 : mblkB b_Mixer_put [(94, .iconst 1, vi 1)] = true := by decide +kernel
theorem e_hx_Mixer_put_95 : decode b_Mixer_put 95 = .ok (.ireturn, 1) := by decide +kernel
set_option maxHeartbeats 4000000 in
set_option maxRecDepth 20000 in
theorem hx_Mixer_put  : ∀ (l : Launch) (D : va_G) (B : Nat) (H0 : Heap) (G : tG) (A : mA) (o : Nat) (a0 : Int) (a1 : Int) (h_o : G o = some 1)  (r9 : Int) (A9 : mA), f_Mixer_put  A o a0 a1 = some (r9, A9) → hMet l D B H0 G y_Mixer_put b_Mixer_put 7 (some .boolean) 1 24 [vr 1 o, vi a0, vl a1] A (fun v A' => v = some (vi r9) ∧ A' = A9) := by
  intro l D B H0 G A o a0 a1 h_o r9 A9 h
  refine h_met (by decide) rfl (fun g q C Rm Y E => ?_)
  have hd_12 : ∀ (n : Nat) (A : mA) (b0 : Nat) (b1 : Int) (b2 : Int) (b4 : Int) (b5 : Int) , G b0 = some 1 → f_Mixer_put_12  n A b0 b1 b2 b4 b5 = some (r9, A9) → HM g D G q A 12 [(0, vr 1 b0), (1, vi b1), (2, vl b2), (4, vi b4), (5, vi b5)] [] := by
    intro n
    induction n with
    | zero => intro A b0 b1 b2 b4 b5 h_b0 h; cases h
    | succ n ih =>
      intro A b0 b1 b2 b4 b5 h_b0 h
      unfold f_Mixer_put_12 at h
      refine h_blk 17 [(0, vr 1 b0), (1, vi b1), (2, vl b2), (4, vi b4), (5, vi b5)] [vi 1024, vi b5] C f_hx_Mixer_put_12_2 rfl ?_
      obtain ⟨c1, h⟩ := igd h
      refine h_icmp_ge (tgt := 112) C e_hx_Mixer_put_17 (by decide) c1 (by decide) (fun c2 => ?_) (fun c2 => ?_)
      · have h := ifp c2 h
        refine h_blk 113 [(0, vr 1 b0), (1, vi b1), (2, vl b2), (4, vi b4), (5, vi b5)] [vi 0] C f_hx_Mixer_put_112_1 rfl ?_
        exact h_zret C Rm E (Or.inl rfl) e_hx_Mixer_put_113 (fin1 h)
      · have h := ifn c2 h
        refine h_blk 21 [(0, vr 1 b0), (1, vi b1), (2, vl b2), (4, vi b4), (5, vi b5)] [vr 1 b0] C f_hx_Mixer_put_20_1 rfl ?_
        refine h_getr4 C e_hx_Mixer_put_21 fg_Mixer_19 h_b0 rfl rfl rfl rfl (fun g3 => ?_)
        refine h_blk 26 [(0, vr 1 b0), (1, vi b1), (2, vl b2), (4, vi b4), (5, vi b5)] [vi b4, vr 33 ((A 1 b0 3).toNat)] C f_hx_Mixer_put_24_1 rfl ?_
        obtain ⟨c4, h⟩ := igd h
        refine h_iald C e_hx_Mixer_put_26 g3 rfl rfl (by decide) c4.1 c4.2 (A 33 ((A 1 b0 3).toNat) b4.toNat) rfl ?_
        refine h_blk 31 [(6, vi (A 33 ((A 1 b0 3).toNat) b4.toNat)), (0, vr 1 b0), (1, vi b1), (2, vl b2), (4, vi b4), (5, vi b5)] [vi (A 33 ((A 1 b0 3).toNat) b4.toNat)] C f_hx_Mixer_put_27_2 rfl ?_
        obtain ⟨c5, h⟩ := igd h
        refine h_if_lt (tgt := 63) C e_hx_Mixer_put_31 (by decide) c5 (fun c6 => ?_) (fun c6 => ?_)
        · have h := ifp c6 h
          refine h_blk 68 [(6, vi (A 33 ((A 1 b0 3).toNat) b4.toNat)), (0, vr 1 b0), (1, vi b1), (2, vl b2), (4, vi b4), (5, vi b5)] [vi b4, vl b2, vi b1, vr 1 b0] C f_hx_Mixer_put_63_4 rfl ?_
          obtain ⟨q7, e8, h⟩ := obd h
          refine h_callV C Rm Y [vi b1, vl b2, vi b4] [] (hx_Mixer_putNew l D B H0 G _ b0 b1 b2 b4 h_b0 _ _ e8) cl_Mixer_30 h_b0 rfl rfl rfl e_hx_Mixer_put_68 rfl rfl rfl ⟨by decide, by decide⟩ ?_
          rintro _ _ ⟨rfl, rfl⟩
          show HM g D G q q7.2 71 [(6, vi (A 33 ((A 1 b0 3).toNat) b4.toNat)), (0, vr 1 b0), (1, vi b1), (2, vl b2), (4, vi b4), (5, vi b5)] [vi q7.1]
          obtain ⟨c9, h⟩ := igd h
          exact h_zret C Rm E c9 e_hx_Mixer_put_71 (fin1 h)
        · have h := ifn c6 h
          refine h_blk 37 [(6, vi (A 33 ((A 1 b0 3).toNat) b4.toNat)), (0, vr 1 b0), (1, vi b1), (2, vl b2), (4, vi b4), (5, vi b5)] [vr 1 b0, vi (A 33 ((A 1 b0 3).toNat) b4.toNat)] C f_hx_Mixer_put_34_2 rfl ?_
          refine h_geti C e_hx_Mixer_put_37 fg_Mixer_25 h_b0 rfl rfl rfl (A 1 b0 2) rfl ?_
          obtain ⟨c10, h⟩ := igd h
          refine h_icmp_ge (tgt := 63) C e_hx_Mixer_put_40 (by decide) c5 c10 (fun c11 => ?_) (fun c11 => ?_)
          · have h := ifp c11 h
            refine h_blk 68 [(6, vi (A 33 ((A 1 b0 3).toNat) b4.toNat)), (0, vr 1 b0), (1, vi b1), (2, vl b2), (4, vi b4), (5, vi b5)] [vi b4, vl b2, vi b1, vr 1 b0] C f_hx_Mixer_put_63_4 rfl ?_
            obtain ⟨q12, e13, h⟩ := obd h
            refine h_callV C Rm Y [vi b1, vl b2, vi b4] [] (hx_Mixer_putNew l D B H0 G _ b0 b1 b2 b4 h_b0 _ _ e13) cl_Mixer_30 h_b0 rfl rfl rfl e_hx_Mixer_put_68 rfl rfl rfl ⟨by decide, by decide⟩ ?_
            rintro _ _ ⟨rfl, rfl⟩
            show HM g D G q q12.2 71 [(6, vi (A 33 ((A 1 b0 3).toNat) b4.toNat)), (0, vr 1 b0), (1, vi b1), (2, vl b2), (4, vi b4), (5, vi b5)] [vi q12.1]
            obtain ⟨c14, h⟩ := igd h
            exact h_zret C Rm E c14 e_hx_Mixer_put_71 (fin1 h)
          · have h := ifn c11 h
            refine h_blk 48 [(6, vi (A 33 ((A 1 b0 3).toNat) b4.toNat)), (0, vr 1 b0), (1, vi b1), (2, vl b2), (4, vi b4), (5, vi b5)] [vi 300, vi (A 33 ((A 1 b0 3).toNat) b4.toNat)] C f_hx_Mixer_put_43_2 rfl ?_
            refine h_icmp_ge (tgt := 63) C e_hx_Mixer_put_48 (by decide) c5 (by decide) (fun c15 => ?_) (fun c15 => ?_)
            · have h := ifp c15 h
              refine h_blk 68 [(6, vi (A 33 ((A 1 b0 3).toNat) b4.toNat)), (0, vr 1 b0), (1, vi b1), (2, vl b2), (4, vi b4), (5, vi b5)] [vi b4, vl b2, vi b1, vr 1 b0] C f_hx_Mixer_put_63_4 rfl ?_
              obtain ⟨q16, e17, h⟩ := obd h
              refine h_callV C Rm Y [vi b1, vl b2, vi b4] [] (hx_Mixer_putNew l D B H0 G _ b0 b1 b2 b4 h_b0 _ _ e17) cl_Mixer_30 h_b0 rfl rfl rfl e_hx_Mixer_put_68 rfl rfl rfl ⟨by decide, by decide⟩ ?_
              rintro _ _ ⟨rfl, rfl⟩
              show HM g D G q q16.2 71 [(6, vi (A 33 ((A 1 b0 3).toNat) b4.toNat)), (0, vr 1 b0), (1, vi b1), (2, vl b2), (4, vi b4), (5, vi b5)] [vi q16.1]
              obtain ⟨c18, h⟩ := igd h
              exact h_zret C Rm E c18 e_hx_Mixer_put_71 (fin1 h)
            · have h := ifn c15 h
              refine h_blk 52 [(6, vi (A 33 ((A 1 b0 3).toNat) b4.toNat)), (0, vr 1 b0), (1, vi b1), (2, vl b2), (4, vi b4), (5, vi b5)] [vr 1 b0] C f_hx_Mixer_put_51_1 rfl ?_
              refine h_getr4 C e_hx_Mixer_put_52 fg_Mixer_22 h_b0 rfl rfl rfl rfl (fun g19 => ?_)
              refine h_blk 57 [(6, vi (A 33 ((A 1 b0 3).toNat) b4.toNat)), (0, vr 1 b0), (1, vi b1), (2, vl b2), (4, vi b4), (5, vi b5)] [vi (A 33 ((A 1 b0 3).toNat) b4.toNat), vr 31 ((A 1 b0 4).toNat)] C f_hx_Mixer_put_55_1 rfl ?_
              obtain ⟨c20, h⟩ := igd h
              refine h_iald C e_hx_Mixer_put_57 g19 rfl rfl (by decide) c20.1 c20.2 (A 31 ((A 1 b0 4).toNat) ((A 33 ((A 1 b0 3).toNat) b4.toNat).toNat)) rfl ?_
              refine h_blk 60 [(6, vi (A 33 ((A 1 b0 3).toNat) b4.toNat)), (0, vr 1 b0), (1, vi b1), (2, vl b2), (4, vi b4), (5, vi b5)] [vi b4, vi (A 31 ((A 1 b0 4).toNat) ((A 33 ((A 1 b0 3).toNat) b4.toNat).toNat))] C f_hx_Mixer_put_58_1 rfl ?_
              obtain ⟨c21, h⟩ := igd h
              obtain ⟨c22, h⟩ := igd h
              refine h_icmp_eq (tgt := 72) C e_hx_Mixer_put_60 (by decide) c21 c22 (fun c23 => ?_) (fun c23 => ?_)
              · have h := ifp c23 h
                refine h_blk 73 [(6, vi (A 33 ((A 1 b0 3).toNat) b4.toNat)), (0, vr 1 b0), (1, vi b1), (2, vl b2), (4, vi b4), (5, vi b5)] [vr 1 b0] C f_hx_Mixer_put_72_1 rfl ?_
                refine h_getr4 C e_hx_Mixer_put_73 fg_Mixer_9 h_b0 rfl rfl rfl rfl (fun g24 => ?_)
                refine h_blk 78 [(6, vi (A 33 ((A 1 b0 3).toNat) b4.toNat)), (0, vr 1 b0), (1, vi b1), (2, vl b2), (4, vi b4), (5, vi b5)] [vi (A 33 ((A 1 b0 3).toNat) b4.toNat), vr 31 ((A 1 b0 0).toNat)] C f_hx_Mixer_put_76_1 rfl ?_
                refine h_iald C e_hx_Mixer_put_78 g24 rfl rfl (by decide) c20.1 c20.2 (A 31 ((A 1 b0 0).toNat) ((A 33 ((A 1 b0 3).toNat) b4.toNat).toNat)) rfl ?_
                refine h_blk 80 [(6, vi (A 33 ((A 1 b0 3).toNat) b4.toNat)), (0, vr 1 b0), (1, vi b1), (2, vl b2), (4, vi b4), (5, vi b5)] [vi b1, vi (A 31 ((A 1 b0 0).toNat) ((A 33 ((A 1 b0 3).toNat) b4.toNat).toNat))] C f_hx_Mixer_put_79_1 rfl ?_
                obtain ⟨c25, h⟩ := igd h
                obtain ⟨c26, h⟩ := igd h
                refine h_icmp_ne (tgt := 96) C e_hx_Mixer_put_80 (by decide) c25 c26 (fun c27 => ?_) (fun c27 => ?_)
                · have h := ifn c27 h
                  refine h_blk 12 [(5, vi (b5 + 1)), (4, vi (iAnd (b4 + 1) 1023)), (6, vi (A 33 ((A 1 b0 3).toNat) b4.toNat)), (0, vr 1 b0), (1, vi b1), (2, vl b2)] [] C f_hx_Mixer_put_96_8 rfl ?_
                  refine h_loc [(0, vr 1 b0), (1, vi b1), (2, vl b2), (4, vi (iAnd (b4 + 1) 1023)), (5, vi (b5 + 1))] ⟨rfl, rfl, rfl, rfl, rfl, trivial⟩ ?_
                  exact ih A b0 b1 b2 (iAnd (b4 + 1) 1023) (b5 + 1) (h_b0) h
                · have h := ifp c27 h
                  refine h_blk 84 [(6, vi (A 33 ((A 1 b0 3).toNat) b4.toNat)), (0, vr 1 b0), (1, vi b1), (2, vl b2), (4, vi b4), (5, vi b5)] [vr 1 b0] C f_hx_Mixer_put_83_1 rfl ?_
                  refine h_getr4 C e_hx_Mixer_put_84 fg_Mixer_15 h_b0 rfl rfl rfl rfl (fun g28 => ?_)
                  refine h_blk 90 [(6, vi (A 33 ((A 1 b0 3).toNat) b4.toNat)), (0, vr 1 b0), (1, vi b1), (2, vl b2), (4, vi b4), (5, vi b5)] [vi (A 33 ((A 1 b0 3).toNat) b4.toNat), vr 32 ((A 1 b0 1).toNat), vi (A 33 ((A 1 b0 3).toNat) b4.toNat), vr 32 ((A 1 b0 1).toNat)] C f_hx_Mixer_put_87_2 rfl ?_
                  refine h_lald C e_hx_Mixer_put_90 g28 rfl rfl (by decide) c20.1 c20.2 (A 32 ((A 1 b0 1).toNat) ((A 33 ((A 1 b0 3).toNat) b4.toNat).toNat)) rfl ?_
                  refine h_blk 93 [(6, vi (A 33 ((A 1 b0 3).toNat) b4.toNat)), (0, vr 1 b0), (1, vi b1), (2, vl b2), (4, vi b4), (5, vi b5)] [vl ((A 32 ((A 1 b0 1).toNat) ((A 33 ((A 1 b0 3).toNat) b4.toNat).toNat)) + b2), vi (A 33 ((A 1 b0 3).toNat) b4.toNat), vr 32 ((A 1 b0 1).toNat)] C f_hx_Mixer_put_91_2 rfl ?_
                  refine h_last C e_hx_Mixer_put_93 g28 rfl rfl (by decide) c20.1 c20.2 ?_
                  refine h_blk 95 [(6, vi (A 33 ((A 1 b0 3).toNat) b4.toNat)), (0, vr 1 b0), (1, vi b1), (2, vl b2), (4, vi b4), (5, vi b5)] [vi 1] C f_hx_Mixer_put_94_1 rfl ?_
                  exact h_zret C Rm E (Or.inr rfl) e_hx_Mixer_put_95 (fin1 h)
              · have h := ifn c23 h
                refine h_blk 68 [(6, vi (A 33 ((A 1 b0 3).toNat) b4.toNat)), (0, vr 1 b0), (1, vi b1), (2, vl b2), (4, vi b4), (5, vi b5)] [vi b4, vl b2, vi b1, vr 1 b0] C f_hx_Mixer_put_63_4 rfl ?_
                obtain ⟨q29, e30, h⟩ := obd h
                refine h_callV C Rm Y [vi b1, vl b2, vi b4] [] (hx_Mixer_putNew l D B H0 G _ b0 b1 b2 b4 h_b0 _ _ e30) cl_Mixer_30 h_b0 rfl rfl rfl e_hx_Mixer_put_68 rfl rfl rfl ⟨by decide, by decide⟩ ?_
                rintro _ _ ⟨rfl, rfl⟩
                show HM g D G q q29.2 71 [(6, vi (A 33 ((A 1 b0 3).toNat) b4.toNat)), (0, vr 1 b0), (1, vi b1), (2, vl b2), (4, vi b4), (5, vi b5)] [vi q29.1]
                obtain ⟨c31, h⟩ := igd h
                exact h_zret C Rm E c31 e_hx_Mixer_put_71 (fin1 h)
  show HM g D G q A 0 [(0, vr 1 o), (1, vi a0), (2, vl a1)] []
  unfold f_Mixer_put at h
  refine h_blk 1 [(0, vr 1 o), (1, vi a0), (2, vl a1)] [vi a0] C f_hx_Mixer_put_0_1 rfl ?_
  refine h_ldc C (-1640531535) e_hx_Mixer_put_1 ld_Mixer_29 (by decide) ?_
  refine h_blk 12 [(5, vi 0), (4, vi (iUsh (a0 * (-1640531535)) 22)), (0, vr 1 o), (1, vi a0), (2, vl a1)] [] C f_hx_Mixer_put_3_6 rfl ?_
  refine h_loc [(0, vr 1 o), (1, vi a0), (2, vl a1), (4, vi (iUsh (a0 * (-1640531535)) 22)), (5, vi 0)] ⟨rfl, rfl, rfl, rfl, rfl, trivial⟩ ?_
  exact hd_12 _ A o a0 a1 (iUsh (a0 * (-1640531535)) 22) 0 (h_o) h

def f_Mixer_putAll_5 : Nat → mA → Nat → Nat → Int → Int → Int → Option (Int × mA)
  | 0, _, _, _, _, _, _ => none
  | n + 1, A, b0, b1, b2, b3, b4 => (if g32 b4 then if g32 (A 0 b1 2) then (if (A 0 b1 2) ≤ b4 then (if (b3 = 0 ∨ b3 = 1) then (some (b3, A)) else none) else (if 300 ≤ b4 then (if (b3 = 0 ∨ b3 = 1) then (some (b3, A)) else none) else (if g32 b3 then (if b3 = 0 then (if (b3 = 0 ∨ b3 = 1) then (some (b3, A)) else none) else (if (0 ≤ b4 ∧ b4 < ((300 : Nat) : Int)) then (Option.bind (f_Mixer_put A b0 (iAnd (A 31 ((A 0 b1 0).toNat) b4.toNat) b2) (A 32 ((A 0 b1 1).toNat) b4.toNat)) (fun q13 => (f_Mixer_putAll_5  n q13.2 b0 b1 b2 q13.1 (b4 + 1)))) else none)) else none))) else none else none)
def f_Mixer_putAll (A : mA) (o : Nat) (a0 : Nat) (a1 : Int) : Option (Int × mA) := (f_Mixer_putAll_5  400 A o a0 a1 1 0)
theorem f_hx_Mixer_putAll_0_4 : mblkB b_Mixer_putAll [(0, .iconst 1, vi 1), (1, .istore_n 3, vi 0), (2, .iconst 0, vi 0), (3, .istore 4, vi 0)] = true := by decide +kernel
theorem f_hx_Mixer_putAll_5_2 : mblkB b_Mixer_putAll [(5, .iload 4, vi 0), (7, .aload_n 1, vi 0)] = true := by decide +kernel
theorem e_hx_Mixer_putAll_8 : decode b_Mixer_putAll 8 = .ok (.getfield 34, 3) := by decide +kernel
theorem e_hx_Mixer_putAll_11 : decode b_Mixer_putAll 11 = .ok (.if_icmp .ge 42, 3) := by decide +kernel
theorem f_hx_Mixer_putAll_53_1 : mblkB b_Mixer_putAll [(53, .iload_n 3, vi 0)] = true := by decide +kernel
theorem e_hx_Mixer_putAll_54 : decode b_Mixer_putAll 54 = .ok (.ireturn, 1) := by decide +kernel
theorem f_hx_Mixer_putAll_14_2 : mblkB b_Mixer_putAll [(14, .iload 4, vi 0), (16, .sipush 300, vi 300)] = true := by decide +kernel
theorem e_hx_Mixer_putAll_19 : decode b_Mixer_putAll 19 = .ok (.if_icmp .ge 34, 3) := by decide +kernel
theorem f_hx_Mixer_putAll_22_1 : mblkB b_Mixer_putAll [(22, .iload_n 3, vi 0)] = true := by decide +kernel
theorem e_hx_Mixer_putAll_23 : decode b_Mixer_putAll 23 = .ok (.ifCond .eq 30, 3) := by decide +kernel
theorem f_hx_Mixer_putAll_26_2 : mblkB b_Mixer_putAll [(26, .aload_n 0, vi 0), (27, .aload_n 1, vi 0)] = true := by decide +kernel
theorem e_hx_Mixer_putAll_28 : decode b_Mixer_putAll 28 = .ok (.getfield 37, 3) := by decide +kernel
theorem f_hx_Mixer_putAll_31_1 : mblkB b_Mixer_putAll [(31, .iload 4, vi 0)] = true := by decide +kernel
theorem e_hx_Mixer_putAll_33 : decode b_Mixer_putAll 33 = .ok (.iaload, 1) := by decide +kernel
theorem f_hx_Mixer_putAll_34_3 : mblkB b_Mixer_putAll [(34, .iload_n 2, vi 0), (35, .iand, vi 0), (36, .aload_n 1, vi 0)] = true := by decide +kernel
theorem e_hx_Mixer_putAll_37 : decode b_Mixer_putAll 37 = .ok (.getfield 38, 3) := by decide +kernel
theorem f_hx_Mixer_putAll_40_1 : mblkB b_Mixer_putAll [(40, .iload 4, vi 0)] = true := by decide +kernel
theorem e_hx_Mixer_putAll_42 : decode b_Mixer_putAll 42 = .ok (.laload, 1) := by decide +kernel
theorem e_hx_Mixer_putAll_43 : decode b_Mixer_putAll 43 = .ok (.invokevirtual 39, 3) := by decide +kernel
theorem f_hx_Mixer_putAll_46_3 : mblkB b_Mixer_putAll [(46, .istore_n 3, vi 0), (47, .iinc 4 1, vi 1), (50, .goto (-45), vi 5)] = true := by decide +kernel
set_option maxHeartbeats 4000000 in
set_option maxRecDepth 20000 in
theorem hx_Mixer_putAll  : ∀ (l : Launch) (D : va_G) (B : Nat) (H0 : Heap) (G : tG) (A : mA) (o : Nat) (a0 : Nat) (a1 : Int) (h_o : G o = some 1) (h_a0 : G a0 = some 0)  (r9 : Int) (A9 : mA), f_Mixer_putAll  A o a0 a1 = some (r9, A9) → hMet l D B H0 G y_Mixer_putAll b_Mixer_putAll 5 (some .boolean) 2 50 [vr 1 o, vr 0 a0, vi a1] A (fun v A' => v = some (vi r9) ∧ A' = A9) := by
  intro l D B H0 G A o a0 a1 h_o h_a0 r9 A9 h
  refine h_met (by decide) rfl (fun g q C Rm Y E => ?_)
  have hd_5 : ∀ (n : Nat) (A : mA) (b0 : Nat) (b1 : Nat) (b2 : Int) (b3 : Int) (b4 : Int) , G b0 = some 1 → G b1 = some 0 → f_Mixer_putAll_5  n A b0 b1 b2 b3 b4 = some (r9, A9) → HM g D G q A 5 [(0, vr 1 b0), (1, vr 0 b1), (2, vi b2), (3, vi b3), (4, vi b4)] [] := by
    intro n
    induction n with
    | zero => intro A b0 b1 b2 b3 b4 h_b0 h_b1 h; cases h
    | succ n ih =>
      intro A b0 b1 b2 b3 b4 h_b0 h_b1 h
      unfold f_Mixer_putAll_5 at h
      refine h_blk 8 [(0, vr 1 b0), (1, vr 0 b1), (2, vi b2), (3, vi b3), (4, vi b4)] [vr 0 b1, vi b4] C f_hx_Mixer_putAll_5_2 rfl ?_
      refine h_geti C e_hx_Mixer_putAll_8 fg_Mixer_34 h_b1 rfl rfl rfl (A 0 b1 2) rfl ?_
      obtain ⟨c1, h⟩ := igd h
      obtain ⟨c2, h⟩ := igd h
      refine h_icmp_ge (tgt := 53) C e_hx_Mixer_putAll_11 (by decide) c1 c2 (fun c3 => ?_) (fun c3 => ?_)
      · have h := ifp c3 h
        refine h_blk 54 [(0, vr 1 b0), (1, vr 0 b1), (2, vi b2), (3, vi b3), (4, vi b4)] [vi b3] C f_hx_Mixer_putAll_53_1 rfl ?_
        obtain ⟨c4, h⟩ := igd h
        exact h_zret C Rm E c4 e_hx_Mixer_putAll_54 (fin1 h)
      · have h := ifn c3 h
        refine h_blk 19 [(0, vr 1 b0), (1, vr 0 b1), (2, vi b2), (3, vi b3), (4, vi b4)] [vi 300, vi b4] C f_hx_Mixer_putAll_14_2 rfl ?_
        refine h_icmp_ge (tgt := 53) C e_hx_Mixer_putAll_19 (by decide) c1 (by decide) (fun c5 => ?_) (fun c5 => ?_)
        · have h := ifp c5 h
          refine h_blk 54 [(0, vr 1 b0), (1, vr 0 b1), (2, vi b2), (3, vi b3), (4, vi b4)] [vi b3] C f_hx_Mixer_putAll_53_1 rfl ?_
          obtain ⟨c6, h⟩ := igd h
          exact h_zret C Rm E c6 e_hx_Mixer_putAll_54 (fin1 h)
        · have h := ifn c5 h
          refine h_blk 23 [(0, vr 1 b0), (1, vr 0 b1), (2, vi b2), (3, vi b3), (4, vi b4)] [vi b3] C f_hx_Mixer_putAll_22_1 rfl ?_
          obtain ⟨c7, h⟩ := igd h
          refine h_if_eq (tgt := 53) C e_hx_Mixer_putAll_23 (by decide) c7 (fun c8 => ?_) (fun c8 => ?_)
          · have h := ifp c8 h
            refine h_blk 54 [(0, vr 1 b0), (1, vr 0 b1), (2, vi b2), (3, vi b3), (4, vi b4)] [vi b3] C f_hx_Mixer_putAll_53_1 rfl ?_
            obtain ⟨c9, h⟩ := igd h
            exact h_zret C Rm E c9 e_hx_Mixer_putAll_54 (fin1 h)
          · have h := ifn c8 h
            refine h_blk 28 [(0, vr 1 b0), (1, vr 0 b1), (2, vi b2), (3, vi b3), (4, vi b4)] [vr 0 b1, vr 1 b0] C f_hx_Mixer_putAll_26_2 rfl ?_
            refine h_getr4 C e_hx_Mixer_putAll_28 fg_Mixer_37 h_b1 rfl rfl rfl rfl (fun g10 => ?_)
            refine h_blk 33 [(0, vr 1 b0), (1, vr 0 b1), (2, vi b2), (3, vi b3), (4, vi b4)] [vi b4, vr 31 ((A 0 b1 0).toNat), vr 1 b0] C f_hx_Mixer_putAll_31_1 rfl ?_
            obtain ⟨c11, h⟩ := igd h
            refine h_iald C e_hx_Mixer_putAll_33 g10 rfl rfl (by decide) c11.1 c11.2 (A 31 ((A 0 b1 0).toNat) b4.toNat) rfl ?_
            refine h_blk 37 [(0, vr 1 b0), (1, vr 0 b1), (2, vi b2), (3, vi b3), (4, vi b4)] [vr 0 b1, vi (iAnd (A 31 ((A 0 b1 0).toNat) b4.toNat) b2), vr 1 b0] C f_hx_Mixer_putAll_34_3 rfl ?_
            refine h_getr4 C e_hx_Mixer_putAll_37 fg_Mixer_38 h_b1 rfl rfl rfl rfl (fun g12 => ?_)
            refine h_blk 42 [(0, vr 1 b0), (1, vr 0 b1), (2, vi b2), (3, vi b3), (4, vi b4)] [vi b4, vr 32 ((A 0 b1 1).toNat), vi (iAnd (A 31 ((A 0 b1 0).toNat) b4.toNat) b2), vr 1 b0] C f_hx_Mixer_putAll_40_1 rfl ?_
            refine h_lald C e_hx_Mixer_putAll_42 g12 rfl rfl (by decide) c11.1 c11.2 (A 32 ((A 0 b1 1).toNat) b4.toNat) rfl ?_
            obtain ⟨q13, e14, h⟩ := obd h
            refine h_callV C Rm Y [vi (iAnd (A 31 ((A 0 b1 0).toNat) b4.toNat) b2), vl (A 32 ((A 0 b1 1).toNat) b4.toNat)] [] (hx_Mixer_put l D B H0 G _ b0 (iAnd (A 31 ((A 0 b1 0).toNat) b4.toNat) b2) (A 32 ((A 0 b1 1).toNat) b4.toNat) h_b0 _ _ e14) cl_Mixer_39 h_b0 rfl rfl rfl e_hx_Mixer_putAll_43 rfl rfl rfl ⟨by decide, by decide⟩ ?_
            rintro _ _ ⟨rfl, rfl⟩
            show HM g D G q q13.2 46 [(0, vr 1 b0), (1, vr 0 b1), (2, vi b2), (3, vi b3), (4, vi b4)] [vi q13.1]
            refine h_blk 5 [(4, vi (b4 + 1)), (3, vi q13.1), (0, vr 1 b0), (1, vr 0 b1), (2, vi b2)] [] C f_hx_Mixer_putAll_46_3 rfl ?_
            refine h_loc [(0, vr 1 b0), (1, vr 0 b1), (2, vi b2), (3, vi q13.1), (4, vi (b4 + 1))] ⟨rfl, rfl, rfl, rfl, rfl, trivial⟩ ?_
            exact ih q13.2 b0 b1 b2 q13.1 (b4 + 1) (h_b0) (h_b1) h
  show HM g D G q A 0 [(0, vr 1 o), (1, vr 0 a0), (2, vi a1)] []
  unfold f_Mixer_putAll at h
  refine h_blk 5 [(4, vi 0), (3, vi 1), (0, vr 1 o), (1, vr 0 a0), (2, vi a1)] [] C f_hx_Mixer_putAll_0_4 rfl ?_
  refine h_loc [(0, vr 1 o), (1, vr 0 a0), (2, vi a1), (3, vi 1), (4, vi 0)] ⟨rfl, rfl, rfl, rfl, rfl, trivial⟩ ?_
  exact hd_5 _ A o a0 a1 1 0 (h_o) (h_a0) h

def f_Mixer_pourInto (A : mA) (o : Nat) (a0 : Nat) : Option (Int × mA) := (if g32 (A 0 a0 3) then (if g32 (A 1 o 2) then (some (0, (mu (mu (mu (mu (mu (mu (mu A 0 a0 0 (((A 1 o 0).toNat : Nat) : Int)) 0 a0 1 (((A 1 o 1).toNat : Nat) : Int)) 0 a0 2 (A 1 o 2)) 0 a0 3 (max (A 0 a0 3) (A 1 o 2))) 1 o 0 (((A 0 a0 0).toNat : Nat) : Int)) 1 o 1 (((A 0 a0 1).toNat : Nat) : Int)) 1 o 2 0))) else none) else none)
theorem f_hx_Mixer_pourInto_0_1 : mblkB b_Mixer_pourInto [(0, .aload_n 1, vi 0)] = true := by decide +kernel
theorem e_hx_Mixer_pourInto_1 : decode b_Mixer_pourInto 1 = .ok (.getfield 37, 3) := by decide +kernel
theorem f_hx_Mixer_pourInto_4_2 : mblkB b_Mixer_pourInto [(4, .astore_n 2, vi 0), (5, .aload_n 1, vi 0)] = true := by decide +kernel
theorem e_hx_Mixer_pourInto_6 : decode b_Mixer_pourInto 6 = .ok (.getfield 38, 3) := by decide +kernel
theorem f_hx_Mixer_pourInto_9_3 : mblkB b_Mixer_pourInto [(9, .astore_n 3, vi 0), (10, .aload_n 1, vi 0), (11, .aload_n 0, vi 0)] = true := by decide +kernel
theorem e_hx_Mixer_pourInto_12 : decode b_Mixer_pourInto 12 = .ok (.getfield 9, 3) := by decide +kernel
theorem e_hx_Mixer_pourInto_15 : decode b_Mixer_pourInto 15 = .ok (.putfield 37, 3) := by decide +kernel
theorem f_hx_Mixer_pourInto_18_2 : mblkB b_Mixer_pourInto [(18, .aload_n 1, vi 0), (19, .aload_n 0, vi 0)] = true := by decide +kernel
theorem e_hx_Mixer_pourInto_20 : decode b_Mixer_pourInto 20 = .ok (.getfield 15, 3) := by decide +kernel
theorem e_hx_Mixer_pourInto_23 : decode b_Mixer_pourInto 23 = .ok (.putfield 38, 3) := by decide +kernel
theorem f_hx_Mixer_pourInto_26_2 : mblkB b_Mixer_pourInto [(26, .aload_n 1, vi 0), (27, .aload_n 0, vi 0)] = true := by decide +kernel
theorem e_hx_Mixer_pourInto_28 : decode b_Mixer_pourInto 28 = .ok (.getfield 25, 3) := by decide +kernel
theorem e_hx_Mixer_pourInto_31 : decode b_Mixer_pourInto 31 = .ok (.putfield 34, 3) := by decide +kernel
theorem f_hx_Mixer_pourInto_34_2 : mblkB b_Mixer_pourInto [(34, .aload_n 1, vi 0), (35, .aload_n 1, vi 0)] = true := by decide +kernel
theorem e_hx_Mixer_pourInto_36 : decode b_Mixer_pourInto 36 = .ok (.getfield 43, 3) := by decide +kernel
theorem f_hx_Mixer_pourInto_39_1 : mblkB b_Mixer_pourInto [(39, .aload_n 0, vi 0)] = true := by decide +kernel
theorem e_hx_Mixer_pourInto_40 : decode b_Mixer_pourInto 40 = .ok (.getfield 25, 3) := by decide +kernel
theorem e_hx_Mixer_pourInto_43 : decode b_Mixer_pourInto 43 = .ok (.invokestatic 46, 3) := by decide +kernel
theorem e_hx_Mixer_pourInto_46 : decode b_Mixer_pourInto 46 = .ok (.putfield 43, 3) := by decide +kernel
theorem f_hx_Mixer_pourInto_49_2 : mblkB b_Mixer_pourInto [(49, .aload_n 0, vi 0), (50, .aload_n 2, vi 0)] = true := by decide +kernel
theorem e_hx_Mixer_pourInto_51 : decode b_Mixer_pourInto 51 = .ok (.putfield 9, 3) := by decide +kernel
theorem f_hx_Mixer_pourInto_54_2 : mblkB b_Mixer_pourInto [(54, .aload_n 0, vi 0), (55, .aload_n 3, vi 0)] = true := by decide +kernel
theorem e_hx_Mixer_pourInto_56 : decode b_Mixer_pourInto 56 = .ok (.putfield 15, 3) := by decide +kernel
theorem f_hx_Mixer_pourInto_59_2 : mblkB b_Mixer_pourInto [(59, .aload_n 0, vi 0), (60, .iconst 0, vi 0)] = true := by decide +kernel
theorem e_hx_Mixer_pourInto_61 : decode b_Mixer_pourInto 61 = .ok (.putfield 25, 3) := by decide +kernel
theorem e_hx_Mixer_pourInto_64 : decode b_Mixer_pourInto 64 = .ok (.return_, 1) := by decide +kernel
set_option maxHeartbeats 4000000 in
set_option maxRecDepth 20000 in
theorem hx_Mixer_pourInto  : ∀ (l : Launch) (D : va_G) (B : Nat) (H0 : Heap) (G : tG) (A : mA) (o : Nat) (a0 : Nat) (h_o : G o = some 1) (h_a0 : G a0 = some 0)  (r9 : Int) (A9 : mA), f_Mixer_pourInto  A o a0 = some (r9, A9) → hMet l D B H0 G y_Mixer_pourInto b_Mixer_pourInto 4 none 1 40 [vr 1 o, vr 0 a0] A (fun v A' => v = none ∧ A' = A9) := by
  intro l D B H0 G A o a0 h_o h_a0 r9 A9 h
  refine h_met (by decide) rfl (fun g q C Rm Y E => ?_)
  show HM g D G q A 0 [(0, vr 1 o), (1, vr 0 a0)] []
  unfold f_Mixer_pourInto at h
  refine h_blk 1 [(0, vr 1 o), (1, vr 0 a0)] [vr 0 a0] C f_hx_Mixer_pourInto_0_1 rfl ?_
  refine h_getr4 C e_hx_Mixer_pourInto_1 fg_Mixer_37 h_a0 rfl rfl rfl rfl (fun g1 => ?_)
  refine h_blk 6 [(2, vr 31 ((A 0 a0 0).toNat)), (0, vr 1 o), (1, vr 0 a0)] [vr 0 a0] C f_hx_Mixer_pourInto_4_2 rfl ?_
  refine h_getr4 C e_hx_Mixer_pourInto_6 fg_Mixer_38 h_a0 rfl rfl rfl rfl (fun g2 => ?_)
  refine h_blk 12 [(3, vr 32 ((A 0 a0 1).toNat)), (2, vr 31 ((A 0 a0 0).toNat)), (0, vr 1 o), (1, vr 0 a0)] [vr 1 o, vr 0 a0] C f_hx_Mixer_pourInto_9_3 rfl ?_
  refine h_getr4 C e_hx_Mixer_pourInto_12 fg_Mixer_9 h_o rfl rfl rfl rfl (fun g3 => ?_)
  refine h_putr C e_hx_Mixer_pourInto_15 fp_Mixer_37 ⟨rfl, rfl⟩ h_a0 rfl rfl (Or.inl rfl) rfl g3 ?_
  refine h_blk 20 [(3, vr 32 ((A 0 a0 1).toNat)), (2, vr 31 ((A 0 a0 0).toNat)), (0, vr 1 o), (1, vr 0 a0)] [vr 1 o, vr 0 a0] C f_hx_Mixer_pourInto_18_2 rfl ?_
  refine h_getr4 C e_hx_Mixer_pourInto_20 fg_Mixer_15 h_o rfl rfl rfl rfl (fun g4 => ?_)
  refine h_putr C e_hx_Mixer_pourInto_23 fp_Mixer_38 ⟨rfl, rfl⟩ h_a0 rfl rfl (Or.inl rfl) rfl g4 ?_
  refine h_blk 28 [(3, vr 32 ((A 0 a0 1).toNat)), (2, vr 31 ((A 0 a0 0).toNat)), (0, vr 1 o), (1, vr 0 a0)] [vr 1 o, vr 0 a0] C f_hx_Mixer_pourInto_26_2 rfl ?_
  refine h_geti C e_hx_Mixer_pourInto_28 fg_Mixer_25 h_o rfl rfl rfl (A 1 o 2) rfl ?_
  refine h_puti C e_hx_Mixer_pourInto_31 fp_Mixer_34 h_a0 rfl rfl rfl ?_
  refine h_blk 36 [(3, vr 32 ((A 0 a0 1).toNat)), (2, vr 31 ((A 0 a0 0).toNat)), (0, vr 1 o), (1, vr 0 a0)] [vr 0 a0, vr 0 a0] C f_hx_Mixer_pourInto_34_2 rfl ?_
  refine h_geti C e_hx_Mixer_pourInto_36 fg_Mixer_43 h_a0 rfl rfl rfl (A 0 a0 3) rfl ?_
  refine h_blk 40 [(3, vr 32 ((A 0 a0 1).toNat)), (2, vr 31 ((A 0 a0 0).toNat)), (0, vr 1 o), (1, vr 0 a0)] [vr 1 o, vi (A 0 a0 3), vr 0 a0] C f_hx_Mixer_pourInto_39_1 rfl ?_
  refine h_geti C e_hx_Mixer_pourInto_40 fg_Mixer_25 h_o rfl rfl rfl (A 1 o 2) rfl ?_
  obtain ⟨c5, h⟩ := igd h
  obtain ⟨c6, h⟩ := igd h
  refine h_mmax C Rm cl_Mixer_46 e_hx_Mixer_pourInto_43 (by decide) (Nat.le_of_ble_eq_true rfl) c5 c6 (fun z7 hz7 => ?_)
  obtain rfl : z7 = max (A 0 a0 3) (A 1 o 2) := by omega
  refine h_puti C e_hx_Mixer_pourInto_46 fp_Mixer_43 h_a0 rfl rfl rfl ?_
  refine h_blk 51 [(3, vr 32 ((A 0 a0 1).toNat)), (2, vr 31 ((A 0 a0 0).toNat)), (0, vr 1 o), (1, vr 0 a0)] [vr 31 ((A 0 a0 0).toNat), vr 1 o] C f_hx_Mixer_pourInto_49_2 rfl ?_
  refine h_putr C e_hx_Mixer_pourInto_51 fp_Mixer_9 ⟨rfl, rfl⟩ h_o rfl rfl (Or.inl rfl) rfl g1 ?_
  refine h_blk 56 [(3, vr 32 ((A 0 a0 1).toNat)), (2, vr 31 ((A 0 a0 0).toNat)), (0, vr 1 o), (1, vr 0 a0)] [vr 32 ((A 0 a0 1).toNat), vr 1 o] C f_hx_Mixer_pourInto_54_2 rfl ?_
  refine h_putr C e_hx_Mixer_pourInto_56 fp_Mixer_15 ⟨rfl, rfl⟩ h_o rfl rfl (Or.inl rfl) rfl g2 ?_
  refine h_blk 61 [(3, vr 32 ((A 0 a0 1).toNat)), (2, vr 31 ((A 0 a0 0).toNat)), (0, vr 1 o), (1, vr 0 a0)] [vi 0, vr 1 o] C f_hx_Mixer_pourInto_59_2 rfl ?_
  refine h_puti C e_hx_Mixer_pourInto_61 fp_Mixer_25 h_o rfl rfl rfl ?_
  exact h_vret C Rm E e_hx_Mixer_pourInto_64 (fin0 h)

def f_Runs_isKnown (A : mA) (o : Nat) (a0 : Int) : Option (Int × mA) := (Option.bind (f_CS_isValue A a0) (fun q1 => (if g32 q1.1 then (if q1.1 = 0 then (some (0, q1.2)) else (if (0 ≤ a0 ∧ a0 < ((10 : Nat) : Int)) then (if g32 (q1.2 28 ((q1.2 4 o 0).toNat) a0.toNat) then (if (q1.2 28 ((q1.2 4 o 0).toNat) a0.toNat) = 0 then (some (0, q1.2)) else (some (1, q1.2))) else none) else none)) else none)))
theorem f_hx_Runs_isKnown_0_1 : mblkB b_Runs_isKnown [(0, .iload_n 1, vi 0)] = true := by decide +kernel
theorem e_hx_Runs_isKnown_1 : decode b_Runs_isKnown 1 = .ok (.invokestatic 22, 3) := by decide +kernel
theorem e_hx_Runs_isKnown_4 : decode b_Runs_isKnown 4 = .ok (.ifCond .eq 16, 3) := by decide +kernel
theorem f_hx_Runs_isKnown_20_1 : mblkB b_Runs_isKnown [(20, .iconst 0, vi 0)] = true := by decide +kernel
theorem e_hx_Runs_isKnown_21 : decode b_Runs_isKnown 21 = .ok (.ireturn, 1) := by decide +kernel
theorem f_hx_Runs_isKnown_7_1 : mblkB b_Runs_isKnown [(7, .aload_n 0, vi 0)] = true := by decide +kernel
theorem e_hx_Runs_isKnown_8 : decode b_Runs_isKnown 8 = .ok (.getfield 9, 3) := by decide +kernel
theorem f_hx_Runs_isKnown_11_1 : mblkB b_Runs_isKnown [(11, .iload_n 1, vi 0)] = true := by decide +kernel
theorem e_hx_Runs_isKnown_12 : decode b_Runs_isKnown 12 = .ok (.iaload, 1) := by decide +kernel
theorem e_hx_Runs_isKnown_13 : decode b_Runs_isKnown 13 = .ok (.ifCond .eq 7, 3) := by decide +kernel
theorem f_hx_Runs_isKnown_16_2 : mblkB b_Runs_isKnown [(16, .iconst 1, vi 1), (17, .goto 4, vi 21)] = true := by decide +kernel
set_option maxHeartbeats 4000000 in
set_option maxRecDepth 20000 in
theorem hx_Runs_isKnown  : ∀ (l : Launch) (D : va_G) (B : Nat) (H0 : Heap) (G : tG) (A : mA) (o : Nat) (a0 : Int) (h_o : G o = some 4)  (r9 : Int) (A9 : mA), f_Runs_isKnown  A o a0 = some (r9, A9) → hMet l D B H0 G y_Runs_isKnown b_Runs_isKnown 2 (some .boolean) 1 20 [vr 4 o, vi a0] A (fun v A' => v = some (vi r9) ∧ A' = A9) := by
  intro l D B H0 G A o a0 h_o r9 A9 h
  refine h_met (by decide) rfl (fun g q C Rm Y E => ?_)
  show HM g D G q A 0 [(0, vr 4 o), (1, vi a0)] []
  unfold f_Runs_isKnown at h
  refine h_blk 1 [(0, vr 4 o), (1, vi a0)] [vi a0] C f_hx_Runs_isKnown_0_1 rfl ?_
  obtain ⟨q1, e2, h⟩ := obd h
  refine h_callSn C Rm Y [vi a0] [] (hx_CS_isValue l D B H0 G _ a0 _ _ e2) cl_Runs_22 e_hx_Runs_isKnown_1 rfl rfl rfl ⟨by decide, by decide⟩ ?_
  rintro _ _ ⟨rfl, rfl⟩
  show HM g D G q q1.2 4 [(0, vr 4 o), (1, vi a0)] [vi q1.1]
  obtain ⟨c3, h⟩ := igd h
  refine h_if_eq (tgt := 20) C e_hx_Runs_isKnown_4 (by decide) c3 (fun c4 => ?_) (fun c4 => ?_)
  · have h := ifp c4 h
    refine h_blk 21 [(0, vr 4 o), (1, vi a0)] [vi 0] C f_hx_Runs_isKnown_20_1 rfl ?_
    exact h_zret C Rm E (Or.inl rfl) e_hx_Runs_isKnown_21 (fin1 h)
  · have h := ifn c4 h
    refine h_blk 8 [(0, vr 4 o), (1, vi a0)] [vr 4 o] C f_hx_Runs_isKnown_7_1 rfl ?_
    refine h_getr4 C e_hx_Runs_isKnown_8 fg_Runs_9 h_o rfl rfl rfl rfl (fun g5 => ?_)
    refine h_blk 12 [(0, vr 4 o), (1, vi a0)] [vi a0, vr 28 ((q1.2 4 o 0).toNat)] C f_hx_Runs_isKnown_11_1 rfl ?_
    obtain ⟨c6, h⟩ := igd h
    refine h_iald C e_hx_Runs_isKnown_12 g5 rfl rfl (by decide) c6.1 c6.2 (q1.2 28 ((q1.2 4 o 0).toNat) a0.toNat) rfl ?_
    obtain ⟨c7, h⟩ := igd h
    refine h_if_eq (tgt := 20) C e_hx_Runs_isKnown_13 (by decide) c7 (fun c8 => ?_) (fun c8 => ?_)
    · have h := ifp c8 h
      refine h_blk 21 [(0, vr 4 o), (1, vi a0)] [vi 0] C f_hx_Runs_isKnown_20_1 rfl ?_
      exact h_zret C Rm E (Or.inl rfl) e_hx_Runs_isKnown_21 (fin1 h)
    · have h := ifn c8 h
      refine h_blk 21 [(0, vr 4 o), (1, vi a0)] [vi 1] C f_hx_Runs_isKnown_16_2 rfl ?_
      exact h_zret C Rm E (Or.inr rfl) e_hx_Runs_isKnown_21 (fin1 h)

def f_Runs_fits (A : mA) (o : Nat) (a0 : Int) : Option (Int × mA) := (Option.bind (f_CS_isValue A a0) (fun q1 => (if g32 q1.1 then (if q1.1 = 0 then (some (0, q1.2)) else (if (0 ≤ a0 ∧ a0 < ((10 : Nat) : Int)) then (if g32 (q1.2 28 ((q1.2 4 o 0).toNat) a0.toNat) then (if (q1.2 28 ((q1.2 4 o 0).toNat) a0.toNat) = 1 then (some (1, q1.2)) else (some (0, q1.2))) else none) else none)) else none)))
theorem f_hx_Runs_fits_0_1 : mblkB b_Runs_fits [(0, .iload_n 1, vi 0)] = true := by decide +kernel
theorem e_hx_Runs_fits_1 : decode b_Runs_fits 1 = .ok (.invokestatic 22, 3) := by decide +kernel
theorem e_hx_Runs_fits_4 : decode b_Runs_fits 4 = .ok (.ifCond .eq 17, 3) := by decide +kernel
theorem f_hx_Runs_fits_21_1 : mblkB b_Runs_fits [(21, .iconst 0, vi 0)] = true := by decide +kernel
theorem e_hx_Runs_fits_22 : decode b_Runs_fits 22 = .ok (.ireturn, 1) := by decide +kernel
theorem f_hx_Runs_fits_7_1 : mblkB b_Runs_fits [(7, .aload_n 0, vi 0)] = true := by decide +kernel
theorem e_hx_Runs_fits_8 : decode b_Runs_fits 8 = .ok (.getfield 9, 3) := by decide +kernel
theorem f_hx_Runs_fits_11_1 : mblkB b_Runs_fits [(11, .iload_n 1, vi 0)] = true := by decide +kernel
theorem e_hx_Runs_fits_12 : decode b_Runs_fits 12 = .ok (.iaload, 1) := by decide +kernel
theorem f_hx_Runs_fits_13_1 : mblkB b_Runs_fits [(13, .iconst 1, vi 1)] = true := by decide +kernel
theorem e_hx_Runs_fits_14 : decode b_Runs_fits 14 = .ok (.if_icmp .ne 7, 3) := by decide +kernel
theorem f_hx_Runs_fits_17_2 : mblkB b_Runs_fits [(17, .iconst 1, vi 1), (18, .goto 4, vi 22)] = true := by decide +kernel
set_option maxHeartbeats 4000000 in
set_option maxRecDepth 20000 in
theorem hx_Runs_fits  : ∀ (l : Launch) (D : va_G) (B : Nat) (H0 : Heap) (G : tG) (A : mA) (o : Nat) (a0 : Int) (h_o : G o = some 4)  (r9 : Int) (A9 : mA), f_Runs_fits  A o a0 = some (r9, A9) → hMet l D B H0 G y_Runs_fits b_Runs_fits 2 (some .boolean) 1 20 [vr 4 o, vi a0] A (fun v A' => v = some (vi r9) ∧ A' = A9) := by
  intro l D B H0 G A o a0 h_o r9 A9 h
  refine h_met (by decide) rfl (fun g q C Rm Y E => ?_)
  show HM g D G q A 0 [(0, vr 4 o), (1, vi a0)] []
  unfold f_Runs_fits at h
  refine h_blk 1 [(0, vr 4 o), (1, vi a0)] [vi a0] C f_hx_Runs_fits_0_1 rfl ?_
  obtain ⟨q1, e2, h⟩ := obd h
  refine h_callSn C Rm Y [vi a0] [] (hx_CS_isValue l D B H0 G _ a0 _ _ e2) cl_Runs_22 e_hx_Runs_fits_1 rfl rfl rfl ⟨by decide, by decide⟩ ?_
  rintro _ _ ⟨rfl, rfl⟩
  show HM g D G q q1.2 4 [(0, vr 4 o), (1, vi a0)] [vi q1.1]
  obtain ⟨c3, h⟩ := igd h
  refine h_if_eq (tgt := 21) C e_hx_Runs_fits_4 (by decide) c3 (fun c4 => ?_) (fun c4 => ?_)
  · have h := ifp c4 h
    refine h_blk 22 [(0, vr 4 o), (1, vi a0)] [vi 0] C f_hx_Runs_fits_21_1 rfl ?_
    exact h_zret C Rm E (Or.inl rfl) e_hx_Runs_fits_22 (fin1 h)
  · have h := ifn c4 h
    refine h_blk 8 [(0, vr 4 o), (1, vi a0)] [vr 4 o] C f_hx_Runs_fits_7_1 rfl ?_
    refine h_getr4 C e_hx_Runs_fits_8 fg_Runs_9 h_o rfl rfl rfl rfl (fun g5 => ?_)
    refine h_blk 12 [(0, vr 4 o), (1, vi a0)] [vi a0, vr 28 ((q1.2 4 o 0).toNat)] C f_hx_Runs_fits_11_1 rfl ?_
    obtain ⟨c6, h⟩ := igd h
    refine h_iald C e_hx_Runs_fits_12 g5 rfl rfl (by decide) c6.1 c6.2 (q1.2 28 ((q1.2 4 o 0).toNat) a0.toNat) rfl ?_
    refine h_blk 14 [(0, vr 4 o), (1, vi a0)] [vi 1, vi (q1.2 28 ((q1.2 4 o 0).toNat) a0.toNat)] C f_hx_Runs_fits_13_1 rfl ?_
    obtain ⟨c7, h⟩ := igd h
    refine h_icmp_ne (tgt := 21) C e_hx_Runs_fits_14 (by decide) c7 (by decide) (fun c8 => ?_) (fun c8 => ?_)
    · have h := ifn c8 h
      refine h_blk 22 [(0, vr 4 o), (1, vi a0)] [vi 0] C f_hx_Runs_fits_21_1 rfl ?_
      exact h_zret C Rm E (Or.inl rfl) e_hx_Runs_fits_22 (fin1 h)
    · have h := ifp c8 h
      refine h_blk 22 [(0, vr 4 o), (1, vi a0)] [vi 1] C f_hx_Runs_fits_17_2 rfl ?_
      exact h_zret C Rm E (Or.inr rfl) e_hx_Runs_fits_22 (fin1 h)

def f_Runs_weight (A : mA) (o : Nat) (a0 : Int) (a1 : Int) : Option (Int × mA) := (Option.bind (f_CS_isValue A a0) (fun q1 => (if g32 q1.1 then (if q1.1 = 0 then (some (0, q1.2)) else (Option.bind (f_CS_isValue q1.2 a1) (fun q5 => (if g32 q5.1 then (if q5.1 = 0 then (some (0, q5.2)) else (if (0 ≤ ((a0 * 10) + a1) ∧ ((a0 * 10) + a1) < ((100 : Nat) : Int)) then (some ((q5.2 29 ((q5.2 4 o 1).toNat) (((a0 * 10) + a1).toNat)), q5.2)) else none)) else none)))) else none)))
theorem f_hx_Runs_weight_0_1 : mblkB b_Runs_weight [(0, .iload_n 1, vi 0)] = true := by decide +kernel
theorem e_hx_Runs_weight_1 : decode b_Runs_weight 1 = .ok (.invokestatic 22, 3) := by decide +kernel
theorem e_hx_Runs_weight_4 : decode b_Runs_weight 4 = .ok (.ifCond .eq 24, 3) := by decide +kernel
theorem f_hx_Runs_weight_28_1 : mblkB b_Runs_weight [(28, .lconst 0, vl 0)] = true := by decide +kernel
theorem e_hx_Runs_weight_29 : decode b_Runs_weight 29 = .ok (.lreturn, 1) := by decide +kernel
theorem f_hx_Runs_weight_7_1 : mblkB b_Runs_weight [(7, .iload_n 2, vi 0)] = true := by decide +kernel
theorem e_hx_Runs_weight_8 : decode b_Runs_weight 8 = .ok (.invokestatic 22, 3) := by decide +kernel
theorem e_hx_Runs_weight_11 : decode b_Runs_weight 11 = .ok (.ifCond .eq 17, 3) := by decide +kernel
theorem f_hx_Runs_weight_14_1 : mblkB b_Runs_weight [(14, .aload_n 0, vi 0)] = true := by decide +kernel
theorem e_hx_Runs_weight_15 : decode b_Runs_weight 15 = .ok (.getfield 15, 3) := by decide +kernel
theorem f_hx_Runs_weight_18_5 : mblkB b_Runs_weight [(18, .iload_n 1, vi 0), (19, .bipush 10, vi 10), (21, .imul, vi 0), (22, .iload_n 2, vi 0), (23, .iadd, vi 0)] = true := by decide +kernel
theorem e_hx_Runs_weight_24 : decode b_Runs_weight 24 = .ok (.laload, 1) := by decide +kernel
theorem f_hx_Runs_weight_25_1 : mblkB b_Runs_weight [(25, .goto 4, vi 29)] = true := by decide +kernel
set_option maxHeartbeats 4000000 in
set_option maxRecDepth 20000 in
theorem hx_Runs_weight  : ∀ (l : Launch) (D : va_G) (B : Nat) (H0 : Heap) (G : tG) (A : mA) (o : Nat) (a0 : Int) (a1 : Int) (h_o : G o = some 4)  (r9 : Int) (A9 : mA), f_Runs_weight  A o a0 a1 = some (r9, A9) → hMet l D B H0 G y_Runs_weight b_Runs_weight 3 (some .long) 1 20 [vr 4 o, vi a0, vi a1] A (fun v A' => v = some (vl r9) ∧ A' = A9) := by
  intro l D B H0 G A o a0 a1 h_o r9 A9 h
  refine h_met (by decide) rfl (fun g q C Rm Y E => ?_)
  show HM g D G q A 0 [(0, vr 4 o), (1, vi a0), (2, vi a1)] []
  unfold f_Runs_weight at h
  refine h_blk 1 [(0, vr 4 o), (1, vi a0), (2, vi a1)] [vi a0] C f_hx_Runs_weight_0_1 rfl ?_
  obtain ⟨q1, e2, h⟩ := obd h
  refine h_callSn C Rm Y [vi a0] [] (hx_CS_isValue l D B H0 G _ a0 _ _ e2) cl_Runs_22 e_hx_Runs_weight_1 rfl rfl rfl ⟨by decide, by decide⟩ ?_
  rintro _ _ ⟨rfl, rfl⟩
  show HM g D G q q1.2 4 [(0, vr 4 o), (1, vi a0), (2, vi a1)] [vi q1.1]
  obtain ⟨c3, h⟩ := igd h
  refine h_if_eq (tgt := 28) C e_hx_Runs_weight_4 (by decide) c3 (fun c4 => ?_) (fun c4 => ?_)
  · have h := ifp c4 h
    refine h_blk 29 [(0, vr 4 o), (1, vi a0), (2, vi a1)] [vl 0] C f_hx_Runs_weight_28_1 rfl ?_
    exact h_lret C Rm E e_hx_Runs_weight_29 (finL h)
  · have h := ifn c4 h
    refine h_blk 8 [(0, vr 4 o), (1, vi a0), (2, vi a1)] [vi a1] C f_hx_Runs_weight_7_1 rfl ?_
    obtain ⟨q5, e6, h⟩ := obd h
    refine h_callSn C Rm Y [vi a1] [] (hx_CS_isValue l D B H0 G _ a1 _ _ e6) cl_Runs_22 e_hx_Runs_weight_8 rfl rfl rfl ⟨by decide, by decide⟩ ?_
    rintro _ _ ⟨rfl, rfl⟩
    show HM g D G q q5.2 11 [(0, vr 4 o), (1, vi a0), (2, vi a1)] [vi q5.1]
    obtain ⟨c7, h⟩ := igd h
    refine h_if_eq (tgt := 28) C e_hx_Runs_weight_11 (by decide) c7 (fun c8 => ?_) (fun c8 => ?_)
    · have h := ifp c8 h
      refine h_blk 29 [(0, vr 4 o), (1, vi a0), (2, vi a1)] [vl 0] C f_hx_Runs_weight_28_1 rfl ?_
      exact h_lret C Rm E e_hx_Runs_weight_29 (finL h)
    · have h := ifn c8 h
      refine h_blk 15 [(0, vr 4 o), (1, vi a0), (2, vi a1)] [vr 4 o] C f_hx_Runs_weight_14_1 rfl ?_
      refine h_getr4 C e_hx_Runs_weight_15 fg_Runs_15 h_o rfl rfl rfl rfl (fun g9 => ?_)
      refine h_blk 24 [(0, vr 4 o), (1, vi a0), (2, vi a1)] [vi ((a0 * 10) + a1), vr 29 ((q5.2 4 o 1).toNat)] C f_hx_Runs_weight_18_5 rfl ?_
      obtain ⟨c10, h⟩ := igd h
      refine h_lald C e_hx_Runs_weight_24 g9 rfl rfl (by decide) c10.1 c10.2 (q5.2 29 ((q5.2 4 o 1).toNat) (((a0 * 10) + a1).toNat)) rfl ?_
      refine h_blk 29 [(0, vr 4 o), (1, vi a0), (2, vi a1)] [vl (q5.2 29 ((q5.2 4 o 1).toNat) (((a0 * 10) + a1).toNat))] C f_hx_Runs_weight_25_1 rfl ?_
      exact h_lret C Rm E e_hx_Runs_weight_29 (finL h)

def f_Runs_keep_35 : Nat → mA → Nat → Int → Int → Option (Int × mA)
  | 0, _, _, _, _ => none
  | n + 1, A, b0, b1, b4 => (if g32 b4 then (if 10 ≤ b4 then (some (0, A)) else (if (0 ≤ b4 ∧ b4 < ((10 : Nat) : Int)) then (if (0 ≤ ((b1 * 10) + b4) ∧ ((b1 * 10) + b4) < ((100 : Nat) : Int)) then (f_Runs_keep_35  n (mu A 29 ((A 4 b0 1).toNat) (((b1 * 10) + b4).toNat) (A 23 ((A 4 b0 2).toNat) b4.toNat)) b0 b1 (b4 + 1)) else none) else none)) else none)
def f_Runs_keep (A : mA) (o : Nat) (a0 : Int) (a1 : Nat) (a2 : Int) : Option (Int × mA) := (Option.bind (f_CS_isValue A a0) (fun q7 => (if g32 q7.1 then (if q7.1 = 0 then (some (0, q7.2)) else (if g32 a2 then (if a2 = 0 then (if (0 ≤ a0 ∧ a0 < ((10 : Nat) : Int)) then (Option.bind (f_Crowd_spread (mu q7.2 28 ((q7.2 4 o 0).toNat) a0.toNat 2) a1 0 ((q7.2 4 o 2).toNat)) (fun q16 => (f_Runs_keep_35  20 q16.2 o a0 0))) else none) else (if (0 ≤ a0 ∧ a0 < ((10 : Nat) : Int)) then (Option.bind (f_Crowd_spread (mu q7.2 28 ((q7.2 4 o 0).toNat) a0.toNat 1) a1 0 ((q7.2 4 o 2).toNat)) (fun q20 => (f_Runs_keep_35  20 q20.2 o a0 0))) else none)) else none)) else none)))
theorem f_hx_Runs_keep_0_1 : mblkB b_Runs_keep [(0, .iload_n 1, vi 0)] = true := by decide +kernel
theorem e_hx_Runs_keep_1 : decode b_Runs_keep 1 = .ok (.invokestatic 22, 3) := by decide +kernel
theorem e_hx_Runs_keep_4 : decode b_Runs_keep 4 = .ok (.ifCond .ne 4, 3) := by decide +kernel
theorem f_hx_Runs_keep_8_1 : mblkB b_Runs_keep [(8, .aload_n 0, vi 0)] = true := by decide +kernel
theorem e_hx_Runs_keep_9 : decode b_Runs_keep 9 = .ok (.getfield 9, 3) := by decide +kernel
theorem f_hx_Runs_keep_12_2 : mblkB b_Runs_keep [(12, .iload_n 1, vi 0), (13, .iload_n 3, vi 0)] = true := by decide +kernel
theorem e_hx_Runs_keep_14 : decode b_Runs_keep 14 = .ok (.ifCond .eq 7, 3) := by decide +kernel
theorem f_hx_Runs_keep_21_1 : mblkB b_Runs_keep [(21, .iconst 2, vi 2)] = true := by decide +kernel
theorem e_hx_Runs_keep_22 : decode b_Runs_keep 22 = .ok (.iastore, 1) := by decide +kernel
theorem f_hx_Runs_keep_23_3 : mblkB b_Runs_keep [(23, .aload_n 2, vi 0), (24, .iconst 0, vi 0), (25, .aload_n 0, vi 0)] = true := by decide +kernel
theorem e_hx_Runs_keep_26 : decode b_Runs_keep 26 = .ok (.getfield 19, 3) := by decide +kernel
theorem e_hx_Runs_keep_29 : decode b_Runs_keep 29 = .ok (.invokevirtual 26, 3) := by decide +kernel
theorem f_hx_Runs_keep_32_2 : mblkB b_Runs_keep [(32, .iconst 0, vi 0), (33, .istore 4, vi 0)] = true := by decide +kernel
theorem f_hx_Runs_keep_17_2 : mblkB b_Runs_keep [(17, .iconst 1, vi 1), (18, .goto 4, vi 22)] = true := by decide +kernel
theorem e_hx_Runs_keep_7 : decode b_Runs_keep 7 = .ok (.return_, 1) := by decide +kernel
theorem f_hx_Runs_keep_35_2 : mblkB b_Runs_keep [(35, .iload 4, vi 0), (37, .bipush 10, vi 10)] = true := by decide +kernel
theorem e_hx_Runs_keep_39 : decode b_Runs_keep 39 = .ok (.if_icmp .ge 28, 3) := by decide +kernel
theorem e_hx_Runs_keep_67 : decode b_Runs_keep 67 = .ok (.return_, 1) := by decide +kernel
theorem f_hx_Runs_keep_42_1 : mblkB b_Runs_keep [(42, .aload_n 0, vi 0)] = true := by decide +kernel
theorem e_hx_Runs_keep_43 : decode b_Runs_keep 43 = .ok (.getfield 15, 3) := by decide +kernel
theorem f_hx_Runs_keep_46_6 : mblkB b_Runs_keep [(46, .iload_n 1, vi 0), (47, .bipush 10, vi 10), (49, .imul, vi 0), (50, .iload 4, vi 0), (52, .iadd, vi 0), (53, .aload_n 0, vi 0)] = true := by decide +kernel
theorem e_hx_Runs_keep_54 : decode b_Runs_keep 54 = .ok (.getfield 19, 3) := by decide +kernel
theorem f_hx_Runs_keep_57_1 : mblkB b_Runs_keep [(57, .iload 4, vi 0)] = true := by decide +kernel
theorem e_hx_Runs_keep_59 : decode b_Runs_keep 59 = .ok (.laload, 1) := by decide +kernel
theorem e_hx_Runs_keep_60 : decode b_Runs_keep 60 = .ok (.lastore, 1) := by decide +kernel
theorem f_hx_Runs_keep_61_2 : mblkB b_Runs_keep [(61, .iinc 4 1, vi 1), (64, .goto (-29), vi 35)] = true := by decide +kernel
set_option maxHeartbeats 4000000 in
set_option maxRecDepth 20000 in
theorem hx_Runs_keep  : ∀ (l : Launch) (D : va_G) (B : Nat) (H0 : Heap) (G : tG) (A : mA) (o : Nat) (a0 : Int) (a1 : Nat) (a2 : Int) (h_o : G o = some 4) (h_a1 : G a1 = some 0)  (r9 : Int) (A9 : mA), f_Runs_keep  A o a0 a1 a2 = some (r9, A9) → hMet l D B H0 G y_Runs_keep b_Runs_keep 5 none 2 45 [vr 4 o, vi a0, vr 0 a1, vi a2] A (fun v A' => v = none ∧ A' = A9) := by
  intro l D B H0 G A o a0 a1 a2 h_o h_a1 r9 A9 h
  refine h_met (by decide) rfl (fun g q C Rm Y E => ?_)
  have hd_35 : ∀ (n : Nat) (A : mA) (b0 : Nat) (b1 : Int) (b4 : Int) , G b0 = some 4 → f_Runs_keep_35  n A b0 b1 b4 = some (r9, A9) → HM g D G q A 35 [(0, vr 4 b0), (1, vi b1), (4, vi b4)] [] := by
    intro n
    induction n with
    | zero => intro A b0 b1 b4 h_b0 h; cases h
    | succ n ih =>
      intro A b0 b1 b4 h_b0 h
      unfold f_Runs_keep_35 at h
      refine h_blk 39 [(0, vr 4 b0), (1, vi b1), (4, vi b4)] [vi 10, vi b4] C f_hx_Runs_keep_35_2 rfl ?_
      obtain ⟨c1, h⟩ := igd h
      refine h_icmp_ge (tgt := 67) C e_hx_Runs_keep_39 (by decide) c1 (by decide) (fun c2 => ?_) (fun c2 => ?_)
      · have h := ifp c2 h
        exact h_vret C Rm E e_hx_Runs_keep_67 (fin0 h)
      · have h := ifn c2 h
        refine h_blk 43 [(0, vr 4 b0), (1, vi b1), (4, vi b4)] [vr 4 b0] C f_hx_Runs_keep_42_1 rfl ?_
        refine h_getr4 C e_hx_Runs_keep_43 fg_Runs_15 h_b0 rfl rfl rfl rfl (fun g3 => ?_)
        refine h_blk 54 [(0, vr 4 b0), (1, vi b1), (4, vi b4)] [vr 4 b0, vi ((b1 * 10) + b4), vr 29 ((A 4 b0 1).toNat)] C f_hx_Runs_keep_46_6 rfl ?_
        refine h_getr4 C e_hx_Runs_keep_54 fg_Runs_19 h_b0 rfl rfl rfl rfl (fun g4 => ?_)
        refine h_blk 59 [(0, vr 4 b0), (1, vi b1), (4, vi b4)] [vi b4, vr 23 ((A 4 b0 2).toNat), vi ((b1 * 10) + b4), vr 29 ((A 4 b0 1).toNat)] C f_hx_Runs_keep_57_1 rfl ?_
        obtain ⟨c5, h⟩ := igd h
        refine h_lald C e_hx_Runs_keep_59 g4 rfl rfl (by decide) c5.1 c5.2 (A 23 ((A 4 b0 2).toNat) b4.toNat) rfl ?_
        obtain ⟨c6, h⟩ := igd h
        refine h_last C e_hx_Runs_keep_60 g3 rfl rfl (by decide) c6.1 c6.2 ?_
        refine h_blk 35 [(4, vi (b4 + 1)), (0, vr 4 b0), (1, vi b1)] [] C f_hx_Runs_keep_61_2 rfl ?_
        refine h_loc [(0, vr 4 b0), (1, vi b1), (4, vi (b4 + 1))] ⟨rfl, rfl, rfl, trivial⟩ ?_
        exact ih (mu A 29 ((A 4 b0 1).toNat) (((b1 * 10) + b4).toNat) (A 23 ((A 4 b0 2).toNat) b4.toNat)) b0 b1 (b4 + 1) (h_b0) h
  show HM g D G q A 0 [(0, vr 4 o), (1, vi a0), (2, vr 0 a1), (3, vi a2)] []
  unfold f_Runs_keep at h
  refine h_blk 1 [(0, vr 4 o), (1, vi a0), (2, vr 0 a1), (3, vi a2)] [vi a0] C f_hx_Runs_keep_0_1 rfl ?_
  obtain ⟨q7, e8, h⟩ := obd h
  refine h_callSn C Rm Y [vi a0] [] (hx_CS_isValue l D B H0 G _ a0 _ _ e8) cl_Runs_22 e_hx_Runs_keep_1 rfl rfl rfl ⟨by decide, by decide⟩ ?_
  rintro _ _ ⟨rfl, rfl⟩
  show HM g D G q q7.2 4 [(0, vr 4 o), (1, vi a0), (2, vr 0 a1), (3, vi a2)] [vi q7.1]
  obtain ⟨c9, h⟩ := igd h
  refine h_if_ne (tgt := 8) C e_hx_Runs_keep_4 (by decide) c9 (fun c10 => ?_) (fun c10 => ?_)
  · have h := ifn c10 h
    refine h_blk 9 [(0, vr 4 o), (1, vi a0), (2, vr 0 a1), (3, vi a2)] [vr 4 o] C f_hx_Runs_keep_8_1 rfl ?_
    refine h_getr4 C e_hx_Runs_keep_9 fg_Runs_9 h_o rfl rfl rfl rfl (fun g11 => ?_)
    refine h_blk 14 [(0, vr 4 o), (1, vi a0), (2, vr 0 a1), (3, vi a2)] [vi a2, vi a0, vr 28 ((q7.2 4 o 0).toNat)] C f_hx_Runs_keep_12_2 rfl ?_
    obtain ⟨c12, h⟩ := igd h
    refine h_if_eq (tgt := 21) C e_hx_Runs_keep_14 (by decide) c12 (fun c13 => ?_) (fun c13 => ?_)
    · have h := ifp c13 h
      refine h_blk 22 [(0, vr 4 o), (1, vi a0), (2, vr 0 a1), (3, vi a2)] [vi 2, vi a0, vr 28 ((q7.2 4 o 0).toNat)] C f_hx_Runs_keep_21_1 rfl ?_
      obtain ⟨c14, h⟩ := igd h
      refine h_iast C e_hx_Runs_keep_22 g11 rfl rfl (by decide) c14.1 c14.2 ?_
      refine h_blk 26 [(0, vr 4 o), (1, vi a0), (2, vr 0 a1), (3, vi a2)] [vr 4 o, vi 0, vr 0 a1] C f_hx_Runs_keep_23_3 rfl ?_
      refine h_getr4 C e_hx_Runs_keep_26 fg_Runs_19 h_o rfl rfl rfl rfl (fun g15 => ?_)
      obtain ⟨q16, e17, h⟩ := obd h
      refine h_callV C Rm Y [vi 0, vr 23 ((q7.2 4 o 2).toNat)] [] (hx_Crowd_spread l D B H0 G _ a1 0 ((q7.2 4 o 2).toNat) h_a1 g15 _ _ e17) cl_Runs_26 h_a1 rfl rfl rfl e_hx_Runs_keep_29 rfl rfl rfl ⟨by decide, by decide⟩ ?_
      rintro _ _ ⟨rfl, rfl⟩
      show HM g D G q q16.2 32 [(0, vr 4 o), (1, vi a0), (2, vr 0 a1), (3, vi a2)] []
      refine h_blk 35 [(4, vi 0), (0, vr 4 o), (1, vi a0), (2, vr 0 a1), (3, vi a2)] [] C f_hx_Runs_keep_32_2 rfl ?_
      refine h_loc [(0, vr 4 o), (1, vi a0), (4, vi 0)] ⟨rfl, rfl, rfl, trivial⟩ ?_
      exact hd_35 _ q16.2 o a0 0 (h_o) h
    · have h := ifn c13 h
      refine h_blk 22 [(0, vr 4 o), (1, vi a0), (2, vr 0 a1), (3, vi a2)] [vi 1, vi a0, vr 28 ((q7.2 4 o 0).toNat)] C f_hx_Runs_keep_17_2 rfl ?_
      obtain ⟨c18, h⟩ := igd h
      refine h_iast C e_hx_Runs_keep_22 g11 rfl rfl (by decide) c18.1 c18.2 ?_
      refine h_blk 26 [(0, vr 4 o), (1, vi a0), (2, vr 0 a1), (3, vi a2)] [vr 4 o, vi 0, vr 0 a1] C f_hx_Runs_keep_23_3 rfl ?_
      refine h_getr4 C e_hx_Runs_keep_26 fg_Runs_19 h_o rfl rfl rfl rfl (fun g19 => ?_)
      obtain ⟨q20, e21, h⟩ := obd h
      refine h_callV C Rm Y [vi 0, vr 23 ((q7.2 4 o 2).toNat)] [] (hx_Crowd_spread l D B H0 G _ a1 0 ((q7.2 4 o 2).toNat) h_a1 g19 _ _ e21) cl_Runs_26 h_a1 rfl rfl rfl e_hx_Runs_keep_29 rfl rfl rfl ⟨by decide, by decide⟩ ?_
      rintro _ _ ⟨rfl, rfl⟩
      show HM g D G q q20.2 32 [(0, vr 4 o), (1, vi a0), (2, vr 0 a1), (3, vi a2)] []
      refine h_blk 35 [(4, vi 0), (0, vr 4 o), (1, vi a0), (2, vr 0 a1), (3, vi a2)] [] C f_hx_Runs_keep_32_2 rfl ?_
      refine h_loc [(0, vr 4 o), (1, vi a0), (4, vi 0)] ⟨rfl, rfl, rfl, trivial⟩ ?_
      exact hd_35 _ q20.2 o a0 0 (h_o) h
  · have h := ifp c10 h
    exact h_vret C Rm E e_hx_Runs_keep_7 (fin0 h)

def f_Walk_giveBack (A : mA) (o : Nat) : Option (Int × mA) := (if g32 ((A 7 o 2) - 1) then (some (0, (mu A 7 o 2 (max 0 ((A 7 o 2) - 1))))) else none)
theorem f_hx_Walk_giveBack_0_3 : mblkB b_Walk_giveBack [(0, .aload_n 0, vi 0), (1, .iconst 0, vi 0), (2, .aload_n 0, vi 0)] = true := by decide +kernel
theorem e_hx_Walk_giveBack_3 : decode b_Walk_giveBack 3 = .ok (.getfield 72, 3) := by decide +kernel
theorem f_hx_Walk_giveBack_6_2 : mblkB b_Walk_giveBack [(6, .iconst 1, vi 1), (7, .isub, vi 0)] = true := by decide +kernel
theorem e_hx_Walk_giveBack_8 : decode b_Walk_giveBack 8 = .ok (.invokestatic 75, 3) := by decide +kernel
theorem e_hx_Walk_giveBack_11 : decode b_Walk_giveBack 11 = .ok (.putfield 72, 3) := by decide +kernel
theorem e_hx_Walk_giveBack_14 : decode b_Walk_giveBack 14 = .ok (.return_, 1) := by decide +kernel
set_option maxHeartbeats 4000000 in
set_option maxRecDepth 20000 in
theorem hx_Walk_giveBack  : ∀ (l : Launch) (D : va_G) (B : Nat) (H0 : Heap) (G : tG) (A : mA) (o : Nat) (h_o : G o = some 7)  (r9 : Int) (A9 : mA), f_Walk_giveBack  A o = some (r9, A9) → hMet l D B H0 G y_Walk_giveBack b_Walk_giveBack 1 none 1 40 [vr 7 o] A (fun v A' => v = none ∧ A' = A9) := by
  intro l D B H0 G A o h_o r9 A9 h
  refine h_met (by decide) rfl (fun g q C Rm Y E => ?_)
  show HM g D G q A 0 [(0, vr 7 o)] []
  unfold f_Walk_giveBack at h
  refine h_blk 3 [(0, vr 7 o)] [vr 7 o, vi 0, vr 7 o] C f_hx_Walk_giveBack_0_3 rfl ?_
  refine h_geti C e_hx_Walk_giveBack_3 fg_Walk_72 h_o rfl rfl rfl (A 7 o 2) rfl ?_
  refine h_blk 8 [(0, vr 7 o)] [vi ((A 7 o 2) - 1), vi 0, vr 7 o] C f_hx_Walk_giveBack_6_2 rfl ?_
  obtain ⟨c1, h⟩ := igd h
  refine h_mmax C Rm cl_Walk_75 e_hx_Walk_giveBack_8 (by decide) (Nat.le_of_ble_eq_true rfl) (by decide) c1 (fun z2 hz2 => ?_)
  obtain rfl : z2 = max 0 ((A 7 o 2) - 1) := by omega
  refine h_puti C e_hx_Walk_giveBack_11 fp_Walk_72 h_o rfl rfl rfl ?_
  exact h_vret C Rm E e_hx_Walk_giveBack_14 (fin0 h)

def f_Walk_walkDraw_30 (c_10 : mA → Nat → Nat → Nat → Nat → Int → Int → Option (Int × mA)) : Nat → mA → Nat → Nat → Nat → Nat → Int → Int → Int → Option (Int × mA)
  | 0, _, _, _, _, _, _, _, _ => none
  | n + 1, A, b0, b1, b2, b3, b4, b5, b6 => (if g32 b6 then if g32 (A 6 b2 2) then (if (A 6 b2 2) ≤ b6 then (c_10 A b0 b1 b2 b3 b4 (b5 + 1)) else (if 8 ≤ b6 then (c_10 A b0 b1 b2 b3 b4 (b5 + 1)) else (if (0 ≤ b5 ∧ b5 < ((300 : Nat) : Int)) then (Option.bind (f_Prog_lotValue A b1 b2 b6) (fun q7 => (Option.bind (f_CS_withDigit q7.2 (A 31 ((A 0 b3 0).toNat) b5.toNat) (A 6 b2 1) q7.1) (fun q9 => (Option.bind (f_Prog_lotWeight q9.2 b1 b2 b6) (fun q12 => (if g32 q12.1 then (Option.bind (f_Mixer_put q12.2 ((q12.2 7 b0 0).toNat) (iAnd q9.1 b4) (lShr ((q9.2 32 ((q9.2 0 b3 1).toNat) b5.toNat) * q12.1) (q12.2 6 b2 7))) (fun q16 => (if g32 q16.1 then (if q16.1 = 0 then (some (0, q16.2)) else (f_Walk_walkDraw_30  c_10 n q16.2 b0 b1 b2 b3 b4 b5 (b6 + 1))) else none))) else none))))))) else none))) else none else none)
def f_Walk_walkDraw_10 : Nat → mA → Nat → Nat → Nat → Nat → Int → Int → Option (Int × mA)
  | 0, _, _, _, _, _, _, _ => none
  | n + 1, A, b0, b1, b2, b3, b4, b5 => (if g32 b5 then if g32 (A 0 b3 2) then (if (A 0 b3 2) ≤ b5 then (Option.bind (f_Mixer_pourInto A ((A 7 b0 0).toNat) b3) (fun q24 => (some (1, q24.2)))) else (if 300 ≤ b5 then (Option.bind (f_Mixer_pourInto A ((A 7 b0 0).toNat) b3) (fun q28 => (some (1, q28.2)))) else (f_Walk_walkDraw_30  (f_Walk_walkDraw_10   n) 400 A b0 b1 b2 b3 b4 b5 0))) else none else none)
def f_Walk_walkDraw (A : mA) (o : Nat) (a0 : Nat) (a1 : Nat) (a2 : Nat) (a3 : Int) : Option (Int × mA) := (Option.bind (f_Mixer_clear A ((A 7 o 0).toNat)) (fun q31 => (f_Walk_walkDraw_10  400 q31.2 o a0 a1 a2 a3 0)))
theorem f_hx_Walk_walkDraw_0_1 : mblkB b_Walk_walkDraw [(0, .aload_n 0, vi 0)] = true := by decide +kernel
theorem e_hx_Walk_walkDraw_1 : decode b_Walk_walkDraw 1 = .ok (.getfield 12, 3) := by decide +kernel
theorem e_hx_Walk_walkDraw_4 : decode b_Walk_walkDraw 4 = .ok (.invokevirtual 117, 3) := by decide +kernel
theorem f_hx_Walk_walkDraw_7_2 : mblkB b_Walk_walkDraw [(7, .iconst 0, vi 0), (8, .istore 5, vi 0)] = true := by decide +kernel
theorem f_hx_Walk_walkDraw_10_2 : mblkB b_Walk_walkDraw [(10, .iload 5, vi 0), (12, .aload_n 3, vi 0)] = true := by decide +kernel
theorem e_hx_Walk_walkDraw_13 : decode b_Walk_walkDraw 13 = .ok (.getfield 120, 3) := by decide +kernel
theorem e_hx_Walk_walkDraw_16 : decode b_Walk_walkDraw 16 = .ok (.if_icmp .ge 107, 3) := by decide +kernel
theorem f_hx_Walk_walkDraw_123_1 : mblkB b_Walk_walkDraw [(123, .aload_n 0, vi 0)] = true := by decide +kernel
theorem e_hx_Walk_walkDraw_124 : decode b_Walk_walkDraw 124 = .ok (.getfield 12, 3) := by decide +kernel
theorem f_hx_Walk_walkDraw_127_1 : mblkB b_Walk_walkDraw [(127, .aload_n 3, vi 0)] = true := by decide +kernel
theorem e_hx_Walk_walkDraw_128 : decode b_Walk_walkDraw 128 = .ok (.invokevirtual 152, 3) := by decide +kernel
theorem f_hx_Walk_walkDraw_131_1 : mblkB b_Walk_walkDraw [(131, .iconst 1, vi 1)] = true := by decide +kernel
theorem e_hx_Walk_walkDraw_132 : decode b_Walk_walkDraw 132 = .ok (.ireturn, 1) := by decide +kernel
theorem f_hx_Walk_walkDraw_19_2 : mblkB b_Walk_walkDraw [(19, .iload 5, vi 0), (21, .sipush 300, vi 300)] = true := by decide +kernel
theorem e_hx_Walk_walkDraw_24 : decode b_Walk_walkDraw 24 = .ok (.if_icmp .ge 99, 3) := by decide +kernel
theorem f_hx_Walk_walkDraw_27_2 : mblkB b_Walk_walkDraw [(27, .iconst 0, vi 0), (28, .istore 6, vi 0)] = true := by decide +kernel
theorem f_hx_Walk_walkDraw_30_2 : mblkB b_Walk_walkDraw [(30, .iload 6, vi 0), (32, .aload_n 2, vi 0)] = true := by decide +kernel
theorem e_hx_Walk_walkDraw_33 : decode b_Walk_walkDraw 33 = .ok (.getfield 121, 3) := by decide +kernel
theorem e_hx_Walk_walkDraw_36 : decode b_Walk_walkDraw 36 = .ok (.if_icmp .ge 81, 3) := by decide +kernel
theorem f_hx_Walk_walkDraw_117_2 : mblkB b_Walk_walkDraw [(117, .iinc 5 1, vi 1), (120, .goto (-110), vi 10)] = true := by decide +kernel
theorem f_hx_Walk_walkDraw_39_2 : mblkB b_Walk_walkDraw [(39, .iload 6, vi 0), (41, .bipush 8, vi 8)] = true := by decide +kernel
theorem e_hx_Walk_walkDraw_43 : decode b_Walk_walkDraw 43 = .ok (.if_icmp .ge 74, 3) := by decide +kernel
theorem f_hx_Walk_walkDraw_46_1 : mblkB b_Walk_walkDraw [(46, .aload_n 3, vi 0)] = true := by decide +kernel
theorem e_hx_Walk_walkDraw_47 : decode b_Walk_walkDraw 47 = .ok (.getfield 124, 3) := by decide +kernel
theorem f_hx_Walk_walkDraw_50_1 : mblkB b_Walk_walkDraw [(50, .iload 5, vi 0)] = true := by decide +kernel
theorem e_hx_Walk_walkDraw_52 : decode b_Walk_walkDraw 52 = .ok (.iaload, 1) := by decide +kernel
theorem f_hx_Walk_walkDraw_53_1 : mblkB b_Walk_walkDraw [(53, .aload_n 2, vi 0)] = true := by decide +kernel
theorem e_hx_Walk_walkDraw_54 : decode b_Walk_walkDraw 54 = .ok (.getfield 128, 3) := by decide +kernel
theorem f_hx_Walk_walkDraw_57_3 : mblkB b_Walk_walkDraw [(57, .aload_n 1, vi 0), (58, .aload_n 2, vi 0), (59, .iload 6, vi 0)] = true := by decide +kernel
theorem e_hx_Walk_walkDraw_61 : decode b_Walk_walkDraw 61 = .ok (.invokevirtual 131, 3) := by decide +kernel
theorem e_hx_Walk_walkDraw_64 : decode b_Walk_walkDraw 64 = .ok (.invokestatic 135, 3) := by decide +kernel
theorem f_hx_Walk_walkDraw_67_2 : mblkB b_Walk_walkDraw [(67, .istore 7, vi 0), (69, .aload_n 3, vi 0)] = true := by decide +kernel
theorem e_hx_Walk_walkDraw_70 : decode b_Walk_walkDraw 70 = .ok (.getfield 138, 3) := by decide +kernel
theorem f_hx_Walk_walkDraw_73_1 : mblkB b_Walk_walkDraw [(73, .iload 5, vi 0)] = true := by decide +kernel
theorem e_hx_Walk_walkDraw_75 : decode b_Walk_walkDraw 75 = .ok (.laload, 1) := by decide +kernel
theorem f_hx_Walk_walkDraw_76_3 : mblkB b_Walk_walkDraw [(76, .aload_n 1, vi 0), (77, .aload_n 2, vi 0), (78, .iload 6, vi 0)] = true := by decide +kernel
theorem e_hx_Walk_walkDraw_80 : decode b_Walk_walkDraw 80 = .ok (.invokevirtual 142, 3) := by decide +kernel
theorem e_hx_Walk_walkDraw_83 : decode b_Walk_walkDraw 83 = .ok (.i2l, 1) := by decide +kernel
theorem f_hx_Walk_walkDraw_84_2 : mblkB b_Walk_walkDraw [(84, .lmul, vi 0), (85, .aload_n 2, vi 0)] = true := by decide +kernel
theorem e_hx_Walk_walkDraw_86 : decode b_Walk_walkDraw 86 = .ok (.getfield 145, 3) := by decide +kernel
theorem f_hx_Walk_walkDraw_89_3 : mblkB b_Walk_walkDraw [(89, .lshr, vi 0), (90, .lstore 8, vi 0), (92, .aload_n 0, vi 0)] = true := by decide +kernel
theorem e_hx_Walk_walkDraw_93 : decode b_Walk_walkDraw 93 = .ok (.getfield 12, 3) := by decide +kernel
theorem f_hx_Walk_walkDraw_96_4 : mblkB b_Walk_walkDraw [(96, .iload 7, vi 0), (98, .iload 4, vi 0), (100, .iand, vi 0), (101, .lload 8, vi 0)] = true := by decide +kernel
theorem e_hx_Walk_walkDraw_103 : decode b_Walk_walkDraw 103 = .ok (.invokevirtual 148, 3) := by decide +kernel
theorem e_hx_Walk_walkDraw_106 : decode b_Walk_walkDraw 106 = .ok (.ifCond .ne 5, 3) := by decide +kernel
theorem f_hx_Walk_walkDraw_111_2 : mblkB b_Walk_walkDraw [(111, .iinc 6 1, vi 1), (114, .goto (-84), vi 30)] = true := by decide +kernel
theorem f_hx_Walk_walkDraw_109_1 : mblkB b_Walk_walkDraw [(109, .iconst 0, vi 0)] = true := by decide +kernel
theorem e_hx_Walk_walkDraw_110 : decode b_Walk_walkDraw 110 = .ok (.ireturn, 1) := by decide +kernel
set_option maxHeartbeats 4000000 in
set_option maxRecDepth 20000 in
theorem hx_Walk_walkDraw  : ∀ (l : Launch) (D : va_G) (B : Nat) (H0 : Heap) (G : tG) (A : mA) (o : Nat) (a0 : Nat) (a1 : Nat) (a2 : Nat) (a3 : Int) (h_o : G o = some 7) (h_a0 : G a0 = some 2) (h_a1 : G a1 = some 6) (h_a2 : G a2 = some 0)  (r9 : Int) (A9 : mA), f_Walk_walkDraw  A o a0 a1 a2 a3 = some (r9, A9) → hMet l D B H0 G y_Walk_walkDraw b_Walk_walkDraw 10 (some .boolean) 2 63 [vr 7 o, vr 2 a0, vr 6 a1, vr 0 a2, vi a3] A (fun v A' => v = some (vi r9) ∧ A' = A9) := by
  intro l D B H0 G A o a0 a1 a2 a3 h_o h_a0 h_a1 h_a2 r9 A9 h
  refine h_met (by decide) rfl (fun g q C Rm Y E => ?_)
  have hd_30 : ∀ (c_10 : mA → Nat → Nat → Nat → Nat → Int → Int → Option (Int × mA)) (hc_10 : ∀ (A : mA) (b0 : Nat) (b1 : Nat) (b2 : Nat) (b3 : Nat) (b4 : Int) (b5 : Int) , G b0 = some 7 → G b1 = some 2 → G b2 = some 6 → G b3 = some 0 → c_10 A b0 b1 b2 b3 b4 b5 = some (r9, A9) → HM g D G q A 10 [(0, vr 7 b0), (1, vr 2 b1), (2, vr 6 b2), (3, vr 0 b3), (4, vi b4), (5, vi b5)] []) (n : Nat) (A : mA) (b0 : Nat) (b1 : Nat) (b2 : Nat) (b3 : Nat) (b4 : Int) (b5 : Int) (b6 : Int) , G b0 = some 7 → G b1 = some 2 → G b2 = some 6 → G b3 = some 0 → f_Walk_walkDraw_30  c_10 n A b0 b1 b2 b3 b4 b5 b6 = some (r9, A9) → HM g D G q A 30 [(0, vr 7 b0), (1, vr 2 b1), (2, vr 6 b2), (3, vr 0 b3), (4, vi b4), (5, vi b5), (6, vi b6)] [] := by
    intro c_10 hc_10 n
    induction n with
    | zero => intro A b0 b1 b2 b3 b4 b5 b6 h_b0 h_b1 h_b2 h_b3 h; cases h
    | succ n ih =>
      intro A b0 b1 b2 b3 b4 b5 b6 h_b0 h_b1 h_b2 h_b3 h
      unfold f_Walk_walkDraw_30 at h
      refine h_blk 33 [(0, vr 7 b0), (1, vr 2 b1), (2, vr 6 b2), (3, vr 0 b3), (4, vi b4), (5, vi b5), (6, vi b6)] [vr 6 b2, vi b6] C f_hx_Walk_walkDraw_30_2 rfl ?_
      refine h_geti C e_hx_Walk_walkDraw_33 fg_Walk_121 h_b2 rfl rfl rfl (A 6 b2 2) rfl ?_
      obtain ⟨c1, h⟩ := igd h
      obtain ⟨c2, h⟩ := igd h
      refine h_icmp_ge (tgt := 117) C e_hx_Walk_walkDraw_36 (by decide) c1 c2 (fun c3 => ?_) (fun c3 => ?_)
      · have h := ifp c3 h
        refine h_blk 10 [(5, vi (b5 + 1)), (0, vr 7 b0), (1, vr 2 b1), (2, vr 6 b2), (3, vr 0 b3), (4, vi b4), (6, vi b6)] [] C f_hx_Walk_walkDraw_117_2 rfl ?_
        refine h_loc [(0, vr 7 b0), (1, vr 2 b1), (2, vr 6 b2), (3, vr 0 b3), (4, vi b4), (5, vi (b5 + 1))] ⟨rfl, rfl, rfl, rfl, rfl, rfl, trivial⟩ ?_
        exact hc_10 A b0 b1 b2 b3 b4 (b5 + 1) (h_b0) (h_b1) (h_b2) (h_b3) h
      · have h := ifn c3 h
        refine h_blk 43 [(0, vr 7 b0), (1, vr 2 b1), (2, vr 6 b2), (3, vr 0 b3), (4, vi b4), (5, vi b5), (6, vi b6)] [vi 8, vi b6] C f_hx_Walk_walkDraw_39_2 rfl ?_
        refine h_icmp_ge (tgt := 117) C e_hx_Walk_walkDraw_43 (by decide) c1 (by decide) (fun c4 => ?_) (fun c4 => ?_)
        · have h := ifp c4 h
          refine h_blk 10 [(5, vi (b5 + 1)), (0, vr 7 b0), (1, vr 2 b1), (2, vr 6 b2), (3, vr 0 b3), (4, vi b4), (6, vi b6)] [] C f_hx_Walk_walkDraw_117_2 rfl ?_
          refine h_loc [(0, vr 7 b0), (1, vr 2 b1), (2, vr 6 b2), (3, vr 0 b3), (4, vi b4), (5, vi (b5 + 1))] ⟨rfl, rfl, rfl, rfl, rfl, rfl, trivial⟩ ?_
          exact hc_10 A b0 b1 b2 b3 b4 (b5 + 1) (h_b0) (h_b1) (h_b2) (h_b3) h
        · have h := ifn c4 h
          refine h_blk 47 [(0, vr 7 b0), (1, vr 2 b1), (2, vr 6 b2), (3, vr 0 b3), (4, vi b4), (5, vi b5), (6, vi b6)] [vr 0 b3] C f_hx_Walk_walkDraw_46_1 rfl ?_
          refine h_getr4 C e_hx_Walk_walkDraw_47 fg_Walk_124 h_b3 rfl rfl rfl rfl (fun g5 => ?_)
          refine h_blk 52 [(0, vr 7 b0), (1, vr 2 b1), (2, vr 6 b2), (3, vr 0 b3), (4, vi b4), (5, vi b5), (6, vi b6)] [vi b5, vr 31 ((A 0 b3 0).toNat)] C f_hx_Walk_walkDraw_50_1 rfl ?_
          obtain ⟨c6, h⟩ := igd h
          refine h_iald C e_hx_Walk_walkDraw_52 g5 rfl rfl (by decide) c6.1 c6.2 (A 31 ((A 0 b3 0).toNat) b5.toNat) rfl ?_
          refine h_blk 54 [(0, vr 7 b0), (1, vr 2 b1), (2, vr 6 b2), (3, vr 0 b3), (4, vi b4), (5, vi b5), (6, vi b6)] [vr 6 b2, vi (A 31 ((A 0 b3 0).toNat) b5.toNat)] C f_hx_Walk_walkDraw_53_1 rfl ?_
          refine h_geti C e_hx_Walk_walkDraw_54 fg_Walk_128 h_b2 rfl rfl rfl (A 6 b2 1) rfl ?_
          refine h_blk 61 [(0, vr 7 b0), (1, vr 2 b1), (2, vr 6 b2), (3, vr 0 b3), (4, vi b4), (5, vi b5), (6, vi b6)] [vi b6, vr 6 b2, vr 2 b1, vi (A 6 b2 1), vi (A 31 ((A 0 b3 0).toNat) b5.toNat)] C f_hx_Walk_walkDraw_57_3 rfl ?_
          obtain ⟨q7, e8, h⟩ := obd h
          refine h_callV C Rm Y [vr 6 b2, vi b6] [vi (A 6 b2 1), vi (A 31 ((A 0 b3 0).toNat) b5.toNat)] (hx_Prog_lotValue l D B H0 G _ b1 b2 b6 h_b1 h_b2 _ _ e8) cl_Walk_131 h_b1 rfl rfl rfl e_hx_Walk_walkDraw_61 rfl rfl rfl ⟨by decide, by decide⟩ ?_
          rintro _ _ ⟨rfl, rfl⟩
          show HM g D G q q7.2 64 [(0, vr 7 b0), (1, vr 2 b1), (2, vr 6 b2), (3, vr 0 b3), (4, vi b4), (5, vi b5), (6, vi b6)] [vi q7.1, vi (A 6 b2 1), vi (A 31 ((A 0 b3 0).toNat) b5.toNat)]
          obtain ⟨q9, e10, h⟩ := obd h
          refine h_callSn C Rm Y [vi (A 31 ((A 0 b3 0).toNat) b5.toNat), vi (A 6 b2 1), vi q7.1] [] (hx_CS_withDigit l D B H0 G _ (A 31 ((A 0 b3 0).toNat) b5.toNat) (A 6 b2 1) q7.1 _ _ e10) cl_Walk_135 e_hx_Walk_walkDraw_64 rfl rfl rfl ⟨by decide, by decide⟩ ?_
          rintro _ _ ⟨rfl, rfl⟩
          show HM g D G q q9.2 67 [(0, vr 7 b0), (1, vr 2 b1), (2, vr 6 b2), (3, vr 0 b3), (4, vi b4), (5, vi b5), (6, vi b6)] [vi q9.1]
          refine h_blk 70 [(7, vi q9.1), (0, vr 7 b0), (1, vr 2 b1), (2, vr 6 b2), (3, vr 0 b3), (4, vi b4), (5, vi b5), (6, vi b6)] [vr 0 b3] C f_hx_Walk_walkDraw_67_2 rfl ?_
          refine h_getr4 C e_hx_Walk_walkDraw_70 fg_Walk_138 h_b3 rfl rfl rfl rfl (fun g11 => ?_)
          refine h_blk 75 [(7, vi q9.1), (0, vr 7 b0), (1, vr 2 b1), (2, vr 6 b2), (3, vr 0 b3), (4, vi b4), (5, vi b5), (6, vi b6)] [vi b5, vr 32 ((q9.2 0 b3 1).toNat)] C f_hx_Walk_walkDraw_73_1 rfl ?_
          refine h_lald C e_hx_Walk_walkDraw_75 g11 rfl rfl (by decide) c6.1 c6.2 (q9.2 32 ((q9.2 0 b3 1).toNat) b5.toNat) rfl ?_
          refine h_blk 80 [(7, vi q9.1), (0, vr 7 b0), (1, vr 2 b1), (2, vr 6 b2), (3, vr 0 b3), (4, vi b4), (5, vi b5), (6, vi b6)] [vi b6, vr 6 b2, vr 2 b1, vl (q9.2 32 ((q9.2 0 b3 1).toNat) b5.toNat)] C f_hx_Walk_walkDraw_76_3 rfl ?_
          obtain ⟨q12, e13, h⟩ := obd h
          refine h_callV C Rm Y [vr 6 b2, vi b6] [vl (q9.2 32 ((q9.2 0 b3 1).toNat) b5.toNat)] (hx_Prog_lotWeight l D B H0 G _ b1 b2 b6 h_b1 h_b2 _ _ e13) cl_Walk_142 h_b1 rfl rfl rfl e_hx_Walk_walkDraw_80 rfl rfl rfl ⟨by decide, by decide⟩ ?_
          rintro _ _ ⟨rfl, rfl⟩
          show HM g D G q q12.2 83 [(7, vi q9.1), (0, vr 7 b0), (1, vr 2 b1), (2, vr 6 b2), (3, vr 0 b3), (4, vi b4), (5, vi b5), (6, vi b6)] [vi q12.1, vl (q9.2 32 ((q9.2 0 b3 1).toNat) b5.toNat)]
          obtain ⟨c14, h⟩ := igd h
          refine h_i2l C e_hx_Walk_walkDraw_83 c14 ?_
          refine h_blk 86 [(7, vi q9.1), (0, vr 7 b0), (1, vr 2 b1), (2, vr 6 b2), (3, vr 0 b3), (4, vi b4), (5, vi b5), (6, vi b6)] [vr 6 b2, vl ((q9.2 32 ((q9.2 0 b3 1).toNat) b5.toNat) * q12.1)] C f_hx_Walk_walkDraw_84_2 rfl ?_
          refine h_geti C e_hx_Walk_walkDraw_86 fg_Walk_145 h_b2 rfl rfl rfl (q12.2 6 b2 7) rfl ?_
          refine h_blk 93 [(8, vl (lShr ((q9.2 32 ((q9.2 0 b3 1).toNat) b5.toNat) * q12.1) (q12.2 6 b2 7))), (7, vi q9.1), (0, vr 7 b0), (1, vr 2 b1), (2, vr 6 b2), (3, vr 0 b3), (4, vi b4), (5, vi b5), (6, vi b6)] [vr 7 b0] C f_hx_Walk_walkDraw_89_3 rfl ?_
          refine h_getr4 C e_hx_Walk_walkDraw_93 fg_Walk_12 h_b0 rfl rfl rfl rfl (fun g15 => ?_)
          refine h_blk 103 [(8, vl (lShr ((q9.2 32 ((q9.2 0 b3 1).toNat) b5.toNat) * q12.1) (q12.2 6 b2 7))), (7, vi q9.1), (0, vr 7 b0), (1, vr 2 b1), (2, vr 6 b2), (3, vr 0 b3), (4, vi b4), (5, vi b5), (6, vi b6)] [vl (lShr ((q9.2 32 ((q9.2 0 b3 1).toNat) b5.toNat) * q12.1) (q12.2 6 b2 7)), vi (iAnd q9.1 b4), vr 1 ((q12.2 7 b0 0).toNat)] C f_hx_Walk_walkDraw_96_4 rfl ?_
          obtain ⟨q16, e17, h⟩ := obd h
          refine h_callV C Rm Y [vi (iAnd q9.1 b4), vl (lShr ((q9.2 32 ((q9.2 0 b3 1).toNat) b5.toNat) * q12.1) (q12.2 6 b2 7))] [] (hx_Mixer_put l D B H0 G _ ((q12.2 7 b0 0).toNat) (iAnd q9.1 b4) (lShr ((q9.2 32 ((q9.2 0 b3 1).toNat) b5.toNat) * q12.1) (q12.2 6 b2 7)) g15 _ _ e17) cl_Walk_148 g15 rfl rfl rfl e_hx_Walk_walkDraw_103 rfl rfl rfl ⟨by decide, by decide⟩ ?_
          rintro _ _ ⟨rfl, rfl⟩
          show HM g D G q q16.2 106 [(8, vl (lShr ((q9.2 32 ((q9.2 0 b3 1).toNat) b5.toNat) * q12.1) (q12.2 6 b2 7))), (7, vi q9.1), (0, vr 7 b0), (1, vr 2 b1), (2, vr 6 b2), (3, vr 0 b3), (4, vi b4), (5, vi b5), (6, vi b6)] [vi q16.1]
          obtain ⟨c18, h⟩ := igd h
          refine h_if_ne (tgt := 111) C e_hx_Walk_walkDraw_106 (by decide) c18 (fun c19 => ?_) (fun c19 => ?_)
          · have h := ifn c19 h
            refine h_blk 30 [(6, vi (b6 + 1)), (8, vl (lShr ((q9.2 32 ((q9.2 0 b3 1).toNat) b5.toNat) * q12.1) (q12.2 6 b2 7))), (7, vi q9.1), (0, vr 7 b0), (1, vr 2 b1), (2, vr 6 b2), (3, vr 0 b3), (4, vi b4), (5, vi b5)] [] C f_hx_Walk_walkDraw_111_2 rfl ?_
            refine h_loc [(0, vr 7 b0), (1, vr 2 b1), (2, vr 6 b2), (3, vr 0 b3), (4, vi b4), (5, vi b5), (6, vi (b6 + 1))] ⟨rfl, rfl, rfl, rfl, rfl, rfl, rfl, trivial⟩ ?_
            exact ih q16.2 b0 b1 b2 b3 b4 b5 (b6 + 1) (h_b0) (h_b1) (h_b2) (h_b3) h
          · have h := ifp c19 h
            refine h_blk 110 [(8, vl (lShr ((q9.2 32 ((q9.2 0 b3 1).toNat) b5.toNat) * q12.1) (q12.2 6 b2 7))), (7, vi q9.1), (0, vr 7 b0), (1, vr 2 b1), (2, vr 6 b2), (3, vr 0 b3), (4, vi b4), (5, vi b5), (6, vi b6)] [vi 0] C f_hx_Walk_walkDraw_109_1 rfl ?_
            exact h_zret C Rm E (Or.inl rfl) e_hx_Walk_walkDraw_110 (fin1 h)
  have hd_10 : ∀ (n : Nat) (A : mA) (b0 : Nat) (b1 : Nat) (b2 : Nat) (b3 : Nat) (b4 : Int) (b5 : Int) , G b0 = some 7 → G b1 = some 2 → G b2 = some 6 → G b3 = some 0 → f_Walk_walkDraw_10   n A b0 b1 b2 b3 b4 b5 = some (r9, A9) → HM g D G q A 10 [(0, vr 7 b0), (1, vr 2 b1), (2, vr 6 b2), (3, vr 0 b3), (4, vi b4), (5, vi b5)] [] := by
    intro  n
    induction n with
    | zero => intro A b0 b1 b2 b3 b4 b5 h_b0 h_b1 h_b2 h_b3 h; cases h
    | succ n ih =>
      intro A b0 b1 b2 b3 b4 b5 h_b0 h_b1 h_b2 h_b3 h
      unfold f_Walk_walkDraw_10 at h
      refine h_blk 13 [(0, vr 7 b0), (1, vr 2 b1), (2, vr 6 b2), (3, vr 0 b3), (4, vi b4), (5, vi b5)] [vr 0 b3, vi b5] C f_hx_Walk_walkDraw_10_2 rfl ?_
      refine h_geti C e_hx_Walk_walkDraw_13 fg_Walk_120 h_b3 rfl rfl rfl (A 0 b3 2) rfl ?_
      obtain ⟨c20, h⟩ := igd h
      obtain ⟨c21, h⟩ := igd h
      refine h_icmp_ge (tgt := 123) C e_hx_Walk_walkDraw_16 (by decide) c20 c21 (fun c22 => ?_) (fun c22 => ?_)
      · have h := ifp c22 h
        refine h_blk 124 [(0, vr 7 b0), (1, vr 2 b1), (2, vr 6 b2), (3, vr 0 b3), (4, vi b4), (5, vi b5)] [vr 7 b0] C f_hx_Walk_walkDraw_123_1 rfl ?_
        refine h_getr4 C e_hx_Walk_walkDraw_124 fg_Walk_12 h_b0 rfl rfl rfl rfl (fun g23 => ?_)
        refine h_blk 128 [(0, vr 7 b0), (1, vr 2 b1), (2, vr 6 b2), (3, vr 0 b3), (4, vi b4), (5, vi b5)] [vr 0 b3, vr 1 ((A 7 b0 0).toNat)] C f_hx_Walk_walkDraw_127_1 rfl ?_
        obtain ⟨q24, e25, h⟩ := obd h
        refine h_callV C Rm Y [vr 0 b3] [] (hx_Mixer_pourInto l D B H0 G _ ((A 7 b0 0).toNat) b3 g23 h_b3 _ _ e25) cl_Walk_152 g23 rfl rfl rfl e_hx_Walk_walkDraw_128 rfl rfl rfl ⟨by decide, by decide⟩ ?_
        rintro _ _ ⟨rfl, rfl⟩
        show HM g D G q q24.2 131 [(0, vr 7 b0), (1, vr 2 b1), (2, vr 6 b2), (3, vr 0 b3), (4, vi b4), (5, vi b5)] []
        refine h_blk 132 [(0, vr 7 b0), (1, vr 2 b1), (2, vr 6 b2), (3, vr 0 b3), (4, vi b4), (5, vi b5)] [vi 1] C f_hx_Walk_walkDraw_131_1 rfl ?_
        exact h_zret C Rm E (Or.inr rfl) e_hx_Walk_walkDraw_132 (fin1 h)
      · have h := ifn c22 h
        refine h_blk 24 [(0, vr 7 b0), (1, vr 2 b1), (2, vr 6 b2), (3, vr 0 b3), (4, vi b4), (5, vi b5)] [vi 300, vi b5] C f_hx_Walk_walkDraw_19_2 rfl ?_
        refine h_icmp_ge (tgt := 123) C e_hx_Walk_walkDraw_24 (by decide) c20 (by decide) (fun c26 => ?_) (fun c26 => ?_)
        · have h := ifp c26 h
          refine h_blk 124 [(0, vr 7 b0), (1, vr 2 b1), (2, vr 6 b2), (3, vr 0 b3), (4, vi b4), (5, vi b5)] [vr 7 b0] C f_hx_Walk_walkDraw_123_1 rfl ?_
          refine h_getr4 C e_hx_Walk_walkDraw_124 fg_Walk_12 h_b0 rfl rfl rfl rfl (fun g27 => ?_)
          refine h_blk 128 [(0, vr 7 b0), (1, vr 2 b1), (2, vr 6 b2), (3, vr 0 b3), (4, vi b4), (5, vi b5)] [vr 0 b3, vr 1 ((A 7 b0 0).toNat)] C f_hx_Walk_walkDraw_127_1 rfl ?_
          obtain ⟨q28, e29, h⟩ := obd h
          refine h_callV C Rm Y [vr 0 b3] [] (hx_Mixer_pourInto l D B H0 G _ ((A 7 b0 0).toNat) b3 g27 h_b3 _ _ e29) cl_Walk_152 g27 rfl rfl rfl e_hx_Walk_walkDraw_128 rfl rfl rfl ⟨by decide, by decide⟩ ?_
          rintro _ _ ⟨rfl, rfl⟩
          show HM g D G q q28.2 131 [(0, vr 7 b0), (1, vr 2 b1), (2, vr 6 b2), (3, vr 0 b3), (4, vi b4), (5, vi b5)] []
          refine h_blk 132 [(0, vr 7 b0), (1, vr 2 b1), (2, vr 6 b2), (3, vr 0 b3), (4, vi b4), (5, vi b5)] [vi 1] C f_hx_Walk_walkDraw_131_1 rfl ?_
          exact h_zret C Rm E (Or.inr rfl) e_hx_Walk_walkDraw_132 (fin1 h)
        · have h := ifn c26 h
          refine h_blk 30 [(6, vi 0), (0, vr 7 b0), (1, vr 2 b1), (2, vr 6 b2), (3, vr 0 b3), (4, vi b4), (5, vi b5)] [] C f_hx_Walk_walkDraw_27_2 rfl ?_
          refine h_loc [(0, vr 7 b0), (1, vr 2 b1), (2, vr 6 b2), (3, vr 0 b3), (4, vi b4), (5, vi b5), (6, vi 0)] ⟨rfl, rfl, rfl, rfl, rfl, rfl, rfl, trivial⟩ ?_
          exact hd_30 (f_Walk_walkDraw_10   n) ih _ A b0 b1 b2 b3 b4 b5 0 (h_b0) (h_b1) (h_b2) (h_b3) h
  show HM g D G q A 0 [(0, vr 7 o), (1, vr 2 a0), (2, vr 6 a1), (3, vr 0 a2), (4, vi a3)] []
  unfold f_Walk_walkDraw at h
  refine h_blk 1 [(0, vr 7 o), (1, vr 2 a0), (2, vr 6 a1), (3, vr 0 a2), (4, vi a3)] [vr 7 o] C f_hx_Walk_walkDraw_0_1 rfl ?_
  refine h_getr4 C e_hx_Walk_walkDraw_1 fg_Walk_12 h_o rfl rfl rfl rfl (fun g30 => ?_)
  obtain ⟨q31, e32, h⟩ := obd h
  refine h_callV C Rm Y [] [] (hx_Mixer_clear l D B H0 G _ ((A 7 o 0).toNat) g30 _ _ e32) cl_Walk_117 g30 rfl rfl rfl e_hx_Walk_walkDraw_4 rfl rfl rfl ⟨by decide, by decide⟩ ?_
  rintro _ _ ⟨rfl, rfl⟩
  show HM g D G q q31.2 7 [(0, vr 7 o), (1, vr 2 a0), (2, vr 6 a1), (3, vr 0 a2), (4, vi a3)] []
  refine h_blk 10 [(5, vi 0), (0, vr 7 o), (1, vr 2 a0), (2, vr 6 a1), (3, vr 0 a2), (4, vi a3)] [] C f_hx_Walk_walkDraw_7_2 rfl ?_
  refine h_loc [(0, vr 7 o), (1, vr 2 a0), (2, vr 6 a1), (3, vr 0 a2), (4, vi a3), (5, vi 0)] ⟨rfl, rfl, rfl, rfl, rfl, rfl, trivial⟩ ?_
  exact hd_10 _ q31.2 o a0 a1 a2 a3 0 (h_o) (h_a0) (h_a1) (h_a2) h

def f_Walk_walkLet_10 : Nat → mA → Nat → Nat → Nat → Nat → Int → Int → Option (Int × mA)
  | 0, _, _, _, _, _, _, _ => none
  | n + 1, A, b0, b1, b2, b3, b4, b5 => (if g32 b5 then if g32 (A 0 b3 2) then (if (A 0 b3 2) ≤ b5 then (Option.bind (f_Mixer_pourInto A ((A 7 b0 0).toNat) b3) (fun q5 => (some (1, q5.2)))) else (if 300 ≤ b5 then (Option.bind (f_Mixer_pourInto A ((A 7 b0 0).toNat) b3) (fun q9 => (some (1, q9.2)))) else (if (0 ≤ b5 ∧ b5 < ((300 : Nat) : Int)) then (Option.bind (f_Prog_digitOf A b1 b2 (A 31 ((A 0 b3 0).toNat) b5.toNat)) (fun q14 => (Option.bind (f_CS_withDigit q14.2 (A 31 ((A 0 b3 0).toNat) b5.toNat) (A 6 b2 1) q14.1) (fun q16 => (Option.bind (f_Mixer_put q16.2 ((A 7 b0 0).toNat) (iAnd q16.1 b4) (q16.2 32 ((q16.2 0 b3 1).toNat) b5.toNat)) (fun q19 => (if g32 q19.1 then (if q19.1 = 0 then (some (0, q19.2)) else (f_Walk_walkLet_10  n q19.2 b0 b1 b2 b3 b4 (b5 + 1))) else none))))))) else none))) else none else none)
def f_Walk_walkLet (A : mA) (o : Nat) (a0 : Nat) (a1 : Nat) (a2 : Nat) (a3 : Int) : Option (Int × mA) := (Option.bind (f_Mixer_clear A ((A 7 o 0).toNat)) (fun q24 => (f_Walk_walkLet_10  400 q24.2 o a0 a1 a2 a3 0)))
theorem f_hx_Walk_walkLet_0_1 : mblkB b_Walk_walkLet [(0, .aload_n 0, vi 0)] = true := by decide +kernel
theorem e_hx_Walk_walkLet_1 : decode b_Walk_walkLet 1 = .ok (.getfield 12, 3) := by decide +kernel
theorem e_hx_Walk_walkLet_4 : decode b_Walk_walkLet 4 = .ok (.invokevirtual 117, 3) := by decide +kernel
theorem f_hx_Walk_walkLet_7_2 : mblkB b_Walk_walkLet [(7, .iconst 0, vi 0), (8, .istore 5, vi 0)] = true := by decide +kernel
theorem f_hx_Walk_walkLet_10_2 : mblkB b_Walk_walkLet [(10, .iload 5, vi 0), (12, .aload_n 3, vi 0)] = true := by decide +kernel
theorem e_hx_Walk_walkLet_13 : decode b_Walk_walkLet 13 = .ok (.getfield 120, 3) := by decide +kernel
theorem e_hx_Walk_walkLet_16 : decode b_Walk_walkLet 16 = .ok (.if_icmp .ge 64, 3) := by decide +kernel
theorem f_hx_Walk_walkLet_80_1 : mblkB b_Walk_walkLet [(80, .aload_n 0, vi 0)] = true := by decide +kernel
theorem e_hx_Walk_walkLet_81 : decode b_Walk_walkLet 81 = .ok (.getfield 12, 3) := by decide +kernel
theorem f_hx_Walk_walkLet_84_1 : mblkB b_Walk_walkLet [(84, .aload_n 3, vi 0)] = true := by decide +kernel
theorem e_hx_Walk_walkLet_85 : decode b_Walk_walkLet 85 = .ok (.invokevirtual 152, 3) := by decide +kernel
theorem f_hx_Walk_walkLet_88_1 : mblkB b_Walk_walkLet [(88, .iconst 1, vi 1)] = true := by decide +kernel
theorem e_hx_Walk_walkLet_89 : decode b_Walk_walkLet 89 = .ok (.ireturn, 1) := by decide +kernel
theorem f_hx_Walk_walkLet_19_2 : mblkB b_Walk_walkLet [(19, .iload 5, vi 0), (21, .sipush 300, vi 300)] = true := by decide +kernel
theorem e_hx_Walk_walkLet_24 : decode b_Walk_walkLet 24 = .ok (.if_icmp .ge 56, 3) := by decide +kernel
theorem f_hx_Walk_walkLet_27_1 : mblkB b_Walk_walkLet [(27, .aload_n 3, vi 0)] = true := by decide +kernel
theorem e_hx_Walk_walkLet_28 : decode b_Walk_walkLet 28 = .ok (.getfield 124, 3) := by decide +kernel
theorem f_hx_Walk_walkLet_31_1 : mblkB b_Walk_walkLet [(31, .iload 5, vi 0)] = true := by decide +kernel
theorem e_hx_Walk_walkLet_33 : decode b_Walk_walkLet 33 = .ok (.iaload, 1) := by decide +kernel
theorem f_hx_Walk_walkLet_34_2 : mblkB b_Walk_walkLet [(34, .istore 6, vi 0), (36, .aload_n 0, vi 0)] = true := by decide +kernel
theorem e_hx_Walk_walkLet_37 : decode b_Walk_walkLet 37 = .ok (.getfield 12, 3) := by decide +kernel
theorem f_hx_Walk_walkLet_40_2 : mblkB b_Walk_walkLet [(40, .iload 6, vi 0), (42, .aload_n 2, vi 0)] = true := by decide +kernel
theorem e_hx_Walk_walkLet_43 : decode b_Walk_walkLet 43 = .ok (.getfield 128, 3) := by decide +kernel
theorem f_hx_Walk_walkLet_46_3 : mblkB b_Walk_walkLet [(46, .aload_n 1, vi 0), (47, .aload_n 2, vi 0), (48, .iload 6, vi 0)] = true := by decide +kernel
theorem e_hx_Walk_walkLet_50 : decode b_Walk_walkLet 50 = .ok (.invokevirtual 156, 3) := by decide +kernel
theorem e_hx_Walk_walkLet_53 : decode b_Walk_walkLet 53 = .ok (.invokestatic 135, 3) := by decide +kernel
theorem f_hx_Walk_walkLet_56_3 : mblkB b_Walk_walkLet [(56, .iload 4, vi 0), (58, .iand, vi 0), (59, .aload_n 3, vi 0)] = true := by decide +kernel
theorem e_hx_Walk_walkLet_60 : decode b_Walk_walkLet 60 = .ok (.getfield 138, 3) := by decide +kernel
theorem f_hx_Walk_walkLet_63_1 : mblkB b_Walk_walkLet [(63, .iload 5, vi 0)] = true := by decide +kernel
theorem e_hx_Walk_walkLet_65 : decode b_Walk_walkLet 65 = .ok (.laload, 1) := by decide +kernel
theorem e_hx_Walk_walkLet_66 : decode b_Walk_walkLet 66 = .ok (.invokevirtual 148, 3) := by decide +kernel
theorem e_hx_Walk_walkLet_69 : decode b_Walk_walkLet 69 = .ok (.ifCond .ne 5, 3) := by decide +kernel
theorem f_hx_Walk_walkLet_74_2 : mblkB b_Walk_walkLet [(74, .iinc 5 1, vi 1), (77, .goto (-67), vi 10)] = true := by decide +kernel
theorem f_hx_Walk_walkLet_72_1 : mblkB b_Walk_walkLet [(72, .iconst 0, vi 0)] = true := by decide +kernel
theorem e_hx_Walk_walkLet_73 : decode b_Walk_walkLet 73 = .ok (.ireturn, 1) := by decide +kernel
set_option maxHeartbeats 4000000 in
set_option maxRecDepth 20000 in
theorem hx_Walk_walkLet  : ∀ (l : Launch) (D : va_G) (B : Nat) (H0 : Heap) (G : tG) (A : mA) (o : Nat) (a0 : Nat) (a1 : Nat) (a2 : Nat) (a3 : Int) (h_o : G o = some 7) (h_a0 : G a0 = some 2) (h_a1 : G a1 = some 6) (h_a2 : G a2 = some 0)  (r9 : Int) (A9 : mA), f_Walk_walkLet  A o a0 a1 a2 a3 = some (r9, A9) → hMet l D B H0 G y_Walk_walkLet b_Walk_walkLet 7 (some .boolean) 3 87 [vr 7 o, vr 2 a0, vr 6 a1, vr 0 a2, vi a3] A (fun v A' => v = some (vi r9) ∧ A' = A9) := by
  intro l D B H0 G A o a0 a1 a2 a3 h_o h_a0 h_a1 h_a2 r9 A9 h
  refine h_met (by decide) rfl (fun g q C Rm Y E => ?_)
  have hd_10 : ∀ (n : Nat) (A : mA) (b0 : Nat) (b1 : Nat) (b2 : Nat) (b3 : Nat) (b4 : Int) (b5 : Int) , G b0 = some 7 → G b1 = some 2 → G b2 = some 6 → G b3 = some 0 → f_Walk_walkLet_10  n A b0 b1 b2 b3 b4 b5 = some (r9, A9) → HM g D G q A 10 [(0, vr 7 b0), (1, vr 2 b1), (2, vr 6 b2), (3, vr 0 b3), (4, vi b4), (5, vi b5)] [] := by
    intro n
    induction n with
    | zero => intro A b0 b1 b2 b3 b4 b5 h_b0 h_b1 h_b2 h_b3 h; cases h
    | succ n ih =>
      intro A b0 b1 b2 b3 b4 b5 h_b0 h_b1 h_b2 h_b3 h
      unfold f_Walk_walkLet_10 at h
      refine h_blk 13 [(0, vr 7 b0), (1, vr 2 b1), (2, vr 6 b2), (3, vr 0 b3), (4, vi b4), (5, vi b5)] [vr 0 b3, vi b5] C f_hx_Walk_walkLet_10_2 rfl ?_
      refine h_geti C e_hx_Walk_walkLet_13 fg_Walk_120 h_b3 rfl rfl rfl (A 0 b3 2) rfl ?_
      obtain ⟨c1, h⟩ := igd h
      obtain ⟨c2, h⟩ := igd h
      refine h_icmp_ge (tgt := 80) C e_hx_Walk_walkLet_16 (by decide) c1 c2 (fun c3 => ?_) (fun c3 => ?_)
      · have h := ifp c3 h
        refine h_blk 81 [(0, vr 7 b0), (1, vr 2 b1), (2, vr 6 b2), (3, vr 0 b3), (4, vi b4), (5, vi b5)] [vr 7 b0] C f_hx_Walk_walkLet_80_1 rfl ?_
        refine h_getr4 C e_hx_Walk_walkLet_81 fg_Walk_12 h_b0 rfl rfl rfl rfl (fun g4 => ?_)
        refine h_blk 85 [(0, vr 7 b0), (1, vr 2 b1), (2, vr 6 b2), (3, vr 0 b3), (4, vi b4), (5, vi b5)] [vr 0 b3, vr 1 ((A 7 b0 0).toNat)] C f_hx_Walk_walkLet_84_1 rfl ?_
        obtain ⟨q5, e6, h⟩ := obd h
        refine h_callV C Rm Y [vr 0 b3] [] (hx_Mixer_pourInto l D B H0 G _ ((A 7 b0 0).toNat) b3 g4 h_b3 _ _ e6) cl_Walk_152 g4 rfl rfl rfl e_hx_Walk_walkLet_85 rfl rfl rfl ⟨by decide, by decide⟩ ?_
        rintro _ _ ⟨rfl, rfl⟩
        show HM g D G q q5.2 88 [(0, vr 7 b0), (1, vr 2 b1), (2, vr 6 b2), (3, vr 0 b3), (4, vi b4), (5, vi b5)] []
        refine h_blk 89 [(0, vr 7 b0), (1, vr 2 b1), (2, vr 6 b2), (3, vr 0 b3), (4, vi b4), (5, vi b5)] [vi 1] C f_hx_Walk_walkLet_88_1 rfl ?_
        exact h_zret C Rm E (Or.inr rfl) e_hx_Walk_walkLet_89 (fin1 h)
      · have h := ifn c3 h
        refine h_blk 24 [(0, vr 7 b0), (1, vr 2 b1), (2, vr 6 b2), (3, vr 0 b3), (4, vi b4), (5, vi b5)] [vi 300, vi b5] C f_hx_Walk_walkLet_19_2 rfl ?_
        refine h_icmp_ge (tgt := 80) C e_hx_Walk_walkLet_24 (by decide) c1 (by decide) (fun c7 => ?_) (fun c7 => ?_)
        · have h := ifp c7 h
          refine h_blk 81 [(0, vr 7 b0), (1, vr 2 b1), (2, vr 6 b2), (3, vr 0 b3), (4, vi b4), (5, vi b5)] [vr 7 b0] C f_hx_Walk_walkLet_80_1 rfl ?_
          refine h_getr4 C e_hx_Walk_walkLet_81 fg_Walk_12 h_b0 rfl rfl rfl rfl (fun g8 => ?_)
          refine h_blk 85 [(0, vr 7 b0), (1, vr 2 b1), (2, vr 6 b2), (3, vr 0 b3), (4, vi b4), (5, vi b5)] [vr 0 b3, vr 1 ((A 7 b0 0).toNat)] C f_hx_Walk_walkLet_84_1 rfl ?_
          obtain ⟨q9, e10, h⟩ := obd h
          refine h_callV C Rm Y [vr 0 b3] [] (hx_Mixer_pourInto l D B H0 G _ ((A 7 b0 0).toNat) b3 g8 h_b3 _ _ e10) cl_Walk_152 g8 rfl rfl rfl e_hx_Walk_walkLet_85 rfl rfl rfl ⟨by decide, by decide⟩ ?_
          rintro _ _ ⟨rfl, rfl⟩
          show HM g D G q q9.2 88 [(0, vr 7 b0), (1, vr 2 b1), (2, vr 6 b2), (3, vr 0 b3), (4, vi b4), (5, vi b5)] []
          refine h_blk 89 [(0, vr 7 b0), (1, vr 2 b1), (2, vr 6 b2), (3, vr 0 b3), (4, vi b4), (5, vi b5)] [vi 1] C f_hx_Walk_walkLet_88_1 rfl ?_
          exact h_zret C Rm E (Or.inr rfl) e_hx_Walk_walkLet_89 (fin1 h)
        · have h := ifn c7 h
          refine h_blk 28 [(0, vr 7 b0), (1, vr 2 b1), (2, vr 6 b2), (3, vr 0 b3), (4, vi b4), (5, vi b5)] [vr 0 b3] C f_hx_Walk_walkLet_27_1 rfl ?_
          refine h_getr4 C e_hx_Walk_walkLet_28 fg_Walk_124 h_b3 rfl rfl rfl rfl (fun g11 => ?_)
          refine h_blk 33 [(0, vr 7 b0), (1, vr 2 b1), (2, vr 6 b2), (3, vr 0 b3), (4, vi b4), (5, vi b5)] [vi b5, vr 31 ((A 0 b3 0).toNat)] C f_hx_Walk_walkLet_31_1 rfl ?_
          obtain ⟨c12, h⟩ := igd h
          refine h_iald C e_hx_Walk_walkLet_33 g11 rfl rfl (by decide) c12.1 c12.2 (A 31 ((A 0 b3 0).toNat) b5.toNat) rfl ?_
          refine h_blk 37 [(6, vi (A 31 ((A 0 b3 0).toNat) b5.toNat)), (0, vr 7 b0), (1, vr 2 b1), (2, vr 6 b2), (3, vr 0 b3), (4, vi b4), (5, vi b5)] [vr 7 b0] C f_hx_Walk_walkLet_34_2 rfl ?_
          refine h_getr4 C e_hx_Walk_walkLet_37 fg_Walk_12 h_b0 rfl rfl rfl rfl (fun g13 => ?_)
          refine h_blk 43 [(6, vi (A 31 ((A 0 b3 0).toNat) b5.toNat)), (0, vr 7 b0), (1, vr 2 b1), (2, vr 6 b2), (3, vr 0 b3), (4, vi b4), (5, vi b5)] [vr 6 b2, vi (A 31 ((A 0 b3 0).toNat) b5.toNat), vr 1 ((A 7 b0 0).toNat)] C f_hx_Walk_walkLet_40_2 rfl ?_
          refine h_geti C e_hx_Walk_walkLet_43 fg_Walk_128 h_b2 rfl rfl rfl (A 6 b2 1) rfl ?_
          refine h_blk 50 [(6, vi (A 31 ((A 0 b3 0).toNat) b5.toNat)), (0, vr 7 b0), (1, vr 2 b1), (2, vr 6 b2), (3, vr 0 b3), (4, vi b4), (5, vi b5)] [vi (A 31 ((A 0 b3 0).toNat) b5.toNat), vr 6 b2, vr 2 b1, vi (A 6 b2 1), vi (A 31 ((A 0 b3 0).toNat) b5.toNat), vr 1 ((A 7 b0 0).toNat)] C f_hx_Walk_walkLet_46_3 rfl ?_
          obtain ⟨q14, e15, h⟩ := obd h
          refine h_callV C Rm Y [vr 6 b2, vi (A 31 ((A 0 b3 0).toNat) b5.toNat)] [vi (A 6 b2 1), vi (A 31 ((A 0 b3 0).toNat) b5.toNat), vr 1 ((A 7 b0 0).toNat)] (hx_Prog_digitOf l D B H0 G _ b1 b2 (A 31 ((A 0 b3 0).toNat) b5.toNat) h_b1 h_b2 _ _ e15) cl_Walk_156 h_b1 rfl rfl rfl e_hx_Walk_walkLet_50 rfl rfl rfl ⟨by decide, by decide⟩ ?_
          rintro _ _ ⟨rfl, rfl⟩
          show HM g D G q q14.2 53 [(6, vi (A 31 ((A 0 b3 0).toNat) b5.toNat)), (0, vr 7 b0), (1, vr 2 b1), (2, vr 6 b2), (3, vr 0 b3), (4, vi b4), (5, vi b5)] [vi q14.1, vi (A 6 b2 1), vi (A 31 ((A 0 b3 0).toNat) b5.toNat), vr 1 ((A 7 b0 0).toNat)]
          obtain ⟨q16, e17, h⟩ := obd h
          refine h_callSn C Rm Y [vi (A 31 ((A 0 b3 0).toNat) b5.toNat), vi (A 6 b2 1), vi q14.1] [vr 1 ((A 7 b0 0).toNat)] (hx_CS_withDigit l D B H0 G _ (A 31 ((A 0 b3 0).toNat) b5.toNat) (A 6 b2 1) q14.1 _ _ e17) cl_Walk_135 e_hx_Walk_walkLet_53 rfl rfl rfl ⟨by decide, by decide⟩ ?_
          rintro _ _ ⟨rfl, rfl⟩
          show HM g D G q q16.2 56 [(6, vi (A 31 ((A 0 b3 0).toNat) b5.toNat)), (0, vr 7 b0), (1, vr 2 b1), (2, vr 6 b2), (3, vr 0 b3), (4, vi b4), (5, vi b5)] [vi q16.1, vr 1 ((A 7 b0 0).toNat)]
          refine h_blk 60 [(6, vi (A 31 ((A 0 b3 0).toNat) b5.toNat)), (0, vr 7 b0), (1, vr 2 b1), (2, vr 6 b2), (3, vr 0 b3), (4, vi b4), (5, vi b5)] [vr 0 b3, vi (iAnd q16.1 b4), vr 1 ((A 7 b0 0).toNat)] C f_hx_Walk_walkLet_56_3 rfl ?_
          refine h_getr4 C e_hx_Walk_walkLet_60 fg_Walk_138 h_b3 rfl rfl rfl rfl (fun g18 => ?_)
          refine h_blk 65 [(6, vi (A 31 ((A 0 b3 0).toNat) b5.toNat)), (0, vr 7 b0), (1, vr 2 b1), (2, vr 6 b2), (3, vr 0 b3), (4, vi b4), (5, vi b5)] [vi b5, vr 32 ((q16.2 0 b3 1).toNat), vi (iAnd q16.1 b4), vr 1 ((A 7 b0 0).toNat)] C f_hx_Walk_walkLet_63_1 rfl ?_
          refine h_lald C e_hx_Walk_walkLet_65 g18 rfl rfl (by decide) c12.1 c12.2 (q16.2 32 ((q16.2 0 b3 1).toNat) b5.toNat) rfl ?_
          obtain ⟨q19, e20, h⟩ := obd h
          refine h_callV C Rm Y [vi (iAnd q16.1 b4), vl (q16.2 32 ((q16.2 0 b3 1).toNat) b5.toNat)] [] (hx_Mixer_put l D B H0 G _ ((A 7 b0 0).toNat) (iAnd q16.1 b4) (q16.2 32 ((q16.2 0 b3 1).toNat) b5.toNat) g13 _ _ e20) cl_Walk_148 g13 rfl rfl rfl e_hx_Walk_walkLet_66 rfl rfl rfl ⟨by decide, by decide⟩ ?_
          rintro _ _ ⟨rfl, rfl⟩
          show HM g D G q q19.2 69 [(6, vi (A 31 ((A 0 b3 0).toNat) b5.toNat)), (0, vr 7 b0), (1, vr 2 b1), (2, vr 6 b2), (3, vr 0 b3), (4, vi b4), (5, vi b5)] [vi q19.1]
          obtain ⟨c21, h⟩ := igd h
          refine h_if_ne (tgt := 74) C e_hx_Walk_walkLet_69 (by decide) c21 (fun c22 => ?_) (fun c22 => ?_)
          · have h := ifn c22 h
            refine h_blk 10 [(5, vi (b5 + 1)), (6, vi (A 31 ((A 0 b3 0).toNat) b5.toNat)), (0, vr 7 b0), (1, vr 2 b1), (2, vr 6 b2), (3, vr 0 b3), (4, vi b4)] [] C f_hx_Walk_walkLet_74_2 rfl ?_
            refine h_loc [(0, vr 7 b0), (1, vr 2 b1), (2, vr 6 b2), (3, vr 0 b3), (4, vi b4), (5, vi (b5 + 1))] ⟨rfl, rfl, rfl, rfl, rfl, rfl, trivial⟩ ?_
            exact ih q19.2 b0 b1 b2 b3 b4 (b5 + 1) (h_b0) (h_b1) (h_b2) (h_b3) h
          · have h := ifp c22 h
            refine h_blk 73 [(6, vi (A 31 ((A 0 b3 0).toNat) b5.toNat)), (0, vr 7 b0), (1, vr 2 b1), (2, vr 6 b2), (3, vr 0 b3), (4, vi b4), (5, vi b5)] [vi 0] C f_hx_Walk_walkLet_72_1 rfl ?_
            exact h_zret C Rm E (Or.inl rfl) e_hx_Walk_walkLet_73 (fin1 h)
  show HM g D G q A 0 [(0, vr 7 o), (1, vr 2 a0), (2, vr 6 a1), (3, vr 0 a2), (4, vi a3)] []
  unfold f_Walk_walkLet at h
  refine h_blk 1 [(0, vr 7 o), (1, vr 2 a0), (2, vr 6 a1), (3, vr 0 a2), (4, vi a3)] [vr 7 o] C f_hx_Walk_walkLet_0_1 rfl ?_
  refine h_getr4 C e_hx_Walk_walkLet_1 fg_Walk_12 h_o rfl rfl rfl rfl (fun g23 => ?_)
  obtain ⟨q24, e25, h⟩ := obd h
  refine h_callV C Rm Y [] [] (hx_Mixer_clear l D B H0 G _ ((A 7 o 0).toNat) g23 _ _ e25) cl_Walk_117 g23 rfl rfl rfl e_hx_Walk_walkLet_4 rfl rfl rfl ⟨by decide, by decide⟩ ?_
  rintro _ _ ⟨rfl, rfl⟩
  show HM g D G q q24.2 7 [(0, vr 7 o), (1, vr 2 a0), (2, vr 6 a1), (3, vr 0 a2), (4, vi a3)] []
  refine h_blk 10 [(5, vi 0), (0, vr 7 o), (1, vr 2 a0), (2, vr 6 a1), (3, vr 0 a2), (4, vi a3)] [] C f_hx_Walk_walkLet_7_2 rfl ?_
  refine h_loc [(0, vr 7 o), (1, vr 2 a0), (2, vr 6 a1), (3, vr 0 a2), (4, vi a3), (5, vi 0)] ⟨rfl, rfl, rfl, rfl, rfl, rfl, trivial⟩ ?_
  exact hd_10 _ q24.2 o a0 a1 a2 a3 0 (h_o) (h_a0) (h_a1) (h_a2) h

def f_Walk_walkSee_10 : Nat → mA → Nat → Nat → Nat → Nat → Int → Int → Option (Int × mA)
  | 0, _, _, _, _, _, _, _ => none
  | n + 1, A, b0, b1, b2, b3, b4, b5 => (if g32 b5 then if g32 (A 0 b3 2) then (if (A 0 b3 2) ≤ b5 then (Option.bind (f_Mixer_pourInto A ((A 7 b0 0).toNat) b3) (fun q5 => (some (1, q5.2)))) else (if 300 ≤ b5 then (Option.bind (f_Mixer_pourInto A ((A 7 b0 0).toNat) b3) (fun q9 => (some (1, q9.2)))) else (if (0 ≤ b5 ∧ b5 < ((300 : Nat) : Int)) then (Option.bind (f_Prog_valueOf A b1 b2 (A 31 ((A 0 b3 0).toNat) b5.toNat)) (fun q13 => (if g32 q13.1 then (if q13.1 = 0 then (f_Walk_walkSee_10  n q13.2 b0 b1 b2 b3 b4 (b5 + 1)) else (Option.bind (f_Mixer_put q13.2 ((q13.2 7 b0 0).toNat) (iAnd (A 31 ((A 0 b3 0).toNat) b5.toNat) b4) (q13.2 32 ((q13.2 0 b3 1).toNat) b5.toNat)) (fun q19 => (if g32 q19.1 then (if q19.1 = 0 then (some (0, q19.2)) else (f_Walk_walkSee_10  n q19.2 b0 b1 b2 b3 b4 (b5 + 1))) else none)))) else none))) else none))) else none else none)
def f_Walk_walkSee (A : mA) (o : Nat) (a0 : Nat) (a1 : Nat) (a2 : Nat) (a3 : Int) : Option (Int × mA) := (Option.bind (f_Mixer_clear A ((A 7 o 0).toNat)) (fun q24 => (f_Walk_walkSee_10  400 q24.2 o a0 a1 a2 a3 0)))
theorem f_hx_Walk_walkSee_0_1 : mblkB b_Walk_walkSee [(0, .aload_n 0, vi 0)] = true := by decide +kernel
theorem e_hx_Walk_walkSee_1 : decode b_Walk_walkSee 1 = .ok (.getfield 12, 3) := by decide +kernel
theorem e_hx_Walk_walkSee_4 : decode b_Walk_walkSee 4 = .ok (.invokevirtual 117, 3) := by decide +kernel
theorem f_hx_Walk_walkSee_7_2 : mblkB b_Walk_walkSee [(7, .iconst 0, vi 0), (8, .istore 5, vi 0)] = true := by decide +kernel
theorem f_hx_Walk_walkSee_10_2 : mblkB b_Walk_walkSee [(10, .iload 5, vi 0), (12, .aload_n 3, vi 0)] = true := by decide +kernel
theorem e_hx_Walk_walkSee_13 : decode b_Walk_walkSee 13 = .ok (.getfield 120, 3) := by decide +kernel
theorem e_hx_Walk_walkSee_16 : decode b_Walk_walkSee 16 = .ok (.if_icmp .ge 60, 3) := by decide +kernel
theorem f_hx_Walk_walkSee_76_1 : mblkB b_Walk_walkSee [(76, .aload_n 0, vi 0)] = true := by decide +kernel
theorem e_hx_Walk_walkSee_77 : decode b_Walk_walkSee 77 = .ok (.getfield 12, 3) := by decide +kernel
theorem f_hx_Walk_walkSee_80_1 : mblkB b_Walk_walkSee [(80, .aload_n 3, vi 0)] = true := by decide +kernel
theorem e_hx_Walk_walkSee_81 : decode b_Walk_walkSee 81 = .ok (.invokevirtual 152, 3) := by decide +kernel
theorem f_hx_Walk_walkSee_84_1 : mblkB b_Walk_walkSee [(84, .iconst 1, vi 1)] = true := by decide +kernel
theorem e_hx_Walk_walkSee_85 : decode b_Walk_walkSee 85 = .ok (.ireturn, 1) := by decide +kernel
theorem f_hx_Walk_walkSee_19_2 : mblkB b_Walk_walkSee [(19, .iload 5, vi 0), (21, .sipush 300, vi 300)] = true := by decide +kernel
theorem e_hx_Walk_walkSee_24 : decode b_Walk_walkSee 24 = .ok (.if_icmp .ge 52, 3) := by decide +kernel
theorem f_hx_Walk_walkSee_27_1 : mblkB b_Walk_walkSee [(27, .aload_n 3, vi 0)] = true := by decide +kernel
theorem e_hx_Walk_walkSee_28 : decode b_Walk_walkSee 28 = .ok (.getfield 124, 3) := by decide +kernel
theorem f_hx_Walk_walkSee_31_1 : mblkB b_Walk_walkSee [(31, .iload 5, vi 0)] = true := by decide +kernel
theorem e_hx_Walk_walkSee_33 : decode b_Walk_walkSee 33 = .ok (.iaload, 1) := by decide +kernel
theorem f_hx_Walk_walkSee_34_4 : mblkB b_Walk_walkSee [(34, .istore 6, vi 0), (36, .aload_n 1, vi 0), (37, .aload_n 2, vi 0), (38, .iload 6, vi 0)] = true := by decide +kernel
theorem e_hx_Walk_walkSee_40 : decode b_Walk_walkSee 40 = .ok (.invokevirtual 159, 3) := by decide +kernel
theorem e_hx_Walk_walkSee_43 : decode b_Walk_walkSee 43 = .ok (.ifCond .eq 27, 3) := by decide +kernel
theorem f_hx_Walk_walkSee_70_2 : mblkB b_Walk_walkSee [(70, .iinc 5 1, vi 1), (73, .goto (-63), vi 10)] = true := by decide +kernel
theorem f_hx_Walk_walkSee_46_1 : mblkB b_Walk_walkSee [(46, .aload_n 0, vi 0)] = true := by decide +kernel
theorem e_hx_Walk_walkSee_47 : decode b_Walk_walkSee 47 = .ok (.getfield 12, 3) := by decide +kernel
theorem f_hx_Walk_walkSee_50_4 : mblkB b_Walk_walkSee [(50, .iload 6, vi 0), (52, .iload 4, vi 0), (54, .iand, vi 0), (55, .aload_n 3, vi 0)] = true := by decide +kernel
theorem e_hx_Walk_walkSee_56 : decode b_Walk_walkSee 56 = .ok (.getfield 138, 3) := by decide +kernel
theorem f_hx_Walk_walkSee_59_1 : mblkB b_Walk_walkSee [(59, .iload 5, vi 0)] = true := by decide +kernel
theorem e_hx_Walk_walkSee_61 : decode b_Walk_walkSee 61 = .ok (.laload, 1) := by decide +kernel
theorem e_hx_Walk_walkSee_62 : decode b_Walk_walkSee 62 = .ok (.invokevirtual 148, 3) := by decide +kernel
theorem e_hx_Walk_walkSee_65 : decode b_Walk_walkSee 65 = .ok (.ifCond .ne 5, 3) := by decide +kernel
theorem f_hx_Walk_walkSee_68_1 : mblkB b_Walk_walkSee [(68, .iconst 0, vi 0)] = true := by decide +kernel
theorem e_hx_Walk_walkSee_69 : decode b_Walk_walkSee 69 = .ok (.ireturn, 1) := by decide +kernel
set_option maxHeartbeats 4000000 in
set_option maxRecDepth 20000 in
theorem hx_Walk_walkSee  : ∀ (l : Launch) (D : va_G) (B : Nat) (H0 : Heap) (G : tG) (A : mA) (o : Nat) (a0 : Nat) (a1 : Nat) (a2 : Nat) (a3 : Int) (h_o : G o = some 7) (h_a0 : G a0 = some 2) (h_a1 : G a1 = some 6) (h_a2 : G a2 = some 0)  (r9 : Int) (A9 : mA), f_Walk_walkSee  A o a0 a1 a2 a3 = some (r9, A9) → hMet l D B H0 G y_Walk_walkSee b_Walk_walkSee 7 (some .boolean) 2 65 [vr 7 o, vr 2 a0, vr 6 a1, vr 0 a2, vi a3] A (fun v A' => v = some (vi r9) ∧ A' = A9) := by
  intro l D B H0 G A o a0 a1 a2 a3 h_o h_a0 h_a1 h_a2 r9 A9 h
  refine h_met (by decide) rfl (fun g q C Rm Y E => ?_)
  have hd_10 : ∀ (n : Nat) (A : mA) (b0 : Nat) (b1 : Nat) (b2 : Nat) (b3 : Nat) (b4 : Int) (b5 : Int) , G b0 = some 7 → G b1 = some 2 → G b2 = some 6 → G b3 = some 0 → f_Walk_walkSee_10  n A b0 b1 b2 b3 b4 b5 = some (r9, A9) → HM g D G q A 10 [(0, vr 7 b0), (1, vr 2 b1), (2, vr 6 b2), (3, vr 0 b3), (4, vi b4), (5, vi b5)] [] := by
    intro n
    induction n with
    | zero => intro A b0 b1 b2 b3 b4 b5 h_b0 h_b1 h_b2 h_b3 h; cases h
    | succ n ih =>
      intro A b0 b1 b2 b3 b4 b5 h_b0 h_b1 h_b2 h_b3 h
      unfold f_Walk_walkSee_10 at h
      refine h_blk 13 [(0, vr 7 b0), (1, vr 2 b1), (2, vr 6 b2), (3, vr 0 b3), (4, vi b4), (5, vi b5)] [vr 0 b3, vi b5] C f_hx_Walk_walkSee_10_2 rfl ?_
      refine h_geti C e_hx_Walk_walkSee_13 fg_Walk_120 h_b3 rfl rfl rfl (A 0 b3 2) rfl ?_
      obtain ⟨c1, h⟩ := igd h
      obtain ⟨c2, h⟩ := igd h
      refine h_icmp_ge (tgt := 76) C e_hx_Walk_walkSee_16 (by decide) c1 c2 (fun c3 => ?_) (fun c3 => ?_)
      · have h := ifp c3 h
        refine h_blk 77 [(0, vr 7 b0), (1, vr 2 b1), (2, vr 6 b2), (3, vr 0 b3), (4, vi b4), (5, vi b5)] [vr 7 b0] C f_hx_Walk_walkSee_76_1 rfl ?_
        refine h_getr4 C e_hx_Walk_walkSee_77 fg_Walk_12 h_b0 rfl rfl rfl rfl (fun g4 => ?_)
        refine h_blk 81 [(0, vr 7 b0), (1, vr 2 b1), (2, vr 6 b2), (3, vr 0 b3), (4, vi b4), (5, vi b5)] [vr 0 b3, vr 1 ((A 7 b0 0).toNat)] C f_hx_Walk_walkSee_80_1 rfl ?_
        obtain ⟨q5, e6, h⟩ := obd h
        refine h_callV C Rm Y [vr 0 b3] [] (hx_Mixer_pourInto l D B H0 G _ ((A 7 b0 0).toNat) b3 g4 h_b3 _ _ e6) cl_Walk_152 g4 rfl rfl rfl e_hx_Walk_walkSee_81 rfl rfl rfl ⟨by decide, by decide⟩ ?_
        rintro _ _ ⟨rfl, rfl⟩
        show HM g D G q q5.2 84 [(0, vr 7 b0), (1, vr 2 b1), (2, vr 6 b2), (3, vr 0 b3), (4, vi b4), (5, vi b5)] []
        refine h_blk 85 [(0, vr 7 b0), (1, vr 2 b1), (2, vr 6 b2), (3, vr 0 b3), (4, vi b4), (5, vi b5)] [vi 1] C f_hx_Walk_walkSee_84_1 rfl ?_
        exact h_zret C Rm E (Or.inr rfl) e_hx_Walk_walkSee_85 (fin1 h)
      · have h := ifn c3 h
        refine h_blk 24 [(0, vr 7 b0), (1, vr 2 b1), (2, vr 6 b2), (3, vr 0 b3), (4, vi b4), (5, vi b5)] [vi 300, vi b5] C f_hx_Walk_walkSee_19_2 rfl ?_
        refine h_icmp_ge (tgt := 76) C e_hx_Walk_walkSee_24 (by decide) c1 (by decide) (fun c7 => ?_) (fun c7 => ?_)
        · have h := ifp c7 h
          refine h_blk 77 [(0, vr 7 b0), (1, vr 2 b1), (2, vr 6 b2), (3, vr 0 b3), (4, vi b4), (5, vi b5)] [vr 7 b0] C f_hx_Walk_walkSee_76_1 rfl ?_
          refine h_getr4 C e_hx_Walk_walkSee_77 fg_Walk_12 h_b0 rfl rfl rfl rfl (fun g8 => ?_)
          refine h_blk 81 [(0, vr 7 b0), (1, vr 2 b1), (2, vr 6 b2), (3, vr 0 b3), (4, vi b4), (5, vi b5)] [vr 0 b3, vr 1 ((A 7 b0 0).toNat)] C f_hx_Walk_walkSee_80_1 rfl ?_
          obtain ⟨q9, e10, h⟩ := obd h
          refine h_callV C Rm Y [vr 0 b3] [] (hx_Mixer_pourInto l D B H0 G _ ((A 7 b0 0).toNat) b3 g8 h_b3 _ _ e10) cl_Walk_152 g8 rfl rfl rfl e_hx_Walk_walkSee_81 rfl rfl rfl ⟨by decide, by decide⟩ ?_
          rintro _ _ ⟨rfl, rfl⟩
          show HM g D G q q9.2 84 [(0, vr 7 b0), (1, vr 2 b1), (2, vr 6 b2), (3, vr 0 b3), (4, vi b4), (5, vi b5)] []
          refine h_blk 85 [(0, vr 7 b0), (1, vr 2 b1), (2, vr 6 b2), (3, vr 0 b3), (4, vi b4), (5, vi b5)] [vi 1] C f_hx_Walk_walkSee_84_1 rfl ?_
          exact h_zret C Rm E (Or.inr rfl) e_hx_Walk_walkSee_85 (fin1 h)
        · have h := ifn c7 h
          refine h_blk 28 [(0, vr 7 b0), (1, vr 2 b1), (2, vr 6 b2), (3, vr 0 b3), (4, vi b4), (5, vi b5)] [vr 0 b3] C f_hx_Walk_walkSee_27_1 rfl ?_
          refine h_getr4 C e_hx_Walk_walkSee_28 fg_Walk_124 h_b3 rfl rfl rfl rfl (fun g11 => ?_)
          refine h_blk 33 [(0, vr 7 b0), (1, vr 2 b1), (2, vr 6 b2), (3, vr 0 b3), (4, vi b4), (5, vi b5)] [vi b5, vr 31 ((A 0 b3 0).toNat)] C f_hx_Walk_walkSee_31_1 rfl ?_
          obtain ⟨c12, h⟩ := igd h
          refine h_iald C e_hx_Walk_walkSee_33 g11 rfl rfl (by decide) c12.1 c12.2 (A 31 ((A 0 b3 0).toNat) b5.toNat) rfl ?_
          refine h_blk 40 [(6, vi (A 31 ((A 0 b3 0).toNat) b5.toNat)), (0, vr 7 b0), (1, vr 2 b1), (2, vr 6 b2), (3, vr 0 b3), (4, vi b4), (5, vi b5)] [vi (A 31 ((A 0 b3 0).toNat) b5.toNat), vr 6 b2, vr 2 b1] C f_hx_Walk_walkSee_34_4 rfl ?_
          obtain ⟨q13, e14, h⟩ := obd h
          refine h_callV C Rm Y [vr 6 b2, vi (A 31 ((A 0 b3 0).toNat) b5.toNat)] [] (hx_Prog_valueOf l D B H0 G _ b1 b2 (A 31 ((A 0 b3 0).toNat) b5.toNat) h_b1 h_b2 _ _ e14) cl_Walk_159 h_b1 rfl rfl rfl e_hx_Walk_walkSee_40 rfl rfl rfl ⟨by decide, by decide⟩ ?_
          rintro _ _ ⟨rfl, rfl⟩
          show HM g D G q q13.2 43 [(6, vi (A 31 ((A 0 b3 0).toNat) b5.toNat)), (0, vr 7 b0), (1, vr 2 b1), (2, vr 6 b2), (3, vr 0 b3), (4, vi b4), (5, vi b5)] [vi q13.1]
          obtain ⟨c15, h⟩ := igd h
          refine h_if_eq (tgt := 70) C e_hx_Walk_walkSee_43 (by decide) c15 (fun c16 => ?_) (fun c16 => ?_)
          · have h := ifp c16 h
            refine h_blk 10 [(5, vi (b5 + 1)), (6, vi (A 31 ((A 0 b3 0).toNat) b5.toNat)), (0, vr 7 b0), (1, vr 2 b1), (2, vr 6 b2), (3, vr 0 b3), (4, vi b4)] [] C f_hx_Walk_walkSee_70_2 rfl ?_
            refine h_loc [(0, vr 7 b0), (1, vr 2 b1), (2, vr 6 b2), (3, vr 0 b3), (4, vi b4), (5, vi (b5 + 1))] ⟨rfl, rfl, rfl, rfl, rfl, rfl, trivial⟩ ?_
            exact ih q13.2 b0 b1 b2 b3 b4 (b5 + 1) (h_b0) (h_b1) (h_b2) (h_b3) h
          · have h := ifn c16 h
            refine h_blk 47 [(6, vi (A 31 ((A 0 b3 0).toNat) b5.toNat)), (0, vr 7 b0), (1, vr 2 b1), (2, vr 6 b2), (3, vr 0 b3), (4, vi b4), (5, vi b5)] [vr 7 b0] C f_hx_Walk_walkSee_46_1 rfl ?_
            refine h_getr4 C e_hx_Walk_walkSee_47 fg_Walk_12 h_b0 rfl rfl rfl rfl (fun g17 => ?_)
            refine h_blk 56 [(6, vi (A 31 ((A 0 b3 0).toNat) b5.toNat)), (0, vr 7 b0), (1, vr 2 b1), (2, vr 6 b2), (3, vr 0 b3), (4, vi b4), (5, vi b5)] [vr 0 b3, vi (iAnd (A 31 ((A 0 b3 0).toNat) b5.toNat) b4), vr 1 ((q13.2 7 b0 0).toNat)] C f_hx_Walk_walkSee_50_4 rfl ?_
            refine h_getr4 C e_hx_Walk_walkSee_56 fg_Walk_138 h_b3 rfl rfl rfl rfl (fun g18 => ?_)
            refine h_blk 61 [(6, vi (A 31 ((A 0 b3 0).toNat) b5.toNat)), (0, vr 7 b0), (1, vr 2 b1), (2, vr 6 b2), (3, vr 0 b3), (4, vi b4), (5, vi b5)] [vi b5, vr 32 ((q13.2 0 b3 1).toNat), vi (iAnd (A 31 ((A 0 b3 0).toNat) b5.toNat) b4), vr 1 ((q13.2 7 b0 0).toNat)] C f_hx_Walk_walkSee_59_1 rfl ?_
            refine h_lald C e_hx_Walk_walkSee_61 g18 rfl rfl (by decide) c12.1 c12.2 (q13.2 32 ((q13.2 0 b3 1).toNat) b5.toNat) rfl ?_
            obtain ⟨q19, e20, h⟩ := obd h
            refine h_callV C Rm Y [vi (iAnd (A 31 ((A 0 b3 0).toNat) b5.toNat) b4), vl (q13.2 32 ((q13.2 0 b3 1).toNat) b5.toNat)] [] (hx_Mixer_put l D B H0 G _ ((q13.2 7 b0 0).toNat) (iAnd (A 31 ((A 0 b3 0).toNat) b5.toNat) b4) (q13.2 32 ((q13.2 0 b3 1).toNat) b5.toNat) g17 _ _ e20) cl_Walk_148 g17 rfl rfl rfl e_hx_Walk_walkSee_62 rfl rfl rfl ⟨by decide, by decide⟩ ?_
            rintro _ _ ⟨rfl, rfl⟩
            show HM g D G q q19.2 65 [(6, vi (A 31 ((A 0 b3 0).toNat) b5.toNat)), (0, vr 7 b0), (1, vr 2 b1), (2, vr 6 b2), (3, vr 0 b3), (4, vi b4), (5, vi b5)] [vi q19.1]
            obtain ⟨c21, h⟩ := igd h
            refine h_if_ne (tgt := 70) C e_hx_Walk_walkSee_65 (by decide) c21 (fun c22 => ?_) (fun c22 => ?_)
            · have h := ifn c22 h
              refine h_blk 10 [(5, vi (b5 + 1)), (6, vi (A 31 ((A 0 b3 0).toNat) b5.toNat)), (0, vr 7 b0), (1, vr 2 b1), (2, vr 6 b2), (3, vr 0 b3), (4, vi b4)] [] C f_hx_Walk_walkSee_70_2 rfl ?_
              refine h_loc [(0, vr 7 b0), (1, vr 2 b1), (2, vr 6 b2), (3, vr 0 b3), (4, vi b4), (5, vi (b5 + 1))] ⟨rfl, rfl, rfl, rfl, rfl, rfl, trivial⟩ ?_
              exact ih q19.2 b0 b1 b2 b3 b4 (b5 + 1) (h_b0) (h_b1) (h_b2) (h_b3) h
            · have h := ifp c22 h
              refine h_blk 69 [(6, vi (A 31 ((A 0 b3 0).toNat) b5.toNat)), (0, vr 7 b0), (1, vr 2 b1), (2, vr 6 b2), (3, vr 0 b3), (4, vi b4), (5, vi b5)] [vi 0] C f_hx_Walk_walkSee_68_1 rfl ?_
              exact h_zret C Rm E (Or.inl rfl) e_hx_Walk_walkSee_69 (fin1 h)
  show HM g D G q A 0 [(0, vr 7 o), (1, vr 2 a0), (2, vr 6 a1), (3, vr 0 a2), (4, vi a3)] []
  unfold f_Walk_walkSee at h
  refine h_blk 1 [(0, vr 7 o), (1, vr 2 a0), (2, vr 6 a1), (3, vr 0 a2), (4, vi a3)] [vr 7 o] C f_hx_Walk_walkSee_0_1 rfl ?_
  refine h_getr4 C e_hx_Walk_walkSee_1 fg_Walk_12 h_o rfl rfl rfl rfl (fun g23 => ?_)
  obtain ⟨q24, e25, h⟩ := obd h
  refine h_callV C Rm Y [] [] (hx_Mixer_clear l D B H0 G _ ((A 7 o 0).toNat) g23 _ _ e25) cl_Walk_117 g23 rfl rfl rfl e_hx_Walk_walkSee_4 rfl rfl rfl ⟨by decide, by decide⟩ ?_
  rintro _ _ ⟨rfl, rfl⟩
  show HM g D G q q24.2 7 [(0, vr 7 o), (1, vr 2 a0), (2, vr 6 a1), (3, vr 0 a2), (4, vi a3)] []
  refine h_blk 10 [(5, vi 0), (0, vr 7 o), (1, vr 2 a0), (2, vr 6 a1), (3, vr 0 a2), (4, vi a3)] [] C f_hx_Walk_walkSee_7_2 rfl ?_
  refine h_loc [(0, vr 7 o), (1, vr 2 a0), (2, vr 6 a1), (3, vr 0 a2), (4, vi a3), (5, vi 0)] ⟨rfl, rfl, rfl, rfl, rfl, rfl, trivial⟩ ?_
  exact hd_10 _ q24.2 o a0 a1 a2 a3 0 (h_o) (h_a0) (h_a1) (h_a2) h

def f_Walk_forget (A : mA) (o : Nat) (a0 : Nat) (a1 : Int) : Option (Int × mA) := (Option.bind (f_Mixer_clear A ((A 7 o 0).toNat)) (fun q2 => (Option.bind (f_CS_maskOf q2.2 a1) (fun q5 => (Option.bind (f_Mixer_putAll q5.2 ((q2.2 7 o 0).toNat) a0 q5.1) (fun q7 => (Option.bind (f_Mixer_pourInto q7.2 ((q7.2 7 o 0).toNat) a0) (fun q10 => (if (q7.1 = 0 ∨ q7.1 = 1) then (some (q7.1, q10.2)) else none)))))))))
theorem f_hx_Walk_forget_0_1 : mblkB b_Walk_forget [(0, .aload_n 0, vi 0)] = true := by decide +kernel
theorem e_hx_Walk_forget_1 : decode b_Walk_forget 1 = .ok (.getfield 12, 3) := by decide +kernel
theorem e_hx_Walk_forget_4 : decode b_Walk_forget 4 = .ok (.invokevirtual 117, 3) := by decide +kernel
theorem f_hx_Walk_forget_7_1 : mblkB b_Walk_forget [(7, .aload_n 0, vi 0)] = true := by decide +kernel
theorem e_hx_Walk_forget_8 : decode b_Walk_forget 8 = .ok (.getfield 12, 3) := by decide +kernel
theorem f_hx_Walk_forget_11_2 : mblkB b_Walk_forget [(11, .aload_n 1, vi 0), (12, .iload_n 2, vi 0)] = true := by decide +kernel
theorem e_hx_Walk_forget_13 : decode b_Walk_forget 13 = .ok (.invokestatic 65, 3) := by decide +kernel
theorem e_hx_Walk_forget_16 : decode b_Walk_forget 16 = .ok (.invokevirtual 169, 3) := by decide +kernel
theorem f_hx_Walk_forget_19_2 : mblkB b_Walk_forget [(19, .istore_n 3, vi 0), (20, .aload_n 0, vi 0)] = true := by decide +kernel
theorem e_hx_Walk_forget_21 : decode b_Walk_forget 21 = .ok (.getfield 12, 3) := by decide +kernel
theorem f_hx_Walk_forget_24_1 : mblkB b_Walk_forget [(24, .aload_n 1, vi 0)] = true := by decide +kernel
theorem e_hx_Walk_forget_25 : decode b_Walk_forget 25 = .ok (.invokevirtual 152, 3) := by decide +kernel
theorem f_hx_Walk_forget_28_1 : mblkB b_Walk_forget [(28, .iload_n 3, vi 0)] = true := by decide +kernel
theorem e_hx_Walk_forget_29 : decode b_Walk_forget 29 = .ok (.ireturn, 1) := by decide +kernel
set_option maxHeartbeats 4000000 in
set_option maxRecDepth 20000 in
theorem hx_Walk_forget  : ∀ (l : Launch) (D : va_G) (B : Nat) (H0 : Heap) (G : tG) (A : mA) (o : Nat) (a0 : Nat) (a1 : Int) (h_o : G o = some 7) (h_a0 : G a0 = some 0)  (r9 : Int) (A9 : mA), f_Walk_forget  A o a0 a1 = some (r9, A9) → hMet l D B H0 G y_Walk_forget b_Walk_forget 4 (some .boolean) 3 74 [vr 7 o, vr 0 a0, vi a1] A (fun v A' => v = some (vi r9) ∧ A' = A9) := by
  intro l D B H0 G A o a0 a1 h_o h_a0 r9 A9 h
  refine h_met (by decide) rfl (fun g q C Rm Y E => ?_)
  show HM g D G q A 0 [(0, vr 7 o), (1, vr 0 a0), (2, vi a1)] []
  unfold f_Walk_forget at h
  refine h_blk 1 [(0, vr 7 o), (1, vr 0 a0), (2, vi a1)] [vr 7 o] C f_hx_Walk_forget_0_1 rfl ?_
  refine h_getr4 C e_hx_Walk_forget_1 fg_Walk_12 h_o rfl rfl rfl rfl (fun g1 => ?_)
  obtain ⟨q2, e3, h⟩ := obd h
  refine h_callV C Rm Y [] [] (hx_Mixer_clear l D B H0 G _ ((A 7 o 0).toNat) g1 _ _ e3) cl_Walk_117 g1 rfl rfl rfl e_hx_Walk_forget_4 rfl rfl rfl ⟨by decide, by decide⟩ ?_
  rintro _ _ ⟨rfl, rfl⟩
  show HM g D G q q2.2 7 [(0, vr 7 o), (1, vr 0 a0), (2, vi a1)] []
  refine h_blk 8 [(0, vr 7 o), (1, vr 0 a0), (2, vi a1)] [vr 7 o] C f_hx_Walk_forget_7_1 rfl ?_
  refine h_getr4 C e_hx_Walk_forget_8 fg_Walk_12 h_o rfl rfl rfl rfl (fun g4 => ?_)
  refine h_blk 13 [(0, vr 7 o), (1, vr 0 a0), (2, vi a1)] [vi a1, vr 0 a0, vr 1 ((q2.2 7 o 0).toNat)] C f_hx_Walk_forget_11_2 rfl ?_
  obtain ⟨q5, e6, h⟩ := obd h
  refine h_callSn C Rm Y [vi a1] [vr 0 a0, vr 1 ((q2.2 7 o 0).toNat)] (hx_CS_maskOf l D B H0 G _ a1 _ _ e6) cl_Walk_65 e_hx_Walk_forget_13 rfl rfl rfl ⟨by decide, by decide⟩ ?_
  rintro _ _ ⟨rfl, rfl⟩
  show HM g D G q q5.2 16 [(0, vr 7 o), (1, vr 0 a0), (2, vi a1)] [vi q5.1, vr 0 a0, vr 1 ((q2.2 7 o 0).toNat)]
  obtain ⟨q7, e8, h⟩ := obd h
  refine h_callV C Rm Y [vr 0 a0, vi q5.1] [] (hx_Mixer_putAll l D B H0 G _ ((q2.2 7 o 0).toNat) a0 q5.1 g4 h_a0 _ _ e8) cl_Walk_169 g4 rfl rfl rfl e_hx_Walk_forget_16 rfl rfl rfl ⟨by decide, by decide⟩ ?_
  rintro _ _ ⟨rfl, rfl⟩
  show HM g D G q q7.2 19 [(0, vr 7 o), (1, vr 0 a0), (2, vi a1)] [vi q7.1]
  refine h_blk 21 [(3, vi q7.1), (0, vr 7 o), (1, vr 0 a0), (2, vi a1)] [vr 7 o] C f_hx_Walk_forget_19_2 rfl ?_
  refine h_getr4 C e_hx_Walk_forget_21 fg_Walk_12 h_o rfl rfl rfl rfl (fun g9 => ?_)
  refine h_blk 25 [(3, vi q7.1), (0, vr 7 o), (1, vr 0 a0), (2, vi a1)] [vr 0 a0, vr 1 ((q7.2 7 o 0).toNat)] C f_hx_Walk_forget_24_1 rfl ?_
  obtain ⟨q10, e11, h⟩ := obd h
  refine h_callV C Rm Y [vr 0 a0] [] (hx_Mixer_pourInto l D B H0 G _ ((q7.2 7 o 0).toNat) a0 g9 h_a0 _ _ e11) cl_Walk_152 g9 rfl rfl rfl e_hx_Walk_forget_25 rfl rfl rfl ⟨by decide, by decide⟩ ?_
  rintro _ _ ⟨rfl, rfl⟩
  show HM g D G q q10.2 28 [(3, vi q7.1), (0, vr 7 o), (1, vr 0 a0), (2, vi a1)] []
  refine h_blk 29 [(3, vi q7.1), (0, vr 7 o), (1, vr 0 a0), (2, vi a1)] [vi q7.1] C f_hx_Walk_forget_28_1 rfl ?_
  obtain ⟨c12, h⟩ := igd h
  exact h_zret C Rm E c12 e_hx_Walk_forget_29 (fin1 h)

def f_Walk_split_26 : Nat → mA → Nat → Nat → Nat → Nat → Int → Int → Option (Int × mA)
  | 0, _, _, _, _, _, _, _ => none
  | n + 1, A, b1, b2, b3, b4, b5, b6 => (if g32 b6 then if g32 b5 then (if b5 ≤ b6 then (some (0, A)) else (if 300 ≤ b6 then (some (0, A)) else (if (0 ≤ b6 ∧ b6 < ((300 : Nat) : Int)) then (Option.bind (f_Prog_valueOf A b1 b2 (A 31 ((A 0 b3 0).toNat) b6.toNat)) (fun q7 => (if g32 q7.1 then (if q7.1 = 0 then (Option.bind (f_Crowd_add q7.2 b4 (q7.2 31 ((q7.2 0 b3 0).toNat) b6.toNat) (q7.2 32 ((q7.2 0 b3 1).toNat) b6.toNat)) (fun q13 => (f_Walk_split_26  n q13.2 b1 b2 b3 b4 b5 (b6 + 1)))) else (Option.bind (f_Crowd_add q7.2 b3 (q7.2 31 ((q7.2 0 b3 0).toNat) b6.toNat) (q7.2 32 ((q7.2 0 b3 1).toNat) b6.toNat)) (fun q17 => (f_Walk_split_26  n q17.2 b1 b2 b3 b4 b5 (b6 + 1))))) else none))) else none))) else none else none)
def f_Walk_split (A : mA) (o : Nat) (a0 : Nat) (a1 : Nat) (a2 : Nat) (a3 : Nat) : Option (Int × mA) := (f_Walk_split_26  400 (mu (mu (mu A 0 a2 2 0) 0 a3 2 0) 0 a3 3 0) a0 a1 a2 a3 (A 0 a2 2) 0)
theorem f_hx_Walk_split_0_1 : mblkB b_Walk_split [(0, .aload_n 3, vi 0)] = true := by decide +kernel
theorem e_hx_Walk_split_1 : decode b_Walk_split 1 = .ok (.getfield 120, 3) := by decide +kernel
theorem f_hx_Walk_split_4_3 : mblkB b_Walk_split [(4, .istore 5, vi 0), (6, .aload_n 3, vi 0), (7, .iconst 0, vi 0)] = true := by decide +kernel
theorem e_hx_Walk_split_8 : decode b_Walk_split 8 = .ok (.putfield 120, 3) := by decide +kernel
theorem f_hx_Walk_split_11_2 : mblkB b_Walk_split [(11, .aload 4, vi 0), (13, .iconst 0, vi 0)] = true := by decide +kernel
theorem e_hx_Walk_split_14 : decode b_Walk_split 14 = .ok (.putfield 120, 3) := by decide +kernel
theorem f_hx_Walk_split_17_2 : mblkB b_Walk_split [(17, .aload 4, vi 0), (19, .iconst 0, vi 0)] = true := by decide +kernel
theorem e_hx_Walk_split_20 : decode b_Walk_split 20 = .ok (.putfield 54, 3) := by decide +kernel
theorem f_hx_Walk_split_23_2 : mblkB b_Walk_split [(23, .iconst 0, vi 0), (24, .istore 6, vi 0)] = true := by decide +kernel
theorem f_hx_Walk_split_26_2 : mblkB b_Walk_split [(26, .iload 6, vi 0), (28, .iload 5, vi 0)] = true := by decide +kernel
theorem e_hx_Walk_split_30 : decode b_Walk_split 30 = .ok (.if_icmp .ge 59, 3) := by decide +kernel
theorem e_hx_Walk_split_89 : decode b_Walk_split 89 = .ok (.return_, 1) := by decide +kernel
theorem f_hx_Walk_split_33_2 : mblkB b_Walk_split [(33, .iload 6, vi 0), (35, .sipush 300, vi 300)] = true := by decide +kernel
theorem e_hx_Walk_split_38 : decode b_Walk_split 38 = .ok (.if_icmp .ge 51, 3) := by decide +kernel
theorem f_hx_Walk_split_41_3 : mblkB b_Walk_split [(41, .aload_n 1, vi 0), (42, .aload_n 2, vi 0), (43, .aload_n 3, vi 0)] = true := by decide +kernel
theorem e_hx_Walk_split_44 : decode b_Walk_split 44 = .ok (.getfield 124, 3) := by decide +kernel
theorem f_hx_Walk_split_47_1 : mblkB b_Walk_split [(47, .iload 6, vi 0)] = true := by decide +kernel
theorem e_hx_Walk_split_49 : decode b_Walk_split 49 = .ok (.iaload, 1) := by decide +kernel
theorem e_hx_Walk_split_50 : decode b_Walk_split 50 = .ok (.invokevirtual 159, 3) := by decide +kernel
theorem e_hx_Walk_split_53 : decode b_Walk_split 53 = .ok (.ifCond .eq 7, 3) := by decide +kernel
theorem f_hx_Walk_split_60_4 : mblkB b_Walk_split [(60, .aload 4, vi 0), (62, .astore 7, vi 0), (64, .aload 7, vi 0), (66, .aload_n 3, vi 0)] = true := by decide +kernel
theorem e_hx_Walk_split_67 : decode b_Walk_split 67 = .ok (.getfield 124, 3) := by decide +kernel
theorem f_hx_Walk_split_70_1 : mblkB b_Walk_split [(70, .iload 6, vi 0)] = true := by decide +kernel
theorem e_hx_Walk_split_72 : decode b_Walk_split 72 = .ok (.iaload, 1) := by decide +kernel
theorem f_hx_Walk_split_73_1 : mblkB b_Walk_split [(73, .aload_n 3, vi 0)] = true := by decide +kernel
theorem e_hx_Walk_split_74 : decode b_Walk_split 74 = .ok (.getfield 138, 3) := by decide +kernel
theorem f_hx_Walk_split_77_1 : mblkB b_Walk_split [(77, .iload 6, vi 0)] = true := by decide +kernel
theorem e_hx_Walk_split_79 : decode b_Walk_split 79 = .ok (.laload, 1) := by decide +kernel
theorem e_hx_Walk_split_80 : decode b_Walk_split 80 = .ok (.invokevirtual 173, 3) := by decide +kernel
theorem f_hx_Walk_split_83_2 : mblkB b_Walk_split [(83, .iinc 6 1, vi 1), (86, .goto (-60), vi 26)] = true := by decide +kernel
theorem f_hx_Walk_split_56_2 : mblkB b_Walk_split [(56, .aload_n 3, vi 0), (57, .goto 5, vi 62)] = true := by decide +kernel
theorem f_hx_Walk_split_62_3 : mblkB b_Walk_split [(62, .astore 7, vi 0), (64, .aload 7, vi 0), (66, .aload_n 3, vi 0)] = true := by decide +kernel
set_option maxHeartbeats 4000000 in
set_option maxRecDepth 20000 in
theorem hx_Walk_split  : ∀ (l : Launch) (D : va_G) (B : Nat) (H0 : Heap) (G : tG) (A : mA) (o : Nat) (a0 : Nat) (a1 : Nat) (a2 : Nat) (a3 : Nat) (h_o : G o = some 7) (h_a0 : G a0 = some 2) (h_a1 : G a1 = some 6) (h_a2 : G a2 = some 0) (h_a3 : G a3 = some 0)  (r9 : Int) (A9 : mA), f_Walk_split  A o a0 a1 a2 a3 = some (r9, A9) → hMet l D B H0 G y_Walk_split b_Walk_split 8 none 2 65 [vr 7 o, vr 2 a0, vr 6 a1, vr 0 a2, vr 0 a3] A (fun v A' => v = none ∧ A' = A9) := by
  intro l D B H0 G A o a0 a1 a2 a3 h_o h_a0 h_a1 h_a2 h_a3 r9 A9 h
  refine h_met (by decide) rfl (fun g q C Rm Y E => ?_)
  have hd_26 : ∀ (n : Nat) (A : mA) (b1 : Nat) (b2 : Nat) (b3 : Nat) (b4 : Nat) (b5 : Int) (b6 : Int) , G b1 = some 2 → G b2 = some 6 → G b3 = some 0 → G b4 = some 0 → f_Walk_split_26  n A b1 b2 b3 b4 b5 b6 = some (r9, A9) → HM g D G q A 26 [(1, vr 2 b1), (2, vr 6 b2), (3, vr 0 b3), (4, vr 0 b4), (5, vi b5), (6, vi b6)] [] := by
    intro n
    induction n with
    | zero => intro A b1 b2 b3 b4 b5 b6 h_b1 h_b2 h_b3 h_b4 h; cases h
    | succ n ih =>
      intro A b1 b2 b3 b4 b5 b6 h_b1 h_b2 h_b3 h_b4 h
      unfold f_Walk_split_26 at h
      refine h_blk 30 [(1, vr 2 b1), (2, vr 6 b2), (3, vr 0 b3), (4, vr 0 b4), (5, vi b5), (6, vi b6)] [vi b5, vi b6] C f_hx_Walk_split_26_2 rfl ?_
      obtain ⟨c1, h⟩ := igd h
      obtain ⟨c2, h⟩ := igd h
      refine h_icmp_ge (tgt := 89) C e_hx_Walk_split_30 (by decide) c1 c2 (fun c3 => ?_) (fun c3 => ?_)
      · have h := ifp c3 h
        exact h_vret C Rm E e_hx_Walk_split_89 (fin0 h)
      · have h := ifn c3 h
        refine h_blk 38 [(1, vr 2 b1), (2, vr 6 b2), (3, vr 0 b3), (4, vr 0 b4), (5, vi b5), (6, vi b6)] [vi 300, vi b6] C f_hx_Walk_split_33_2 rfl ?_
        refine h_icmp_ge (tgt := 89) C e_hx_Walk_split_38 (by decide) c1 (by decide) (fun c4 => ?_) (fun c4 => ?_)
        · have h := ifp c4 h
          exact h_vret C Rm E e_hx_Walk_split_89 (fin0 h)
        · have h := ifn c4 h
          refine h_blk 44 [(1, vr 2 b1), (2, vr 6 b2), (3, vr 0 b3), (4, vr 0 b4), (5, vi b5), (6, vi b6)] [vr 0 b3, vr 6 b2, vr 2 b1] C f_hx_Walk_split_41_3 rfl ?_
          refine h_getr4 C e_hx_Walk_split_44 fg_Walk_124 h_b3 rfl rfl rfl rfl (fun g5 => ?_)
          refine h_blk 49 [(1, vr 2 b1), (2, vr 6 b2), (3, vr 0 b3), (4, vr 0 b4), (5, vi b5), (6, vi b6)] [vi b6, vr 31 ((A 0 b3 0).toNat), vr 6 b2, vr 2 b1] C f_hx_Walk_split_47_1 rfl ?_
          obtain ⟨c6, h⟩ := igd h
          refine h_iald C e_hx_Walk_split_49 g5 rfl rfl (by decide) c6.1 c6.2 (A 31 ((A 0 b3 0).toNat) b6.toNat) rfl ?_
          obtain ⟨q7, e8, h⟩ := obd h
          refine h_callV C Rm Y [vr 6 b2, vi (A 31 ((A 0 b3 0).toNat) b6.toNat)] [] (hx_Prog_valueOf l D B H0 G _ b1 b2 (A 31 ((A 0 b3 0).toNat) b6.toNat) h_b1 h_b2 _ _ e8) cl_Walk_159 h_b1 rfl rfl rfl e_hx_Walk_split_50 rfl rfl rfl ⟨by decide, by decide⟩ ?_
          rintro _ _ ⟨rfl, rfl⟩
          show HM g D G q q7.2 53 [(1, vr 2 b1), (2, vr 6 b2), (3, vr 0 b3), (4, vr 0 b4), (5, vi b5), (6, vi b6)] [vi q7.1]
          obtain ⟨c9, h⟩ := igd h
          refine h_if_eq (tgt := 60) C e_hx_Walk_split_53 (by decide) c9 (fun c10 => ?_) (fun c10 => ?_)
          · have h := ifp c10 h
            refine h_blk 67 [(7, vr 0 b4), (1, vr 2 b1), (2, vr 6 b2), (3, vr 0 b3), (4, vr 0 b4), (5, vi b5), (6, vi b6)] [vr 0 b3, vr 0 b4] C f_hx_Walk_split_60_4 rfl ?_
            refine h_getr4 C e_hx_Walk_split_67 fg_Walk_124 h_b3 rfl rfl rfl rfl (fun g11 => ?_)
            refine h_blk 72 [(7, vr 0 b4), (1, vr 2 b1), (2, vr 6 b2), (3, vr 0 b3), (4, vr 0 b4), (5, vi b5), (6, vi b6)] [vi b6, vr 31 ((q7.2 0 b3 0).toNat), vr 0 b4] C f_hx_Walk_split_70_1 rfl ?_
            refine h_iald C e_hx_Walk_split_72 g11 rfl rfl (by decide) c6.1 c6.2 (q7.2 31 ((q7.2 0 b3 0).toNat) b6.toNat) rfl ?_
            refine h_blk 74 [(7, vr 0 b4), (1, vr 2 b1), (2, vr 6 b2), (3, vr 0 b3), (4, vr 0 b4), (5, vi b5), (6, vi b6)] [vr 0 b3, vi (q7.2 31 ((q7.2 0 b3 0).toNat) b6.toNat), vr 0 b4] C f_hx_Walk_split_73_1 rfl ?_
            refine h_getr4 C e_hx_Walk_split_74 fg_Walk_138 h_b3 rfl rfl rfl rfl (fun g12 => ?_)
            refine h_blk 79 [(7, vr 0 b4), (1, vr 2 b1), (2, vr 6 b2), (3, vr 0 b3), (4, vr 0 b4), (5, vi b5), (6, vi b6)] [vi b6, vr 32 ((q7.2 0 b3 1).toNat), vi (q7.2 31 ((q7.2 0 b3 0).toNat) b6.toNat), vr 0 b4] C f_hx_Walk_split_77_1 rfl ?_
            refine h_lald C e_hx_Walk_split_79 g12 rfl rfl (by decide) c6.1 c6.2 (q7.2 32 ((q7.2 0 b3 1).toNat) b6.toNat) rfl ?_
            obtain ⟨q13, e14, h⟩ := obd h
            refine h_callV C Rm Y [vi (q7.2 31 ((q7.2 0 b3 0).toNat) b6.toNat), vl (q7.2 32 ((q7.2 0 b3 1).toNat) b6.toNat)] [] (hx_Crowd_add l D B H0 G _ b4 (q7.2 31 ((q7.2 0 b3 0).toNat) b6.toNat) (q7.2 32 ((q7.2 0 b3 1).toNat) b6.toNat) h_b4 _ _ e14) cl_Walk_173 h_b4 rfl rfl rfl e_hx_Walk_split_80 rfl rfl rfl ⟨by decide, by decide⟩ ?_
            rintro _ _ ⟨rfl, rfl⟩
            show HM g D G q q13.2 83 [(7, vr 0 b4), (1, vr 2 b1), (2, vr 6 b2), (3, vr 0 b3), (4, vr 0 b4), (5, vi b5), (6, vi b6)] []
            refine h_blk 26 [(6, vi (b6 + 1)), (7, vr 0 b4), (1, vr 2 b1), (2, vr 6 b2), (3, vr 0 b3), (4, vr 0 b4), (5, vi b5)] [] C f_hx_Walk_split_83_2 rfl ?_
            refine h_loc [(1, vr 2 b1), (2, vr 6 b2), (3, vr 0 b3), (4, vr 0 b4), (5, vi b5), (6, vi (b6 + 1))] ⟨rfl, rfl, rfl, rfl, rfl, rfl, trivial⟩ ?_
            exact ih q13.2 b1 b2 b3 b4 b5 (b6 + 1) (h_b1) (h_b2) (h_b3) (h_b4) h
          · have h := ifn c10 h
            refine h_blk 62 [(1, vr 2 b1), (2, vr 6 b2), (3, vr 0 b3), (4, vr 0 b4), (5, vi b5), (6, vi b6)] [vr 0 b3] C f_hx_Walk_split_56_2 rfl ?_
            refine h_blk 67 [(7, vr 0 b3), (1, vr 2 b1), (2, vr 6 b2), (3, vr 0 b3), (4, vr 0 b4), (5, vi b5), (6, vi b6)] [vr 0 b3, vr 0 b3] C f_hx_Walk_split_62_3 rfl ?_
            refine h_getr4 C e_hx_Walk_split_67 fg_Walk_124 h_b3 rfl rfl rfl rfl (fun g15 => ?_)
            refine h_blk 72 [(7, vr 0 b3), (1, vr 2 b1), (2, vr 6 b2), (3, vr 0 b3), (4, vr 0 b4), (5, vi b5), (6, vi b6)] [vi b6, vr 31 ((q7.2 0 b3 0).toNat), vr 0 b3] C f_hx_Walk_split_70_1 rfl ?_
            refine h_iald C e_hx_Walk_split_72 g15 rfl rfl (by decide) c6.1 c6.2 (q7.2 31 ((q7.2 0 b3 0).toNat) b6.toNat) rfl ?_
            refine h_blk 74 [(7, vr 0 b3), (1, vr 2 b1), (2, vr 6 b2), (3, vr 0 b3), (4, vr 0 b4), (5, vi b5), (6, vi b6)] [vr 0 b3, vi (q7.2 31 ((q7.2 0 b3 0).toNat) b6.toNat), vr 0 b3] C f_hx_Walk_split_73_1 rfl ?_
            refine h_getr4 C e_hx_Walk_split_74 fg_Walk_138 h_b3 rfl rfl rfl rfl (fun g16 => ?_)
            refine h_blk 79 [(7, vr 0 b3), (1, vr 2 b1), (2, vr 6 b2), (3, vr 0 b3), (4, vr 0 b4), (5, vi b5), (6, vi b6)] [vi b6, vr 32 ((q7.2 0 b3 1).toNat), vi (q7.2 31 ((q7.2 0 b3 0).toNat) b6.toNat), vr 0 b3] C f_hx_Walk_split_77_1 rfl ?_
            refine h_lald C e_hx_Walk_split_79 g16 rfl rfl (by decide) c6.1 c6.2 (q7.2 32 ((q7.2 0 b3 1).toNat) b6.toNat) rfl ?_
            obtain ⟨q17, e18, h⟩ := obd h
            refine h_callV C Rm Y [vi (q7.2 31 ((q7.2 0 b3 0).toNat) b6.toNat), vl (q7.2 32 ((q7.2 0 b3 1).toNat) b6.toNat)] [] (hx_Crowd_add l D B H0 G _ b3 (q7.2 31 ((q7.2 0 b3 0).toNat) b6.toNat) (q7.2 32 ((q7.2 0 b3 1).toNat) b6.toNat) h_b3 _ _ e18) cl_Walk_173 h_b3 rfl rfl rfl e_hx_Walk_split_80 rfl rfl rfl ⟨by decide, by decide⟩ ?_
            rintro _ _ ⟨rfl, rfl⟩
            show HM g D G q q17.2 83 [(7, vr 0 b3), (1, vr 2 b1), (2, vr 6 b2), (3, vr 0 b3), (4, vr 0 b4), (5, vi b5), (6, vi b6)] []
            refine h_blk 26 [(6, vi (b6 + 1)), (7, vr 0 b3), (1, vr 2 b1), (2, vr 6 b2), (3, vr 0 b3), (4, vr 0 b4), (5, vi b5)] [] C f_hx_Walk_split_83_2 rfl ?_
            refine h_loc [(1, vr 2 b1), (2, vr 6 b2), (3, vr 0 b3), (4, vr 0 b4), (5, vi b5), (6, vi (b6 + 1))] ⟨rfl, rfl, rfl, rfl, rfl, rfl, trivial⟩ ?_
            exact ih q17.2 b1 b2 b3 b4 b5 (b6 + 1) (h_b1) (h_b2) (h_b3) (h_b4) h
  show HM g D G q A 0 [(0, vr 7 o), (1, vr 2 a0), (2, vr 6 a1), (3, vr 0 a2), (4, vr 0 a3)] []
  unfold f_Walk_split at h
  refine h_blk 1 [(0, vr 7 o), (1, vr 2 a0), (2, vr 6 a1), (3, vr 0 a2), (4, vr 0 a3)] [vr 0 a2] C f_hx_Walk_split_0_1 rfl ?_
  refine h_geti C e_hx_Walk_split_1 fg_Walk_120 h_a2 rfl rfl rfl (A 0 a2 2) rfl ?_
  refine h_blk 8 [(5, vi (A 0 a2 2)), (0, vr 7 o), (1, vr 2 a0), (2, vr 6 a1), (3, vr 0 a2), (4, vr 0 a3)] [vi 0, vr 0 a2] C f_hx_Walk_split_4_3 rfl ?_
  refine h_puti C e_hx_Walk_split_8 fp_Walk_120 h_a2 rfl rfl rfl ?_
  refine h_blk 14 [(5, vi (A 0 a2 2)), (0, vr 7 o), (1, vr 2 a0), (2, vr 6 a1), (3, vr 0 a2), (4, vr 0 a3)] [vi 0, vr 0 a3] C f_hx_Walk_split_11_2 rfl ?_
  refine h_puti C e_hx_Walk_split_14 fp_Walk_120 h_a3 rfl rfl rfl ?_
  refine h_blk 20 [(5, vi (A 0 a2 2)), (0, vr 7 o), (1, vr 2 a0), (2, vr 6 a1), (3, vr 0 a2), (4, vr 0 a3)] [vi 0, vr 0 a3] C f_hx_Walk_split_17_2 rfl ?_
  refine h_puti C e_hx_Walk_split_20 fp_Walk_54 h_a3 rfl rfl rfl ?_
  refine h_blk 26 [(6, vi 0), (5, vi (A 0 a2 2)), (0, vr 7 o), (1, vr 2 a0), (2, vr 6 a1), (3, vr 0 a2), (4, vr 0 a3)] [] C f_hx_Walk_split_23_2 rfl ?_
  refine h_loc [(1, vr 2 a0), (2, vr 6 a1), (3, vr 0 a2), (4, vr 0 a3), (5, vi (A 0 a2 2)), (6, vi 0)] ⟨rfl, rfl, rfl, rfl, rfl, rfl, trivial⟩ ?_
  exact hd_26 _ (mu (mu (mu A 0 a2 2 0) 0 a3 2 0) 0 a3 3 0) a0 a1 a2 a3 (A 0 a2 2) 0 (h_a0) (h_a1) (h_a2) (h_a3) h

