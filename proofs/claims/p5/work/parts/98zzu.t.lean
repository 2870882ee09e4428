/-! step of both as functions (own work, by program) -/
def f_CS_step (A : mA) (o : Nat) (a0 : Int) (a1 : Int) (a2 : Int) : Option (Int × mA) := (Option.bind (f_CS_isProgram A o a0) (fun q1 => (if g32 q1.1 then (if q1.1 = 0 then (some ((-2), q1.2)) else (if g32 a2 then (if a2 < 0 then (some ((-2), q1.2)) else (if a2 ≤ 5 then (if g32 a1 then (if a1 < 0 then (some ((-12), q1.2)) else (if (0 ≤ a0 ∧ a0 < ((6 : Nat) : Int)) then (if 0 ≤ (q1.2 21 ((q1.2 8 o 2).toNat) a0.toNat) then (if g32 (q1.2 2 ((q1.2 21 ((q1.2 8 o 2).toNat) a0.toNat).toNat) 1) then (if a1 < (q1.2 2 ((q1.2 21 ((q1.2 8 o 2).toNat) a0.toNat).toNat) 1) then (Option.bind (f_Prog_stepAt q1.2 ((q1.2 21 ((q1.2 8 o 2).toNat) a0.toNat).toNat) a1) (fun q18 => (if a2 = 0 then (some ((q18.2 6 q18.1.toNat 0), q18.2)) else if a2 = 1 then (some ((q18.2 6 q18.1.toNat 1), q18.2)) else if a2 = 2 then (some ((q18.2 6 q18.1.toNat 3), q18.2)) else if a2 = 3 then (some ((q18.2 6 q18.1.toNat 7), q18.2)) else if a2 = 4 then (some ((q18.2 6 q18.1.toNat 6), q18.2)) else (some ((q18.2 6 q18.1.toNat 2), q18.2))))) else (some ((-12), q1.2))) else none) else none) else none)) else none) else (some ((-2), q1.2)))) else none)) else none)))
theorem f_hx_CS_step_0_2 : mblkB b_CS_step [(0, .aload_n 0, vi 0), (1, .iload_n 1, vi 0)] = true := by decide +kernel
theorem e_hx_CS_step_2 : decode b_CS_step 2 = .ok (.invokevirtual 94, 3) := by decide +kernel
theorem e_hx_CS_step_5 : decode b_CS_step 5 = .ok (.ifCond .eq 12, 3) := by decide +kernel
theorem f_hx_CS_step_17_1 : mblkB b_CS_step [(17, .bipush (-2), vi (-2))] = true := by decide +kernel
theorem e_hx_CS_step_19 : decode b_CS_step 19 = .ok (.ireturn, 1) := by decide +kernel
theorem f_hx_CS_step_8_1 : mblkB b_CS_step [(8, .iload_n 3, vi 0)] = true := by decide +kernel
theorem e_hx_CS_step_9 : decode b_CS_step 9 = .ok (.ifCond .lt 8, 3) := by decide +kernel
theorem f_hx_CS_step_12_2 : mblkB b_CS_step [(12, .iload_n 3, vi 0), (13, .iconst 5, vi 5)] = true := by decide +kernel
theorem e_hx_CS_step_14 : decode b_CS_step 14 = .ok (.if_icmp .le 6, 3) := by decide +kernel
theorem f_hx_CS_step_20_1 : mblkB b_CS_step [(20, .iload_n 2, vi 0)] = true := by decide +kernel
theorem e_hx_CS_step_21 : decode b_CS_step 21 = .ok (.ifCond .lt 16, 3) := by decide +kernel
theorem f_hx_CS_step_37_1 : mblkB b_CS_step [(37, .bipush (-12), vi (-12))] = true := by decide +kernel
theorem e_hx_CS_step_39 : decode b_CS_step 39 = .ok (.ireturn, 1) := by decide +kernel
theorem f_hx_CS_step_24_2 : mblkB b_CS_step [(24, .iload_n 2, vi 0), (25, .aload_n 0, vi 0)] = true := by decide +kernel
theorem e_hx_CS_step_26 : decode b_CS_step 26 = .ok (.getfield 15, 3) := by decide +kernel
theorem f_hx_CS_step_29_1 : mblkB b_CS_step [(29, .iload_n 1, vi 0)] = true := by decide +kernel
theorem e_hx_CS_step_30 : decode b_CS_step 30 = .ok (.aaload, 1) := by decide +kernel
theorem e_hx_CS_step_31 : decode b_CS_step 31 = .ok (.getfield 97, 3) := by decide +kernel
theorem e_hx_CS_step_34 : decode b_CS_step 34 = .ok (.if_icmp .lt 6, 3) := by decide +kernel
theorem f_hx_CS_step_40_1 : mblkB b_CS_step [(40, .aload_n 0, vi 0)] = true := by decide +kernel
theorem e_hx_CS_step_41 : decode b_CS_step 41 = .ok (.getfield 15, 3) := by decide +kernel
theorem f_hx_CS_step_44_1 : mblkB b_CS_step [(44, .iload_n 1, vi 0)] = true := by decide +kernel
theorem e_hx_CS_step_45 : decode b_CS_step 45 = .ok (.aaload, 1) := by decide +kernel
theorem f_hx_CS_step_46_1 : mblkB b_CS_step [(46, .iload_n 2, vi 0)] = true := by decide +kernel
theorem e_hx_CS_step_47 : decode b_CS_step 47 = .ok (.invokevirtual 114, 3) := by decide +kernel
theorem f_hx_CS_step_50_2 : mblkB b_CS_step [(50, .astore 4, vi 0), (52, .iload_n 3, vi 0)] = true := by decide +kernel
theorem e_hx_CS_step_53 : decode b_CS_step 53 = .ok (.tableswitch 65 0 4 #[35, 41, 47, 53, 59], 35) := by decide +kernel
theorem f_hx_CS_step_88_1 : mblkB b_CS_step [(88, .aload 4, vi 0)] = true := by decide +kernel
theorem e_hx_CS_step_90 : decode b_CS_step 90 = .ok (.getfield 118, 3) := by decide +kernel
theorem e_hx_CS_step_93 : decode b_CS_step 93 = .ok (.ireturn, 1) := by decide +kernel
theorem f_hx_CS_step_94_1 : mblkB b_CS_step [(94, .aload 4, vi 0)] = true := by decide +kernel
theorem e_hx_CS_step_96 : decode b_CS_step 96 = .ok (.getfield 123, 3) := by decide +kernel
theorem e_hx_CS_step_99 : decode b_CS_step 99 = .ok (.ireturn, 1) := by decide +kernel
theorem f_hx_CS_step_100_1 : mblkB b_CS_step [(100, .aload 4, vi 0)] = true := by decide +kernel
theorem e_hx_CS_step_102 : decode b_CS_step 102 = .ok (.getfield 126, 3) := by decide +kernel
theorem e_hx_CS_step_105 : decode b_CS_step 105 = .ok (.ireturn, 1) := by decide +kernel
theorem f_hx_CS_step_106_1 : mblkB b_CS_step [(106, .aload 4, vi 0)] = true := by decide +kernel
theorem e_hx_CS_step_108 : decode b_CS_step 108 = .ok (.getfield 129, 3) := by decide +kernel
theorem e_hx_CS_step_111 : decode b_CS_step 111 = .ok (.ireturn, 1) := by decide +kernel
theorem f_hx_CS_step_112_1 : mblkB b_CS_step [(112, .aload 4, vi 0)] = true := by decide +kernel
theorem e_hx_CS_step_114 : decode b_CS_step 114 = .ok (.getfield 130, 3) := by decide +kernel
theorem e_hx_CS_step_117 : decode b_CS_step 117 = .ok (.ireturn, 1) := by decide +kernel
theorem f_hx_CS_step_118_1 : mblkB b_CS_step [(118, .aload 4, vi 0)] = true := by decide +kernel
theorem e_hx_CS_step_120 : decode b_CS_step 120 = .ok (.getfield 133, 3) := by decide +kernel
theorem e_hx_CS_step_123 : decode b_CS_step 123 = .ok (.ireturn, 1) := by decide +kernel
set_option maxHeartbeats 4000000 in
set_option maxRecDepth 20000 in
theorem hx_CS_step  : ∀ (l : Launch) (D : va_G) (B : Nat) (H0 : Heap) (G : tG) (A : mA) (o : Nat) (a0 : Int) (a1 : Int) (a2 : Int) (h_o : G o = some 8)  (r9 : Int) (A9 : mA), f_CS_step  A o a0 a1 a2 = some (r9, A9) → hMet l D B H0 G y_CS_step b_CS_step 5 (some .int) 1 21 [vr 8 o, vi a0, vi a1, vi a2] A (fun v A' => v = some (vi r9) ∧ A' = A9) := by
  intro l D B H0 G A o a0 a1 a2 h_o r9 A9 h
  refine h_met (by decide) rfl (fun g q C Rm Y E => ?_)
  show HM g D G q A 0 [(0, vr 8 o), (1, vi a0), (2, vi a1), (3, vi a2)] []
  unfold f_CS_step at h
  refine h_blk 2 [(0, vr 8 o), (1, vi a0), (2, vi a1), (3, vi a2)] [vi a0, vr 8 o] C f_hx_CS_step_0_2 rfl ?_
  obtain ⟨q1, e2, h⟩ := obd h
  refine h_callV C Rm Y [vi a0] [] (hx_CS_isProgram l D B H0 G _ o a0 h_o _ _ e2) cl_CS_94 h_o rfl rfl rfl e_hx_CS_step_2 rfl rfl rfl ⟨by decide, by decide⟩ ?_
  rintro _ _ ⟨rfl, rfl⟩
  show HM g D G q q1.2 5 [(0, vr 8 o), (1, vi a0), (2, vi a1), (3, vi a2)] [vi q1.1]
  obtain ⟨c3, h⟩ := igd h
  refine h_if_eq (tgt := 17) C e_hx_CS_step_5 (by decide) c3 (fun c4 => ?_) (fun c4 => ?_)
  · have h := ifp c4 h
    refine h_blk 19 [(0, vr 8 o), (1, vi a0), (2, vi a1), (3, vi a2)] [vi (-2)] C f_hx_CS_step_17_1 rfl ?_
    exact h_iret C Rm E e_hx_CS_step_19 (fin1 h)
  · have h := ifn c4 h
    refine h_blk 9 [(0, vr 8 o), (1, vi a0), (2, vi a1), (3, vi a2)] [vi a2] C f_hx_CS_step_8_1 rfl ?_
    obtain ⟨c5, h⟩ := igd h
    refine h_if_lt (tgt := 17) C e_hx_CS_step_9 (by decide) c5 (fun c6 => ?_) (fun c6 => ?_)
    · have h := ifp c6 h
      refine h_blk 19 [(0, vr 8 o), (1, vi a0), (2, vi a1), (3, vi a2)] [vi (-2)] C f_hx_CS_step_17_1 rfl ?_
      exact h_iret C Rm E e_hx_CS_step_19 (fin1 h)
    · have h := ifn c6 h
      refine h_blk 14 [(0, vr 8 o), (1, vi a0), (2, vi a1), (3, vi a2)] [vi 5, vi a2] C f_hx_CS_step_12_2 rfl ?_
      refine h_icmp_le (tgt := 20) C e_hx_CS_step_14 (by decide) c5 (by decide) (fun c7 => ?_) (fun c7 => ?_)
      · have h := ifp c7 h
        refine h_blk 21 [(0, vr 8 o), (1, vi a0), (2, vi a1), (3, vi a2)] [vi a1] C f_hx_CS_step_20_1 rfl ?_
        obtain ⟨c8, h⟩ := igd h
        refine h_if_lt (tgt := 37) C e_hx_CS_step_21 (by decide) c8 (fun c9 => ?_) (fun c9 => ?_)
        · have h := ifp c9 h
          refine h_blk 39 [(0, vr 8 o), (1, vi a0), (2, vi a1), (3, vi a2)] [vi (-12)] C f_hx_CS_step_37_1 rfl ?_
          exact h_iret C Rm E e_hx_CS_step_39 (fin1 h)
        · have h := ifn c9 h
          refine h_blk 26 [(0, vr 8 o), (1, vi a0), (2, vi a1), (3, vi a2)] [vr 8 o, vi a1] C f_hx_CS_step_24_2 rfl ?_
          refine h_getr4 C e_hx_CS_step_26 fg_CS_15 h_o rfl rfl rfl rfl (fun g10 => ?_)
          refine h_blk 30 [(0, vr 8 o), (1, vi a0), (2, vi a1), (3, vi a2)] [vi a0, vr 21 ((q1.2 8 o 2).toNat), vi a1] C f_hx_CS_step_29_1 rfl ?_
          obtain ⟨c11, h⟩ := igd h
          obtain ⟨c12, h⟩ := igd h
          refine h_aald5 C e_hx_CS_step_30 rfl rfl g10 rfl rfl rfl rfl (by decide) c11.1 c11.2 c12 (fun g13 => ?_)
          refine h_geti C e_hx_CS_step_31 fg_CS_97 g13 rfl rfl rfl (q1.2 2 ((q1.2 21 ((q1.2 8 o 2).toNat) a0.toNat).toNat) 1) rfl ?_
          obtain ⟨c14, h⟩ := igd h
          refine h_icmp_lt (tgt := 40) C e_hx_CS_step_34 (by decide) c8 c14 (fun c15 => ?_) (fun c15 => ?_)
          · have h := ifp c15 h
            refine h_blk 41 [(0, vr 8 o), (1, vi a0), (2, vi a1), (3, vi a2)] [vr 8 o] C f_hx_CS_step_40_1 rfl ?_
            refine h_getr4 C e_hx_CS_step_41 fg_CS_15 h_o rfl rfl rfl rfl (fun g16 => ?_)
            refine h_blk 45 [(0, vr 8 o), (1, vi a0), (2, vi a1), (3, vi a2)] [vi a0, vr 21 ((q1.2 8 o 2).toNat)] C f_hx_CS_step_44_1 rfl ?_
            refine h_aald5 C e_hx_CS_step_45 rfl rfl g16 rfl rfl rfl rfl (by decide) c11.1 c11.2 c12 (fun g17 => ?_)
            refine h_blk 47 [(0, vr 8 o), (1, vi a0), (2, vi a1), (3, vi a2)] [vi a1, vr 2 ((q1.2 21 ((q1.2 8 o 2).toNat) a0.toNat).toNat)] C f_hx_CS_step_46_1 rfl ?_
            obtain ⟨q18, e19, h⟩ := obd h
            refine h_callV C Rm Y [vi a1] [] (hx_Prog_stepAt l D B H0 G _ ((q1.2 21 ((q1.2 8 o 2).toNat) a0.toNat).toNat) a1 g17 _ _ e19) cl_CS_114 g17 rfl rfl rfl e_hx_CS_step_47 rfl rfl rfl ⟨by decide, by decide⟩ ?_
            rintro _ _ ⟨rfl, rfl, g20⟩
            show HM g D G q q18.2 50 [(0, vr 8 o), (1, vi a0), (2, vi a1), (3, vi a2)] [vr 6 q18.1.toNat]
            refine h_blk 53 [(4, vr 6 q18.1.toNat), (0, vr 8 o), (1, vi a0), (2, vi a1), (3, vi a2)] [vi a2] C f_hx_CS_step_50_2 rfl ?_
            by_cases c21 : a2 = 0
            · have h := ifp c21 h
              refine h_tabIn (tgt := 88) C e_hx_CS_step_53 c5 (by omega) (by omega) (by rw [c21]; rfl) (by decide) ?_
              refine h_blk 90 [(4, vr 6 q18.1.toNat), (0, vr 8 o), (1, vi a0), (2, vi a1), (3, vi a2)] [vr 6 q18.1.toNat] C f_hx_CS_step_88_1 rfl ?_
              refine h_geti C e_hx_CS_step_90 fg_CS_118 g20 rfl rfl rfl (q18.2 6 q18.1.toNat 0) rfl ?_
              exact h_iret C Rm E e_hx_CS_step_93 (fin1 h)
            have h := ifn c21 h
            by_cases c22 : a2 = 1
            · have h := ifp c22 h
              refine h_tabIn (tgt := 94) C e_hx_CS_step_53 c5 (by omega) (by omega) (by rw [c22]; rfl) (by decide) ?_
              refine h_blk 96 [(4, vr 6 q18.1.toNat), (0, vr 8 o), (1, vi a0), (2, vi a1), (3, vi a2)] [vr 6 q18.1.toNat] C f_hx_CS_step_94_1 rfl ?_
              refine h_geti C e_hx_CS_step_96 fg_CS_123 g20 rfl rfl rfl (q18.2 6 q18.1.toNat 1) rfl ?_
              exact h_iret C Rm E e_hx_CS_step_99 (fin1 h)
            have h := ifn c22 h
            by_cases c23 : a2 = 2
            · have h := ifp c23 h
              refine h_tabIn (tgt := 100) C e_hx_CS_step_53 c5 (by omega) (by omega) (by rw [c23]; rfl) (by decide) ?_
              refine h_blk 102 [(4, vr 6 q18.1.toNat), (0, vr 8 o), (1, vi a0), (2, vi a1), (3, vi a2)] [vr 6 q18.1.toNat] C f_hx_CS_step_100_1 rfl ?_
              refine h_geti C e_hx_CS_step_102 fg_CS_126 g20 rfl rfl rfl (q18.2 6 q18.1.toNat 3) rfl ?_
              exact h_iret C Rm E e_hx_CS_step_105 (fin1 h)
            have h := ifn c23 h
            by_cases c24 : a2 = 3
            · have h := ifp c24 h
              refine h_tabIn (tgt := 106) C e_hx_CS_step_53 c5 (by omega) (by omega) (by rw [c24]; rfl) (by decide) ?_
              refine h_blk 108 [(4, vr 6 q18.1.toNat), (0, vr 8 o), (1, vi a0), (2, vi a1), (3, vi a2)] [vr 6 q18.1.toNat] C f_hx_CS_step_106_1 rfl ?_
              refine h_geti C e_hx_CS_step_108 fg_CS_129 g20 rfl rfl rfl (q18.2 6 q18.1.toNat 7) rfl ?_
              exact h_iret C Rm E e_hx_CS_step_111 (fin1 h)
            have h := ifn c24 h
            by_cases c25 : a2 = 4
            · have h := ifp c25 h
              refine h_tabIn (tgt := 112) C e_hx_CS_step_53 c5 (by omega) (by omega) (by rw [c25]; rfl) (by decide) ?_
              refine h_blk 114 [(4, vr 6 q18.1.toNat), (0, vr 8 o), (1, vi a0), (2, vi a1), (3, vi a2)] [vr 6 q18.1.toNat] C f_hx_CS_step_112_1 rfl ?_
              refine h_geti C e_hx_CS_step_114 fg_CS_130 g20 rfl rfl rfl (q18.2 6 q18.1.toNat 6) rfl ?_
              exact h_iret C Rm E e_hx_CS_step_117 (fin1 h)
            have h := ifn c25 h
            refine h_tabOut (tgt := 118) C e_hx_CS_step_53 c5 (by omega) (by decide) ?_
            refine h_blk 120 [(4, vr 6 q18.1.toNat), (0, vr 8 o), (1, vi a0), (2, vi a1), (3, vi a2)] [vr 6 q18.1.toNat] C f_hx_CS_step_118_1 rfl ?_
            refine h_geti C e_hx_CS_step_120 fg_CS_133 g20 rfl rfl rfl (q18.2 6 q18.1.toNat 2) rfl ?_
            exact h_iret C Rm E e_hx_CS_step_123 (fin1 h)
          · have h := ifn c15 h
            refine h_blk 39 [(0, vr 8 o), (1, vi a0), (2, vi a1), (3, vi a2)] [vi (-12)] C f_hx_CS_step_37_1 rfl ?_
            exact h_iret C Rm E e_hx_CS_step_39 (fin1 h)
      · have h := ifn c7 h
        refine h_blk 19 [(0, vr 8 o), (1, vi a0), (2, vi a1), (3, vi a2)] [vi (-2)] C f_hx_CS_step_17_1 rfl ?_
        exact h_iret C Rm E e_hx_CS_step_19 (fin1 h)

def f_Mo_namesInT (nmi : mA → Int → Int → Option (Int × mA)) (A : mA) (a0 : Int) (a1 : Int) : Option (Int × mA) := (if g32 a1 then (if a1 = (-1) then (some (0, A)) else (if (0 ≤ a0 ∧ a0 < ((6 : Nat) : Int)) then (if (0 ≤ a1 ∧ a1 < ((120 : Nat) : Int)) then (if g32 (A 43 a0.toNat a1.toNat) then (if (A 43 a0.toNat a1.toNat) = 1 then (some ((iShl 1 (A 44 a0.toNat a1.toNat)), A)) else (Option.bind (nmi A a0 (A 45 a0.toNat a1.toNat)) (fun q9 => (Option.bind (nmi q9.2 a0 (q9.2 46 a0.toNat a1.toNat)) (fun q12 => (some ((iOr q9.1 q12.1), q12.2))))))) else none) else none) else none)) else none)
theorem f_x_Mo_namesInT_0_2 : mblkB b_Mo_namesIn [(0, .iload_n 2, vi 0), (1, .iconst (-1), vi (-1))] = true := by decide +kernel
theorem e_x_Mo_namesInT_2 : decode b_Mo_namesIn 2 = .ok (.if_icmp .ne 5, 3) := by decide +kernel
theorem f_x_Mo_namesInT_7_1 : mblkB b_Mo_namesIn [(7, .aload_n 0, vi 0)] = true := by decide +kernel
theorem e_x_Mo_namesInT_8 : decode b_Mo_namesIn 8 = .ok (.getfield 48, 3) := by decide +kernel
theorem f_x_Mo_namesInT_11_1 : mblkB b_Mo_namesIn [(11, .iload_n 1, vi 0)] = true := by decide +kernel
theorem e_x_Mo_namesInT_12 : decode b_Mo_namesIn 12 = .ok (.aaload, 1) := by decide +kernel
theorem f_x_Mo_namesInT_13_1 : mblkB b_Mo_namesIn [(13, .iload_n 2, vi 0)] = true := by decide +kernel
theorem e_x_Mo_namesInT_14 : decode b_Mo_namesIn 14 = .ok (.iaload, 1) := by decide +kernel
theorem f_x_Mo_namesInT_15_1 : mblkB b_Mo_namesIn [(15, .iconst 1, vi 1)] = true := by decide +kernel
theorem e_x_Mo_namesInT_16 : decode b_Mo_namesIn 16 = .ok (.if_icmp .ne 14, 3) := by decide +kernel
theorem f_x_Mo_namesInT_30_3 : mblkB b_Mo_namesIn [(30, .aload_n 0, vi 0), (31, .iload_n 1, vi 0), (32, .aload_n 0, vi 0)] = true := by decide +kernel
theorem e_x_Mo_namesInT_33 : decode b_Mo_namesIn 33 = .ok (.getfield 54, 3) := by decide +kernel
theorem f_x_Mo_namesInT_36_1 : mblkB b_Mo_namesIn [(36, .iload_n 1, vi 0)] = true := by decide +kernel
theorem e_x_Mo_namesInT_37 : decode b_Mo_namesIn 37 = .ok (.aaload, 1) := by decide +kernel
theorem f_x_Mo_namesInT_38_1 : mblkB b_Mo_namesIn [(38, .iload_n 2, vi 0)] = true := by decide +kernel
theorem e_x_Mo_namesInT_39 : decode b_Mo_namesIn 39 = .ok (.iaload, 1) := by decide +kernel
theorem e_x_Mo_namesInT_40 : decode b_Mo_namesIn 40 = .ok (.invokevirtual 266, 3) := by decide +kernel
theorem f_x_Mo_namesInT_43_3 : mblkB b_Mo_namesIn [(43, .aload_n 0, vi 0), (44, .iload_n 1, vi 0), (45, .aload_n 0, vi 0)] = true := by decide +kernel
theorem e_x_Mo_namesInT_46 : decode b_Mo_namesIn 46 = .ok (.getfield 57, 3) := by decide +kernel
theorem f_x_Mo_namesInT_49_1 : mblkB b_Mo_namesIn [(49, .iload_n 1, vi 0)] = true := by decide +kernel
theorem e_x_Mo_namesInT_50 : decode b_Mo_namesIn 50 = .ok (.aaload, 1) := by decide +kernel
theorem f_x_Mo_namesInT_51_1 : mblkB b_Mo_namesIn [(51, .iload_n 2, vi 0)] = true := by decide +kernel
theorem e_x_Mo_namesInT_52 : decode b_Mo_namesIn 52 = .ok (.iaload, 1) := by decide +kernel
theorem e_x_Mo_namesInT_53 : decode b_Mo_namesIn 53 = .ok (.invokevirtual 266, 3) := by decide +kernel
theorem f_x_Mo_namesInT_56_1 : mblkB b_Mo_namesIn [(56, .ior, vi 0)] = true := by decide +kernel
theorem e_x_Mo_namesInT_57 : decode b_Mo_namesIn 57 = .ok (.ireturn, 1) := by decide +kernel
theorem f_x_Mo_namesInT_19_2 : mblkB b_Mo_namesIn [(19, .iconst 1, vi 1), (20, .aload_n 0, vi 0)] = true := by decide +kernel
theorem e_x_Mo_namesInT_21 : decode b_Mo_namesIn 21 = .ok (.getfield 51, 3) := by decide +kernel
theorem f_x_Mo_namesInT_24_1 : mblkB b_Mo_namesIn [(24, .iload_n 1, vi 0)] = true := by decide +kernel
theorem e_x_Mo_namesInT_25 : decode b_Mo_namesIn 25 = .ok (.aaload, 1) := by decide +kernel
theorem f_x_Mo_namesInT_26_1 : mblkB b_Mo_namesIn [(26, .iload_n 2, vi 0)] = true := by decide +kernel
theorem e_x_Mo_namesInT_27 : decode b_Mo_namesIn 27 = .ok (.iaload, 1) := by decide +kernel
theorem f_x_Mo_namesInT_28_1 : mblkB b_Mo_namesIn [(28, .ishl, vi 0)] = true := by decide +kernel
theorem e_x_Mo_namesInT_29 : decode b_Mo_namesIn 29 = .ok (.ireturn, 1) := by decide +kernel
theorem f_x_Mo_namesInT_5_1 : mblkB b_Mo_namesIn [(5, .iconst 0, vi 0)] = true := by decide +kernel
theorem e_x_Mo_namesInT_6 : decode b_Mo_namesIn 6 = .ok (.ireturn, 1) := by decide +kernel
set_option maxHeartbeats 4000000 in
set_option maxRecDepth 20000 in
theorem x_Mo_namesInT {nmi : mA → Int → Int → Option (Int × mA)} {fr lo : Nat} (hnmi : ∀ (l : Launch) (D : va_G) (B : Nat) (H0 : Heap) (ad : mAd) (A : mA) (a0 : Int) (a1 : Int) (hS : mStr D ad) (r9 : Int) (A9 : mA), nmi A a0 a1 = some (r9, A9) → mMet l D B H0 ad y_Mo_namesIn b_Mo_namesIn 3 (some .int) fr lo [vr 0 0, vi a0, vi a1] A (fun v A' => v = some (vi r9) ∧ A' = A9)) : ∀ (l : Launch) (D : va_G) (B : Nat) (H0 : Heap) (ad : mAd) (A : mA) (a0 : Int) (a1 : Int) (hS : mStr D ad) (r9 : Int) (A9 : mA), f_Mo_namesInT nmi A a0 a1 = some (r9, A9) → mMet l D B H0 ad y_Mo_namesIn b_Mo_namesIn 3 (some .int) (fr + 2) (lo + 60) [vr 0 0, vi a0, vi a1] A (fun v A' => v = some (vi r9) ∧ A' = A9) := by
  intro l D B H0 ad A a0 a1  hS r9 A9 h
  refine m_met (by decide) rfl (fun g w0 C Rm Y E => ?_)
  show JM g D ad w0 A 0 [(0, vr 0 0), (1, vi a0), (2, vi a1)] []
  unfold f_Mo_namesInT at h
  refine m_blk 2 [(0, vr 0 0), (1, vi a0), (2, vi a1)] [vi (-1), vi a1] C f_x_Mo_namesInT_0_2 rfl ?_
  obtain ⟨c1, h⟩ := igd h
  refine m_icmp_ne (tgt := 7) C e_x_Mo_namesInT_2 (by decide) c1 (by decide) (fun c2 => ?_) (fun c2 => ?_)
  · have h := ifn c2 h
    refine m_blk 8 [(0, vr 0 0), (1, vi a0), (2, vi a1)] [vr 0 0] C f_x_Mo_namesInT_7_1 rfl ?_
    refine m_getr C e_x_Mo_namesInT_8 fg_Mo_48 rfl (by decide) rfl ?_
    refine m_blk 12 [(0, vr 0 0), (1, vi a0), (2, vi a1)] [vi a0, vr 23 0] C f_x_Mo_namesInT_11_1 rfl ?_
    obtain ⟨c3, h⟩ := igd h
    have k4 : a0.toNat < 6 := by omega
    refine m_aald C a0.toNat e_x_Mo_namesInT_12 rfl rfl rfl (by decide) (by decide) c3.1 c3.2 (mz _ _) ?_
    refine m_blk 14 [(0, vr 0 0), (1, vi a0), (2, vi a1)] [vi a1, vr 43 a0.toNat] C f_x_Mo_namesInT_13_1 rfl ?_
    obtain ⟨c5, h⟩ := igd h
    refine m_iald C e_x_Mo_namesInT_14 rfl k4 (by decide) c5.1 c5.2 (A 43 a0.toNat a1.toNat) rfl ?_
    refine m_blk 16 [(0, vr 0 0), (1, vi a0), (2, vi a1)] [vi 1, vi (A 43 a0.toNat a1.toNat)] C f_x_Mo_namesInT_15_1 rfl ?_
    obtain ⟨c6, h⟩ := igd h
    refine m_icmp_ne (tgt := 30) C e_x_Mo_namesInT_16 (by decide) c6 (by decide) (fun c7 => ?_) (fun c7 => ?_)
    · have h := ifn c7 h
      refine m_blk 33 [(0, vr 0 0), (1, vi a0), (2, vi a1)] [vr 0 0, vi a0, vr 0 0] C f_x_Mo_namesInT_30_3 rfl ?_
      refine m_getr C e_x_Mo_namesInT_33 fg_Mo_54 rfl (by decide) rfl ?_
      refine m_blk 37 [(0, vr 0 0), (1, vi a0), (2, vi a1)] [vi a0, vr 25 0, vi a0, vr 0 0] C f_x_Mo_namesInT_36_1 rfl ?_
      have k8 : a0.toNat < 6 := by omega
      refine m_aald C a0.toNat e_x_Mo_namesInT_37 rfl rfl rfl (by decide) (by decide) c3.1 c3.2 (mz _ _) ?_
      refine m_blk 39 [(0, vr 0 0), (1, vi a0), (2, vi a1)] [vi a1, vr 45 a0.toNat, vi a0, vr 0 0] C f_x_Mo_namesInT_38_1 rfl ?_
      refine m_iald C e_x_Mo_namesInT_39 rfl k8 (by decide) c5.1 c5.2 (A 45 a0.toNat a1.toNat) rfl ?_
      obtain ⟨q9, e10, h⟩ := obd h
      refine m_callV C Rm Y [vi a0, vi (A 45 a0.toNat a1.toNat)] [] (hnmi l D B H0 ad _ a0 (A 45 a0.toNat a1.toNat) hS _ _ e10) cl_Mo_266 rfl (by decide) rfl rfl e_x_Mo_namesInT_40 rfl rfl rfl ⟨by show _ ≤ ((fr + 2) : Nat); omega, by show _ ≤ ((lo + 60) : Nat); omega⟩ ?_
      rintro _ _ ⟨rfl, rfl⟩
      show JM g D ad w0 q9.2 43 [(0, vr 0 0), (1, vi a0), (2, vi a1)] [vi q9.1]
      refine m_blk 46 [(0, vr 0 0), (1, vi a0), (2, vi a1)] [vr 0 0, vi a0, vr 0 0, vi q9.1] C f_x_Mo_namesInT_43_3 rfl ?_
      refine m_getr C e_x_Mo_namesInT_46 fg_Mo_57 rfl (by decide) rfl ?_
      refine m_blk 50 [(0, vr 0 0), (1, vi a0), (2, vi a1)] [vi a0, vr 26 0, vi a0, vr 0 0, vi q9.1] C f_x_Mo_namesInT_49_1 rfl ?_
      have k11 : a0.toNat < 6 := by omega
      refine m_aald C a0.toNat e_x_Mo_namesInT_50 rfl rfl rfl (by decide) (by decide) c3.1 c3.2 (mz _ _) ?_
      refine m_blk 52 [(0, vr 0 0), (1, vi a0), (2, vi a1)] [vi a1, vr 46 a0.toNat, vi a0, vr 0 0, vi q9.1] C f_x_Mo_namesInT_51_1 rfl ?_
      refine m_iald C e_x_Mo_namesInT_52 rfl k11 (by decide) c5.1 c5.2 (q9.2 46 a0.toNat a1.toNat) rfl ?_
      obtain ⟨q12, e13, h⟩ := obd h
      refine m_callV C Rm Y [vi a0, vi (q9.2 46 a0.toNat a1.toNat)] [vi q9.1] (hnmi l D B H0 ad _ a0 (q9.2 46 a0.toNat a1.toNat) hS _ _ e13) cl_Mo_266 rfl (by decide) rfl rfl e_x_Mo_namesInT_53 rfl rfl rfl ⟨by show _ ≤ ((fr + 2) : Nat); omega, by show _ ≤ ((lo + 60) : Nat); omega⟩ ?_
      rintro _ _ ⟨rfl, rfl⟩
      show JM g D ad w0 q12.2 56 [(0, vr 0 0), (1, vi a0), (2, vi a1)] [vi q12.1, vi q9.1]
      refine m_blk 57 [(0, vr 0 0), (1, vi a0), (2, vi a1)] [vi (iOr q9.1 q12.1)] C f_x_Mo_namesInT_56_1 rfl ?_
      exact m_iret C Rm E e_x_Mo_namesInT_57 (fin1 h)
    · have h := ifp c7 h
      refine m_blk 21 [(0, vr 0 0), (1, vi a0), (2, vi a1)] [vr 0 0, vi 1] C f_x_Mo_namesInT_19_2 rfl ?_
      refine m_getr C e_x_Mo_namesInT_21 fg_Mo_51 rfl (by decide) rfl ?_
      refine m_blk 25 [(0, vr 0 0), (1, vi a0), (2, vi a1)] [vi a0, vr 24 0, vi 1] C f_x_Mo_namesInT_24_1 rfl ?_
      have k14 : a0.toNat < 6 := by omega
      refine m_aald C a0.toNat e_x_Mo_namesInT_25 rfl rfl rfl (by decide) (by decide) c3.1 c3.2 (mz _ _) ?_
      refine m_blk 27 [(0, vr 0 0), (1, vi a0), (2, vi a1)] [vi a1, vr 44 a0.toNat, vi 1] C f_x_Mo_namesInT_26_1 rfl ?_
      refine m_iald C e_x_Mo_namesInT_27 rfl k14 (by decide) c5.1 c5.2 (A 44 a0.toNat a1.toNat) rfl ?_
      refine m_blk 29 [(0, vr 0 0), (1, vi a0), (2, vi a1)] [vi (iShl 1 (A 44 a0.toNat a1.toNat))] C f_x_Mo_namesInT_28_1 rfl ?_
      exact m_iret C Rm E e_x_Mo_namesInT_29 (fin1 h)
  · have h := ifp c2 h
    refine m_blk 6 [(0, vr 0 0), (1, vi a0), (2, vi a1)] [vi 0] C f_x_Mo_namesInT_5_1 rfl ?_
    exact m_iret C Rm E e_x_Mo_namesInT_6 (fin1 h)

def f_Mo_namesInN : Nat → mA → Int → Int → Option (Int × mA)
  | 0, _, _, _ => none
  | n + 1, A, a0, a1 => f_Mo_namesInT (f_Mo_namesInN n) A a0 a1
theorem x_Mo_namesInN : ∀ n : Nat, ∀ (l : Launch) (D : va_G) (B : Nat) (H0 : Heap) (ad : mAd) (A : mA) (a0 : Int) (a1 : Int) (hS : mStr D ad) (r9 : Int) (A9 : mA), f_Mo_namesInN n A a0 a1 = some (r9, A9) → mMet l D B H0 ad y_Mo_namesIn b_Mo_namesIn 3 (some .int) (2 * n) (60 * n) [vr 0 0, vi a0, vi a1] A (fun v A' => v = some (vi r9) ∧ A' = A9) := by
  intro n
  induction n with
  | zero => intro l D B H0 ad A a0 a1 hS r9 A9 h; cases h
  | succ n ih =>
    intro l D B H0 ad A a0 a1 hS r9 A9 h
    have k := x_Mo_namesInT ih l D B H0 ad A a0 a1 hS r9 A9 h
    have e1 : 2 * (n + 1) = 2 * n + 2 := by omega
    have e2 : 60 * (n + 1) = 60 * n + 60 := by omega
    rw [e1, e2]
    exact k
def f_Mo_stepF (A : mA) (a0 : Int) (a1 : Int) (a2 : Int) : Option (Int × mA) := (Option.bind (f_Mo_isProgram A a0) (fun q1 => (if g32 q1.1 then (if q1.1 = 0 then (some ((-2), q1.2)) else (Option.bind (f_Mo_in q1.2 a2 0 5) (fun q5 => (if g32 q5.1 then (if q5.1 = 0 then (some ((-2), q5.2)) else (if (0 ≤ a0 ∧ a0 < ((6 : Nat) : Int)) then (Option.bind (f_Mo_in q5.2 a1 0 ((q5.2 5 0 a0.toNat) - 1)) (fun q10 => (if g32 q10.1 then (if q10.1 = 0 then (some ((-12), q10.2)) else (if g32 a2 then (if a2 = 0 then (if (0 ≤ a1 ∧ a1 < ((16 : Nat) : Int)) then (some ((q10.2 34 a0.toNat a1.toNat), q10.2)) else none) else if a2 = 1 then (if (0 ≤ a1 ∧ a1 < ((16 : Nat) : Int)) then (some ((q10.2 35 a0.toNat a1.toNat), q10.2)) else none) else if a2 = 2 then (if (0 ≤ a1 ∧ a1 < ((16 : Nat) : Int)) then (some (((q10.2 37 a0.toNat a1.toNat) - a1), q10.2)) else none) else if a2 = 3 then (Option.bind (f_Mo_bitsOfStepN 20 q10.2 a0 a1) (fun q25 => (some (q25.1, q25.2)))) else if a2 = 4 then (if (0 ≤ a1 ∧ a1 < ((16 : Nat) : Int)) then (Option.bind (f_Mo_namesInN 121 q10.2 a0 (q10.2 39 a0.toNat a1.toNat)) (fun q30 => (some (q30.1, q30.2)))) else none) else (if (0 ≤ a1 ∧ a1 < ((16 : Nat) : Int)) then (some ((q10.2 36 a0.toNat a1.toNat), q10.2)) else none)) else none)) else none))) else none)) else none)))) else none)))
theorem f_x_Mo_stepF_0_2 : mblkB b_Mo_step_1 [(0, .aload_n 0, vi 0), (1, .iload_n 1, vi 0)] = true := by decide +kernel
theorem e_x_Mo_stepF_2 : decode b_Mo_step_1 2 = .ok (.invokevirtual 364, 3) := by decide +kernel
theorem e_x_Mo_stepF_5 : decode b_Mo_step_1 5 = .ok (.ifCond .eq 12, 3) := by decide +kernel
theorem f_x_Mo_stepF_17_1 : mblkB b_Mo_step_1 [(17, .bipush (-2), vi (-2))] = true := by decide +kernel
theorem e_x_Mo_stepF_19 : decode b_Mo_step_1 19 = .ok (.ireturn, 1) := by decide +kernel
theorem f_x_Mo_stepF_8_3 : mblkB b_Mo_step_1 [(8, .iload_n 3, vi 0), (9, .iconst 0, vi 0), (10, .iconst 5, vi 5)] = true := by decide +kernel
theorem e_x_Mo_stepF_11 : decode b_Mo_step_1 11 = .ok (.invokestatic 108, 3) := by decide +kernel
theorem e_x_Mo_stepF_14 : decode b_Mo_step_1 14 = .ok (.ifCond .ne 6, 3) := by decide +kernel
theorem f_x_Mo_stepF_20_3 : mblkB b_Mo_step_1 [(20, .iload_n 2, vi 0), (21, .iconst 0, vi 0), (22, .aload_n 0, vi 0)] = true := by decide +kernel
theorem e_x_Mo_stepF_23 : decode b_Mo_step_1 23 = .ok (.getfield 9, 3) := by decide +kernel
theorem f_x_Mo_stepF_26_1 : mblkB b_Mo_step_1 [(26, .iload_n 1, vi 0)] = true := by decide +kernel
theorem e_x_Mo_stepF_27 : decode b_Mo_step_1 27 = .ok (.iaload, 1) := by decide +kernel
theorem f_x_Mo_stepF_28_2 : mblkB b_Mo_step_1 [(28, .iconst 1, vi 1), (29, .isub, vi 0)] = true := by decide +kernel
theorem e_x_Mo_stepF_30 : decode b_Mo_step_1 30 = .ok (.invokestatic 108, 3) := by decide +kernel
theorem e_x_Mo_stepF_33 : decode b_Mo_step_1 33 = .ok (.ifCond .ne 6, 3) := by decide +kernel
theorem f_x_Mo_stepF_39_1 : mblkB b_Mo_step_1 [(39, .iload_n 3, vi 0)] = true := by decide +kernel
theorem e_x_Mo_stepF_40 : decode b_Mo_step_1 40 = .ok (.tableswitch 86 0 4 #[36, 45, 54, 65, 72], 36) := by decide +kernel
theorem f_x_Mo_stepF_76_1 : mblkB b_Mo_step_1 [(76, .aload_n 0, vi 0)] = true := by decide +kernel
theorem e_x_Mo_stepF_77 : decode b_Mo_step_1 77 = .ok (.getfield 21, 3) := by decide +kernel
theorem f_x_Mo_stepF_80_1 : mblkB b_Mo_step_1 [(80, .iload_n 1, vi 0)] = true := by decide +kernel
theorem e_x_Mo_stepF_81 : decode b_Mo_step_1 81 = .ok (.aaload, 1) := by decide +kernel
theorem f_x_Mo_stepF_82_1 : mblkB b_Mo_step_1 [(82, .iload_n 2, vi 0)] = true := by decide +kernel
theorem e_x_Mo_stepF_83 : decode b_Mo_step_1 83 = .ok (.iaload, 1) := by decide +kernel
theorem e_x_Mo_stepF_84 : decode b_Mo_step_1 84 = .ok (.ireturn, 1) := by decide +kernel
theorem f_x_Mo_stepF_85_1 : mblkB b_Mo_step_1 [(85, .aload_n 0, vi 0)] = true := by decide +kernel
theorem e_x_Mo_stepF_86 : decode b_Mo_step_1 86 = .ok (.getfield 24, 3) := by decide +kernel
theorem f_x_Mo_stepF_89_1 : mblkB b_Mo_step_1 [(89, .iload_n 1, vi 0)] = true := by decide +kernel
theorem e_x_Mo_stepF_90 : decode b_Mo_step_1 90 = .ok (.aaload, 1) := by decide +kernel
theorem f_x_Mo_stepF_91_1 : mblkB b_Mo_step_1 [(91, .iload_n 2, vi 0)] = true := by decide +kernel
theorem e_x_Mo_stepF_92 : decode b_Mo_step_1 92 = .ok (.iaload, 1) := by decide +kernel
theorem e_x_Mo_stepF_93 : decode b_Mo_step_1 93 = .ok (.ireturn, 1) := by decide +kernel
theorem f_x_Mo_stepF_94_1 : mblkB b_Mo_step_1 [(94, .aload_n 0, vi 0)] = true := by decide +kernel
theorem e_x_Mo_stepF_95 : decode b_Mo_step_1 95 = .ok (.getfield 30, 3) := by decide +kernel
theorem f_x_Mo_stepF_98_1 : mblkB b_Mo_step_1 [(98, .iload_n 1, vi 0)] = true := by decide +kernel
theorem e_x_Mo_stepF_99 : decode b_Mo_step_1 99 = .ok (.aaload, 1) := by decide +kernel
theorem f_x_Mo_stepF_100_1 : mblkB b_Mo_step_1 [(100, .iload_n 2, vi 0)] = true := by decide +kernel
theorem e_x_Mo_stepF_101 : decode b_Mo_step_1 101 = .ok (.iaload, 1) := by decide +kernel
theorem f_x_Mo_stepF_102_2 : mblkB b_Mo_step_1 [(102, .iload_n 2, vi 0), (103, .isub, vi 0)] = true := by decide +kernel
theorem e_x_Mo_stepF_104 : decode b_Mo_step_1 104 = .ok (.ireturn, 1) := by decide +kernel
theorem f_x_Mo_stepF_105_3 : mblkB b_Mo_step_1 [(105, .aload_n 0, vi 0), (106, .iload_n 1, vi 0), (107, .iload_n 2, vi 0)] = true := by decide +kernel
theorem e_x_Mo_stepF_108 : decode b_Mo_step_1 108 = .ok (.invokevirtual 228, 3) := by decide +kernel
theorem e_x_Mo_stepF_111 : decode b_Mo_step_1 111 = .ok (.ireturn, 1) := by decide +kernel
theorem f_x_Mo_stepF_112_3 : mblkB b_Mo_step_1 [(112, .aload_n 0, vi 0), (113, .iload_n 1, vi 0), (114, .aload_n 0, vi 0)] = true := by decide +kernel
theorem e_x_Mo_stepF_115 : decode b_Mo_step_1 115 = .ok (.getfield 36, 3) := by decide +kernel
theorem f_x_Mo_stepF_118_1 : mblkB b_Mo_step_1 [(118, .iload_n 1, vi 0)] = true := by decide +kernel
theorem e_x_Mo_stepF_119 : decode b_Mo_step_1 119 = .ok (.aaload, 1) := by decide +kernel
theorem f_x_Mo_stepF_120_1 : mblkB b_Mo_step_1 [(120, .iload_n 2, vi 0)] = true := by decide +kernel
theorem e_x_Mo_stepF_121 : decode b_Mo_step_1 121 = .ok (.iaload, 1) := by decide +kernel
theorem e_x_Mo_stepF_122 : decode b_Mo_step_1 122 = .ok (.invokevirtual 266, 3) := by decide +kernel
theorem e_x_Mo_stepF_125 : decode b_Mo_step_1 125 = .ok (.ireturn, 1) := by decide +kernel
theorem f_x_Mo_stepF_126_1 : mblkB b_Mo_step_1 [(126, .aload_n 0, vi 0)] = true := by decide +kernel
theorem e_x_Mo_stepF_127 : decode b_Mo_step_1 127 = .ok (.getfield 27, 3) := by decide +kernel
theorem f_x_Mo_stepF_130_1 : mblkB b_Mo_step_1 [(130, .iload_n 1, vi 0)] = true := by decide +kernel
theorem e_x_Mo_stepF_131 : decode b_Mo_step_1 131 = .ok (.aaload, 1) := by decide +kernel
theorem f_x_Mo_stepF_132_1 : mblkB b_Mo_step_1 [(132, .iload_n 2, vi 0)] = true := by decide +kernel
theorem e_x_Mo_stepF_133 : decode b_Mo_step_1 133 = .ok (.iaload, 1) := by decide +kernel
theorem e_x_Mo_stepF_134 : decode b_Mo_step_1 134 = .ok (.ireturn, 1) := by decide +kernel
theorem f_x_Mo_stepF_36_1 : mblkB b_Mo_step_1 [(36, .bipush (-12), vi (-12))] = true := by decide +kernel
theorem e_x_Mo_stepF_38 : decode b_Mo_step_1 38 = .ok (.ireturn, 1) := by decide +kernel
set_option maxHeartbeats 4000000 in
set_option maxRecDepth 20000 in
theorem x_Mo_stepF  : ∀ (l : Launch) (D : va_G) (B : Nat) (H0 : Heap) (ad : mAd) (A : mA) (a0 : Int) (a1 : Int) (a2 : Int) (hS : mStr D ad) (r9 : Int) (A9 : mA), f_Mo_stepF  A a0 a1 a2 = some (r9, A9) → mMet l D B H0 ad y_Mo_step_1 b_Mo_step_1 4 (some .int) 243 7282 [vr 0 0, vi a0, vi a1, vi a2] A (fun v A' => v = some (vi r9) ∧ A' = A9) := by
  intro l D B H0 ad A a0 a1 a2  hS r9 A9 h
  refine m_met (by decide) rfl (fun g w0 C Rm Y E => ?_)
  show JM g D ad w0 A 0 [(0, vr 0 0), (1, vi a0), (2, vi a1), (3, vi a2)] []
  unfold f_Mo_stepF at h
  refine m_blk 2 [(0, vr 0 0), (1, vi a0), (2, vi a1), (3, vi a2)] [vi a0, vr 0 0] C f_x_Mo_stepF_0_2 rfl ?_
  obtain ⟨q1, e2, h⟩ := obd h
  refine m_callV C Rm Y [vi a0] [] (x_Mo_isProgram l D B H0 ad _ a0 hS _ _ e2) cl_Mo_364 rfl (by decide) rfl rfl e_x_Mo_stepF_2 rfl rfl rfl ⟨by decide, by decide⟩ ?_
  rintro _ _ ⟨rfl, rfl⟩
  show JM g D ad w0 q1.2 5 [(0, vr 0 0), (1, vi a0), (2, vi a1), (3, vi a2)] [vi q1.1]
  obtain ⟨c3, h⟩ := igd h
  refine m_if_eq (tgt := 17) C e_x_Mo_stepF_5 (by decide) c3 (fun c4 => ?_) (fun c4 => ?_)
  · have h := ifp c4 h
    refine m_blk 19 [(0, vr 0 0), (1, vi a0), (2, vi a1), (3, vi a2)] [vi (-2)] C f_x_Mo_stepF_17_1 rfl ?_
    exact m_iret C Rm E e_x_Mo_stepF_19 (fin1 h)
  · have h := ifn c4 h
    refine m_blk 11 [(0, vr 0 0), (1, vi a0), (2, vi a1), (3, vi a2)] [vi 5, vi 0, vi a2] C f_x_Mo_stepF_8_3 rfl ?_
    obtain ⟨q5, e6, h⟩ := obd h
    refine m_callS C Rm Y [vi a2, vi 0, vi 5] [] (x_Mo_in l D B H0 ad _ a2 0 5 hS _ _ e6) cl_Mo_108 e_x_Mo_stepF_11 rfl rfl rfl ⟨by decide, by decide⟩ ?_
    rintro _ _ ⟨rfl, rfl⟩
    show JM g D ad w0 q5.2 14 [(0, vr 0 0), (1, vi a0), (2, vi a1), (3, vi a2)] [vi q5.1]
    obtain ⟨c7, h⟩ := igd h
    refine m_if_ne (tgt := 20) C e_x_Mo_stepF_14 (by decide) c7 (fun c8 => ?_) (fun c8 => ?_)
    · have h := ifn c8 h
      refine m_blk 23 [(0, vr 0 0), (1, vi a0), (2, vi a1), (3, vi a2)] [vr 0 0, vi 0, vi a1] C f_x_Mo_stepF_20_3 rfl ?_
      refine m_getr C e_x_Mo_stepF_23 fg_Mo_9 rfl (by decide) rfl ?_
      refine m_blk 27 [(0, vr 0 0), (1, vi a0), (2, vi a1), (3, vi a2)] [vi a0, vr 5 0, vi 0, vi a1] C f_x_Mo_stepF_26_1 rfl ?_
      obtain ⟨c9, h⟩ := igd h
      refine m_iald C e_x_Mo_stepF_27 rfl (by decide) (by decide) c9.1 c9.2 (q5.2 5 0 a0.toNat) rfl ?_
      refine m_blk 30 [(0, vr 0 0), (1, vi a0), (2, vi a1), (3, vi a2)] [vi ((q5.2 5 0 a0.toNat) - 1), vi 0, vi a1] C f_x_Mo_stepF_28_2 rfl ?_
      obtain ⟨q10, e11, h⟩ := obd h
      refine m_callS C Rm Y [vi a1, vi 0, vi ((q5.2 5 0 a0.toNat) - 1)] [] (x_Mo_in l D B H0 ad _ a1 0 ((q5.2 5 0 a0.toNat) - 1) hS _ _ e11) cl_Mo_108 e_x_Mo_stepF_30 rfl rfl rfl ⟨by decide, by decide⟩ ?_
      rintro _ _ ⟨rfl, rfl⟩
      show JM g D ad w0 q10.2 33 [(0, vr 0 0), (1, vi a0), (2, vi a1), (3, vi a2)] [vi q10.1]
      obtain ⟨c12, h⟩ := igd h
      refine m_if_ne (tgt := 39) C e_x_Mo_stepF_33 (by decide) c12 (fun c13 => ?_) (fun c13 => ?_)
      · have h := ifn c13 h
        refine m_blk 40 [(0, vr 0 0), (1, vi a0), (2, vi a1), (3, vi a2)] [vi a2] C f_x_Mo_stepF_39_1 rfl ?_
        obtain ⟨c14, h⟩ := igd h
        by_cases c15 : a2 = 0
        · have h := ifp c15 h
          refine m_tabIn (tgt := 76) C e_x_Mo_stepF_40 c14 (by omega) (by omega) (by rw [c15]; rfl) (by decide) ?_
          refine m_blk 77 [(0, vr 0 0), (1, vi a0), (2, vi a1), (3, vi a2)] [vr 0 0] C f_x_Mo_stepF_76_1 rfl ?_
          refine m_getr C e_x_Mo_stepF_77 fg_Mo_21 rfl (by decide) rfl ?_
          refine m_blk 81 [(0, vr 0 0), (1, vi a0), (2, vi a1), (3, vi a2)] [vi a0, vr 14 0] C f_x_Mo_stepF_80_1 rfl ?_
          have k16 : a0.toNat < 6 := by omega
          refine m_aald C a0.toNat e_x_Mo_stepF_81 rfl rfl rfl (by decide) (by decide) c9.1 c9.2 (mz _ _) ?_
          refine m_blk 83 [(0, vr 0 0), (1, vi a0), (2, vi a1), (3, vi a2)] [vi a1, vr 34 a0.toNat] C f_x_Mo_stepF_82_1 rfl ?_
          obtain ⟨c17, h⟩ := igd h
          refine m_iald C e_x_Mo_stepF_83 rfl k16 (by decide) c17.1 c17.2 (q10.2 34 a0.toNat a1.toNat) rfl ?_
          exact m_iret C Rm E e_x_Mo_stepF_84 (fin1 h)
        have h := ifn c15 h
        by_cases c18 : a2 = 1
        · have h := ifp c18 h
          refine m_tabIn (tgt := 85) C e_x_Mo_stepF_40 c14 (by omega) (by omega) (by rw [c18]; rfl) (by decide) ?_
          refine m_blk 86 [(0, vr 0 0), (1, vi a0), (2, vi a1), (3, vi a2)] [vr 0 0] C f_x_Mo_stepF_85_1 rfl ?_
          refine m_getr C e_x_Mo_stepF_86 fg_Mo_24 rfl (by decide) rfl ?_
          refine m_blk 90 [(0, vr 0 0), (1, vi a0), (2, vi a1), (3, vi a2)] [vi a0, vr 15 0] C f_x_Mo_stepF_89_1 rfl ?_
          have k19 : a0.toNat < 6 := by omega
          refine m_aald C a0.toNat e_x_Mo_stepF_90 rfl rfl rfl (by decide) (by decide) c9.1 c9.2 (mz _ _) ?_
          refine m_blk 92 [(0, vr 0 0), (1, vi a0), (2, vi a1), (3, vi a2)] [vi a1, vr 35 a0.toNat] C f_x_Mo_stepF_91_1 rfl ?_
          obtain ⟨c20, h⟩ := igd h
          refine m_iald C e_x_Mo_stepF_92 rfl k19 (by decide) c20.1 c20.2 (q10.2 35 a0.toNat a1.toNat) rfl ?_
          exact m_iret C Rm E e_x_Mo_stepF_93 (fin1 h)
        have h := ifn c18 h
        by_cases c21 : a2 = 2
        · have h := ifp c21 h
          refine m_tabIn (tgt := 94) C e_x_Mo_stepF_40 c14 (by omega) (by omega) (by rw [c21]; rfl) (by decide) ?_
          refine m_blk 95 [(0, vr 0 0), (1, vi a0), (2, vi a1), (3, vi a2)] [vr 0 0] C f_x_Mo_stepF_94_1 rfl ?_
          refine m_getr C e_x_Mo_stepF_95 fg_Mo_30 rfl (by decide) rfl ?_
          refine m_blk 99 [(0, vr 0 0), (1, vi a0), (2, vi a1), (3, vi a2)] [vi a0, vr 17 0] C f_x_Mo_stepF_98_1 rfl ?_
          have k22 : a0.toNat < 6 := by omega
          refine m_aald C a0.toNat e_x_Mo_stepF_99 rfl rfl rfl (by decide) (by decide) c9.1 c9.2 (mz _ _) ?_
          refine m_blk 101 [(0, vr 0 0), (1, vi a0), (2, vi a1), (3, vi a2)] [vi a1, vr 37 a0.toNat] C f_x_Mo_stepF_100_1 rfl ?_
          obtain ⟨c23, h⟩ := igd h
          refine m_iald C e_x_Mo_stepF_101 rfl k22 (by decide) c23.1 c23.2 (q10.2 37 a0.toNat a1.toNat) rfl ?_
          refine m_blk 104 [(0, vr 0 0), (1, vi a0), (2, vi a1), (3, vi a2)] [vi ((q10.2 37 a0.toNat a1.toNat) - a1)] C f_x_Mo_stepF_102_2 rfl ?_
          exact m_iret C Rm E e_x_Mo_stepF_104 (fin1 h)
        have h := ifn c21 h
        by_cases c24 : a2 = 3
        · have h := ifp c24 h
          refine m_tabIn (tgt := 105) C e_x_Mo_stepF_40 c14 (by omega) (by omega) (by rw [c24]; rfl) (by decide) ?_
          refine m_blk 108 [(0, vr 0 0), (1, vi a0), (2, vi a1), (3, vi a2)] [vi a1, vi a0, vr 0 0] C f_x_Mo_stepF_105_3 rfl ?_
          obtain ⟨q25, e26, h⟩ := obd h
          refine m_callV C Rm Y [vi a0, vi a1] [] (x_Mo_bitsOfStepN 20 l D B H0 ad _ a0 a1 hS _ _ e26) cl_Mo_228 rfl (by decide) rfl rfl e_x_Mo_stepF_108 rfl rfl rfl ⟨by decide, by decide⟩ ?_
          rintro _ _ ⟨rfl, rfl⟩
          show JM g D ad w0 q25.2 111 [(0, vr 0 0), (1, vi a0), (2, vi a1), (3, vi a2)] [vi q25.1]
          exact m_iret C Rm E e_x_Mo_stepF_111 (fin1 h)
        have h := ifn c24 h
        by_cases c27 : a2 = 4
        · have h := ifp c27 h
          refine m_tabIn (tgt := 112) C e_x_Mo_stepF_40 c14 (by omega) (by omega) (by rw [c27]; rfl) (by decide) ?_
          refine m_blk 115 [(0, vr 0 0), (1, vi a0), (2, vi a1), (3, vi a2)] [vr 0 0, vi a0, vr 0 0] C f_x_Mo_stepF_112_3 rfl ?_
          refine m_getr C e_x_Mo_stepF_115 fg_Mo_36 rfl (by decide) rfl ?_
          refine m_blk 119 [(0, vr 0 0), (1, vi a0), (2, vi a1), (3, vi a2)] [vi a0, vr 19 0, vi a0, vr 0 0] C f_x_Mo_stepF_118_1 rfl ?_
          have k28 : a0.toNat < 6 := by omega
          refine m_aald C a0.toNat e_x_Mo_stepF_119 rfl rfl rfl (by decide) (by decide) c9.1 c9.2 (mz _ _) ?_
          refine m_blk 121 [(0, vr 0 0), (1, vi a0), (2, vi a1), (3, vi a2)] [vi a1, vr 39 a0.toNat, vi a0, vr 0 0] C f_x_Mo_stepF_120_1 rfl ?_
          obtain ⟨c29, h⟩ := igd h
          refine m_iald C e_x_Mo_stepF_121 rfl k28 (by decide) c29.1 c29.2 (q10.2 39 a0.toNat a1.toNat) rfl ?_
          obtain ⟨q30, e31, h⟩ := obd h
          refine m_callV C Rm Y [vi a0, vi (q10.2 39 a0.toNat a1.toNat)] [] (x_Mo_namesInN 121 l D B H0 ad _ a0 (q10.2 39 a0.toNat a1.toNat) hS _ _ e31) cl_Mo_266 rfl (by decide) rfl rfl e_x_Mo_stepF_122 rfl rfl rfl ⟨by decide, by decide⟩ ?_
          rintro _ _ ⟨rfl, rfl⟩
          show JM g D ad w0 q30.2 125 [(0, vr 0 0), (1, vi a0), (2, vi a1), (3, vi a2)] [vi q30.1]
          exact m_iret C Rm E e_x_Mo_stepF_125 (fin1 h)
        have h := ifn c27 h
        refine m_tabOut (tgt := 126) C e_x_Mo_stepF_40 c14 (by omega) (by decide) ?_
        refine m_blk 127 [(0, vr 0 0), (1, vi a0), (2, vi a1), (3, vi a2)] [vr 0 0] C f_x_Mo_stepF_126_1 rfl ?_
        refine m_getr C e_x_Mo_stepF_127 fg_Mo_27 rfl (by decide) rfl ?_
        refine m_blk 131 [(0, vr 0 0), (1, vi a0), (2, vi a1), (3, vi a2)] [vi a0, vr 16 0] C f_x_Mo_stepF_130_1 rfl ?_
        have k32 : a0.toNat < 6 := by omega
        refine m_aald C a0.toNat e_x_Mo_stepF_131 rfl rfl rfl (by decide) (by decide) c9.1 c9.2 (mz _ _) ?_
        refine m_blk 133 [(0, vr 0 0), (1, vi a0), (2, vi a1), (3, vi a2)] [vi a1, vr 36 a0.toNat] C f_x_Mo_stepF_132_1 rfl ?_
        obtain ⟨c33, h⟩ := igd h
        refine m_iald C e_x_Mo_stepF_133 rfl k32 (by decide) c33.1 c33.2 (q10.2 36 a0.toNat a1.toNat) rfl ?_
        exact m_iret C Rm E e_x_Mo_stepF_134 (fin1 h)
      · have h := ifp c13 h
        refine m_blk 38 [(0, vr 0 0), (1, vi a0), (2, vi a1), (3, vi a2)] [vi (-12)] C f_x_Mo_stepF_36_1 rfl ?_
        exact m_iret C Rm E e_x_Mo_stepF_38 (fin1 h)
    · have h := ifp c8 h
      refine m_blk 19 [(0, vr 0 0), (1, vi a0), (2, vi a1), (3, vi a2)] [vi (-2)] C f_x_Mo_stepF_17_1 rfl ?_
      exact m_iret C Rm E e_x_Mo_stepF_19 (fin1 h)

