/-! feed, image, back of the reference as functions (own work, by program) -/
def f_Mo_feed_67 : Nat → mA → Int → Int → Int → Int → Int → Int → Int → Option (Int × mA)
  | 0, _, _, _, _, _, _, _, _ => none
  | n + 1, A, b1, b2, b3, b4, b5, b6, b7 => (if g32 b7 then if g32 b1 then (if b1 ≤ b7 then (some (((A 0 0 22) + b1), (mu A 0 0 22 ((A 0 0 22) + b1)))) else (if b7 = 0 then (if (0 ≤ ((A 0 0 22) + b7) ∧ ((A 0 0 22) + b7) < ((120 : Nat) : Int)) then (f_Mo_feed_67  n (mu A 9 0 (((A 0 0 22) + b7).toNat) b2) b1 b2 b3 b4 b5 b6 (b7 + 1)) else none) else (if b7 = 1 then (if (0 ≤ ((A 0 0 22) + b7) ∧ ((A 0 0 22) + b7) < ((120 : Nat) : Int)) then (f_Mo_feed_67  n (mu A 9 0 (((A 0 0 22) + b7).toNat) b3) b1 b2 b3 b4 b5 b6 (b7 + 1)) else none) else (if b7 = 2 then (if (0 ≤ ((A 0 0 22) + b7) ∧ ((A 0 0 22) + b7) < ((120 : Nat) : Int)) then (f_Mo_feed_67  n (mu A 9 0 (((A 0 0 22) + b7).toNat) b4) b1 b2 b3 b4 b5 b6 (b7 + 1)) else none) else (if b7 = 3 then (if (0 ≤ ((A 0 0 22) + b7) ∧ ((A 0 0 22) + b7) < ((120 : Nat) : Int)) then (f_Mo_feed_67  n (mu A 9 0 (((A 0 0 22) + b7).toNat) b5) b1 b2 b3 b4 b5 b6 (b7 + 1)) else none) else (if (0 ≤ ((A 0 0 22) + b7) ∧ ((A 0 0 22) + b7) < ((120 : Nat) : Int)) then (f_Mo_feed_67  n (mu A 9 0 (((A 0 0 22) + b7).toNat) b6) b1 b2 b3 b4 b5 b6 (b7 + 1)) else none)))))) else none else none)
def f_Mo_feed (A : mA) (a0 : Int) (a1 : Int) (a2 : Int) (a3 : Int) (a4 : Int) (a5 : Int) : Option (Int × mA) := (Option.bind (f_Mo_in A a0 1 5) (fun q13 => (if g32 q13.1 then (if q13.1 = 0 then (some ((-2), q13.2)) else (Option.bind (f_Mo_isByte q13.2 a1) (fun q17 => (if g32 q17.1 then (if q17.1 = 0 then (some ((-2), q17.2)) else (Option.bind (f_Mo_isByte q17.2 a2) (fun q21 => (if g32 q21.1 then (if q21.1 = 0 then (some ((-2), q21.2)) else (Option.bind (f_Mo_isByte q21.2 a3) (fun q25 => (if g32 q25.1 then (if q25.1 = 0 then (some ((-2), q25.2)) else (Option.bind (f_Mo_isByte q25.2 a4) (fun q29 => (if g32 q29.1 then (if q29.1 = 0 then (some ((-2), q29.2)) else (Option.bind (f_Mo_isByte q29.2 a5) (fun q33 => (if g32 q33.1 then (if q33.1 = 0 then (some ((-2), q33.2)) else (if g32 ((q33.2 0 0 22) + a0) then (if ((q33.2 0 0 22) + a0) ≤ 120 then (f_Mo_feed_67  10 q33.2 a0 a1 a2 a3 a4 a5 0) else (some ((-4), q33.2))) else none)) else none)))) else none)))) else none)))) else none)))) else none)))) else none)))
theorem f_x_Mo_feed_0_3 : mblkB b_Mo_feed [(0, .iload_n 1, vi 0), (1, .iconst 1, vi 1), (2, .iconst 5, vi 5)] = true := by decide +kernel
theorem e_x_Mo_feed_3 : decode b_Mo_feed 3 = .ok (.invokestatic 108, 3) := by decide +kernel
theorem e_x_Mo_feed_6 : decode b_Mo_feed 6 = .ok (.ifCond .eq 41, 3) := by decide +kernel
theorem f_x_Mo_feed_47_1 : mblkB b_Mo_feed [(47, .bipush (-2), vi (-2))] = true := by decide +kernel
theorem e_x_Mo_feed_49 : decode b_Mo_feed 49 = .ok (.ireturn, 1) := by decide +kernel
theorem f_x_Mo_feed_9_1 : mblkB b_Mo_feed [(9, .iload_n 2, vi 0)] = true := by decide +kernel
theorem e_x_Mo_feed_10 : decode b_Mo_feed 10 = .ok (.invokestatic 112, 3) := by decide +kernel
theorem e_x_Mo_feed_13 : decode b_Mo_feed 13 = .ok (.ifCond .eq 34, 3) := by decide +kernel
theorem f_x_Mo_feed_16_1 : mblkB b_Mo_feed [(16, .iload_n 3, vi 0)] = true := by decide +kernel
theorem e_x_Mo_feed_17 : decode b_Mo_feed 17 = .ok (.invokestatic 112, 3) := by decide +kernel
theorem e_x_Mo_feed_20 : decode b_Mo_feed 20 = .ok (.ifCond .eq 27, 3) := by decide +kernel
theorem f_x_Mo_feed_23_1 : mblkB b_Mo_feed [(23, .iload 4, vi 0)] = true := by decide +kernel
theorem e_x_Mo_feed_25 : decode b_Mo_feed 25 = .ok (.invokestatic 112, 3) := by decide +kernel
theorem e_x_Mo_feed_28 : decode b_Mo_feed 28 = .ok (.ifCond .eq 19, 3) := by decide +kernel
theorem f_x_Mo_feed_31_1 : mblkB b_Mo_feed [(31, .iload 5, vi 0)] = true := by decide +kernel
theorem e_x_Mo_feed_33 : decode b_Mo_feed 33 = .ok (.invokestatic 112, 3) := by decide +kernel
theorem e_x_Mo_feed_36 : decode b_Mo_feed 36 = .ok (.ifCond .eq 11, 3) := by decide +kernel
theorem f_x_Mo_feed_39_1 : mblkB b_Mo_feed [(39, .iload 6, vi 0)] = true := by decide +kernel
theorem e_x_Mo_feed_41 : decode b_Mo_feed 41 = .ok (.invokestatic 112, 3) := by decide +kernel
theorem e_x_Mo_feed_44 : decode b_Mo_feed 44 = .ok (.ifCond .ne 6, 3) := by decide +kernel
theorem f_x_Mo_feed_50_1 : mblkB b_Mo_feed [(50, .aload_n 0, vi 0)] = true := by decide +kernel
theorem e_x_Mo_feed_51 : decode b_Mo_feed 51 = .ok (.getfield 116, 3) := by decide +kernel
theorem f_x_Mo_feed_54_3 : mblkB b_Mo_feed [(54, .iload_n 1, vi 0), (55, .iadd, vi 0), (56, .bipush 120, vi 120)] = true := by decide +kernel
theorem e_x_Mo_feed_58 : decode b_Mo_feed 58 = .ok (.if_icmp .le 6, 3) := by decide +kernel
theorem f_x_Mo_feed_64_2 : mblkB b_Mo_feed [(64, .iconst 0, vi 0), (65, .istore 7, vi 0)] = true := by decide +kernel
theorem f_x_Mo_feed_61_1 : mblkB b_Mo_feed [(61, .bipush (-4), vi (-4))] = true := by decide +kernel
theorem e_x_Mo_feed_63 : decode b_Mo_feed 63 = .ok (.ireturn, 1) := by decide +kernel
theorem f_x_Mo_feed_67_2 : mblkB b_Mo_feed [(67, .iload 7, vi 0), (69, .iload_n 1, vi 0)] = true := by decide +kernel
theorem e_x_Mo_feed_70 : decode b_Mo_feed 70 = .ok (.if_icmp .ge 64, 3) := by decide +kernel
theorem f_x_Mo_feed_134_2 : mblkB b_Mo_feed [(134, .aload_n 0, vi 0), (135, .dup, vi 0)] = true := by decide +kernel
theorem e_x_Mo_feed_136 : decode b_Mo_feed 136 = .ok (.getfield 116, 3) := by decide +kernel
theorem f_x_Mo_feed_139_2 : mblkB b_Mo_feed [(139, .iload_n 1, vi 0), (140, .iadd, vi 0)] = true := by decide +kernel
theorem e_x_Mo_feed_141 : decode b_Mo_feed 141 = .ok (.putfield 116, 3) := by decide +kernel
theorem f_x_Mo_feed_144_1 : mblkB b_Mo_feed [(144, .aload_n 0, vi 0)] = true := by decide +kernel
theorem e_x_Mo_feed_145 : decode b_Mo_feed 145 = .ok (.getfield 116, 3) := by decide +kernel
theorem e_x_Mo_feed_148 : decode b_Mo_feed 148 = .ok (.ireturn, 1) := by decide +kernel
theorem f_x_Mo_feed_73_1 : mblkB b_Mo_feed [(73, .aload_n 0, vi 0)] = true := by decide +kernel
theorem e_x_Mo_feed_74 : decode b_Mo_feed 74 = .ok (.getfield 76, 3) := by decide +kernel
theorem f_x_Mo_feed_77_1 : mblkB b_Mo_feed [(77, .aload_n 0, vi 0)] = true := by decide +kernel
theorem e_x_Mo_feed_78 : decode b_Mo_feed 78 = .ok (.getfield 116, 3) := by decide +kernel
theorem f_x_Mo_feed_81_3 : mblkB b_Mo_feed [(81, .iload 7, vi 0), (83, .iadd, vi 0), (84, .iload 7, vi 0)] = true := by decide +kernel
theorem e_x_Mo_feed_86 : decode b_Mo_feed 86 = .ok (.ifCond .ne 7, 3) := by decide +kernel
theorem f_x_Mo_feed_93_2 : mblkB b_Mo_feed [(93, .iload 7, vi 0), (95, .iconst 1, vi 1)] = true := by decide +kernel
theorem e_x_Mo_feed_96 : decode b_Mo_feed 96 = .ok (.if_icmp .ne 7, 3) := by decide +kernel
theorem f_x_Mo_feed_103_2 : mblkB b_Mo_feed [(103, .iload 7, vi 0), (105, .iconst 2, vi 2)] = true := by decide +kernel
theorem e_x_Mo_feed_106 : decode b_Mo_feed 106 = .ok (.if_icmp .ne 8, 3) := by decide +kernel
theorem f_x_Mo_feed_114_2 : mblkB b_Mo_feed [(114, .iload 7, vi 0), (116, .iconst 3, vi 3)] = true := by decide +kernel
theorem e_x_Mo_feed_117 : decode b_Mo_feed 117 = .ok (.if_icmp .ne 8, 3) := by decide +kernel
theorem f_x_Mo_feed_125_1 : mblkB b_Mo_feed [(125, .iload 6, vi 0)] = true := by decide +kernel
theorem e_x_Mo_feed_127 : decode b_Mo_feed 127 = .ok (.iastore, 1) := by decide +kernel
theorem f_x_Mo_feed_128_2 : mblkB b_Mo_feed [(128, .iinc 7 1, vi 1), (131, .goto (-64), vi 67)] = true := by decide +kernel
theorem f_x_Mo_feed_120_2 : mblkB b_Mo_feed [(120, .iload 5, vi 0), (122, .goto 5, vi 127)] = true := by decide +kernel
theorem f_x_Mo_feed_109_2 : mblkB b_Mo_feed [(109, .iload 4, vi 0), (111, .goto 16, vi 127)] = true := by decide +kernel
theorem f_x_Mo_feed_99_2 : mblkB b_Mo_feed [(99, .iload_n 3, vi 0), (100, .goto 27, vi 127)] = true := by decide +kernel
theorem f_x_Mo_feed_89_2 : mblkB b_Mo_feed [(89, .iload_n 2, vi 0), (90, .goto 37, vi 127)] = true := by decide +kernel
set_option maxHeartbeats 4000000 in
set_option maxRecDepth 20000 in
theorem x_Mo_feed  : ∀ (l : Launch) (D : va_G) (B : Nat) (H0 : Heap) (ad : mAd) (A : mA) (a0 : Int) (a1 : Int) (a2 : Int) (a3 : Int) (a4 : Int) (a5 : Int) (hS : mStr D ad) (r9 : Int) (A9 : mA), f_Mo_feed  A a0 a1 a2 a3 a4 a5 = some (r9, A9) → mMet l D B H0 ad y_Mo_feed b_Mo_feed 8 (some .int) 2 42 [vr 0 0, vi a0, vi a1, vi a2, vi a3, vi a4, vi a5] A (fun v A' => v = some (vi r9) ∧ A' = A9) := by
  intro l D B H0 ad A a0 a1 a2 a3 a4 a5  hS r9 A9 h
  refine m_met (by decide) rfl (fun g w0 C Rm Y E => ?_)
  have hd_67 : ∀ (n : Nat) (A : mA) (b1 : Int) (b2 : Int) (b3 : Int) (b4 : Int) (b5 : Int) (b6 : Int) (b7 : Int) , f_Mo_feed_67  n A b1 b2 b3 b4 b5 b6 b7 = some (r9, A9) → JM g D ad w0 A 67 [(0, vr 0 0), (1, vi b1), (2, vi b2), (3, vi b3), (4, vi b4), (5, vi b5), (6, vi b6), (7, vi b7)] [] := by
    intro n
    induction n with
    | zero => intro A b1 b2 b3 b4 b5 b6 b7  h; cases h
    | succ n ih =>
      intro A b1 b2 b3 b4 b5 b6 b7  h
      unfold f_Mo_feed_67 at h
      refine m_blk 70 [(0, vr 0 0), (1, vi b1), (2, vi b2), (3, vi b3), (4, vi b4), (5, vi b5), (6, vi b6), (7, vi b7)] [vi b1, vi b7] C f_x_Mo_feed_67_2 rfl ?_
      obtain ⟨c1, h⟩ := igd h
      obtain ⟨c2, h⟩ := igd h
      refine m_icmp_ge (tgt := 134) C e_x_Mo_feed_70 (by decide) c1 c2 (fun c3 => ?_) (fun c3 => ?_)
      · have h := ifp c3 h
        refine m_blk 136 [(0, vr 0 0), (1, vi b1), (2, vi b2), (3, vi b3), (4, vi b4), (5, vi b5), (6, vi b6), (7, vi b7)] [vr 0 0, vr 0 0] C f_x_Mo_feed_134_2 rfl ?_
        refine m_geti C e_x_Mo_feed_136 fg_Mo_116 rfl (by decide) rfl (A 0 0 22) rfl ?_
        refine m_blk 141 [(0, vr 0 0), (1, vi b1), (2, vi b2), (3, vi b3), (4, vi b4), (5, vi b5), (6, vi b6), (7, vi b7)] [vi ((A 0 0 22) + b1), vr 0 0] C f_x_Mo_feed_139_2 rfl ?_
        refine m_puti C e_x_Mo_feed_141 fp_Mo_116 rfl (by decide) rfl ?_
        refine m_blk 145 [(0, vr 0 0), (1, vi b1), (2, vi b2), (3, vi b3), (4, vi b4), (5, vi b5), (6, vi b6), (7, vi b7)] [vr 0 0] C f_x_Mo_feed_144_1 rfl ?_
        refine m_geti C e_x_Mo_feed_145 fg_Mo_116 rfl (by decide) rfl ((A 0 0 22) + b1) (mu_at A 0 0 22 ((A 0 0 22) + b1)) ?_
        exact m_iret C Rm E e_x_Mo_feed_148 (fin1 h)
      · have h := ifn c3 h
        refine m_blk 74 [(0, vr 0 0), (1, vi b1), (2, vi b2), (3, vi b3), (4, vi b4), (5, vi b5), (6, vi b6), (7, vi b7)] [vr 0 0] C f_x_Mo_feed_73_1 rfl ?_
        refine m_getr C e_x_Mo_feed_74 fg_Mo_76 rfl (by decide) rfl ?_
        refine m_blk 78 [(0, vr 0 0), (1, vi b1), (2, vi b2), (3, vi b3), (4, vi b4), (5, vi b5), (6, vi b6), (7, vi b7)] [vr 0 0, vr 9 0] C f_x_Mo_feed_77_1 rfl ?_
        refine m_geti C e_x_Mo_feed_78 fg_Mo_116 rfl (by decide) rfl (A 0 0 22) rfl ?_
        refine m_blk 86 [(0, vr 0 0), (1, vi b1), (2, vi b2), (3, vi b3), (4, vi b4), (5, vi b5), (6, vi b6), (7, vi b7)] [vi b7, vi ((A 0 0 22) + b7), vr 9 0] C f_x_Mo_feed_81_3 rfl ?_
        refine m_if_ne (tgt := 93) C e_x_Mo_feed_86 (by decide) c1 (fun c4 => ?_) (fun c4 => ?_)
        · have h := ifn c4 h
          refine m_blk 96 [(0, vr 0 0), (1, vi b1), (2, vi b2), (3, vi b3), (4, vi b4), (5, vi b5), (6, vi b6), (7, vi b7)] [vi 1, vi b7, vi ((A 0 0 22) + b7), vr 9 0] C f_x_Mo_feed_93_2 rfl ?_
          refine m_icmp_ne (tgt := 103) C e_x_Mo_feed_96 (by decide) c1 (by decide) (fun c5 => ?_) (fun c5 => ?_)
          · have h := ifn c5 h
            refine m_blk 106 [(0, vr 0 0), (1, vi b1), (2, vi b2), (3, vi b3), (4, vi b4), (5, vi b5), (6, vi b6), (7, vi b7)] [vi 2, vi b7, vi ((A 0 0 22) + b7), vr 9 0] C f_x_Mo_feed_103_2 rfl ?_
            refine m_icmp_ne (tgt := 114) C e_x_Mo_feed_106 (by decide) c1 (by decide) (fun c6 => ?_) (fun c6 => ?_)
            · have h := ifn c6 h
              refine m_blk 117 [(0, vr 0 0), (1, vi b1), (2, vi b2), (3, vi b3), (4, vi b4), (5, vi b5), (6, vi b6), (7, vi b7)] [vi 3, vi b7, vi ((A 0 0 22) + b7), vr 9 0] C f_x_Mo_feed_114_2 rfl ?_
              refine m_icmp_ne (tgt := 125) C e_x_Mo_feed_117 (by decide) c1 (by decide) (fun c7 => ?_) (fun c7 => ?_)
              · have h := ifn c7 h
                refine m_blk 127 [(0, vr 0 0), (1, vi b1), (2, vi b2), (3, vi b3), (4, vi b4), (5, vi b5), (6, vi b6), (7, vi b7)] [vi b6, vi ((A 0 0 22) + b7), vr 9 0] C f_x_Mo_feed_125_1 rfl ?_
                obtain ⟨c8, h⟩ := igd h
                refine m_iast C e_x_Mo_feed_127 rfl (by decide) (by decide) c8.1 c8.2 ?_
                refine m_blk 67 [(7, vi (b7 + 1)), (0, vr 0 0), (1, vi b1), (2, vi b2), (3, vi b3), (4, vi b4), (5, vi b5), (6, vi b6)] [] C f_x_Mo_feed_128_2 rfl ?_
                refine m_loc [(0, vr 0 0), (1, vi b1), (2, vi b2), (3, vi b3), (4, vi b4), (5, vi b5), (6, vi b6), (7, vi (b7 + 1))] ⟨rfl, rfl, rfl, rfl, rfl, rfl, rfl, rfl, trivial⟩ ?_
                exact ih (mu A 9 0 (((A 0 0 22) + b7).toNat) b6) b1 b2 b3 b4 b5 b6 (b7 + 1)  h
              · have h := ifp c7 h
                refine m_blk 127 [(0, vr 0 0), (1, vi b1), (2, vi b2), (3, vi b3), (4, vi b4), (5, vi b5), (6, vi b6), (7, vi b7)] [vi b5, vi ((A 0 0 22) + b7), vr 9 0] C f_x_Mo_feed_120_2 rfl ?_
                obtain ⟨c9, h⟩ := igd h
                refine m_iast C e_x_Mo_feed_127 rfl (by decide) (by decide) c9.1 c9.2 ?_
                refine m_blk 67 [(7, vi (b7 + 1)), (0, vr 0 0), (1, vi b1), (2, vi b2), (3, vi b3), (4, vi b4), (5, vi b5), (6, vi b6)] [] C f_x_Mo_feed_128_2 rfl ?_
                refine m_loc [(0, vr 0 0), (1, vi b1), (2, vi b2), (3, vi b3), (4, vi b4), (5, vi b5), (6, vi b6), (7, vi (b7 + 1))] ⟨rfl, rfl, rfl, rfl, rfl, rfl, rfl, rfl, trivial⟩ ?_
                exact ih (mu A 9 0 (((A 0 0 22) + b7).toNat) b5) b1 b2 b3 b4 b5 b6 (b7 + 1)  h
            · have h := ifp c6 h
              refine m_blk 127 [(0, vr 0 0), (1, vi b1), (2, vi b2), (3, vi b3), (4, vi b4), (5, vi b5), (6, vi b6), (7, vi b7)] [vi b4, vi ((A 0 0 22) + b7), vr 9 0] C f_x_Mo_feed_109_2 rfl ?_
              obtain ⟨c10, h⟩ := igd h
              refine m_iast C e_x_Mo_feed_127 rfl (by decide) (by decide) c10.1 c10.2 ?_
              refine m_blk 67 [(7, vi (b7 + 1)), (0, vr 0 0), (1, vi b1), (2, vi b2), (3, vi b3), (4, vi b4), (5, vi b5), (6, vi b6)] [] C f_x_Mo_feed_128_2 rfl ?_
              refine m_loc [(0, vr 0 0), (1, vi b1), (2, vi b2), (3, vi b3), (4, vi b4), (5, vi b5), (6, vi b6), (7, vi (b7 + 1))] ⟨rfl, rfl, rfl, rfl, rfl, rfl, rfl, rfl, trivial⟩ ?_
              exact ih (mu A 9 0 (((A 0 0 22) + b7).toNat) b4) b1 b2 b3 b4 b5 b6 (b7 + 1)  h
          · have h := ifp c5 h
            refine m_blk 127 [(0, vr 0 0), (1, vi b1), (2, vi b2), (3, vi b3), (4, vi b4), (5, vi b5), (6, vi b6), (7, vi b7)] [vi b3, vi ((A 0 0 22) + b7), vr 9 0] C f_x_Mo_feed_99_2 rfl ?_
            obtain ⟨c11, h⟩ := igd h
            refine m_iast C e_x_Mo_feed_127 rfl (by decide) (by decide) c11.1 c11.2 ?_
            refine m_blk 67 [(7, vi (b7 + 1)), (0, vr 0 0), (1, vi b1), (2, vi b2), (3, vi b3), (4, vi b4), (5, vi b5), (6, vi b6)] [] C f_x_Mo_feed_128_2 rfl ?_
            refine m_loc [(0, vr 0 0), (1, vi b1), (2, vi b2), (3, vi b3), (4, vi b4), (5, vi b5), (6, vi b6), (7, vi (b7 + 1))] ⟨rfl, rfl, rfl, rfl, rfl, rfl, rfl, rfl, trivial⟩ ?_
            exact ih (mu A 9 0 (((A 0 0 22) + b7).toNat) b3) b1 b2 b3 b4 b5 b6 (b7 + 1)  h
        · have h := ifp c4 h
          refine m_blk 127 [(0, vr 0 0), (1, vi b1), (2, vi b2), (3, vi b3), (4, vi b4), (5, vi b5), (6, vi b6), (7, vi b7)] [vi b2, vi ((A 0 0 22) + b7), vr 9 0] C f_x_Mo_feed_89_2 rfl ?_
          obtain ⟨c12, h⟩ := igd h
          refine m_iast C e_x_Mo_feed_127 rfl (by decide) (by decide) c12.1 c12.2 ?_
          refine m_blk 67 [(7, vi (b7 + 1)), (0, vr 0 0), (1, vi b1), (2, vi b2), (3, vi b3), (4, vi b4), (5, vi b5), (6, vi b6)] [] C f_x_Mo_feed_128_2 rfl ?_
          refine m_loc [(0, vr 0 0), (1, vi b1), (2, vi b2), (3, vi b3), (4, vi b4), (5, vi b5), (6, vi b6), (7, vi (b7 + 1))] ⟨rfl, rfl, rfl, rfl, rfl, rfl, rfl, rfl, trivial⟩ ?_
          exact ih (mu A 9 0 (((A 0 0 22) + b7).toNat) b2) b1 b2 b3 b4 b5 b6 (b7 + 1)  h
  show JM g D ad w0 A 0 [(0, vr 0 0), (1, vi a0), (2, vi a1), (3, vi a2), (4, vi a3), (5, vi a4), (6, vi a5)] []
  unfold f_Mo_feed at h
  refine m_blk 3 [(0, vr 0 0), (1, vi a0), (2, vi a1), (3, vi a2), (4, vi a3), (5, vi a4), (6, vi a5)] [vi 5, vi 1, vi a0] C f_x_Mo_feed_0_3 rfl ?_
  obtain ⟨q13, e14, h⟩ := obd h
  refine m_callS C Rm Y [vi a0, vi 1, vi 5] [] (x_Mo_in l D B H0 ad _ a0 1 5 hS _ _ e14) cl_Mo_108 e_x_Mo_feed_3 rfl rfl rfl ⟨by decide, by decide⟩ ?_
  rintro _ _ ⟨rfl, rfl⟩
  show JM g D ad w0 q13.2 6 [(0, vr 0 0), (1, vi a0), (2, vi a1), (3, vi a2), (4, vi a3), (5, vi a4), (6, vi a5)] [vi q13.1]
  obtain ⟨c15, h⟩ := igd h
  refine m_if_eq (tgt := 47) C e_x_Mo_feed_6 (by decide) c15 (fun c16 => ?_) (fun c16 => ?_)
  · have h := ifp c16 h
    refine m_blk 49 [(0, vr 0 0), (1, vi a0), (2, vi a1), (3, vi a2), (4, vi a3), (5, vi a4), (6, vi a5)] [vi (-2)] C f_x_Mo_feed_47_1 rfl ?_
    exact m_iret C Rm E e_x_Mo_feed_49 (fin1 h)
  · have h := ifn c16 h
    refine m_blk 10 [(0, vr 0 0), (1, vi a0), (2, vi a1), (3, vi a2), (4, vi a3), (5, vi a4), (6, vi a5)] [vi a1] C f_x_Mo_feed_9_1 rfl ?_
    obtain ⟨q17, e18, h⟩ := obd h
    refine m_callS C Rm Y [vi a1] [] (x_Mo_isByte l D B H0 ad _ a1 hS _ _ e18) cl_Mo_112 e_x_Mo_feed_10 rfl rfl rfl ⟨by decide, by decide⟩ ?_
    rintro _ _ ⟨rfl, rfl⟩
    show JM g D ad w0 q17.2 13 [(0, vr 0 0), (1, vi a0), (2, vi a1), (3, vi a2), (4, vi a3), (5, vi a4), (6, vi a5)] [vi q17.1]
    obtain ⟨c19, h⟩ := igd h
    refine m_if_eq (tgt := 47) C e_x_Mo_feed_13 (by decide) c19 (fun c20 => ?_) (fun c20 => ?_)
    · have h := ifp c20 h
      refine m_blk 49 [(0, vr 0 0), (1, vi a0), (2, vi a1), (3, vi a2), (4, vi a3), (5, vi a4), (6, vi a5)] [vi (-2)] C f_x_Mo_feed_47_1 rfl ?_
      exact m_iret C Rm E e_x_Mo_feed_49 (fin1 h)
    · have h := ifn c20 h
      refine m_blk 17 [(0, vr 0 0), (1, vi a0), (2, vi a1), (3, vi a2), (4, vi a3), (5, vi a4), (6, vi a5)] [vi a2] C f_x_Mo_feed_16_1 rfl ?_
      obtain ⟨q21, e22, h⟩ := obd h
      refine m_callS C Rm Y [vi a2] [] (x_Mo_isByte l D B H0 ad _ a2 hS _ _ e22) cl_Mo_112 e_x_Mo_feed_17 rfl rfl rfl ⟨by decide, by decide⟩ ?_
      rintro _ _ ⟨rfl, rfl⟩
      show JM g D ad w0 q21.2 20 [(0, vr 0 0), (1, vi a0), (2, vi a1), (3, vi a2), (4, vi a3), (5, vi a4), (6, vi a5)] [vi q21.1]
      obtain ⟨c23, h⟩ := igd h
      refine m_if_eq (tgt := 47) C e_x_Mo_feed_20 (by decide) c23 (fun c24 => ?_) (fun c24 => ?_)
      · have h := ifp c24 h
        refine m_blk 49 [(0, vr 0 0), (1, vi a0), (2, vi a1), (3, vi a2), (4, vi a3), (5, vi a4), (6, vi a5)] [vi (-2)] C f_x_Mo_feed_47_1 rfl ?_
        exact m_iret C Rm E e_x_Mo_feed_49 (fin1 h)
      · have h := ifn c24 h
        refine m_blk 25 [(0, vr 0 0), (1, vi a0), (2, vi a1), (3, vi a2), (4, vi a3), (5, vi a4), (6, vi a5)] [vi a3] C f_x_Mo_feed_23_1 rfl ?_
        obtain ⟨q25, e26, h⟩ := obd h
        refine m_callS C Rm Y [vi a3] [] (x_Mo_isByte l D B H0 ad _ a3 hS _ _ e26) cl_Mo_112 e_x_Mo_feed_25 rfl rfl rfl ⟨by decide, by decide⟩ ?_
        rintro _ _ ⟨rfl, rfl⟩
        show JM g D ad w0 q25.2 28 [(0, vr 0 0), (1, vi a0), (2, vi a1), (3, vi a2), (4, vi a3), (5, vi a4), (6, vi a5)] [vi q25.1]
        obtain ⟨c27, h⟩ := igd h
        refine m_if_eq (tgt := 47) C e_x_Mo_feed_28 (by decide) c27 (fun c28 => ?_) (fun c28 => ?_)
        · have h := ifp c28 h
          refine m_blk 49 [(0, vr 0 0), (1, vi a0), (2, vi a1), (3, vi a2), (4, vi a3), (5, vi a4), (6, vi a5)] [vi (-2)] C f_x_Mo_feed_47_1 rfl ?_
          exact m_iret C Rm E e_x_Mo_feed_49 (fin1 h)
        · have h := ifn c28 h
          refine m_blk 33 [(0, vr 0 0), (1, vi a0), (2, vi a1), (3, vi a2), (4, vi a3), (5, vi a4), (6, vi a5)] [vi a4] C f_x_Mo_feed_31_1 rfl ?_
          obtain ⟨q29, e30, h⟩ := obd h
          refine m_callS C Rm Y [vi a4] [] (x_Mo_isByte l D B H0 ad _ a4 hS _ _ e30) cl_Mo_112 e_x_Mo_feed_33 rfl rfl rfl ⟨by decide, by decide⟩ ?_
          rintro _ _ ⟨rfl, rfl⟩
          show JM g D ad w0 q29.2 36 [(0, vr 0 0), (1, vi a0), (2, vi a1), (3, vi a2), (4, vi a3), (5, vi a4), (6, vi a5)] [vi q29.1]
          obtain ⟨c31, h⟩ := igd h
          refine m_if_eq (tgt := 47) C e_x_Mo_feed_36 (by decide) c31 (fun c32 => ?_) (fun c32 => ?_)
          · have h := ifp c32 h
            refine m_blk 49 [(0, vr 0 0), (1, vi a0), (2, vi a1), (3, vi a2), (4, vi a3), (5, vi a4), (6, vi a5)] [vi (-2)] C f_x_Mo_feed_47_1 rfl ?_
            exact m_iret C Rm E e_x_Mo_feed_49 (fin1 h)
          · have h := ifn c32 h
            refine m_blk 41 [(0, vr 0 0), (1, vi a0), (2, vi a1), (3, vi a2), (4, vi a3), (5, vi a4), (6, vi a5)] [vi a5] C f_x_Mo_feed_39_1 rfl ?_
            obtain ⟨q33, e34, h⟩ := obd h
            refine m_callS C Rm Y [vi a5] [] (x_Mo_isByte l D B H0 ad _ a5 hS _ _ e34) cl_Mo_112 e_x_Mo_feed_41 rfl rfl rfl ⟨by decide, by decide⟩ ?_
            rintro _ _ ⟨rfl, rfl⟩
            show JM g D ad w0 q33.2 44 [(0, vr 0 0), (1, vi a0), (2, vi a1), (3, vi a2), (4, vi a3), (5, vi a4), (6, vi a5)] [vi q33.1]
            obtain ⟨c35, h⟩ := igd h
            refine m_if_ne (tgt := 50) C e_x_Mo_feed_44 (by decide) c35 (fun c36 => ?_) (fun c36 => ?_)
            · have h := ifn c36 h
              refine m_blk 51 [(0, vr 0 0), (1, vi a0), (2, vi a1), (3, vi a2), (4, vi a3), (5, vi a4), (6, vi a5)] [vr 0 0] C f_x_Mo_feed_50_1 rfl ?_
              refine m_geti C e_x_Mo_feed_51 fg_Mo_116 rfl (by decide) rfl (q33.2 0 0 22) rfl ?_
              refine m_blk 58 [(0, vr 0 0), (1, vi a0), (2, vi a1), (3, vi a2), (4, vi a3), (5, vi a4), (6, vi a5)] [vi 120, vi ((q33.2 0 0 22) + a0)] C f_x_Mo_feed_54_3 rfl ?_
              obtain ⟨c37, h⟩ := igd h
              refine m_icmp_le (tgt := 64) C e_x_Mo_feed_58 (by decide) c37 (by decide) (fun c38 => ?_) (fun c38 => ?_)
              · have h := ifp c38 h
                refine m_blk 67 [(7, vi 0), (0, vr 0 0), (1, vi a0), (2, vi a1), (3, vi a2), (4, vi a3), (5, vi a4), (6, vi a5)] [] C f_x_Mo_feed_64_2 rfl ?_
                refine m_loc [(0, vr 0 0), (1, vi a0), (2, vi a1), (3, vi a2), (4, vi a3), (5, vi a4), (6, vi a5), (7, vi 0)] ⟨rfl, rfl, rfl, rfl, rfl, rfl, rfl, rfl, trivial⟩ ?_
                exact hd_67 _ q33.2 a0 a1 a2 a3 a4 a5 0  h
              · have h := ifn c38 h
                refine m_blk 63 [(0, vr 0 0), (1, vi a0), (2, vi a1), (3, vi a2), (4, vi a3), (5, vi a4), (6, vi a5)] [vi (-4)] C f_x_Mo_feed_61_1 rfl ?_
                exact m_iret C Rm E e_x_Mo_feed_63 (fin1 h)
            · have h := ifp c36 h
              refine m_blk 49 [(0, vr 0 0), (1, vi a0), (2, vi a1), (3, vi a2), (4, vi a3), (5, vi a4), (6, vi a5)] [vi (-2)] C f_x_Mo_feed_47_1 rfl ?_
              exact m_iret C Rm E e_x_Mo_feed_49 (fin1 h)

set_option maxHeartbeats 40000000 in
set_option maxRecDepth 100000 in
theorem q_back2 (l : Launch) (D : va_G) (B : Nat) (H0 : Heap) (ad : mAd) (A : mA) (hT : mTy A)  (hI : mI A)  : mMet l D B H0 ad y_Mo_back b_Mo_back 1 (some .int) 920 23600 [vr 0 0] A (fun v9 A9 => ∃ z : Int, v9 = some (vi z) ∧ mTy A9 ∧ mEq bm A A9 ∧ (-2147483648 ≤ z ∧ z ≤ 2147483647) ∧ (∀ j : Nat, j < 6 → A9 8 0 j = if A 0 0 37 = -1 then A 8 0 j else A 10 0 j) ∧ (mI A9) ∧ (A 0 0 37 = -1 ∧ z = -3 ∧ A9 0 0 0 = A 0 0 0 ∨ A 0 0 37 ≠ -1 ∧ z = A 0 0 37 ∧ A9 0 0 0 = A 0 0 37)) := by
  refine m_met (by decide) rfl (fun g w0 C Rm Y E => ?_)
  have hE0 : mEq bm A A := mEq.rfl'
  show JM g D ad w0 A 0 [(0, vr 0 0)] []
  have r0 : 0 ≤ A 0 0 0 ∧ A 0 0 0 ≤ 6 := hT 0 0 0
  refine m_blk 1 [(0, vr 0 0)] [vr 0 0] C f_q_back_0_1 rfl ?_
  obtain ⟨x1, hx1⟩ : ∃ x, A 0 0 37 = x := ⟨_, rfl⟩
  have rx1 : (-1) ≤ x1 ∧ x1 ≤ 6 := mrg hT hx1 rfl
  refine m_geti C e_q_back_1 fg_Mo_85 rfl (by decide) rfl x1 hx1 ?_
  refine m_blk 5 [(0, vr 0 0)] [vi (-1), vi x1] C f_q_back_4_1 rfl ?_
  refine m_icmp_ne (tgt := 11) C e_q_back_5 (by decide) (by omega) (by decide) (fun c2 => ?_) (fun c2 => ?_)
  · refine m_blk 13 [(0, vr 0 0)] [vr 0 0, vr 0 0] C f_q_back_11_2 rfl ?_
    refine m_geti C e_q_back_13 fg_Mo_85 rfl (by decide) rfl x1 hx1 ?_
    refine m_puti C e_q_back_16 fp_Mo_105 rfl (by decide) rfl ?_
    have t3 : mTy (mu A 0 0 0 x1) := hT.mu (by show 0 ≤ x1 ∧ x1 ≤ 6; omega)
    have q4 := hE0.mu (f := 0) (k := 0) (j := 0) (z := x1) (by simp [bm])
    refine m_blk 20 [(0, vr 0 0)] [vr 0 0] C f_q_back_19_1 rfl ?_
    refine m_getr C e_q_back_20 fg_Mo_89 rfl (by decide) rfl ?_
    refine m_blk 25 [(0, vr 0 0)] [vr 0 0, vi 0, vr 10 0] C f_q_back_23_2 rfl ?_
    refine m_getr C e_q_back_25 fg_Mo_60 rfl (by decide) rfl ?_
    refine m_blk 31 [(0, vr 0 0)] [vi 6, vi 0, vr 8 0, vi 0, vr 10 0] C f_q_back_28_2 rfl ?_
    refine m_copyi C Rm cl_Mo_428 e_q_back_31 rfl (by decide) rfl (by decide) (by decide) (by decide) (by decide) (by decide) (by show _ ≤ ((6 : Nat) : Int); omega) (by show _ ≤ ((6 : Nat) : Int); omega) (by decide) (Nat.le_of_ble_eq_true rfl) ?_
    have t5 : mTy (mcp (mu A 0 0 0 x1) 10 0 0 8 0 0 6) := t3.cp (fun _ _ => rfl)
    have q6 : mEq bm A (mcp (mu A 0 0 0 x1) 10 0 0 8 0 0 6) := q4.cp (by intro j; simp [bm])
    refine m_blk 35 [(0, vr 0 0)] [vr 0 0] C f_q_back_34_1 rfl ?_
    refine m_geti C e_q_back_35 fg_Mo_105 rfl (by decide) rfl x1 rfl ?_
    exact m_iret C Rm E e_q_back_38 ⟨x1, rfl, t5, q6, (by show -2147483648 ≤ x1 ∧ x1 ≤ 2147483647; omega), (fun j hj => by rw [if_neg (by omega)]; show (if 8 = 8 ∧ 0 = 0 ∧ (Int.toNat 0) ≤ j ∧ j < (Int.toNat 0) + (Int.toNat 6) then _ else _) = _; rw [if_pos ⟨rfl, rfl, Nat.zero_le _, by show j < 0 + 6; omega⟩]; show A 10 0 (0 + (j - 0)) = _; rw [show 0 + (j - 0) = j by omega]), (hI.bmk q6 (by rw [mcp_fk _ (by decide)]; show x1 = A 0 0 37; omega)), Or.inr ⟨by omega, hx1.symm, by rw [mcp_fk _ (by decide)]; show x1 = A 0 0 37; omega⟩⟩
  · refine m_blk 10 [(0, vr 0 0)] [vi (-3)] C f_q_back_8_1 rfl ?_
    exact m_iret C Rm E e_q_back_10 ⟨(-3), rfl, hT, hE0, (by show -2147483648 ≤ (-3) ∧ (-3) ≤ 2147483647; omega), (fun j _ => by rw [if_pos (by omega)]), (hI.mk0 (S := nm0) (fun _ _ _ _ => rfl) (fun _ _ _ _ => rfl)), Or.inl ⟨by omega, rfl, rfl⟩⟩

