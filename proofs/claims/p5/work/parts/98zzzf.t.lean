/-! needed of both as functions (own work, by program) -/
def f_Prog_neededAhead_8 (nao : mA → Nat → Int → Int → Int → Option (Int × mA)) : Nat → mA → Nat → Int → Int → Int → Int → Option (Int × mA)
  | 0, _, _, _, _, _, _ => none
  | n + 1, A, b0, b1, b4, b5, b6 => (if g32 b6 then if g32 b1 then (if b6 < b1 then (some (b5, A)) else (if g32 b4 then (if 4 < b4 then (some (b5, A)) else (Option.bind (f_Prog_stepAt A b0 b6) (fun q6 => (Option.bind (f_Prog_stepAt q6.2 b0 b1) (fun q9 => (if g32 (q6.2 6 q6.1.toNat 4) then if g32 (q9.2 6 q9.1.toNat 4) then (if (q6.2 6 q6.1.toNat 4) = (q9.2 6 q9.1.toNat 4) then (Option.bind (nao q9.2 b0 b6 b5 b4) (fun q15 => (f_Prog_neededAhead_8 nao n q15.2 b0 b1 b4 q15.1 (b6 + (-1))))) else (f_Prog_neededAhead_8 nao n q9.2 b0 b1 b4 b5 (b6 + (-1)))) else none else none)))))) else none)) else none else none)
def f_Prog_neededAhead (nao : mA → Nat → Int → Int → Int → Option (Int × mA)) (A : mA) (o : Nat) (a0 : Int) (a1 : Int) (a2 : Int) (a3 : Int) : Option (Int × mA) := (f_Prog_neededAhead_8 nao 20 A o a0 a3 a2 (a1 - 1))
theorem f_hx_Prog_neededAhead_0_6 : mblkB b_Prog_neededAhead [(0, .iload_n 3, vi 0), (1, .istore 5, vi 0), (3, .iload_n 2, vi 0), (4, .iconst 1, vi 1), (5, .isub, vi 0), (6, .istore 6, vi 0)] = true := by decide +kernel
theorem f_hx_Prog_neededAhead_8_2 : mblkB b_Prog_neededAhead [(8, .iload 6, vi 0), (10, .iload_n 1, vi 0)] = true := by decide +kernel
theorem e_hx_Prog_neededAhead_11 : decode b_Prog_neededAhead 11 = .ok (.if_icmp .lt 47, 3) := by decide +kernel
theorem f_hx_Prog_neededAhead_58_1 : mblkB b_Prog_neededAhead [(58, .iload 5, vi 0)] = true := by decide +kernel
theorem e_hx_Prog_neededAhead_60 : decode b_Prog_neededAhead 60 = .ok (.ireturn, 1) := by decide +kernel
theorem f_hx_Prog_neededAhead_14_2 : mblkB b_Prog_neededAhead [(14, .iload 4, vi 0), (16, .iconst 4, vi 4)] = true := by decide +kernel
theorem e_hx_Prog_neededAhead_17 : decode b_Prog_neededAhead 17 = .ok (.if_icmp .gt 41, 3) := by decide +kernel
theorem f_hx_Prog_neededAhead_20_2 : mblkB b_Prog_neededAhead [(20, .aload_n 0, vi 0), (21, .iload 6, vi 0)] = true := by decide +kernel
theorem e_hx_Prog_neededAhead_23 : decode b_Prog_neededAhead 23 = .ok (.invokevirtual 54, 3) := by decide +kernel
theorem e_hx_Prog_neededAhead_26 : decode b_Prog_neededAhead 26 = .ok (.getfield 123, 3) := by decide +kernel
theorem f_hx_Prog_neededAhead_29_2 : mblkB b_Prog_neededAhead [(29, .aload_n 0, vi 0), (30, .iload_n 1, vi 0)] = true := by decide +kernel
theorem e_hx_Prog_neededAhead_31 : decode b_Prog_neededAhead 31 = .ok (.invokevirtual 54, 3) := by decide +kernel
theorem e_hx_Prog_neededAhead_34 : decode b_Prog_neededAhead 34 = .ok (.getfield 123, 3) := by decide +kernel
theorem e_hx_Prog_neededAhead_37 : decode b_Prog_neededAhead 37 = .ok (.if_icmp .ne 15, 3) := by decide +kernel
theorem f_hx_Prog_neededAhead_52_2 : mblkB b_Prog_neededAhead [(52, .iinc 6 (-1), vi (-1)), (55, .goto (-47), vi 8)] = true := by decide +kernel
theorem f_hx_Prog_neededAhead_40_4 : mblkB b_Prog_neededAhead [(40, .aload_n 0, vi 0), (41, .iload 6, vi 0), (43, .iload 5, vi 0), (45, .iload 4, vi 0)] = true := by decide +kernel
theorem e_hx_Prog_neededAhead_47 : decode b_Prog_neededAhead 47 = .ok (.invokevirtual 133, 3) := by decide +kernel
theorem f_hx_Prog_neededAhead_50_3 : mblkB b_Prog_neededAhead [(50, .istore 5, vi 0), (52, .iinc 6 (-1), vi (-1)), (55, .goto (-47), vi 8)] = true := by decide +kernel
set_option maxHeartbeats 4000000 in
set_option maxRecDepth 20000 in
theorem hx_Prog_neededAhead {nao : mA → Nat → Int → Int → Int → Option (Int × mA)} {fr lo : Nat} (hnao : ∀ (l : Launch) (D : va_G) (B : Nat) (H0 : Heap) (G : tG) (A : mA) (o : Nat) (a0 : Int) (a1 : Int) (a2 : Int) (h_o : G o = some 2)  (r9 : Int) (A9 : mA), nao A o a0 a1 a2 = some (r9, A9) → hMet l D B H0 G y_Prog_neededAheadOf b_Prog_neededAheadOf 7 (some .int) fr lo [vr 2 o, vi a0, vi a1, vi a2] A (fun v A' => v = some (vi r9) ∧ A' = A9)) : ∀ (l : Launch) (D : va_G) (B : Nat) (H0 : Heap) (G : tG) (A : mA) (o : Nat) (a0 : Int) (a1 : Int) (a2 : Int) (a3 : Int) (h_o : G o = some 2)  (r9 : Int) (A9 : mA), f_Prog_neededAhead nao A o a0 a1 a2 a3 = some (r9, A9) → hMet l D B H0 G y_Prog_neededAhead b_Prog_neededAhead 7 (some .int) (fr + 2) (lo + 60) [vr 2 o, vi a0, vi a1, vi a2, vi a3] A (fun v A' => v = some (vi r9) ∧ A' = A9) := by
  intro l D B H0 G A o a0 a1 a2 a3 h_o r9 A9 h
  refine h_met (by decide) rfl (fun g q C Rm Y E => ?_)
  have hd_8 : ∀ (n : Nat) (A : mA) (b0 : Nat) (b1 : Int) (b4 : Int) (b5 : Int) (b6 : Int) , G b0 = some 2 → f_Prog_neededAhead_8 nao n A b0 b1 b4 b5 b6 = some (r9, A9) → HM g D G q A 8 [(0, vr 2 b0), (1, vi b1), (4, vi b4), (5, vi b5), (6, vi b6)] [] := by
    intro n
    induction n with
    | zero => intro A b0 b1 b4 b5 b6 h_b0 h; cases h
    | succ n ih =>
      intro A b0 b1 b4 b5 b6 h_b0 h
      unfold f_Prog_neededAhead_8 at h
      refine h_blk 11 [(0, vr 2 b0), (1, vi b1), (4, vi b4), (5, vi b5), (6, vi b6)] [vi b1, vi b6] C f_hx_Prog_neededAhead_8_2 rfl ?_
      obtain ⟨c1, h⟩ := igd h
      obtain ⟨c2, h⟩ := igd h
      refine h_icmp_lt (tgt := 58) C e_hx_Prog_neededAhead_11 (by decide) c1 c2 (fun c3 => ?_) (fun c3 => ?_)
      · have h := ifp c3 h
        refine h_blk 60 [(0, vr 2 b0), (1, vi b1), (4, vi b4), (5, vi b5), (6, vi b6)] [vi b5] C f_hx_Prog_neededAhead_58_1 rfl ?_
        exact h_iret C Rm E e_hx_Prog_neededAhead_60 (fin1 h)
      · have h := ifn c3 h
        refine h_blk 17 [(0, vr 2 b0), (1, vi b1), (4, vi b4), (5, vi b5), (6, vi b6)] [vi 4, vi b4] C f_hx_Prog_neededAhead_14_2 rfl ?_
        obtain ⟨c4, h⟩ := igd h
        refine h_icmp_gt (tgt := 58) C e_hx_Prog_neededAhead_17 (by decide) c4 (by decide) (fun c5 => ?_) (fun c5 => ?_)
        · have h := ifp c5 h
          refine h_blk 60 [(0, vr 2 b0), (1, vi b1), (4, vi b4), (5, vi b5), (6, vi b6)] [vi b5] C f_hx_Prog_neededAhead_58_1 rfl ?_
          exact h_iret C Rm E e_hx_Prog_neededAhead_60 (fin1 h)
        · have h := ifn c5 h
          refine h_blk 23 [(0, vr 2 b0), (1, vi b1), (4, vi b4), (5, vi b5), (6, vi b6)] [vi b6, vr 2 b0] C f_hx_Prog_neededAhead_20_2 rfl ?_
          obtain ⟨q6, e7, h⟩ := obd h
          refine h_callV C Rm Y [vi b6] [] (hx_Prog_stepAt l D B H0 G _ b0 b6 h_b0 _ _ e7) cl_Prog_54 h_b0 rfl rfl rfl e_hx_Prog_neededAhead_23 rfl rfl rfl ⟨by show _ ≤ ((fr + 2) : Nat); omega, by show _ ≤ ((lo + 60) : Nat); omega⟩ ?_
          rintro _ _ ⟨rfl, rfl, g8⟩
          show HM g D G q q6.2 26 [(0, vr 2 b0), (1, vi b1), (4, vi b4), (5, vi b5), (6, vi b6)] [vr 6 q6.1.toNat]
          refine h_geti C e_hx_Prog_neededAhead_26 fg_Prog_123 g8 rfl rfl rfl (q6.2 6 q6.1.toNat 4) rfl ?_
          refine h_blk 31 [(0, vr 2 b0), (1, vi b1), (4, vi b4), (5, vi b5), (6, vi b6)] [vi b1, vr 2 b0, vi (q6.2 6 q6.1.toNat 4)] C f_hx_Prog_neededAhead_29_2 rfl ?_
          obtain ⟨q9, e10, h⟩ := obd h
          refine h_callV C Rm Y [vi b1] [vi (q6.2 6 q6.1.toNat 4)] (hx_Prog_stepAt l D B H0 G _ b0 b1 h_b0 _ _ e10) cl_Prog_54 h_b0 rfl rfl rfl e_hx_Prog_neededAhead_31 rfl rfl rfl ⟨by show _ ≤ ((fr + 2) : Nat); omega, by show _ ≤ ((lo + 60) : Nat); omega⟩ ?_
          rintro _ _ ⟨rfl, rfl, g11⟩
          show HM g D G q q9.2 34 [(0, vr 2 b0), (1, vi b1), (4, vi b4), (5, vi b5), (6, vi b6)] [vr 6 q9.1.toNat, vi (q6.2 6 q6.1.toNat 4)]
          refine h_geti C e_hx_Prog_neededAhead_34 fg_Prog_123 g11 rfl rfl rfl (q9.2 6 q9.1.toNat 4) rfl ?_
          obtain ⟨c12, h⟩ := igd h
          obtain ⟨c13, h⟩ := igd h
          refine h_icmp_ne (tgt := 52) C e_hx_Prog_neededAhead_37 (by decide) c12 c13 (fun c14 => ?_) (fun c14 => ?_)
          · have h := ifn c14 h
            refine h_blk 8 [(6, vi (b6 + (-1))), (0, vr 2 b0), (1, vi b1), (4, vi b4), (5, vi b5)] [] C f_hx_Prog_neededAhead_52_2 rfl ?_
            refine h_loc [(0, vr 2 b0), (1, vi b1), (4, vi b4), (5, vi b5), (6, vi (b6 + (-1)))] ⟨rfl, rfl, rfl, rfl, rfl, trivial⟩ ?_
            exact ih q9.2 b0 b1 b4 b5 (b6 + (-1)) (h_b0) h
          · have h := ifp c14 h
            refine h_blk 47 [(0, vr 2 b0), (1, vi b1), (4, vi b4), (5, vi b5), (6, vi b6)] [vi b4, vi b5, vi b6, vr 2 b0] C f_hx_Prog_neededAhead_40_4 rfl ?_
            obtain ⟨q15, e16, h⟩ := obd h
            refine h_callV C Rm Y [vi b6, vi b5, vi b4] [] (hnao l D B H0 G _ b0 b6 b5 b4 h_b0 _ _ e16) cl_Prog_133 h_b0 rfl rfl rfl e_hx_Prog_neededAhead_47 rfl rfl rfl ⟨by show _ ≤ ((fr + 2) : Nat); omega, by show _ ≤ ((lo + 60) : Nat); omega⟩ ?_
            rintro _ _ ⟨rfl, rfl⟩
            show HM g D G q q15.2 50 [(0, vr 2 b0), (1, vi b1), (4, vi b4), (5, vi b5), (6, vi b6)] [vi q15.1]
            refine h_blk 8 [(6, vi (b6 + (-1))), (5, vi q15.1), (0, vr 2 b0), (1, vi b1), (4, vi b4)] [] C f_hx_Prog_neededAhead_50_3 rfl ?_
            refine h_loc [(0, vr 2 b0), (1, vi b1), (4, vi b4), (5, vi q15.1), (6, vi (b6 + (-1)))] ⟨rfl, rfl, rfl, rfl, rfl, trivial⟩ ?_
            exact ih q15.2 b0 b1 b4 q15.1 (b6 + (-1)) (h_b0) h
  show HM g D G q A 0 [(0, vr 2 o), (1, vi a0), (2, vi a1), (3, vi a2), (4, vi a3)] []
  unfold f_Prog_neededAhead at h
  refine h_blk 8 [(6, vi (a1 - 1)), (5, vi a2), (0, vr 2 o), (1, vi a0), (2, vi a1), (3, vi a2), (4, vi a3)] [] C f_hx_Prog_neededAhead_0_6 rfl ?_
  refine h_loc [(0, vr 2 o), (1, vi a0), (4, vi a3), (5, vi a2), (6, vi (a1 - 1))] ⟨rfl, rfl, rfl, rfl, rfl, trivial⟩ ?_
  exact hd_8 _ A o a0 a3 a2 (a1 - 1) (h_o) h

def f_Prog_neededAheadOfTimes_6 (nao : mA → Nat → Int → Int → Int → Option (Int × mA)) : Nat → mA → Nat → Int → Int → Int → Int → Int → Option (Int × mA)
  | 0, _, _, _, _, _, _, _ => none
  | n + 1, A, b0, b1, b2, b4, b5, b6 => (if g32 b6 then if g32 b2 then (if b2 ≤ b6 then (some (b5, A)) else (Option.bind (f_Prog_behind A b0 b1) (fun q4 => (Option.bind (f_Prog_neededAhead nao q4.2 b0 (b1 + 1) q4.1 b5 (b4 + 1)) (fun q6 => (f_Prog_neededAheadOfTimes_6 nao n q6.2 b0 b1 b2 b4 q6.1 (b6 + 1))))))) else none else none)
def f_Prog_neededAheadOfTimes (nao : mA → Nat → Int → Int → Int → Option (Int × mA)) (A : mA) (o : Nat) (a0 : Int) (a1 : Int) (a2 : Int) (a3 : Int) : Option (Int × mA) := (f_Prog_neededAheadOfTimes_6 nao 20 A o a0 a1 a3 a2 0)
theorem f_hx_Prog_neededAheadOfTimes_0_4 : mblkB b_Prog_neededAheadOfTimes [(0, .iload_n 3, vi 0), (1, .istore 5, vi 0), (3, .iconst 0, vi 0), (4, .istore 6, vi 0)] = true := by decide +kernel
theorem f_hx_Prog_neededAheadOfTimes_6_2 : mblkB b_Prog_neededAheadOfTimes [(6, .iload 6, vi 0), (8, .iload_n 2, vi 0)] = true := by decide +kernel
theorem e_hx_Prog_neededAheadOfTimes_9 : decode b_Prog_neededAheadOfTimes 9 = .ok (.if_icmp .ge 29, 3) := by decide +kernel
theorem f_hx_Prog_neededAheadOfTimes_38_1 : mblkB b_Prog_neededAheadOfTimes [(38, .iload 5, vi 0)] = true := by decide +kernel
theorem e_hx_Prog_neededAheadOfTimes_40 : decode b_Prog_neededAheadOfTimes 40 = .ok (.ireturn, 1) := by decide +kernel
theorem f_hx_Prog_neededAheadOfTimes_12_6 : mblkB b_Prog_neededAheadOfTimes [(12, .aload_n 0, vi 0), (13, .iload_n 1, vi 0), (14, .iconst 1, vi 1), (15, .iadd, vi 0), (16, .aload_n 0, vi 0), (17, .iload_n 1, vi 0)] = true := by decide +kernel
theorem e_hx_Prog_neededAheadOfTimes_18 : decode b_Prog_neededAheadOfTimes 18 = .ok (.invokevirtual 104, 3) := by decide +kernel
theorem f_hx_Prog_neededAheadOfTimes_21_4 : mblkB b_Prog_neededAheadOfTimes [(21, .iload 5, vi 0), (23, .iload 4, vi 0), (25, .iconst 1, vi 1), (26, .iadd, vi 0)] = true := by decide +kernel
theorem e_hx_Prog_neededAheadOfTimes_27 : decode b_Prog_neededAheadOfTimes 27 = .ok (.invokevirtual 126, 3) := by decide +kernel
theorem f_hx_Prog_neededAheadOfTimes_30_3 : mblkB b_Prog_neededAheadOfTimes [(30, .istore 5, vi 0), (32, .iinc 6 1, vi 1), (35, .goto (-29), vi 6)] = true := by decide +kernel
set_option maxHeartbeats 4000000 in
set_option maxRecDepth 20000 in
theorem hx_Prog_neededAheadOfTimes {nao : mA → Nat → Int → Int → Int → Option (Int × mA)} {fr lo : Nat} (hnao : ∀ (l : Launch) (D : va_G) (B : Nat) (H0 : Heap) (G : tG) (A : mA) (o : Nat) (a0 : Int) (a1 : Int) (a2 : Int) (h_o : G o = some 2)  (r9 : Int) (A9 : mA), nao A o a0 a1 a2 = some (r9, A9) → hMet l D B H0 G y_Prog_neededAheadOf b_Prog_neededAheadOf 7 (some .int) fr lo [vr 2 o, vi a0, vi a1, vi a2] A (fun v A' => v = some (vi r9) ∧ A' = A9)) : ∀ (l : Launch) (D : va_G) (B : Nat) (H0 : Heap) (G : tG) (A : mA) (o : Nat) (a0 : Int) (a1 : Int) (a2 : Int) (a3 : Int) (h_o : G o = some 2)  (r9 : Int) (A9 : mA), f_Prog_neededAheadOfTimes nao A o a0 a1 a2 a3 = some (r9, A9) → hMet l D B H0 G y_Prog_neededAheadOfTimes b_Prog_neededAheadOfTimes 7 (some .int) (fr + 4) (lo + 120) [vr 2 o, vi a0, vi a1, vi a2, vi a3] A (fun v A' => v = some (vi r9) ∧ A' = A9) := by
  intro l D B H0 G A o a0 a1 a2 a3 h_o r9 A9 h
  refine h_met (by decide) rfl (fun g q C Rm Y E => ?_)
  have hd_6 : ∀ (n : Nat) (A : mA) (b0 : Nat) (b1 : Int) (b2 : Int) (b4 : Int) (b5 : Int) (b6 : Int) , G b0 = some 2 → f_Prog_neededAheadOfTimes_6 nao n A b0 b1 b2 b4 b5 b6 = some (r9, A9) → HM g D G q A 6 [(0, vr 2 b0), (1, vi b1), (2, vi b2), (4, vi b4), (5, vi b5), (6, vi b6)] [] := by
    intro n
    induction n with
    | zero => intro A b0 b1 b2 b4 b5 b6 h_b0 h; cases h
    | succ n ih =>
      intro A b0 b1 b2 b4 b5 b6 h_b0 h
      unfold f_Prog_neededAheadOfTimes_6 at h
      refine h_blk 9 [(0, vr 2 b0), (1, vi b1), (2, vi b2), (4, vi b4), (5, vi b5), (6, vi b6)] [vi b2, vi b6] C f_hx_Prog_neededAheadOfTimes_6_2 rfl ?_
      obtain ⟨c1, h⟩ := igd h
      obtain ⟨c2, h⟩ := igd h
      refine h_icmp_ge (tgt := 38) C e_hx_Prog_neededAheadOfTimes_9 (by decide) c1 c2 (fun c3 => ?_) (fun c3 => ?_)
      · have h := ifp c3 h
        refine h_blk 40 [(0, vr 2 b0), (1, vi b1), (2, vi b2), (4, vi b4), (5, vi b5), (6, vi b6)] [vi b5] C f_hx_Prog_neededAheadOfTimes_38_1 rfl ?_
        exact h_iret C Rm E e_hx_Prog_neededAheadOfTimes_40 (fin1 h)
      · have h := ifn c3 h
        refine h_blk 18 [(0, vr 2 b0), (1, vi b1), (2, vi b2), (4, vi b4), (5, vi b5), (6, vi b6)] [vi b1, vr 2 b0, vi (b1 + 1), vr 2 b0] C f_hx_Prog_neededAheadOfTimes_12_6 rfl ?_
        obtain ⟨q4, e5, h⟩ := obd h
        refine h_callV C Rm Y [vi b1] [vi (b1 + 1), vr 2 b0] (hx_Prog_behind l D B H0 G _ b0 b1 h_b0 _ _ e5) cl_Prog_104 h_b0 rfl rfl rfl e_hx_Prog_neededAheadOfTimes_18 rfl rfl rfl ⟨by show _ ≤ ((fr + 4) : Nat); omega, by show _ ≤ ((lo + 120) : Nat); omega⟩ ?_
        rintro _ _ ⟨rfl, rfl⟩
        show HM g D G q q4.2 21 [(0, vr 2 b0), (1, vi b1), (2, vi b2), (4, vi b4), (5, vi b5), (6, vi b6)] [vi q4.1, vi (b1 + 1), vr 2 b0]
        refine h_blk 27 [(0, vr 2 b0), (1, vi b1), (2, vi b2), (4, vi b4), (5, vi b5), (6, vi b6)] [vi (b4 + 1), vi b5, vi q4.1, vi (b1 + 1), vr 2 b0] C f_hx_Prog_neededAheadOfTimes_21_4 rfl ?_
        obtain ⟨q6, e7, h⟩ := obd h
        refine h_callV C Rm Y [vi (b1 + 1), vi q4.1, vi b5, vi (b4 + 1)] [] (hx_Prog_neededAhead hnao l D B H0 G _ b0 (b1 + 1) q4.1 b5 (b4 + 1) h_b0 _ _ e7) cl_Prog_126 h_b0 rfl rfl rfl e_hx_Prog_neededAheadOfTimes_27 rfl rfl rfl ⟨by show _ ≤ ((fr + 4) : Nat); omega, by show _ ≤ ((lo + 120) : Nat); omega⟩ ?_
        rintro _ _ ⟨rfl, rfl⟩
        show HM g D G q q6.2 30 [(0, vr 2 b0), (1, vi b1), (2, vi b2), (4, vi b4), (5, vi b5), (6, vi b6)] [vi q6.1]
        refine h_blk 6 [(6, vi (b6 + 1)), (5, vi q6.1), (0, vr 2 b0), (1, vi b1), (2, vi b2), (4, vi b4)] [] C f_hx_Prog_neededAheadOfTimes_30_3 rfl ?_
        refine h_loc [(0, vr 2 b0), (1, vi b1), (2, vi b2), (4, vi b4), (5, vi q6.1), (6, vi (b6 + 1))] ⟨rfl, rfl, rfl, rfl, rfl, rfl, trivial⟩ ?_
        exact ih q6.2 b0 b1 b2 b4 q6.1 (b6 + 1) (h_b0) h
  show HM g D G q A 0 [(0, vr 2 o), (1, vi a0), (2, vi a1), (3, vi a2), (4, vi a3)] []
  unfold f_Prog_neededAheadOfTimes at h
  refine h_blk 6 [(6, vi 0), (5, vi a2), (0, vr 2 o), (1, vi a0), (2, vi a1), (3, vi a2), (4, vi a3)] [] C f_hx_Prog_neededAheadOfTimes_0_4 rfl ?_
  refine h_loc [(0, vr 2 o), (1, vi a0), (2, vi a1), (4, vi a3), (5, vi a2), (6, vi 0)] ⟨rfl, rfl, rfl, rfl, rfl, rfl, trivial⟩ ?_
  exact hd_6 _ A o a0 a1 a3 a2 0 (h_o) h

def f_Prog_neededAheadOf (nao : mA → Nat → Int → Int → Int → Option (Int × mA)) (A : mA) (o : Nat) (a0 : Int) (a1 : Int) (a2 : Int) : Option (Int × mA) := (Option.bind (f_Prog_stepAt A o a0) (fun q1 => (Option.bind (f_Prog_behind q1.2 o a0) (fun q4 => (if g32 (q4.2 6 q1.1.toNat 1) then (if (q4.2 6 q1.1.toNat 1) = (-1) then (if g32 (q4.2 6 q1.1.toNat 0) then (if (q4.2 6 q1.1.toNat 0) = 0 then (some (a1, q4.2)) else if (q4.2 6 q1.1.toNat 0) = 1 then (if g32 a1 then (if a1 = a1 then (some (a1, q4.2)) else (some ((iOr a1 (q4.2 6 q1.1.toNat 6)), q4.2))) else none) else if (q4.2 6 q1.1.toNat 0) = 2 then (some ((iOr a1 (q4.2 6 q1.1.toNat 6)), q4.2)) else if (q4.2 6 q1.1.toNat 0) = 3 then (Option.bind (f_Prog_neededAhead nao q4.2 o (a0 + 1) (q4.2 6 q1.1.toNat 5) a1 (a2 + 1)) (fun q33 => (Option.bind (f_Prog_neededAhead nao q33.2 o (q33.2 6 q1.1.toNat 5) q4.1 a1 (a2 + 1)) (fun q35 => (some ((iOr (iOr (q4.2 6 q1.1.toNat 6) q33.1) q35.1), q35.2)))))) else if (q4.2 6 q1.1.toNat 0) = 4 then (Option.bind (f_Prog_neededAheadOfTimes nao q4.2 o a0 (q4.2 6 q1.1.toNat 2) a1 a2) (fun q38 => (some (q38.1, q38.2)))) else (if g32 a1 then (if a1 = a1 then (if g32 (q4.2 6 q1.1.toNat 12) then (if (q4.2 6 q1.1.toNat 12) = 0 then (some (a1, q4.2)) else (some ((iOr a1 (q4.2 6 q1.1.toNat 6)), q4.2))) else none) else (some ((iOr a1 (q4.2 6 q1.1.toNat 6)), q4.2))) else none)) else none) else (if g32 (q4.2 6 q1.1.toNat 0) then (if (q4.2 6 q1.1.toNat 0) = 0 then (some ((iAnd a1 (iXor (iShl 1 (q4.2 6 q1.1.toNat 1)) (-1))), q4.2)) else if (q4.2 6 q1.1.toNat 0) = 1 then (if g32 a1 then (if (iAnd a1 (iXor (iShl 1 (q4.2 6 q1.1.toNat 1)) (-1))) = a1 then (some (a1, q4.2)) else (some ((iOr (iAnd a1 (iXor (iShl 1 (q4.2 6 q1.1.toNat 1)) (-1))) (q4.2 6 q1.1.toNat 6)), q4.2))) else none) else if (q4.2 6 q1.1.toNat 0) = 2 then (some ((iOr a1 (q4.2 6 q1.1.toNat 6)), q4.2)) else if (q4.2 6 q1.1.toNat 0) = 3 then (Option.bind (f_Prog_neededAhead nao q4.2 o (a0 + 1) (q4.2 6 q1.1.toNat 5) a1 (a2 + 1)) (fun q15 => (Option.bind (f_Prog_neededAhead nao q15.2 o (q15.2 6 q1.1.toNat 5) q4.1 a1 (a2 + 1)) (fun q17 => (some ((iOr (iOr (q4.2 6 q1.1.toNat 6) q15.1) q17.1), q17.2)))))) else if (q4.2 6 q1.1.toNat 0) = 4 then (Option.bind (f_Prog_neededAheadOfTimes nao q4.2 o a0 (q4.2 6 q1.1.toNat 2) a1 a2) (fun q20 => (some (q20.1, q20.2)))) else (if g32 a1 then (if (iAnd a1 (iXor (iShl 1 (q4.2 6 q1.1.toNat 1)) (-1))) = a1 then (if g32 (q4.2 6 q1.1.toNat 12) then (if (q4.2 6 q1.1.toNat 12) = 0 then (some (a1, q4.2)) else (some ((iOr (iAnd a1 (iXor (iShl 1 (q4.2 6 q1.1.toNat 1)) (-1))) (q4.2 6 q1.1.toNat 6)), q4.2))) else none) else (some ((iOr (iAnd a1 (iXor (iShl 1 (q4.2 6 q1.1.toNat 1)) (-1))) (q4.2 6 q1.1.toNat 6)), q4.2))) else none)) else none)) else none)))))
theorem f_hx_Prog_neededAheadOf_0_2 : mblkB b_Prog_neededAheadOf [(0, .aload_n 0, vi 0), (1, .iload_n 1, vi 0)] = true := by decide +kernel
theorem e_hx_Prog_neededAheadOf_2 : decode b_Prog_neededAheadOf 2 = .ok (.invokevirtual 54, 3) := by decide +kernel
theorem f_hx_Prog_neededAheadOf_5_3 : mblkB b_Prog_neededAheadOf [(5, .astore 4, vi 0), (7, .aload_n 0, vi 0), (8, .iload_n 1, vi 0)] = true := by decide +kernel
theorem e_hx_Prog_neededAheadOf_9 : decode b_Prog_neededAheadOf 9 = .ok (.invokevirtual 104, 3) := by decide +kernel
theorem f_hx_Prog_neededAheadOf_12_2 : mblkB b_Prog_neededAheadOf [(12, .istore 5, vi 0), (14, .aload 4, vi 0)] = true := by decide +kernel
theorem e_hx_Prog_neededAheadOf_16 : decode b_Prog_neededAheadOf 16 = .ok (.getfield 88, 3) := by decide +kernel
theorem f_hx_Prog_neededAheadOf_19_1 : mblkB b_Prog_neededAheadOf [(19, .iconst (-1), vi (-1))] = true := by decide +kernel
theorem e_hx_Prog_neededAheadOf_20 : decode b_Prog_neededAheadOf 20 = .ok (.if_icmp .ne 7, 3) := by decide +kernel
theorem f_hx_Prog_neededAheadOf_27_3 : mblkB b_Prog_neededAheadOf [(27, .iload_n 2, vi 0), (28, .iconst 1, vi 1), (29, .aload 4, vi 0)] = true := by decide +kernel
theorem e_hx_Prog_neededAheadOf_31 : decode b_Prog_neededAheadOf 31 = .ok (.getfield 88, 3) := by decide +kernel
theorem f_hx_Prog_neededAheadOf_34_6 : mblkB b_Prog_neededAheadOf [(34, .ishl, vi 0), (35, .iconst (-1), vi (-1)), (36, .ixor, vi 0), (37, .iand, vi 0), (38, .istore 6, vi 0), (40, .aload 4, vi 0)] = true := by decide +kernel
theorem e_hx_Prog_neededAheadOf_42 : decode b_Prog_neededAheadOf 42 = .ok (.getfield 108, 3) := by decide +kernel
theorem e_hx_Prog_neededAheadOf_45 : decode b_Prog_neededAheadOf 45 = .ok (.tableswitch 117 0 4 #[35, 38, 57, 65, 104], 35) := by decide +kernel
theorem f_hx_Prog_neededAheadOf_80_1 : mblkB b_Prog_neededAheadOf [(80, .iload 6, vi 0)] = true := by decide +kernel
theorem e_hx_Prog_neededAheadOf_82 : decode b_Prog_neededAheadOf 82 = .ok (.ireturn, 1) := by decide +kernel
theorem f_hx_Prog_neededAheadOf_83_2 : mblkB b_Prog_neededAheadOf [(83, .iload 6, vi 0), (85, .iload_n 2, vi 0)] = true := by decide +kernel
theorem e_hx_Prog_neededAheadOf_86 : decode b_Prog_neededAheadOf 86 = .ok (.if_icmp .ne 7, 3) := by decide +kernel
theorem f_hx_Prog_neededAheadOf_93_2 : mblkB b_Prog_neededAheadOf [(93, .iload 6, vi 0), (95, .aload 4, vi 0)] = true := by decide +kernel
theorem e_hx_Prog_neededAheadOf_97 : decode b_Prog_neededAheadOf 97 = .ok (.getfield 85, 3) := by decide +kernel
theorem f_hx_Prog_neededAheadOf_100_1 : mblkB b_Prog_neededAheadOf [(100, .ior, vi 0)] = true := by decide +kernel
theorem e_hx_Prog_neededAheadOf_101 : decode b_Prog_neededAheadOf 101 = .ok (.ireturn, 1) := by decide +kernel
theorem f_hx_Prog_neededAheadOf_89_2 : mblkB b_Prog_neededAheadOf [(89, .iload_n 2, vi 0), (90, .goto 11, vi 101)] = true := by decide +kernel
theorem f_hx_Prog_neededAheadOf_102_2 : mblkB b_Prog_neededAheadOf [(102, .iload_n 2, vi 0), (103, .aload 4, vi 0)] = true := by decide +kernel
theorem e_hx_Prog_neededAheadOf_105 : decode b_Prog_neededAheadOf 105 = .ok (.getfield 85, 3) := by decide +kernel
theorem f_hx_Prog_neededAheadOf_108_1 : mblkB b_Prog_neededAheadOf [(108, .ior, vi 0)] = true := by decide +kernel
theorem e_hx_Prog_neededAheadOf_109 : decode b_Prog_neededAheadOf 109 = .ok (.ireturn, 1) := by decide +kernel
theorem f_hx_Prog_neededAheadOf_110_1 : mblkB b_Prog_neededAheadOf [(110, .aload 4, vi 0)] = true := by decide +kernel
theorem e_hx_Prog_neededAheadOf_112 : decode b_Prog_neededAheadOf 112 = .ok (.getfield 85, 3) := by decide +kernel
theorem f_hx_Prog_neededAheadOf_115_5 : mblkB b_Prog_neededAheadOf [(115, .aload_n 0, vi 0), (116, .iload_n 1, vi 0), (117, .iconst 1, vi 1), (118, .iadd, vi 0), (119, .aload 4, vi 0)] = true := by decide +kernel
theorem e_hx_Prog_neededAheadOf_121 : decode b_Prog_neededAheadOf 121 = .ok (.getfield 111, 3) := by decide +kernel
theorem f_hx_Prog_neededAheadOf_124_4 : mblkB b_Prog_neededAheadOf [(124, .iload_n 2, vi 0), (125, .iload_n 3, vi 0), (126, .iconst 1, vi 1), (127, .iadd, vi 0)] = true := by decide +kernel
theorem e_hx_Prog_neededAheadOf_128 : decode b_Prog_neededAheadOf 128 = .ok (.invokevirtual 126, 3) := by decide +kernel
theorem f_hx_Prog_neededAheadOf_131_3 : mblkB b_Prog_neededAheadOf [(131, .ior, vi 0), (132, .aload_n 0, vi 0), (133, .aload 4, vi 0)] = true := by decide +kernel
theorem e_hx_Prog_neededAheadOf_135 : decode b_Prog_neededAheadOf 135 = .ok (.getfield 111, 3) := by decide +kernel
theorem f_hx_Prog_neededAheadOf_138_5 : mblkB b_Prog_neededAheadOf [(138, .iload 5, vi 0), (140, .iload_n 2, vi 0), (141, .iload_n 3, vi 0), (142, .iconst 1, vi 1), (143, .iadd, vi 0)] = true := by decide +kernel
theorem e_hx_Prog_neededAheadOf_144 : decode b_Prog_neededAheadOf 144 = .ok (.invokevirtual 126, 3) := by decide +kernel
theorem f_hx_Prog_neededAheadOf_147_1 : mblkB b_Prog_neededAheadOf [(147, .ior, vi 0)] = true := by decide +kernel
theorem e_hx_Prog_neededAheadOf_148 : decode b_Prog_neededAheadOf 148 = .ok (.ireturn, 1) := by decide +kernel
theorem f_hx_Prog_neededAheadOf_149_3 : mblkB b_Prog_neededAheadOf [(149, .aload_n 0, vi 0), (150, .iload_n 1, vi 0), (151, .aload 4, vi 0)] = true := by decide +kernel
theorem e_hx_Prog_neededAheadOf_153 : decode b_Prog_neededAheadOf 153 = .ok (.getfield 116, 3) := by decide +kernel
theorem f_hx_Prog_neededAheadOf_156_2 : mblkB b_Prog_neededAheadOf [(156, .iload_n 2, vi 0), (157, .iload_n 3, vi 0)] = true := by decide +kernel
theorem e_hx_Prog_neededAheadOf_158 : decode b_Prog_neededAheadOf 158 = .ok (.invokevirtual 130, 3) := by decide +kernel
theorem e_hx_Prog_neededAheadOf_161 : decode b_Prog_neededAheadOf 161 = .ok (.ireturn, 1) := by decide +kernel
theorem f_hx_Prog_neededAheadOf_162_2 : mblkB b_Prog_neededAheadOf [(162, .iload 6, vi 0), (164, .iload_n 2, vi 0)] = true := by decide +kernel
theorem e_hx_Prog_neededAheadOf_165 : decode b_Prog_neededAheadOf 165 = .ok (.if_icmp .ne 15, 3) := by decide +kernel
theorem f_hx_Prog_neededAheadOf_180_2 : mblkB b_Prog_neededAheadOf [(180, .iload 6, vi 0), (182, .aload 4, vi 0)] = true := by decide +kernel
theorem e_hx_Prog_neededAheadOf_184 : decode b_Prog_neededAheadOf 184 = .ok (.getfield 85, 3) := by decide +kernel
theorem f_hx_Prog_neededAheadOf_187_1 : mblkB b_Prog_neededAheadOf [(187, .ior, vi 0)] = true := by decide +kernel
theorem e_hx_Prog_neededAheadOf_188 : decode b_Prog_neededAheadOf 188 = .ok (.ireturn, 1) := by decide +kernel
theorem f_hx_Prog_neededAheadOf_168_1 : mblkB b_Prog_neededAheadOf [(168, .aload 4, vi 0)] = true := by decide +kernel
theorem e_hx_Prog_neededAheadOf_170 : decode b_Prog_neededAheadOf 170 = .ok (.getfield 91, 3) := by decide +kernel
theorem e_hx_Prog_neededAheadOf_173 : decode b_Prog_neededAheadOf 173 = .ok (.ifCond .ne 7, 3) := by decide +kernel
theorem f_hx_Prog_neededAheadOf_176_2 : mblkB b_Prog_neededAheadOf [(176, .iload_n 2, vi 0), (177, .goto 11, vi 188)] = true := by decide +kernel
theorem f_hx_Prog_neededAheadOf_23_2 : mblkB b_Prog_neededAheadOf [(23, .iload_n 2, vi 0), (24, .goto 14, vi 38)] = true := by decide +kernel
theorem f_hx_Prog_neededAheadOf_38_2 : mblkB b_Prog_neededAheadOf [(38, .istore 6, vi 0), (40, .aload 4, vi 0)] = true := by decide +kernel
set_option maxHeartbeats 4000000 in
set_option maxRecDepth 20000 in
theorem hx_Prog_neededAheadOf {nao : mA → Nat → Int → Int → Int → Option (Int × mA)} {fr lo : Nat} (hnao : ∀ (l : Launch) (D : va_G) (B : Nat) (H0 : Heap) (G : tG) (A : mA) (o : Nat) (a0 : Int) (a1 : Int) (a2 : Int) (h_o : G o = some 2)  (r9 : Int) (A9 : mA), nao A o a0 a1 a2 = some (r9, A9) → hMet l D B H0 G y_Prog_neededAheadOf b_Prog_neededAheadOf 7 (some .int) fr lo [vr 2 o, vi a0, vi a1, vi a2] A (fun v A' => v = some (vi r9) ∧ A' = A9)) : ∀ (l : Launch) (D : va_G) (B : Nat) (H0 : Heap) (G : tG) (A : mA) (o : Nat) (a0 : Int) (a1 : Int) (a2 : Int) (h_o : G o = some 2)  (r9 : Int) (A9 : mA), f_Prog_neededAheadOf nao A o a0 a1 a2 = some (r9, A9) → hMet l D B H0 G y_Prog_neededAheadOf b_Prog_neededAheadOf 7 (some .int) (fr + 6) (lo + 180) [vr 2 o, vi a0, vi a1, vi a2] A (fun v A' => v = some (vi r9) ∧ A' = A9) := by
  intro l D B H0 G A o a0 a1 a2 h_o r9 A9 h
  refine h_met (by decide) rfl (fun g q C Rm Y E => ?_)
  show HM g D G q A 0 [(0, vr 2 o), (1, vi a0), (2, vi a1), (3, vi a2)] []
  unfold f_Prog_neededAheadOf at h
  refine h_blk 2 [(0, vr 2 o), (1, vi a0), (2, vi a1), (3, vi a2)] [vi a0, vr 2 o] C f_hx_Prog_neededAheadOf_0_2 rfl ?_
  obtain ⟨q1, e2, h⟩ := obd h
  refine h_callV C Rm Y [vi a0] [] (hx_Prog_stepAt l D B H0 G _ o a0 h_o _ _ e2) cl_Prog_54 h_o rfl rfl rfl e_hx_Prog_neededAheadOf_2 rfl rfl rfl ⟨by show _ ≤ ((fr + 6) : Nat); omega, by show _ ≤ ((lo + 180) : Nat); omega⟩ ?_
  rintro _ _ ⟨rfl, rfl, g3⟩
  show HM g D G q q1.2 5 [(0, vr 2 o), (1, vi a0), (2, vi a1), (3, vi a2)] [vr 6 q1.1.toNat]
  refine h_blk 9 [(4, vr 6 q1.1.toNat), (0, vr 2 o), (1, vi a0), (2, vi a1), (3, vi a2)] [vi a0, vr 2 o] C f_hx_Prog_neededAheadOf_5_3 rfl ?_
  obtain ⟨q4, e5, h⟩ := obd h
  refine h_callV C Rm Y [vi a0] [] (hx_Prog_behind l D B H0 G _ o a0 h_o _ _ e5) cl_Prog_104 h_o rfl rfl rfl e_hx_Prog_neededAheadOf_9 rfl rfl rfl ⟨by show _ ≤ ((fr + 6) : Nat); omega, by show _ ≤ ((lo + 180) : Nat); omega⟩ ?_
  rintro _ _ ⟨rfl, rfl⟩
  show HM g D G q q4.2 12 [(4, vr 6 q1.1.toNat), (0, vr 2 o), (1, vi a0), (2, vi a1), (3, vi a2)] [vi q4.1]
  refine h_blk 16 [(5, vi q4.1), (4, vr 6 q1.1.toNat), (0, vr 2 o), (1, vi a0), (2, vi a1), (3, vi a2)] [vr 6 q1.1.toNat] C f_hx_Prog_neededAheadOf_12_2 rfl ?_
  refine h_geti C e_hx_Prog_neededAheadOf_16 fg_Prog_88 g3 rfl rfl rfl (q4.2 6 q1.1.toNat 1) rfl ?_
  refine h_blk 20 [(5, vi q4.1), (4, vr 6 q1.1.toNat), (0, vr 2 o), (1, vi a0), (2, vi a1), (3, vi a2)] [vi (-1), vi (q4.2 6 q1.1.toNat 1)] C f_hx_Prog_neededAheadOf_19_1 rfl ?_
  obtain ⟨c6, h⟩ := igd h
  refine h_icmp_ne (tgt := 27) C e_hx_Prog_neededAheadOf_20 (by decide) c6 (by decide) (fun c7 => ?_) (fun c7 => ?_)
  · have h := ifn c7 h
    refine h_blk 31 [(5, vi q4.1), (4, vr 6 q1.1.toNat), (0, vr 2 o), (1, vi a0), (2, vi a1), (3, vi a2)] [vr 6 q1.1.toNat, vi 1, vi a1] C f_hx_Prog_neededAheadOf_27_3 rfl ?_
    refine h_geti C e_hx_Prog_neededAheadOf_31 fg_Prog_88 g3 rfl rfl rfl (q4.2 6 q1.1.toNat 1) rfl ?_
    refine h_blk 42 [(6, vi (iAnd a1 (iXor (iShl 1 (q4.2 6 q1.1.toNat 1)) (-1)))), (5, vi q4.1), (4, vr 6 q1.1.toNat), (0, vr 2 o), (1, vi a0), (2, vi a1), (3, vi a2)] [vr 6 q1.1.toNat] C f_hx_Prog_neededAheadOf_34_6 rfl ?_
    refine h_geti C e_hx_Prog_neededAheadOf_42 fg_Prog_108 g3 rfl rfl rfl (q4.2 6 q1.1.toNat 0) rfl ?_
    obtain ⟨c8, h⟩ := igd h
    by_cases c9 : (q4.2 6 q1.1.toNat 0) = 0
    · have h := ifp c9 h
      refine h_tabIn (tgt := 80) C e_hx_Prog_neededAheadOf_45 c8 (by omega) (by omega) (by rw [c9]; rfl) (by decide) ?_
      refine h_blk 82 [(6, vi (iAnd a1 (iXor (iShl 1 (q4.2 6 q1.1.toNat 1)) (-1)))), (5, vi q4.1), (4, vr 6 q1.1.toNat), (0, vr 2 o), (1, vi a0), (2, vi a1), (3, vi a2)] [vi (iAnd a1 (iXor (iShl 1 (q4.2 6 q1.1.toNat 1)) (-1)))] C f_hx_Prog_neededAheadOf_80_1 rfl ?_
      exact h_iret C Rm E e_hx_Prog_neededAheadOf_82 (fin1 h)
    have h := ifn c9 h
    by_cases c10 : (q4.2 6 q1.1.toNat 0) = 1
    · have h := ifp c10 h
      refine h_tabIn (tgt := 83) C e_hx_Prog_neededAheadOf_45 c8 (by omega) (by omega) (by rw [c10]; rfl) (by decide) ?_
      refine h_blk 86 [(6, vi (iAnd a1 (iXor (iShl 1 (q4.2 6 q1.1.toNat 1)) (-1)))), (5, vi q4.1), (4, vr 6 q1.1.toNat), (0, vr 2 o), (1, vi a0), (2, vi a1), (3, vi a2)] [vi a1, vi (iAnd a1 (iXor (iShl 1 (q4.2 6 q1.1.toNat 1)) (-1)))] C f_hx_Prog_neededAheadOf_83_2 rfl ?_
      obtain ⟨c11, h⟩ := igd h
      refine h_icmp_ne (tgt := 93) C e_hx_Prog_neededAheadOf_86 (by decide) (iAnd_r _ _) c11 (fun c12 => ?_) (fun c12 => ?_)
      · have h := ifn c12 h
        refine h_blk 97 [(6, vi (iAnd a1 (iXor (iShl 1 (q4.2 6 q1.1.toNat 1)) (-1)))), (5, vi q4.1), (4, vr 6 q1.1.toNat), (0, vr 2 o), (1, vi a0), (2, vi a1), (3, vi a2)] [vr 6 q1.1.toNat, vi (iAnd a1 (iXor (iShl 1 (q4.2 6 q1.1.toNat 1)) (-1)))] C f_hx_Prog_neededAheadOf_93_2 rfl ?_
        refine h_geti C e_hx_Prog_neededAheadOf_97 fg_Prog_85 g3 rfl rfl rfl (q4.2 6 q1.1.toNat 6) rfl ?_
        refine h_blk 101 [(6, vi (iAnd a1 (iXor (iShl 1 (q4.2 6 q1.1.toNat 1)) (-1)))), (5, vi q4.1), (4, vr 6 q1.1.toNat), (0, vr 2 o), (1, vi a0), (2, vi a1), (3, vi a2)] [vi (iOr (iAnd a1 (iXor (iShl 1 (q4.2 6 q1.1.toNat 1)) (-1))) (q4.2 6 q1.1.toNat 6))] C f_hx_Prog_neededAheadOf_100_1 rfl ?_
        exact h_iret C Rm E e_hx_Prog_neededAheadOf_101 (fin1 h)
      · have h := ifp c12 h
        refine h_blk 101 [(6, vi (iAnd a1 (iXor (iShl 1 (q4.2 6 q1.1.toNat 1)) (-1)))), (5, vi q4.1), (4, vr 6 q1.1.toNat), (0, vr 2 o), (1, vi a0), (2, vi a1), (3, vi a2)] [vi a1] C f_hx_Prog_neededAheadOf_89_2 rfl ?_
        exact h_iret C Rm E e_hx_Prog_neededAheadOf_101 (fin1 h)
    have h := ifn c10 h
    by_cases c13 : (q4.2 6 q1.1.toNat 0) = 2
    · have h := ifp c13 h
      refine h_tabIn (tgt := 102) C e_hx_Prog_neededAheadOf_45 c8 (by omega) (by omega) (by rw [c13]; rfl) (by decide) ?_
      refine h_blk 105 [(6, vi (iAnd a1 (iXor (iShl 1 (q4.2 6 q1.1.toNat 1)) (-1)))), (5, vi q4.1), (4, vr 6 q1.1.toNat), (0, vr 2 o), (1, vi a0), (2, vi a1), (3, vi a2)] [vr 6 q1.1.toNat, vi a1] C f_hx_Prog_neededAheadOf_102_2 rfl ?_
      refine h_geti C e_hx_Prog_neededAheadOf_105 fg_Prog_85 g3 rfl rfl rfl (q4.2 6 q1.1.toNat 6) rfl ?_
      refine h_blk 109 [(6, vi (iAnd a1 (iXor (iShl 1 (q4.2 6 q1.1.toNat 1)) (-1)))), (5, vi q4.1), (4, vr 6 q1.1.toNat), (0, vr 2 o), (1, vi a0), (2, vi a1), (3, vi a2)] [vi (iOr a1 (q4.2 6 q1.1.toNat 6))] C f_hx_Prog_neededAheadOf_108_1 rfl ?_
      exact h_iret C Rm E e_hx_Prog_neededAheadOf_109 (fin1 h)
    have h := ifn c13 h
    by_cases c14 : (q4.2 6 q1.1.toNat 0) = 3
    · have h := ifp c14 h
      refine h_tabIn (tgt := 110) C e_hx_Prog_neededAheadOf_45 c8 (by omega) (by omega) (by rw [c14]; rfl) (by decide) ?_
      refine h_blk 112 [(6, vi (iAnd a1 (iXor (iShl 1 (q4.2 6 q1.1.toNat 1)) (-1)))), (5, vi q4.1), (4, vr 6 q1.1.toNat), (0, vr 2 o), (1, vi a0), (2, vi a1), (3, vi a2)] [vr 6 q1.1.toNat] C f_hx_Prog_neededAheadOf_110_1 rfl ?_
      refine h_geti C e_hx_Prog_neededAheadOf_112 fg_Prog_85 g3 rfl rfl rfl (q4.2 6 q1.1.toNat 6) rfl ?_
      refine h_blk 121 [(6, vi (iAnd a1 (iXor (iShl 1 (q4.2 6 q1.1.toNat 1)) (-1)))), (5, vi q4.1), (4, vr 6 q1.1.toNat), (0, vr 2 o), (1, vi a0), (2, vi a1), (3, vi a2)] [vr 6 q1.1.toNat, vi (a0 + 1), vr 2 o, vi (q4.2 6 q1.1.toNat 6)] C f_hx_Prog_neededAheadOf_115_5 rfl ?_
      refine h_geti C e_hx_Prog_neededAheadOf_121 fg_Prog_111 g3 rfl rfl rfl (q4.2 6 q1.1.toNat 5) rfl ?_
      refine h_blk 128 [(6, vi (iAnd a1 (iXor (iShl 1 (q4.2 6 q1.1.toNat 1)) (-1)))), (5, vi q4.1), (4, vr 6 q1.1.toNat), (0, vr 2 o), (1, vi a0), (2, vi a1), (3, vi a2)] [vi (a2 + 1), vi a1, vi (q4.2 6 q1.1.toNat 5), vi (a0 + 1), vr 2 o, vi (q4.2 6 q1.1.toNat 6)] C f_hx_Prog_neededAheadOf_124_4 rfl ?_
      obtain ⟨q15, e16, h⟩ := obd h
      refine h_callV C Rm Y [vi (a0 + 1), vi (q4.2 6 q1.1.toNat 5), vi a1, vi (a2 + 1)] [vi (q4.2 6 q1.1.toNat 6)] (hx_Prog_neededAhead hnao l D B H0 G _ o (a0 + 1) (q4.2 6 q1.1.toNat 5) a1 (a2 + 1) h_o _ _ e16) cl_Prog_126 h_o rfl rfl rfl e_hx_Prog_neededAheadOf_128 rfl rfl rfl ⟨by show _ ≤ ((fr + 6) : Nat); omega, by show _ ≤ ((lo + 180) : Nat); omega⟩ ?_
      rintro _ _ ⟨rfl, rfl⟩
      show HM g D G q q15.2 131 [(6, vi (iAnd a1 (iXor (iShl 1 (q4.2 6 q1.1.toNat 1)) (-1)))), (5, vi q4.1), (4, vr 6 q1.1.toNat), (0, vr 2 o), (1, vi a0), (2, vi a1), (3, vi a2)] [vi q15.1, vi (q4.2 6 q1.1.toNat 6)]
      refine h_blk 135 [(6, vi (iAnd a1 (iXor (iShl 1 (q4.2 6 q1.1.toNat 1)) (-1)))), (5, vi q4.1), (4, vr 6 q1.1.toNat), (0, vr 2 o), (1, vi a0), (2, vi a1), (3, vi a2)] [vr 6 q1.1.toNat, vr 2 o, vi (iOr (q4.2 6 q1.1.toNat 6) q15.1)] C f_hx_Prog_neededAheadOf_131_3 rfl ?_
      refine h_geti C e_hx_Prog_neededAheadOf_135 fg_Prog_111 g3 rfl rfl rfl (q15.2 6 q1.1.toNat 5) rfl ?_
      refine h_blk 144 [(6, vi (iAnd a1 (iXor (iShl 1 (q4.2 6 q1.1.toNat 1)) (-1)))), (5, vi q4.1), (4, vr 6 q1.1.toNat), (0, vr 2 o), (1, vi a0), (2, vi a1), (3, vi a2)] [vi (a2 + 1), vi a1, vi q4.1, vi (q15.2 6 q1.1.toNat 5), vr 2 o, vi (iOr (q4.2 6 q1.1.toNat 6) q15.1)] C f_hx_Prog_neededAheadOf_138_5 rfl ?_
      obtain ⟨q17, e18, h⟩ := obd h
      refine h_callV C Rm Y [vi (q15.2 6 q1.1.toNat 5), vi q4.1, vi a1, vi (a2 + 1)] [vi (iOr (q4.2 6 q1.1.toNat 6) q15.1)] (hx_Prog_neededAhead hnao l D B H0 G _ o (q15.2 6 q1.1.toNat 5) q4.1 a1 (a2 + 1) h_o _ _ e18) cl_Prog_126 h_o rfl rfl rfl e_hx_Prog_neededAheadOf_144 rfl rfl rfl ⟨by show _ ≤ ((fr + 6) : Nat); omega, by show _ ≤ ((lo + 180) : Nat); omega⟩ ?_
      rintro _ _ ⟨rfl, rfl⟩
      show HM g D G q q17.2 147 [(6, vi (iAnd a1 (iXor (iShl 1 (q4.2 6 q1.1.toNat 1)) (-1)))), (5, vi q4.1), (4, vr 6 q1.1.toNat), (0, vr 2 o), (1, vi a0), (2, vi a1), (3, vi a2)] [vi q17.1, vi (iOr (q4.2 6 q1.1.toNat 6) q15.1)]
      refine h_blk 148 [(6, vi (iAnd a1 (iXor (iShl 1 (q4.2 6 q1.1.toNat 1)) (-1)))), (5, vi q4.1), (4, vr 6 q1.1.toNat), (0, vr 2 o), (1, vi a0), (2, vi a1), (3, vi a2)] [vi (iOr (iOr (q4.2 6 q1.1.toNat 6) q15.1) q17.1)] C f_hx_Prog_neededAheadOf_147_1 rfl ?_
      exact h_iret C Rm E e_hx_Prog_neededAheadOf_148 (fin1 h)
    have h := ifn c14 h
    by_cases c19 : (q4.2 6 q1.1.toNat 0) = 4
    · have h := ifp c19 h
      refine h_tabIn (tgt := 149) C e_hx_Prog_neededAheadOf_45 c8 (by omega) (by omega) (by rw [c19]; rfl) (by decide) ?_
      refine h_blk 153 [(6, vi (iAnd a1 (iXor (iShl 1 (q4.2 6 q1.1.toNat 1)) (-1)))), (5, vi q4.1), (4, vr 6 q1.1.toNat), (0, vr 2 o), (1, vi a0), (2, vi a1), (3, vi a2)] [vr 6 q1.1.toNat, vi a0, vr 2 o] C f_hx_Prog_neededAheadOf_149_3 rfl ?_
      refine h_geti C e_hx_Prog_neededAheadOf_153 fg_Prog_116 g3 rfl rfl rfl (q4.2 6 q1.1.toNat 2) rfl ?_
      refine h_blk 158 [(6, vi (iAnd a1 (iXor (iShl 1 (q4.2 6 q1.1.toNat 1)) (-1)))), (5, vi q4.1), (4, vr 6 q1.1.toNat), (0, vr 2 o), (1, vi a0), (2, vi a1), (3, vi a2)] [vi a2, vi a1, vi (q4.2 6 q1.1.toNat 2), vi a0, vr 2 o] C f_hx_Prog_neededAheadOf_156_2 rfl ?_
      obtain ⟨q20, e21, h⟩ := obd h
      refine h_callV C Rm Y [vi a0, vi (q4.2 6 q1.1.toNat 2), vi a1, vi a2] [] (hx_Prog_neededAheadOfTimes hnao l D B H0 G _ o a0 (q4.2 6 q1.1.toNat 2) a1 a2 h_o _ _ e21) cl_Prog_130 h_o rfl rfl rfl e_hx_Prog_neededAheadOf_158 rfl rfl rfl ⟨by show _ ≤ ((fr + 6) : Nat); omega, by show _ ≤ ((lo + 180) : Nat); omega⟩ ?_
      rintro _ _ ⟨rfl, rfl⟩
      show HM g D G q q20.2 161 [(6, vi (iAnd a1 (iXor (iShl 1 (q4.2 6 q1.1.toNat 1)) (-1)))), (5, vi q4.1), (4, vr 6 q1.1.toNat), (0, vr 2 o), (1, vi a0), (2, vi a1), (3, vi a2)] [vi q20.1]
      exact h_iret C Rm E e_hx_Prog_neededAheadOf_161 (fin1 h)
    have h := ifn c19 h
    refine h_tabOut (tgt := 162) C e_hx_Prog_neededAheadOf_45 c8 (by omega) (by decide) ?_
    refine h_blk 165 [(6, vi (iAnd a1 (iXor (iShl 1 (q4.2 6 q1.1.toNat 1)) (-1)))), (5, vi q4.1), (4, vr 6 q1.1.toNat), (0, vr 2 o), (1, vi a0), (2, vi a1), (3, vi a2)] [vi a1, vi (iAnd a1 (iXor (iShl 1 (q4.2 6 q1.1.toNat 1)) (-1)))] C f_hx_Prog_neededAheadOf_162_2 rfl ?_
    obtain ⟨c22, h⟩ := igd h
    refine h_icmp_ne (tgt := 180) C e_hx_Prog_neededAheadOf_165 (by decide) (iAnd_r _ _) c22 (fun c23 => ?_) (fun c23 => ?_)
    · have h := ifn c23 h
      refine h_blk 184 [(6, vi (iAnd a1 (iXor (iShl 1 (q4.2 6 q1.1.toNat 1)) (-1)))), (5, vi q4.1), (4, vr 6 q1.1.toNat), (0, vr 2 o), (1, vi a0), (2, vi a1), (3, vi a2)] [vr 6 q1.1.toNat, vi (iAnd a1 (iXor (iShl 1 (q4.2 6 q1.1.toNat 1)) (-1)))] C f_hx_Prog_neededAheadOf_180_2 rfl ?_
      refine h_geti C e_hx_Prog_neededAheadOf_184 fg_Prog_85 g3 rfl rfl rfl (q4.2 6 q1.1.toNat 6) rfl ?_
      refine h_blk 188 [(6, vi (iAnd a1 (iXor (iShl 1 (q4.2 6 q1.1.toNat 1)) (-1)))), (5, vi q4.1), (4, vr 6 q1.1.toNat), (0, vr 2 o), (1, vi a0), (2, vi a1), (3, vi a2)] [vi (iOr (iAnd a1 (iXor (iShl 1 (q4.2 6 q1.1.toNat 1)) (-1))) (q4.2 6 q1.1.toNat 6))] C f_hx_Prog_neededAheadOf_187_1 rfl ?_
      exact h_iret C Rm E e_hx_Prog_neededAheadOf_188 (fin1 h)
    · have h := ifp c23 h
      refine h_blk 170 [(6, vi (iAnd a1 (iXor (iShl 1 (q4.2 6 q1.1.toNat 1)) (-1)))), (5, vi q4.1), (4, vr 6 q1.1.toNat), (0, vr 2 o), (1, vi a0), (2, vi a1), (3, vi a2)] [vr 6 q1.1.toNat] C f_hx_Prog_neededAheadOf_168_1 rfl ?_
      refine h_geti C e_hx_Prog_neededAheadOf_170 fg_Prog_91 g3 rfl rfl rfl (q4.2 6 q1.1.toNat 12) rfl ?_
      obtain ⟨c24, h⟩ := igd h
      refine h_if_ne (tgt := 180) C e_hx_Prog_neededAheadOf_173 (by decide) c24 (fun c25 => ?_) (fun c25 => ?_)
      · have h := ifn c25 h
        refine h_blk 184 [(6, vi (iAnd a1 (iXor (iShl 1 (q4.2 6 q1.1.toNat 1)) (-1)))), (5, vi q4.1), (4, vr 6 q1.1.toNat), (0, vr 2 o), (1, vi a0), (2, vi a1), (3, vi a2)] [vr 6 q1.1.toNat, vi (iAnd a1 (iXor (iShl 1 (q4.2 6 q1.1.toNat 1)) (-1)))] C f_hx_Prog_neededAheadOf_180_2 rfl ?_
        refine h_geti C e_hx_Prog_neededAheadOf_184 fg_Prog_85 g3 rfl rfl rfl (q4.2 6 q1.1.toNat 6) rfl ?_
        refine h_blk 188 [(6, vi (iAnd a1 (iXor (iShl 1 (q4.2 6 q1.1.toNat 1)) (-1)))), (5, vi q4.1), (4, vr 6 q1.1.toNat), (0, vr 2 o), (1, vi a0), (2, vi a1), (3, vi a2)] [vi (iOr (iAnd a1 (iXor (iShl 1 (q4.2 6 q1.1.toNat 1)) (-1))) (q4.2 6 q1.1.toNat 6))] C f_hx_Prog_neededAheadOf_187_1 rfl ?_
        exact h_iret C Rm E e_hx_Prog_neededAheadOf_188 (fin1 h)
      · have h := ifp c25 h
        refine h_blk 188 [(6, vi (iAnd a1 (iXor (iShl 1 (q4.2 6 q1.1.toNat 1)) (-1)))), (5, vi q4.1), (4, vr 6 q1.1.toNat), (0, vr 2 o), (1, vi a0), (2, vi a1), (3, vi a2)] [vi a1] C f_hx_Prog_neededAheadOf_176_2 rfl ?_
        exact h_iret C Rm E e_hx_Prog_neededAheadOf_188 (fin1 h)
  · have h := ifp c7 h
    refine h_blk 38 [(5, vi q4.1), (4, vr 6 q1.1.toNat), (0, vr 2 o), (1, vi a0), (2, vi a1), (3, vi a2)] [vi a1] C f_hx_Prog_neededAheadOf_23_2 rfl ?_
    refine h_blk 42 [(6, vi a1), (5, vi q4.1), (4, vr 6 q1.1.toNat), (0, vr 2 o), (1, vi a0), (2, vi a1), (3, vi a2)] [vr 6 q1.1.toNat] C f_hx_Prog_neededAheadOf_38_2 rfl ?_
    refine h_geti C e_hx_Prog_neededAheadOf_42 fg_Prog_108 g3 rfl rfl rfl (q4.2 6 q1.1.toNat 0) rfl ?_
    obtain ⟨c26, h⟩ := igd h
    by_cases c27 : (q4.2 6 q1.1.toNat 0) = 0
    · have h := ifp c27 h
      refine h_tabIn (tgt := 80) C e_hx_Prog_neededAheadOf_45 c26 (by omega) (by omega) (by rw [c27]; rfl) (by decide) ?_
      refine h_blk 82 [(6, vi a1), (5, vi q4.1), (4, vr 6 q1.1.toNat), (0, vr 2 o), (1, vi a0), (2, vi a1), (3, vi a2)] [vi a1] C f_hx_Prog_neededAheadOf_80_1 rfl ?_
      exact h_iret C Rm E e_hx_Prog_neededAheadOf_82 (fin1 h)
    have h := ifn c27 h
    by_cases c28 : (q4.2 6 q1.1.toNat 0) = 1
    · have h := ifp c28 h
      refine h_tabIn (tgt := 83) C e_hx_Prog_neededAheadOf_45 c26 (by omega) (by omega) (by rw [c28]; rfl) (by decide) ?_
      refine h_blk 86 [(6, vi a1), (5, vi q4.1), (4, vr 6 q1.1.toNat), (0, vr 2 o), (1, vi a0), (2, vi a1), (3, vi a2)] [vi a1, vi a1] C f_hx_Prog_neededAheadOf_83_2 rfl ?_
      obtain ⟨c29, h⟩ := igd h
      refine h_icmp_ne (tgt := 93) C e_hx_Prog_neededAheadOf_86 (by decide) c29 c29 (fun c30 => ?_) (fun c30 => ?_)
      · have h := ifn c30 h
        refine h_blk 97 [(6, vi a1), (5, vi q4.1), (4, vr 6 q1.1.toNat), (0, vr 2 o), (1, vi a0), (2, vi a1), (3, vi a2)] [vr 6 q1.1.toNat, vi a1] C f_hx_Prog_neededAheadOf_93_2 rfl ?_
        refine h_geti C e_hx_Prog_neededAheadOf_97 fg_Prog_85 g3 rfl rfl rfl (q4.2 6 q1.1.toNat 6) rfl ?_
        refine h_blk 101 [(6, vi a1), (5, vi q4.1), (4, vr 6 q1.1.toNat), (0, vr 2 o), (1, vi a0), (2, vi a1), (3, vi a2)] [vi (iOr a1 (q4.2 6 q1.1.toNat 6))] C f_hx_Prog_neededAheadOf_100_1 rfl ?_
        exact h_iret C Rm E e_hx_Prog_neededAheadOf_101 (fin1 h)
      · have h := ifp c30 h
        refine h_blk 101 [(6, vi a1), (5, vi q4.1), (4, vr 6 q1.1.toNat), (0, vr 2 o), (1, vi a0), (2, vi a1), (3, vi a2)] [vi a1] C f_hx_Prog_neededAheadOf_89_2 rfl ?_
        exact h_iret C Rm E e_hx_Prog_neededAheadOf_101 (fin1 h)
    have h := ifn c28 h
    by_cases c31 : (q4.2 6 q1.1.toNat 0) = 2
    · have h := ifp c31 h
      refine h_tabIn (tgt := 102) C e_hx_Prog_neededAheadOf_45 c26 (by omega) (by omega) (by rw [c31]; rfl) (by decide) ?_
      refine h_blk 105 [(6, vi a1), (5, vi q4.1), (4, vr 6 q1.1.toNat), (0, vr 2 o), (1, vi a0), (2, vi a1), (3, vi a2)] [vr 6 q1.1.toNat, vi a1] C f_hx_Prog_neededAheadOf_102_2 rfl ?_
      refine h_geti C e_hx_Prog_neededAheadOf_105 fg_Prog_85 g3 rfl rfl rfl (q4.2 6 q1.1.toNat 6) rfl ?_
      refine h_blk 109 [(6, vi a1), (5, vi q4.1), (4, vr 6 q1.1.toNat), (0, vr 2 o), (1, vi a0), (2, vi a1), (3, vi a2)] [vi (iOr a1 (q4.2 6 q1.1.toNat 6))] C f_hx_Prog_neededAheadOf_108_1 rfl ?_
      exact h_iret C Rm E e_hx_Prog_neededAheadOf_109 (fin1 h)
    have h := ifn c31 h
    by_cases c32 : (q4.2 6 q1.1.toNat 0) = 3
    · have h := ifp c32 h
      refine h_tabIn (tgt := 110) C e_hx_Prog_neededAheadOf_45 c26 (by omega) (by omega) (by rw [c32]; rfl) (by decide) ?_
      refine h_blk 112 [(6, vi a1), (5, vi q4.1), (4, vr 6 q1.1.toNat), (0, vr 2 o), (1, vi a0), (2, vi a1), (3, vi a2)] [vr 6 q1.1.toNat] C f_hx_Prog_neededAheadOf_110_1 rfl ?_
      refine h_geti C e_hx_Prog_neededAheadOf_112 fg_Prog_85 g3 rfl rfl rfl (q4.2 6 q1.1.toNat 6) rfl ?_
      refine h_blk 121 [(6, vi a1), (5, vi q4.1), (4, vr 6 q1.1.toNat), (0, vr 2 o), (1, vi a0), (2, vi a1), (3, vi a2)] [vr 6 q1.1.toNat, vi (a0 + 1), vr 2 o, vi (q4.2 6 q1.1.toNat 6)] C f_hx_Prog_neededAheadOf_115_5 rfl ?_
      refine h_geti C e_hx_Prog_neededAheadOf_121 fg_Prog_111 g3 rfl rfl rfl (q4.2 6 q1.1.toNat 5) rfl ?_
      refine h_blk 128 [(6, vi a1), (5, vi q4.1), (4, vr 6 q1.1.toNat), (0, vr 2 o), (1, vi a0), (2, vi a1), (3, vi a2)] [vi (a2 + 1), vi a1, vi (q4.2 6 q1.1.toNat 5), vi (a0 + 1), vr 2 o, vi (q4.2 6 q1.1.toNat 6)] C f_hx_Prog_neededAheadOf_124_4 rfl ?_
      obtain ⟨q33, e34, h⟩ := obd h
      refine h_callV C Rm Y [vi (a0 + 1), vi (q4.2 6 q1.1.toNat 5), vi a1, vi (a2 + 1)] [vi (q4.2 6 q1.1.toNat 6)] (hx_Prog_neededAhead hnao l D B H0 G _ o (a0 + 1) (q4.2 6 q1.1.toNat 5) a1 (a2 + 1) h_o _ _ e34) cl_Prog_126 h_o rfl rfl rfl e_hx_Prog_neededAheadOf_128 rfl rfl rfl ⟨by show _ ≤ ((fr + 6) : Nat); omega, by show _ ≤ ((lo + 180) : Nat); omega⟩ ?_
      rintro _ _ ⟨rfl, rfl⟩
      show HM g D G q q33.2 131 [(6, vi a1), (5, vi q4.1), (4, vr 6 q1.1.toNat), (0, vr 2 o), (1, vi a0), (2, vi a1), (3, vi a2)] [vi q33.1, vi (q4.2 6 q1.1.toNat 6)]
      refine h_blk 135 [(6, vi a1), (5, vi q4.1), (4, vr 6 q1.1.toNat), (0, vr 2 o), (1, vi a0), (2, vi a1), (3, vi a2)] [vr 6 q1.1.toNat, vr 2 o, vi (iOr (q4.2 6 q1.1.toNat 6) q33.1)] C f_hx_Prog_neededAheadOf_131_3 rfl ?_
      refine h_geti C e_hx_Prog_neededAheadOf_135 fg_Prog_111 g3 rfl rfl rfl (q33.2 6 q1.1.toNat 5) rfl ?_
      refine h_blk 144 [(6, vi a1), (5, vi q4.1), (4, vr 6 q1.1.toNat), (0, vr 2 o), (1, vi a0), (2, vi a1), (3, vi a2)] [vi (a2 + 1), vi a1, vi q4.1, vi (q33.2 6 q1.1.toNat 5), vr 2 o, vi (iOr (q4.2 6 q1.1.toNat 6) q33.1)] C f_hx_Prog_neededAheadOf_138_5 rfl ?_
      obtain ⟨q35, e36, h⟩ := obd h
      refine h_callV C Rm Y [vi (q33.2 6 q1.1.toNat 5), vi q4.1, vi a1, vi (a2 + 1)] [vi (iOr (q4.2 6 q1.1.toNat 6) q33.1)] (hx_Prog_neededAhead hnao l D B H0 G _ o (q33.2 6 q1.1.toNat 5) q4.1 a1 (a2 + 1) h_o _ _ e36) cl_Prog_126 h_o rfl rfl rfl e_hx_Prog_neededAheadOf_144 rfl rfl rfl ⟨by show _ ≤ ((fr + 6) : Nat); omega, by show _ ≤ ((lo + 180) : Nat); omega⟩ ?_
      rintro _ _ ⟨rfl, rfl⟩
      show HM g D G q q35.2 147 [(6, vi a1), (5, vi q4.1), (4, vr 6 q1.1.toNat), (0, vr 2 o), (1, vi a0), (2, vi a1), (3, vi a2)] [vi q35.1, vi (iOr (q4.2 6 q1.1.toNat 6) q33.1)]
      refine h_blk 148 [(6, vi a1), (5, vi q4.1), (4, vr 6 q1.1.toNat), (0, vr 2 o), (1, vi a0), (2, vi a1), (3, vi a2)] [vi (iOr (iOr (q4.2 6 q1.1.toNat 6) q33.1) q35.1)] C f_hx_Prog_neededAheadOf_147_1 rfl ?_
      exact h_iret C Rm E e_hx_Prog_neededAheadOf_148 (fin1 h)
    have h := ifn c32 h
    by_cases c37 : (q4.2 6 q1.1.toNat 0) = 4
    · have h := ifp c37 h
      refine h_tabIn (tgt := 149) C e_hx_Prog_neededAheadOf_45 c26 (by omega) (by omega) (by rw [c37]; rfl) (by decide) ?_
      refine h_blk 153 [(6, vi a1), (5, vi q4.1), (4, vr 6 q1.1.toNat), (0, vr 2 o), (1, vi a0), (2, vi a1), (3, vi a2)] [vr 6 q1.1.toNat, vi a0, vr 2 o] C f_hx_Prog_neededAheadOf_149_3 rfl ?_
      refine h_geti C e_hx_Prog_neededAheadOf_153 fg_Prog_116 g3 rfl rfl rfl (q4.2 6 q1.1.toNat 2) rfl ?_
      refine h_blk 158 [(6, vi a1), (5, vi q4.1), (4, vr 6 q1.1.toNat), (0, vr 2 o), (1, vi a0), (2, vi a1), (3, vi a2)] [vi a2, vi a1, vi (q4.2 6 q1.1.toNat 2), vi a0, vr 2 o] C f_hx_Prog_neededAheadOf_156_2 rfl ?_
      obtain ⟨q38, e39, h⟩ := obd h
      refine h_callV C Rm Y [vi a0, vi (q4.2 6 q1.1.toNat 2), vi a1, vi a2] [] (hx_Prog_neededAheadOfTimes hnao l D B H0 G _ o a0 (q4.2 6 q1.1.toNat 2) a1 a2 h_o _ _ e39) cl_Prog_130 h_o rfl rfl rfl e_hx_Prog_neededAheadOf_158 rfl rfl rfl ⟨by show _ ≤ ((fr + 6) : Nat); omega, by show _ ≤ ((lo + 180) : Nat); omega⟩ ?_
      rintro _ _ ⟨rfl, rfl⟩
      show HM g D G q q38.2 161 [(6, vi a1), (5, vi q4.1), (4, vr 6 q1.1.toNat), (0, vr 2 o), (1, vi a0), (2, vi a1), (3, vi a2)] [vi q38.1]
      exact h_iret C Rm E e_hx_Prog_neededAheadOf_161 (fin1 h)
    have h := ifn c37 h
    refine h_tabOut (tgt := 162) C e_hx_Prog_neededAheadOf_45 c26 (by omega) (by decide) ?_
    refine h_blk 165 [(6, vi a1), (5, vi q4.1), (4, vr 6 q1.1.toNat), (0, vr 2 o), (1, vi a0), (2, vi a1), (3, vi a2)] [vi a1, vi a1] C f_hx_Prog_neededAheadOf_162_2 rfl ?_
    obtain ⟨c40, h⟩ := igd h
    refine h_icmp_ne (tgt := 180) C e_hx_Prog_neededAheadOf_165 (by decide) c40 c40 (fun c41 => ?_) (fun c41 => ?_)
    · have h := ifn c41 h
      refine h_blk 184 [(6, vi a1), (5, vi q4.1), (4, vr 6 q1.1.toNat), (0, vr 2 o), (1, vi a0), (2, vi a1), (3, vi a2)] [vr 6 q1.1.toNat, vi a1] C f_hx_Prog_neededAheadOf_180_2 rfl ?_
      refine h_geti C e_hx_Prog_neededAheadOf_184 fg_Prog_85 g3 rfl rfl rfl (q4.2 6 q1.1.toNat 6) rfl ?_
      refine h_blk 188 [(6, vi a1), (5, vi q4.1), (4, vr 6 q1.1.toNat), (0, vr 2 o), (1, vi a0), (2, vi a1), (3, vi a2)] [vi (iOr a1 (q4.2 6 q1.1.toNat 6))] C f_hx_Prog_neededAheadOf_187_1 rfl ?_
      exact h_iret C Rm E e_hx_Prog_neededAheadOf_188 (fin1 h)
    · have h := ifp c41 h
      refine h_blk 170 [(6, vi a1), (5, vi q4.1), (4, vr 6 q1.1.toNat), (0, vr 2 o), (1, vi a0), (2, vi a1), (3, vi a2)] [vr 6 q1.1.toNat] C f_hx_Prog_neededAheadOf_168_1 rfl ?_
      refine h_geti C e_hx_Prog_neededAheadOf_170 fg_Prog_91 g3 rfl rfl rfl (q4.2 6 q1.1.toNat 12) rfl ?_
      obtain ⟨c42, h⟩ := igd h
      refine h_if_ne (tgt := 180) C e_hx_Prog_neededAheadOf_173 (by decide) c42 (fun c43 => ?_) (fun c43 => ?_)
      · have h := ifn c43 h
        refine h_blk 184 [(6, vi a1), (5, vi q4.1), (4, vr 6 q1.1.toNat), (0, vr 2 o), (1, vi a0), (2, vi a1), (3, vi a2)] [vr 6 q1.1.toNat, vi a1] C f_hx_Prog_neededAheadOf_180_2 rfl ?_
        refine h_geti C e_hx_Prog_neededAheadOf_184 fg_Prog_85 g3 rfl rfl rfl (q4.2 6 q1.1.toNat 6) rfl ?_
        refine h_blk 188 [(6, vi a1), (5, vi q4.1), (4, vr 6 q1.1.toNat), (0, vr 2 o), (1, vi a0), (2, vi a1), (3, vi a2)] [vi (iOr a1 (q4.2 6 q1.1.toNat 6))] C f_hx_Prog_neededAheadOf_187_1 rfl ?_
        exact h_iret C Rm E e_hx_Prog_neededAheadOf_188 (fin1 h)
      · have h := ifp c43 h
        refine h_blk 188 [(6, vi a1), (5, vi q4.1), (4, vr 6 q1.1.toNat), (0, vr 2 o), (1, vi a0), (2, vi a1), (3, vi a2)] [vi a1] C f_hx_Prog_neededAheadOf_176_2 rfl ?_
        exact h_iret C Rm E e_hx_Prog_neededAheadOf_188 (fin1 h)

def f_Prog_naoN : Nat → mA → Nat → Int → Int → Int → Option (Int × mA)
  | 0, _, _, _, _, _ => none
  | n + 1, A, o, a0, a1, a2 => f_Prog_neededAheadOf (f_Prog_naoN n) A o a0 a1 a2
theorem hx_Prog_naoN : ∀ n : Nat, ∀ (l : Launch) (D : va_G) (B : Nat) (H0 : Heap) (G : tG) (A : mA) (o : Nat) (a0 : Int) (a1 : Int) (a2 : Int) (h_o : G o = some 2)  (r9 : Int) (A9 : mA), f_Prog_naoN n A o a0 a1 a2 = some (r9, A9) → hMet l D B H0 G y_Prog_neededAheadOf b_Prog_neededAheadOf 7 (some .int) (6 * n) (180 * n) [vr 2 o, vi a0, vi a1, vi a2] A (fun v A' => v = some (vi r9) ∧ A' = A9) := by
  intro n
  induction n with
  | zero => intro l D B H0 G A o a0 a1 a2 ho r9 A9 h; cases h
  | succ n ih =>
    intro l D B H0 G A o a0 a1 a2 ho r9 A9 h
    have k := hx_Prog_neededAheadOf ih l D B H0 G A o a0 a1 a2 ho r9 A9 h
    have e1 : 6 * (n + 1) = 6 * n + 6 := by omega
    have e2 : 180 * (n + 1) = 180 * n + 180 := by omega
    rw [e1, e2]
    exact k
def f_Prog_neededFrom (A : mA) (o : Nat) (a0 : Int) (a1 : Int) (a2 : Int) : Option (Int × mA) := (Option.bind (f_Prog_neededAhead (f_Prog_naoN 6) A o a0 a1 a2 0) (fun q1 => (some (q1.1, q1.2))))
theorem f_hx_Prog_neededFrom_0_5 : mblkB b_Prog_neededFrom [(0, .aload_n 0, vi 0), (1, .iload_n 1, vi 0), (2, .iload_n 2, vi 0), (3, .iload_n 3, vi 0), (4, .iconst 0, vi 0)] = true := by decide +kernel
theorem e_hx_Prog_neededFrom_5 : decode b_Prog_neededFrom 5 = .ok (.invokevirtual 126, 3) := by decide +kernel
theorem e_hx_Prog_neededFrom_8 : decode b_Prog_neededFrom 8 = .ok (.ireturn, 1) := by decide +kernel
set_option maxHeartbeats 4000000 in
set_option maxRecDepth 20000 in
theorem hx_Prog_neededFrom  : ∀ (l : Launch) (D : va_G) (B : Nat) (H0 : Heap) (G : tG) (A : mA) (o : Nat) (a0 : Int) (a1 : Int) (a2 : Int) (h_o : G o = some 2)  (r9 : Int) (A9 : mA), f_Prog_neededFrom  A o a0 a1 a2 = some (r9, A9) → hMet l D B H0 G y_Prog_neededFrom b_Prog_neededFrom 4 (some .int) 39 1166 [vr 2 o, vi a0, vi a1, vi a2] A (fun v A' => v = some (vi r9) ∧ A' = A9) := by
  intro l D B H0 G A o a0 a1 a2 h_o r9 A9 h
  refine h_met (by decide) rfl (fun g q C Rm Y E => ?_)
  show HM g D G q A 0 [(0, vr 2 o), (1, vi a0), (2, vi a1), (3, vi a2)] []
  unfold f_Prog_neededFrom at h
  refine h_blk 5 [(0, vr 2 o), (1, vi a0), (2, vi a1), (3, vi a2)] [vi 0, vi a2, vi a1, vi a0, vr 2 o] C f_hx_Prog_neededFrom_0_5 rfl ?_
  obtain ⟨q1, e2, h⟩ := obd h
  refine h_callV C Rm Y [vi a0, vi a1, vi a2, vi 0] [] (hx_Prog_neededAhead (hx_Prog_naoN 6) l D B H0 G _ o a0 a1 a2 0 h_o _ _ e2) cl_Prog_126 h_o rfl rfl rfl e_hx_Prog_neededFrom_5 rfl rfl rfl ⟨by decide, by decide⟩ ?_
  rintro _ _ ⟨rfl, rfl⟩
  show HM g D G q q1.2 8 [(0, vr 2 o), (1, vi a0), (2, vi a1), (3, vi a2)] [vi q1.1]
  exact h_iret C Rm E e_hx_Prog_neededFrom_8 (fin1 h)

def f_CS_areNames (A : mA) (a0 : Int) : Option (Int × mA) := (if g32 a0 then (if a0 < 0 then (some (0, A)) else (if 63 < a0 then (some (0, A)) else (some (1, A)))) else none)
theorem f_hx_CS_areNames_0_1 : mblkB b_CS_areNames [(0, .iload_n 0, vi 0)] = true := by decide +kernel
theorem e_hx_CS_areNames_1 : decode b_CS_areNames 1 = .ok (.ifCond .lt 13, 3) := by decide +kernel
theorem f_hx_CS_areNames_14_1 : mblkB b_CS_areNames [(14, .iconst 0, vi 0)] = true := by decide +kernel
theorem e_hx_CS_areNames_15 : decode b_CS_areNames 15 = .ok (.ireturn, 1) := by decide +kernel
theorem f_hx_CS_areNames_4_2 : mblkB b_CS_areNames [(4, .iload_n 0, vi 0), (5, .bipush 63, vi 63)] = true := by decide +kernel
theorem e_hx_CS_areNames_7 : decode b_CS_areNames 7 = .ok (.if_icmp .gt 7, 3) := by decide +kernel
theorem f_hx_CS_areNames_10_2 : mblkB b_CS_areNames [(10, .iconst 1, vi 1), (11, .goto 4, vi 15)] = true := by decide +kernel
set_option maxHeartbeats 4000000 in
set_option maxRecDepth 20000 in
theorem hx_CS_areNames  : ∀ (l : Launch) (D : va_G) (B : Nat) (H0 : Heap) (G : tG) (A : mA) (a0 : Int)  (r9 : Int) (A9 : mA), f_CS_areNames  A a0 = some (r9, A9) → hMet l D B H0 G y_CS_areNames b_CS_areNames 1 (some .boolean) 0 0 [vi a0] A (fun v A' => v = some (vi r9) ∧ A' = A9) := by
  intro l D B H0 G A a0  r9 A9 h
  refine h_met (by decide) rfl (fun g q C Rm Y E => ?_)
  show HM g D G q A 0 [(0, vi a0)] []
  unfold f_CS_areNames at h
  refine h_blk 1 [(0, vi a0)] [vi a0] C f_hx_CS_areNames_0_1 rfl ?_
  obtain ⟨c1, h⟩ := igd h
  refine h_if_lt (tgt := 14) C e_hx_CS_areNames_1 (by decide) c1 (fun c2 => ?_) (fun c2 => ?_)
  · have h := ifp c2 h
    refine h_blk 15 [(0, vi a0)] [vi 0] C f_hx_CS_areNames_14_1 rfl ?_
    exact h_zret C Rm E (Or.inl rfl) e_hx_CS_areNames_15 (fin1 h)
  · have h := ifn c2 h
    refine h_blk 7 [(0, vi a0)] [vi 63, vi a0] C f_hx_CS_areNames_4_2 rfl ?_
    refine h_icmp_gt (tgt := 14) C e_hx_CS_areNames_7 (by decide) c1 (by decide) (fun c3 => ?_) (fun c3 => ?_)
    · have h := ifp c3 h
      refine h_blk 15 [(0, vi a0)] [vi 0] C f_hx_CS_areNames_14_1 rfl ?_
      exact h_zret C Rm E (Or.inl rfl) e_hx_CS_areNames_15 (fin1 h)
    · have h := ifn c3 h
      refine h_blk 15 [(0, vi a0)] [vi 1] C f_hx_CS_areNames_10_2 rfl ?_
      exact h_zret C Rm E (Or.inr rfl) e_hx_CS_areNames_15 (fin1 h)

def f_CS_needed (A : mA) (o : Nat) (a0 : Int) (a1 : Int) : Option (Int × mA) := (Option.bind (f_CS_isProgram A o a0) (fun q1 => (if g32 q1.1 then (if q1.1 = 0 then (some ((-2), q1.2)) else (Option.bind (f_CS_areNames q1.2 a1) (fun q5 => (if g32 q5.1 then (if q5.1 = 0 then (some ((-2), q5.2)) else (if (0 ≤ a0 ∧ a0 < ((6 : Nat) : Int)) then (if 0 ≤ (q5.2 21 ((q5.2 8 o 2).toNat) a0.toNat) then (Option.bind (f_Prog_neededFrom q5.2 ((q5.2 21 ((q5.2 8 o 2).toNat) a0.toNat).toNat) 0 (q5.2 2 ((q5.2 21 ((q5.2 8 o 2).toNat) a0.toNat).toNat) 1) a1) (fun q13 => (some (q13.1, q13.2)))) else none) else none)) else none)))) else none)))
theorem f_hx_CS_needed_0_2 : mblkB b_CS_needed [(0, .aload_n 0, vi 0), (1, .iload_n 1, vi 0)] = true := by decide +kernel
theorem e_hx_CS_needed_2 : decode b_CS_needed 2 = .ok (.invokevirtual 94, 3) := by decide +kernel
theorem e_hx_CS_needed_5 : decode b_CS_needed 5 = .ok (.ifCond .eq 10, 3) := by decide +kernel
theorem f_hx_CS_needed_15_1 : mblkB b_CS_needed [(15, .bipush (-2), vi (-2))] = true := by decide +kernel
theorem e_hx_CS_needed_17 : decode b_CS_needed 17 = .ok (.ireturn, 1) := by decide +kernel
theorem f_hx_CS_needed_8_1 : mblkB b_CS_needed [(8, .iload_n 2, vi 0)] = true := by decide +kernel
theorem e_hx_CS_needed_9 : decode b_CS_needed 9 = .ok (.invokestatic 187, 3) := by decide +kernel
theorem e_hx_CS_needed_12 : decode b_CS_needed 12 = .ok (.ifCond .ne 6, 3) := by decide +kernel
theorem f_hx_CS_needed_18_1 : mblkB b_CS_needed [(18, .aload_n 0, vi 0)] = true := by decide +kernel
theorem e_hx_CS_needed_19 : decode b_CS_needed 19 = .ok (.getfield 15, 3) := by decide +kernel
theorem f_hx_CS_needed_22_1 : mblkB b_CS_needed [(22, .iload_n 1, vi 0)] = true := by decide +kernel
theorem e_hx_CS_needed_23 : decode b_CS_needed 23 = .ok (.aaload, 1) := by decide +kernel
theorem f_hx_CS_needed_24_4 : mblkB b_CS_needed [(24, .astore_n 3, vi 0), (25, .aload_n 3, vi 0), (26, .iconst 0, vi 0), (27, .aload_n 3, vi 0)] = true := by decide +kernel
theorem e_hx_CS_needed_28 : decode b_CS_needed 28 = .ok (.getfield 97, 3) := by decide +kernel
theorem f_hx_CS_needed_31_1 : mblkB b_CS_needed [(31, .iload_n 2, vi 0)] = true := by decide +kernel
theorem e_hx_CS_needed_32 : decode b_CS_needed 32 = .ok (.invokevirtual 190, 3) := by decide +kernel
theorem e_hx_CS_needed_35 : decode b_CS_needed 35 = .ok (.ireturn, 1) := by decide +kernel
set_option maxHeartbeats 4000000 in
set_option maxRecDepth 20000 in
theorem hx_CS_needed  : ∀ (l : Launch) (D : va_G) (B : Nat) (H0 : Heap) (G : tG) (A : mA) (o : Nat) (a0 : Int) (a1 : Int) (h_o : G o = some 8)  (r9 : Int) (A9 : mA), f_CS_needed  A o a0 a1 = some (r9, A9) → hMet l D B H0 G y_CS_needed b_CS_needed 4 (some .int) 40 1189 [vr 8 o, vi a0, vi a1] A (fun v A' => v = some (vi r9) ∧ A' = A9) := by
  intro l D B H0 G A o a0 a1 h_o r9 A9 h
  refine h_met (by decide) rfl (fun g q C Rm Y E => ?_)
  show HM g D G q A 0 [(0, vr 8 o), (1, vi a0), (2, vi a1)] []
  unfold f_CS_needed at h
  refine h_blk 2 [(0, vr 8 o), (1, vi a0), (2, vi a1)] [vi a0, vr 8 o] C f_hx_CS_needed_0_2 rfl ?_
  obtain ⟨q1, e2, h⟩ := obd h
  refine h_callV C Rm Y [vi a0] [] (hx_CS_isProgram l D B H0 G _ o a0 h_o _ _ e2) cl_CS_94 h_o rfl rfl rfl e_hx_CS_needed_2 rfl rfl rfl ⟨by decide, by decide⟩ ?_
  rintro _ _ ⟨rfl, rfl⟩
  show HM g D G q q1.2 5 [(0, vr 8 o), (1, vi a0), (2, vi a1)] [vi q1.1]
  obtain ⟨c3, h⟩ := igd h
  refine h_if_eq (tgt := 15) C e_hx_CS_needed_5 (by decide) c3 (fun c4 => ?_) (fun c4 => ?_)
  · have h := ifp c4 h
    refine h_blk 17 [(0, vr 8 o), (1, vi a0), (2, vi a1)] [vi (-2)] C f_hx_CS_needed_15_1 rfl ?_
    exact h_iret C Rm E e_hx_CS_needed_17 (fin1 h)
  · have h := ifn c4 h
    refine h_blk 9 [(0, vr 8 o), (1, vi a0), (2, vi a1)] [vi a1] C f_hx_CS_needed_8_1 rfl ?_
    obtain ⟨q5, e6, h⟩ := obd h
    refine h_callS C Rm Y [vi a1] [] (hx_CS_areNames l D B H0 G _ a1 _ _ e6) cl_CS_187 e_hx_CS_needed_9 rfl rfl rfl ⟨by decide, by decide⟩ ?_
    rintro _ _ ⟨rfl, rfl⟩
    show HM g D G q q5.2 12 [(0, vr 8 o), (1, vi a0), (2, vi a1)] [vi q5.1]
    obtain ⟨c7, h⟩ := igd h
    refine h_if_ne (tgt := 18) C e_hx_CS_needed_12 (by decide) c7 (fun c8 => ?_) (fun c8 => ?_)
    · have h := ifn c8 h
      refine h_blk 19 [(0, vr 8 o), (1, vi a0), (2, vi a1)] [vr 8 o] C f_hx_CS_needed_18_1 rfl ?_
      refine h_getr4 C e_hx_CS_needed_19 fg_CS_15 h_o rfl rfl rfl rfl (fun g9 => ?_)
      refine h_blk 23 [(0, vr 8 o), (1, vi a0), (2, vi a1)] [vi a0, vr 21 ((q5.2 8 o 2).toNat)] C f_hx_CS_needed_22_1 rfl ?_
      obtain ⟨c10, h⟩ := igd h
      obtain ⟨c11, h⟩ := igd h
      refine h_aald5 C e_hx_CS_needed_23 rfl rfl g9 rfl rfl rfl rfl (by decide) c10.1 c10.2 c11 (fun g12 => ?_)
      refine h_blk 28 [(3, vr 2 ((q5.2 21 ((q5.2 8 o 2).toNat) a0.toNat).toNat)), (0, vr 8 o), (1, vi a0), (2, vi a1)] [vr 2 ((q5.2 21 ((q5.2 8 o 2).toNat) a0.toNat).toNat), vi 0, vr 2 ((q5.2 21 ((q5.2 8 o 2).toNat) a0.toNat).toNat)] C f_hx_CS_needed_24_4 rfl ?_
      refine h_geti C e_hx_CS_needed_28 fg_CS_97 g12 rfl rfl rfl (q5.2 2 ((q5.2 21 ((q5.2 8 o 2).toNat) a0.toNat).toNat) 1) rfl ?_
      refine h_blk 32 [(3, vr 2 ((q5.2 21 ((q5.2 8 o 2).toNat) a0.toNat).toNat)), (0, vr 8 o), (1, vi a0), (2, vi a1)] [vi a1, vi (q5.2 2 ((q5.2 21 ((q5.2 8 o 2).toNat) a0.toNat).toNat) 1), vi 0, vr 2 ((q5.2 21 ((q5.2 8 o 2).toNat) a0.toNat).toNat)] C f_hx_CS_needed_31_1 rfl ?_
      obtain ⟨q13, e14, h⟩ := obd h
      refine h_callV C Rm Y [vi 0, vi (q5.2 2 ((q5.2 21 ((q5.2 8 o 2).toNat) a0.toNat).toNat) 1), vi a1] [] (hx_Prog_neededFrom l D B H0 G _ ((q5.2 21 ((q5.2 8 o 2).toNat) a0.toNat).toNat) 0 (q5.2 2 ((q5.2 21 ((q5.2 8 o 2).toNat) a0.toNat).toNat) 1) a1 g12 _ _ e14) cl_CS_190 g12 rfl rfl rfl e_hx_CS_needed_32 rfl rfl rfl ⟨by decide, by decide⟩ ?_
      rintro _ _ ⟨rfl, rfl⟩
      show HM g D G q q13.2 35 [(3, vr 2 ((q5.2 21 ((q5.2 8 o 2).toNat) a0.toNat).toNat)), (0, vr 8 o), (1, vi a0), (2, vi a1)] [vi q13.1]
      exact h_iret C Rm E e_hx_CS_needed_35 (fin1 h)
    · have h := ifp c8 h
      refine h_blk 17 [(0, vr 8 o), (1, vi a0), (2, vi a1)] [vi (-2)] C f_hx_CS_needed_15_1 rfl ?_
      exact h_iret C Rm E e_hx_CS_needed_17 (fin1 h)

def f_Mo_seesT_2 (se : mA → Int → Option (Int × mA)) : Nat → mA → Int → Int → Option (Int × mA)
  | 0, _, _, _ => none
  | n + 1, A, b1, b2 => (if (0 ≤ b1 ∧ b1 < ((6 : Nat) : Int)) then (if g32 b2 then if g32 (A 5 0 b1.toNat) then (if (A 5 0 b1.toNat) ≤ b2 then (some (0, A)) else (if (0 ≤ b2 ∧ b2 < ((16 : Nat) : Int)) then (if g32 (A 34 b1.toNat b2.toNat) then (if (A 34 b1.toNat b2.toNat) = 2 then (some (1, A)) else (if (A 34 b1.toNat b2.toNat) = 5 then (Option.bind (se A (A 36 b1.toNat b2.toNat)) (fun q12 => (if g32 q12.1 then (if q12.1 = 0 then (f_Mo_seesT_2 se n q12.2 b1 (b2 + 1)) else (some (1, q12.2))) else none))) else (f_Mo_seesT_2 se n A b1 (b2 + 1)))) else none) else none)) else none else none) else none)
def f_Mo_seesT (se : mA → Int → Option (Int × mA)) (A : mA) (a0 : Int) : Option (Int × mA) := (f_Mo_seesT_2 se 20 A a0 0)
theorem f_x_Mo_seesT_0_2 : mblkB b_Mo_sees [(0, .iconst 0, vi 0), (1, .istore_n 2, vi 0)] = true := by decide +kernel
theorem f_x_Mo_seesT_2_2 : mblkB b_Mo_sees [(2, .iload_n 2, vi 0), (3, .aload_n 0, vi 0)] = true := by decide +kernel
theorem e_x_Mo_seesT_4 : decode b_Mo_sees 4 = .ok (.getfield 9, 3) := by decide +kernel
theorem f_x_Mo_seesT_7_1 : mblkB b_Mo_sees [(7, .iload_n 1, vi 0)] = true := by decide +kernel
theorem e_x_Mo_seesT_8 : decode b_Mo_sees 8 = .ok (.iaload, 1) := by decide +kernel
theorem e_x_Mo_seesT_9 : decode b_Mo_sees 9 = .ok (.if_icmp .ge 50, 3) := by decide +kernel
theorem f_x_Mo_seesT_59_1 : mblkB b_Mo_sees [(59, .iconst 0, vi 0)] = true := by decide +kernel
theorem e_x_Mo_seesT_60 : decode b_Mo_sees 60 = .ok (.ireturn, 1) := by decide +kernel
theorem f_x_Mo_seesT_12_1 : mblkB b_Mo_sees [(12, .aload_n 0, vi 0)] = true := by decide +kernel
theorem e_x_Mo_seesT_13 : decode b_Mo_sees 13 = .ok (.getfield 21, 3) := by decide +kernel
theorem f_x_Mo_seesT_16_1 : mblkB b_Mo_sees [(16, .iload_n 1, vi 0)] = true := by decide +kernel
theorem e_x_Mo_seesT_17 : decode b_Mo_sees 17 = .ok (.aaload, 1) := by decide +kernel
theorem f_x_Mo_seesT_18_1 : mblkB b_Mo_sees [(18, .iload_n 2, vi 0)] = true := by decide +kernel
theorem e_x_Mo_seesT_19 : decode b_Mo_sees 19 = .ok (.iaload, 1) := by decide +kernel
theorem f_x_Mo_seesT_20_1 : mblkB b_Mo_sees [(20, .iconst 2, vi 2)] = true := by decide +kernel
theorem e_x_Mo_seesT_21 : decode b_Mo_sees 21 = .ok (.if_icmp .eq 30, 3) := by decide +kernel
theorem f_x_Mo_seesT_51_1 : mblkB b_Mo_sees [(51, .iconst 1, vi 1)] = true := by decide +kernel
theorem e_x_Mo_seesT_52 : decode b_Mo_sees 52 = .ok (.ireturn, 1) := by decide +kernel
theorem f_x_Mo_seesT_24_1 : mblkB b_Mo_sees [(24, .aload_n 0, vi 0)] = true := by decide +kernel
theorem e_x_Mo_seesT_25 : decode b_Mo_sees 25 = .ok (.getfield 21, 3) := by decide +kernel
theorem f_x_Mo_seesT_28_1 : mblkB b_Mo_sees [(28, .iload_n 1, vi 0)] = true := by decide +kernel
theorem e_x_Mo_seesT_29 : decode b_Mo_sees 29 = .ok (.aaload, 1) := by decide +kernel
theorem f_x_Mo_seesT_30_1 : mblkB b_Mo_sees [(30, .iload_n 2, vi 0)] = true := by decide +kernel
theorem e_x_Mo_seesT_31 : decode b_Mo_sees 31 = .ok (.iaload, 1) := by decide +kernel
theorem f_x_Mo_seesT_32_1 : mblkB b_Mo_sees [(32, .iconst 5, vi 5)] = true := by decide +kernel
theorem e_x_Mo_seesT_33 : decode b_Mo_sees 33 = .ok (.if_icmp .ne 20, 3) := by decide +kernel
theorem f_x_Mo_seesT_53_2 : mblkB b_Mo_sees [(53, .iinc 2 1, vi 1), (56, .goto (-54), vi 2)] = true := by decide +kernel
theorem f_x_Mo_seesT_36_2 : mblkB b_Mo_sees [(36, .aload_n 0, vi 0), (37, .aload_n 0, vi 0)] = true := by decide +kernel
theorem e_x_Mo_seesT_38 : decode b_Mo_sees 38 = .ok (.getfield 27, 3) := by decide +kernel
theorem f_x_Mo_seesT_41_1 : mblkB b_Mo_sees [(41, .iload_n 1, vi 0)] = true := by decide +kernel
theorem e_x_Mo_seesT_42 : decode b_Mo_sees 42 = .ok (.aaload, 1) := by decide +kernel
theorem f_x_Mo_seesT_43_1 : mblkB b_Mo_sees [(43, .iload_n 2, vi 0)] = true := by decide +kernel
theorem e_x_Mo_seesT_44 : decode b_Mo_sees 44 = .ok (.iaload, 1) := by decide +kernel
theorem e_x_Mo_seesT_45 : decode b_Mo_sees 45 = .ok (.invokevirtual 303, 3) := by decide +kernel
theorem e_x_Mo_seesT_48 : decode b_Mo_sees 48 = .ok (.ifCond .eq 5, 3) := by decide +kernel
set_option maxHeartbeats 4000000 in
set_option maxRecDepth 20000 in
theorem x_Mo_seesT {se : mA → Int → Option (Int × mA)} {fr lo : Nat} (hse : ∀ (l : Launch) (D : va_G) (B : Nat) (H0 : Heap) (ad : mAd) (A : mA) (a0 : Int) (hS : mStr D ad) (r9 : Int) (A9 : mA), se A a0 = some (r9, A9) → mMet l D B H0 ad y_Mo_sees b_Mo_sees 3 (some .boolean) fr lo [vr 0 0, vi a0] A (fun v A' => v = some (vi r9) ∧ A' = A9)) : ∀ (l : Launch) (D : va_G) (B : Nat) (H0 : Heap) (ad : mAd) (A : mA) (a0 : Int) (hS : mStr D ad) (r9 : Int) (A9 : mA), f_Mo_seesT se A a0 = some (r9, A9) → mMet l D B H0 ad y_Mo_sees b_Mo_sees 3 (some .boolean) (fr + 2) (lo + 60) [vr 0 0, vi a0] A (fun v A' => v = some (vi r9) ∧ A' = A9) := by
  intro l D B H0 ad A a0  hS r9 A9 h
  refine m_met (by decide) rfl (fun g w0 C Rm Y E => ?_)
  have hd_2 : ∀ (n : Nat) (A : mA) (b1 : Int) (b2 : Int) , f_Mo_seesT_2 se n A b1 b2 = some (r9, A9) → JM g D ad w0 A 2 [(0, vr 0 0), (1, vi b1), (2, vi b2)] [] := by
    intro n
    induction n with
    | zero => intro A b1 b2  h; cases h
    | succ n ih =>
      intro A b1 b2  h
      unfold f_Mo_seesT_2 at h
      refine m_blk 4 [(0, vr 0 0), (1, vi b1), (2, vi b2)] [vr 0 0, vi b2] C f_x_Mo_seesT_2_2 rfl ?_
      refine m_getr C e_x_Mo_seesT_4 fg_Mo_9 rfl (by decide) rfl ?_
      refine m_blk 8 [(0, vr 0 0), (1, vi b1), (2, vi b2)] [vi b1, vr 5 0, vi b2] C f_x_Mo_seesT_7_1 rfl ?_
      obtain ⟨c1, h⟩ := igd h
      refine m_iald C e_x_Mo_seesT_8 rfl (by decide) (by decide) c1.1 c1.2 (A 5 0 b1.toNat) rfl ?_
      obtain ⟨c2, h⟩ := igd h
      obtain ⟨c3, h⟩ := igd h
      refine m_icmp_ge (tgt := 59) C e_x_Mo_seesT_9 (by decide) c2 c3 (fun c4 => ?_) (fun c4 => ?_)
      · have h := ifp c4 h
        refine m_blk 60 [(0, vr 0 0), (1, vi b1), (2, vi b2)] [vi 0] C f_x_Mo_seesT_59_1 rfl ?_
        exact m_zret C Rm E (Or.inl rfl) e_x_Mo_seesT_60 (fin1 h)
      · have h := ifn c4 h
        refine m_blk 13 [(0, vr 0 0), (1, vi b1), (2, vi b2)] [vr 0 0] C f_x_Mo_seesT_12_1 rfl ?_
        refine m_getr C e_x_Mo_seesT_13 fg_Mo_21 rfl (by decide) rfl ?_
        refine m_blk 17 [(0, vr 0 0), (1, vi b1), (2, vi b2)] [vi b1, vr 14 0] C f_x_Mo_seesT_16_1 rfl ?_
        have k5 : b1.toNat < 6 := by omega
        refine m_aald C b1.toNat e_x_Mo_seesT_17 rfl rfl rfl (by decide) (by decide) c1.1 c1.2 (mz _ _) ?_
        refine m_blk 19 [(0, vr 0 0), (1, vi b1), (2, vi b2)] [vi b2, vr 34 b1.toNat] C f_x_Mo_seesT_18_1 rfl ?_
        obtain ⟨c6, h⟩ := igd h
        refine m_iald C e_x_Mo_seesT_19 rfl k5 (by decide) c6.1 c6.2 (A 34 b1.toNat b2.toNat) rfl ?_
        refine m_blk 21 [(0, vr 0 0), (1, vi b1), (2, vi b2)] [vi 2, vi (A 34 b1.toNat b2.toNat)] C f_x_Mo_seesT_20_1 rfl ?_
        obtain ⟨c7, h⟩ := igd h
        refine m_icmp_eq (tgt := 51) C e_x_Mo_seesT_21 (by decide) c7 (by decide) (fun c8 => ?_) (fun c8 => ?_)
        · have h := ifp c8 h
          refine m_blk 52 [(0, vr 0 0), (1, vi b1), (2, vi b2)] [vi 1] C f_x_Mo_seesT_51_1 rfl ?_
          exact m_zret C Rm E (Or.inr rfl) e_x_Mo_seesT_52 (fin1 h)
        · have h := ifn c8 h
          refine m_blk 25 [(0, vr 0 0), (1, vi b1), (2, vi b2)] [vr 0 0] C f_x_Mo_seesT_24_1 rfl ?_
          refine m_getr C e_x_Mo_seesT_25 fg_Mo_21 rfl (by decide) rfl ?_
          refine m_blk 29 [(0, vr 0 0), (1, vi b1), (2, vi b2)] [vi b1, vr 14 0] C f_x_Mo_seesT_28_1 rfl ?_
          have k9 : b1.toNat < 6 := by omega
          refine m_aald C b1.toNat e_x_Mo_seesT_29 rfl rfl rfl (by decide) (by decide) c1.1 c1.2 (mz _ _) ?_
          refine m_blk 31 [(0, vr 0 0), (1, vi b1), (2, vi b2)] [vi b2, vr 34 b1.toNat] C f_x_Mo_seesT_30_1 rfl ?_
          refine m_iald C e_x_Mo_seesT_31 rfl k9 (by decide) c6.1 c6.2 (A 34 b1.toNat b2.toNat) rfl ?_
          refine m_blk 33 [(0, vr 0 0), (1, vi b1), (2, vi b2)] [vi 5, vi (A 34 b1.toNat b2.toNat)] C f_x_Mo_seesT_32_1 rfl ?_
          refine m_icmp_ne (tgt := 53) C e_x_Mo_seesT_33 (by decide) c7 (by decide) (fun c10 => ?_) (fun c10 => ?_)
          · have h := ifn c10 h
            refine m_blk 2 [(2, vi (b2 + 1)), (0, vr 0 0), (1, vi b1)] [] C f_x_Mo_seesT_53_2 rfl ?_
            refine m_loc [(0, vr 0 0), (1, vi b1), (2, vi (b2 + 1))] ⟨rfl, rfl, rfl, trivial⟩ ?_
            exact ih A b1 (b2 + 1)  h
          · have h := ifp c10 h
            refine m_blk 38 [(0, vr 0 0), (1, vi b1), (2, vi b2)] [vr 0 0, vr 0 0] C f_x_Mo_seesT_36_2 rfl ?_
            refine m_getr C e_x_Mo_seesT_38 fg_Mo_27 rfl (by decide) rfl ?_
            refine m_blk 42 [(0, vr 0 0), (1, vi b1), (2, vi b2)] [vi b1, vr 16 0, vr 0 0] C f_x_Mo_seesT_41_1 rfl ?_
            have k11 : b1.toNat < 6 := by omega
            refine m_aald C b1.toNat e_x_Mo_seesT_42 rfl rfl rfl (by decide) (by decide) c1.1 c1.2 (mz _ _) ?_
            refine m_blk 44 [(0, vr 0 0), (1, vi b1), (2, vi b2)] [vi b2, vr 36 b1.toNat, vr 0 0] C f_x_Mo_seesT_43_1 rfl ?_
            refine m_iald C e_x_Mo_seesT_44 rfl k11 (by decide) c6.1 c6.2 (A 36 b1.toNat b2.toNat) rfl ?_
            obtain ⟨q12, e13, h⟩ := obd h
            refine m_callV C Rm Y [vi (A 36 b1.toNat b2.toNat)] [] (hse l D B H0 ad _ (A 36 b1.toNat b2.toNat) hS _ _ e13) cl_Mo_303 rfl (by decide) rfl rfl e_x_Mo_seesT_45 rfl rfl rfl ⟨by show _ ≤ ((fr + 2) : Nat); omega, by show _ ≤ ((lo + 60) : Nat); omega⟩ ?_
            rintro _ _ ⟨rfl, rfl⟩
            show JM g D ad w0 q12.2 48 [(0, vr 0 0), (1, vi b1), (2, vi b2)] [vi q12.1]
            obtain ⟨c14, h⟩ := igd h
            refine m_if_eq (tgt := 53) C e_x_Mo_seesT_48 (by decide) c14 (fun c15 => ?_) (fun c15 => ?_)
            · have h := ifp c15 h
              refine m_blk 2 [(2, vi (b2 + 1)), (0, vr 0 0), (1, vi b1)] [] C f_x_Mo_seesT_53_2 rfl ?_
              refine m_loc [(0, vr 0 0), (1, vi b1), (2, vi (b2 + 1))] ⟨rfl, rfl, rfl, trivial⟩ ?_
              exact ih q12.2 b1 (b2 + 1)  h
            · have h := ifn c15 h
              refine m_blk 52 [(0, vr 0 0), (1, vi b1), (2, vi b2)] [vi 1] C f_x_Mo_seesT_51_1 rfl ?_
              exact m_zret C Rm E (Or.inr rfl) e_x_Mo_seesT_52 (fin1 h)
  show JM g D ad w0 A 0 [(0, vr 0 0), (1, vi a0)] []
  unfold f_Mo_seesT at h
  refine m_blk 2 [(2, vi 0), (0, vr 0 0), (1, vi a0)] [] C f_x_Mo_seesT_0_2 rfl ?_
  refine m_loc [(0, vr 0 0), (1, vi a0), (2, vi 0)] ⟨rfl, rfl, rfl, trivial⟩ ?_
  exact hd_2 _ A a0 0  h

def f_Mo_seesN : Nat → mA → Int → Option (Int × mA)
  | 0, _, _ => none
  | n + 1, A, a0 => f_Mo_seesT (f_Mo_seesN n) A a0
theorem x_Mo_seesN : ∀ n : Nat, ∀ (l : Launch) (D : va_G) (B : Nat) (H0 : Heap) (ad : mAd) (A : mA) (a0 : Int) (hS : mStr D ad) (r9 : Int) (A9 : mA), f_Mo_seesN n A a0 = some (r9, A9) → mMet l D B H0 ad y_Mo_sees b_Mo_sees 3 (some .boolean) (2 * n) (60 * n) [vr 0 0, vi a0] A (fun v A' => v = some (vi r9) ∧ A' = A9) := by
  intro n
  induction n with
  | zero => intro l D B H0 ad A a0 hS r9 A9 h; cases h
  | succ n ih =>
    intro l D B H0 ad A a0 hS r9 A9 h
    have k := x_Mo_seesT ih l D B H0 ad A a0 hS r9 A9 h
    have e1 : 2 * (n + 1) = 2 * n + 2 := by omega
    have e2 : 60 * (n + 1) = 60 * n + 60 := by omega
    rw [e1, e2]
    exact k
def f_Mo_neededAhead_167 (nf : mA → Int → Int → Int → Int → Option (Int × mA)) : Nat → mA → Int → Int → Int → Int → Option (Int × mA)
  | 0, _, _, _, _, _ => none
  | n + 1, A, b1, b2, b6, b7 => (if (0 ≤ b1 ∧ b1 < ((6 : Nat) : Int)) then (if (0 ≤ b2 ∧ b2 < ((16 : Nat) : Int)) then (if g32 b7 then if g32 (A 36 b1.toNat b2.toNat) then (if (A 36 b1.toNat b2.toNat) ≤ b7 then (some (b6, A)) else (Option.bind (nf A b1 (b2 + 1) (A 37 b1.toNat b2.toNat) b6) (fun q8 => (f_Mo_neededAhead_167 nf n q8.2 b1 b2 q8.1 (b7 + 1))))) else none else none) else none) else none)
def f_Mo_neededAhead (nf : mA → Int → Int → Int → Int → Option (Int × mA)) (A : mA) (a0 : Int) (a1 : Int) (a2 : Int) : Option (Int × mA) := (if (0 ≤ a0 ∧ a0 < ((6 : Nat) : Int)) then (if (0 ≤ a1 ∧ a1 < ((16 : Nat) : Int)) then (if g32 (A 35 a0.toNat a1.toNat) then (if (A 35 a0.toNat a1.toNat) = (-1) then (Option.bind (f_Mo_namesInN 121 A a0 (A 39 a0.toNat a1.toNat)) (fun q41 => (if g32 (q41.2 34 a0.toNat a1.toNat) then (if (q41.2 34 a0.toNat a1.toNat) = 0 then (some ((iAnd a2 (iXor 0 (-1))), q41.2)) else if (q41.2 34 a0.toNat a1.toNat) = 1 then (if (iAnd a2 0) = 0 then (some (a2, q41.2)) else (some ((iOr (iAnd a2 (iXor 0 (-1))) q41.1), q41.2))) else if (q41.2 34 a0.toNat a1.toNat) = 2 then (some ((iOr a2 q41.1), q41.2)) else if (q41.2 34 a0.toNat a1.toNat) = 3 then (Option.bind (nf q41.2 a0 (a1 + 1) (q41.2 38 a0.toNat a1.toNat) a2) (fun q51 => (Option.bind (nf q51.2 a0 (q51.2 38 a0.toNat a1.toNat) (q51.2 37 a0.toNat a1.toNat) a2) (fun q55 => (some ((iOr (iOr q51.1 q55.1) q41.1), q55.2)))))) else if (q41.2 34 a0.toNat a1.toNat) = 4 then (f_Mo_neededAhead_167 nf 20 q41.2 a0 a1 a2 0) else (if (iAnd a2 0) = 0 then (Option.bind (f_Mo_seesN 7 q41.2 (q41.2 36 a0.toNat a1.toNat)) (fun q60 => (if g32 q60.1 then (if q60.1 = 0 then (some (a2, q60.2)) else (some ((iOr (iAnd a2 (iXor 0 (-1))) q41.1), q60.2))) else none))) else (some ((iOr (iAnd a2 (iXor 0 (-1))) q41.1), q41.2)))) else none))) else (Option.bind (f_Mo_namesInN 121 A a0 (A 39 a0.toNat a1.toNat)) (fun q17 => (if g32 (q17.2 34 a0.toNat a1.toNat) then (if (q17.2 34 a0.toNat a1.toNat) = 0 then (some ((iAnd a2 (iXor (iShl 1 (A 35 a0.toNat a1.toNat)) (-1))), q17.2)) else if (q17.2 34 a0.toNat a1.toNat) = 1 then (if (iAnd a2 (iShl 1 (A 35 a0.toNat a1.toNat))) = 0 then (some (a2, q17.2)) else (some ((iOr (iAnd a2 (iXor (iShl 1 (A 35 a0.toNat a1.toNat)) (-1))) q17.1), q17.2))) else if (q17.2 34 a0.toNat a1.toNat) = 2 then (some ((iOr a2 q17.1), q17.2)) else if (q17.2 34 a0.toNat a1.toNat) = 3 then (Option.bind (nf q17.2 a0 (a1 + 1) (q17.2 38 a0.toNat a1.toNat) a2) (fun q27 => (Option.bind (nf q27.2 a0 (q27.2 38 a0.toNat a1.toNat) (q27.2 37 a0.toNat a1.toNat) a2) (fun q31 => (some ((iOr (iOr q27.1 q31.1) q17.1), q31.2)))))) else if (q17.2 34 a0.toNat a1.toNat) = 4 then (f_Mo_neededAhead_167 nf 20 q17.2 a0 a1 a2 0) else (if (iAnd a2 (iShl 1 (A 35 a0.toNat a1.toNat))) = 0 then (Option.bind (f_Mo_seesN 7 q17.2 (q17.2 36 a0.toNat a1.toNat)) (fun q36 => (if g32 q36.1 then (if q36.1 = 0 then (some (a2, q36.2)) else (some ((iOr (iAnd a2 (iXor (iShl 1 (A 35 a0.toNat a1.toNat)) (-1))) q17.1), q36.2))) else none))) else (some ((iOr (iAnd a2 (iXor (iShl 1 (A 35 a0.toNat a1.toNat)) (-1))) q17.1), q17.2)))) else none)))) else none) else none) else none)
theorem f_x_Mo_neededAhead_0_1 : mblkB b_Mo_neededAhead [(0, .aload_n 0, vi 0)] = true := by decide +kernel
theorem e_x_Mo_neededAhead_1 : decode b_Mo_neededAhead 1 = .ok (.getfield 24, 3) := by decide +kernel
theorem f_x_Mo_neededAhead_4_1 : mblkB b_Mo_neededAhead [(4, .iload_n 1, vi 0)] = true := by decide +kernel
theorem e_x_Mo_neededAhead_5 : decode b_Mo_neededAhead 5 = .ok (.aaload, 1) := by decide +kernel
theorem f_x_Mo_neededAhead_6_1 : mblkB b_Mo_neededAhead [(6, .iload_n 2, vi 0)] = true := by decide +kernel
theorem e_x_Mo_neededAhead_7 : decode b_Mo_neededAhead 7 = .ok (.iaload, 1) := by decide +kernel
theorem f_x_Mo_neededAhead_8_1 : mblkB b_Mo_neededAhead [(8, .iconst (-1), vi (-1))] = true := by decide +kernel
theorem e_x_Mo_neededAhead_9 : decode b_Mo_neededAhead 9 = .ok (.if_icmp .ne 7, 3) := by decide +kernel
theorem f_x_Mo_neededAhead_16_2 : mblkB b_Mo_neededAhead [(16, .iconst 1, vi 1), (17, .aload_n 0, vi 0)] = true := by decide +kernel
theorem e_x_Mo_neededAhead_18 : decode b_Mo_neededAhead 18 = .ok (.getfield 24, 3) := by decide +kernel
theorem f_x_Mo_neededAhead_21_1 : mblkB b_Mo_neededAhead [(21, .iload_n 1, vi 0)] = true := by decide +kernel
theorem e_x_Mo_neededAhead_22 : decode b_Mo_neededAhead 22 = .ok (.aaload, 1) := by decide +kernel
theorem f_x_Mo_neededAhead_23_1 : mblkB b_Mo_neededAhead [(23, .iload_n 2, vi 0)] = true := by decide +kernel
theorem e_x_Mo_neededAhead_24 : decode b_Mo_neededAhead 24 = .ok (.iaload, 1) := by decide +kernel
theorem f_x_Mo_neededAhead_25_5 : mblkB b_Mo_neededAhead [(25, .ishl, vi 0), (26, .istore 4, vi 0), (28, .aload_n 0, vi 0), (29, .iload_n 1, vi 0), (30, .aload_n 0, vi 0)] = true := by decide +kernel
theorem e_x_Mo_neededAhead_31 : decode b_Mo_neededAhead 31 = .ok (.getfield 36, 3) := by decide +kernel
theorem f_x_Mo_neededAhead_34_1 : mblkB b_Mo_neededAhead [(34, .iload_n 1, vi 0)] = true := by decide +kernel
theorem e_x_Mo_neededAhead_35 : decode b_Mo_neededAhead 35 = .ok (.aaload, 1) := by decide +kernel
theorem f_x_Mo_neededAhead_36_1 : mblkB b_Mo_neededAhead [(36, .iload_n 2, vi 0)] = true := by decide +kernel
theorem e_x_Mo_neededAhead_37 : decode b_Mo_neededAhead 37 = .ok (.iaload, 1) := by decide +kernel
theorem e_x_Mo_neededAhead_38 : decode b_Mo_neededAhead 38 = .ok (.invokevirtual 266, 3) := by decide +kernel
theorem f_x_Mo_neededAhead_41_2 : mblkB b_Mo_neededAhead [(41, .istore 5, vi 0), (43, .aload_n 0, vi 0)] = true := by decide +kernel
theorem e_x_Mo_neededAhead_44 : decode b_Mo_neededAhead 44 = .ok (.getfield 21, 3) := by decide +kernel
theorem f_x_Mo_neededAhead_47_1 : mblkB b_Mo_neededAhead [(47, .iload_n 1, vi 0)] = true := by decide +kernel
theorem e_x_Mo_neededAhead_48 : decode b_Mo_neededAhead 48 = .ok (.aaload, 1) := by decide +kernel
theorem f_x_Mo_neededAhead_49_1 : mblkB b_Mo_neededAhead [(49, .iload_n 2, vi 0)] = true := by decide +kernel
theorem e_x_Mo_neededAhead_50 : decode b_Mo_neededAhead 50 = .ok (.iaload, 1) := by decide +kernel
theorem e_x_Mo_neededAhead_51 : decode b_Mo_neededAhead 51 = .ok (.tableswitch 158 0 4 #[33, 40, 61, 66, 110], 33) := by decide +kernel
theorem f_x_Mo_neededAhead_84_5 : mblkB b_Mo_neededAhead [(84, .iload_n 3, vi 0), (85, .iload 4, vi 0), (87, .iconst (-1), vi (-1)), (88, .ixor, vi 0), (89, .iand, vi 0)] = true := by decide +kernel
theorem e_x_Mo_neededAhead_90 : decode b_Mo_neededAhead 90 = .ok (.ireturn, 1) := by decide +kernel
theorem f_x_Mo_neededAhead_91_3 : mblkB b_Mo_neededAhead [(91, .iload_n 3, vi 0), (92, .iload 4, vi 0), (94, .iand, vi 0)] = true := by decide +kernel
theorem e_x_Mo_neededAhead_95 : decode b_Mo_neededAhead 95 = .ok (.ifCond .eq 15, 3) := by decide +kernel
theorem f_x_Mo_neededAhead_110_1 : mblkB b_Mo_neededAhead [(110, .iload_n 3, vi 0)] = true := by decide +kernel
theorem e_x_Mo_neededAhead_111 : decode b_Mo_neededAhead 111 = .ok (.ireturn, 1) := by decide +kernel
theorem f_x_Mo_neededAhead_98_8 : mblkB b_Mo_neededAhead [(98, .iload_n 3, vi 0), (99, .iload 4, vi 0), (101, .iconst (-1), vi (-1)), (102, .ixor, vi 0), (103, .iand, vi 0), (104, .iload 5, vi 0), (106, .ior, vi 0), (107, .goto 4, vi 111)] = true := by decide +kernel
theorem f_x_Mo_neededAhead_112_3 : mblkB b_Mo_neededAhead [(112, .iload_n 3, vi 0), (113, .iload 5, vi 0), (115, .ior, vi 0)] = true := by decide +kernel
theorem e_x_Mo_neededAhead_116 : decode b_Mo_neededAhead 116 = .ok (.ireturn, 1) := by decide +kernel
theorem f_x_Mo_neededAhead_117_6 : mblkB b_Mo_neededAhead [(117, .aload_n 0, vi 0), (118, .iload_n 1, vi 0), (119, .iload_n 2, vi 0), (120, .iconst 1, vi 1), (121, .iadd, vi 0), (122, .aload_n 0, vi 0)] = true := by decide +kernel
theorem e_x_Mo_neededAhead_123 : decode b_Mo_neededAhead 123 = .ok (.getfield 33, 3) := by decide +kernel
theorem f_x_Mo_neededAhead_126_1 : mblkB b_Mo_neededAhead [(126, .iload_n 1, vi 0)] = true := by decide +kernel
theorem e_x_Mo_neededAhead_127 : decode b_Mo_neededAhead 127 = .ok (.aaload, 1) := by decide +kernel
theorem f_x_Mo_neededAhead_128_1 : mblkB b_Mo_neededAhead [(128, .iload_n 2, vi 0)] = true := by decide +kernel
theorem e_x_Mo_neededAhead_129 : decode b_Mo_neededAhead 129 = .ok (.iaload, 1) := by decide +kernel
theorem f_x_Mo_neededAhead_130_1 : mblkB b_Mo_neededAhead [(130, .iload_n 3, vi 0)] = true := by decide +kernel
theorem e_x_Mo_neededAhead_131 : decode b_Mo_neededAhead 131 = .ok (.invokevirtual 300, 3) := by decide +kernel
theorem f_x_Mo_neededAhead_134_3 : mblkB b_Mo_neededAhead [(134, .aload_n 0, vi 0), (135, .iload_n 1, vi 0), (136, .aload_n 0, vi 0)] = true := by decide +kernel
theorem e_x_Mo_neededAhead_137 : decode b_Mo_neededAhead 137 = .ok (.getfield 33, 3) := by decide +kernel
theorem f_x_Mo_neededAhead_140_1 : mblkB b_Mo_neededAhead [(140, .iload_n 1, vi 0)] = true := by decide +kernel
theorem e_x_Mo_neededAhead_141 : decode b_Mo_neededAhead 141 = .ok (.aaload, 1) := by decide +kernel
theorem f_x_Mo_neededAhead_142_1 : mblkB b_Mo_neededAhead [(142, .iload_n 2, vi 0)] = true := by decide +kernel
theorem e_x_Mo_neededAhead_143 : decode b_Mo_neededAhead 143 = .ok (.iaload, 1) := by decide +kernel
theorem f_x_Mo_neededAhead_144_1 : mblkB b_Mo_neededAhead [(144, .aload_n 0, vi 0)] = true := by decide +kernel
theorem e_x_Mo_neededAhead_145 : decode b_Mo_neededAhead 145 = .ok (.getfield 30, 3) := by decide +kernel
theorem f_x_Mo_neededAhead_148_1 : mblkB b_Mo_neededAhead [(148, .iload_n 1, vi 0)] = true := by decide +kernel
theorem e_x_Mo_neededAhead_149 : decode b_Mo_neededAhead 149 = .ok (.aaload, 1) := by decide +kernel
theorem f_x_Mo_neededAhead_150_1 : mblkB b_Mo_neededAhead [(150, .iload_n 2, vi 0)] = true := by decide +kernel
theorem e_x_Mo_neededAhead_151 : decode b_Mo_neededAhead 151 = .ok (.iaload, 1) := by decide +kernel
theorem f_x_Mo_neededAhead_152_1 : mblkB b_Mo_neededAhead [(152, .iload_n 3, vi 0)] = true := by decide +kernel
theorem e_x_Mo_neededAhead_153 : decode b_Mo_neededAhead 153 = .ok (.invokevirtual 300, 3) := by decide +kernel
theorem f_x_Mo_neededAhead_156_3 : mblkB b_Mo_neededAhead [(156, .ior, vi 0), (157, .iload 5, vi 0), (159, .ior, vi 0)] = true := by decide +kernel
theorem e_x_Mo_neededAhead_160 : decode b_Mo_neededAhead 160 = .ok (.ireturn, 1) := by decide +kernel
theorem f_x_Mo_neededAhead_161_4 : mblkB b_Mo_neededAhead [(161, .iload_n 3, vi 0), (162, .istore 6, vi 0), (164, .iconst 0, vi 0), (165, .istore 7, vi 0)] = true := by decide +kernel
theorem f_x_Mo_neededAhead_209_3 : mblkB b_Mo_neededAhead [(209, .iload_n 3, vi 0), (210, .iload 4, vi 0), (212, .iand, vi 0)] = true := by decide +kernel
theorem e_x_Mo_neededAhead_213 : decode b_Mo_neededAhead 213 = .ok (.ifCond .ne 18, 3) := by decide +kernel
theorem f_x_Mo_neededAhead_231_8 : mblkB b_Mo_neededAhead [(231, .iload_n 3, vi 0), (232, .iload 4, vi 0), (234, .iconst (-1), vi (-1)), (235, .ixor, vi 0), (236, .iand, vi 0), (237, .iload 5, vi 0), (239, .ior, vi 0), (240, .goto 4, vi 244)] = true := by decide +kernel
theorem e_x_Mo_neededAhead_244 : decode b_Mo_neededAhead 244 = .ok (.ireturn, 1) := by decide +kernel
theorem f_x_Mo_neededAhead_216_2 : mblkB b_Mo_neededAhead [(216, .aload_n 0, vi 0), (217, .aload_n 0, vi 0)] = true := by decide +kernel
theorem e_x_Mo_neededAhead_218 : decode b_Mo_neededAhead 218 = .ok (.getfield 27, 3) := by decide +kernel
theorem f_x_Mo_neededAhead_221_1 : mblkB b_Mo_neededAhead [(221, .iload_n 1, vi 0)] = true := by decide +kernel
theorem e_x_Mo_neededAhead_222 : decode b_Mo_neededAhead 222 = .ok (.aaload, 1) := by decide +kernel
theorem f_x_Mo_neededAhead_223_1 : mblkB b_Mo_neededAhead [(223, .iload_n 2, vi 0)] = true := by decide +kernel
theorem e_x_Mo_neededAhead_224 : decode b_Mo_neededAhead 224 = .ok (.iaload, 1) := by decide +kernel
theorem e_x_Mo_neededAhead_225 : decode b_Mo_neededAhead 225 = .ok (.invokevirtual 303, 3) := by decide +kernel
theorem e_x_Mo_neededAhead_228 : decode b_Mo_neededAhead 228 = .ok (.ifCond .eq 15, 3) := by decide +kernel
theorem f_x_Mo_neededAhead_243_1 : mblkB b_Mo_neededAhead [(243, .iload_n 3, vi 0)] = true := by decide +kernel
theorem f_x_Mo_neededAhead_12_2 : mblkB b_Mo_neededAhead [(12, .iconst 0, vi 0), (13, .goto 13, vi 26)] = true := by decide +kernel
theorem f_x_Mo_neededAhead_26_4 : mblkB b_Mo_neededAhead [(26, .istore 4, vi 0), (28, .aload_n 0, vi 0), (29, .iload_n 1, vi 0), (30, .aload_n 0, vi 0)] = true := by decide +kernel
theorem f_x_Mo_neededAhead_167_2 : mblkB b_Mo_neededAhead [(167, .iload 7, vi 0), (169, .aload_n 0, vi 0)] = true := by decide +kernel
theorem e_x_Mo_neededAhead_170 : decode b_Mo_neededAhead 170 = .ok (.getfield 27, 3) := by decide +kernel
theorem f_x_Mo_neededAhead_173_1 : mblkB b_Mo_neededAhead [(173, .iload_n 1, vi 0)] = true := by decide +kernel
theorem e_x_Mo_neededAhead_174 : decode b_Mo_neededAhead 174 = .ok (.aaload, 1) := by decide +kernel
theorem f_x_Mo_neededAhead_175_1 : mblkB b_Mo_neededAhead [(175, .iload_n 2, vi 0)] = true := by decide +kernel
theorem e_x_Mo_neededAhead_176 : decode b_Mo_neededAhead 176 = .ok (.iaload, 1) := by decide +kernel
theorem e_x_Mo_neededAhead_177 : decode b_Mo_neededAhead 177 = .ok (.if_icmp .ge 29, 3) := by decide +kernel
theorem f_x_Mo_neededAhead_206_1 : mblkB b_Mo_neededAhead [(206, .iload 6, vi 0)] = true := by decide +kernel
theorem e_x_Mo_neededAhead_208 : decode b_Mo_neededAhead 208 = .ok (.ireturn, 1) := by decide +kernel
theorem f_x_Mo_neededAhead_180_6 : mblkB b_Mo_neededAhead [(180, .aload_n 0, vi 0), (181, .iload_n 1, vi 0), (182, .iload_n 2, vi 0), (183, .iconst 1, vi 1), (184, .iadd, vi 0), (185, .aload_n 0, vi 0)] = true := by decide +kernel
theorem e_x_Mo_neededAhead_186 : decode b_Mo_neededAhead 186 = .ok (.getfield 30, 3) := by decide +kernel
theorem f_x_Mo_neededAhead_189_1 : mblkB b_Mo_neededAhead [(189, .iload_n 1, vi 0)] = true := by decide +kernel
theorem e_x_Mo_neededAhead_190 : decode b_Mo_neededAhead 190 = .ok (.aaload, 1) := by decide +kernel
theorem f_x_Mo_neededAhead_191_1 : mblkB b_Mo_neededAhead [(191, .iload_n 2, vi 0)] = true := by decide +kernel
theorem e_x_Mo_neededAhead_192 : decode b_Mo_neededAhead 192 = .ok (.iaload, 1) := by decide +kernel
theorem f_x_Mo_neededAhead_193_1 : mblkB b_Mo_neededAhead [(193, .iload 6, vi 0)] = true := by decide +kernel
theorem e_x_Mo_neededAhead_195 : decode b_Mo_neededAhead 195 = .ok (.invokevirtual 300, 3) := by decide +kernel
theorem f_x_Mo_neededAhead_198_3 : mblkB b_Mo_neededAhead [(198, .istore 6, vi 0), (200, .iinc 7 1, vi 1), (203, .goto (-36), vi 167)] = true := by decide +kernel
set_option maxHeartbeats 4000000 in
set_option maxRecDepth 20000 in
theorem x_Mo_neededAhead {nf : mA → Int → Int → Int → Int → Option (Int × mA)} {fr lo : Nat} (hnf : ∀ (l : Launch) (D : va_G) (B : Nat) (H0 : Heap) (ad : mAd) (A : mA) (a0 : Int) (a1 : Int) (a2 : Int) (a3 : Int) (hS : mStr D ad) (r9 : Int) (A9 : mA), nf A a0 a1 a2 a3 = some (r9, A9) → mMet l D B H0 ad y_Mo_neededFrom b_Mo_neededFrom 5 (some .int) (fr + 250) (lo + 7600) [vr 0 0, vi a0, vi a1, vi a2, vi a3] A (fun v A' => v = some (vi r9) ∧ A' = A9)) : ∀ (l : Launch) (D : va_G) (B : Nat) (H0 : Heap) (ad : mAd) (A : mA) (a0 : Int) (a1 : Int) (a2 : Int) (hS : mStr D ad) (r9 : Int) (A9 : mA), f_Mo_neededAhead nf A a0 a1 a2 = some (r9, A9) → mMet l D B H0 ad y_Mo_neededAhead b_Mo_neededAhead 8 (some .int) (fr + 252) (lo + 7660) [vr 0 0, vi a0, vi a1, vi a2] A (fun v A' => v = some (vi r9) ∧ A' = A9) := by
  intro l D B H0 ad A a0 a1 a2  hS r9 A9 h
  refine m_met (by decide) rfl (fun g w0 C Rm Y E => ?_)
  have hd_167 : ∀ (n : Nat) (A : mA) (b1 : Int) (b2 : Int) (b6 : Int) (b7 : Int) , f_Mo_neededAhead_167 nf n A b1 b2 b6 b7 = some (r9, A9) → JM g D ad w0 A 167 [(0, vr 0 0), (1, vi b1), (2, vi b2), (6, vi b6), (7, vi b7)] [] := by
    intro n
    induction n with
    | zero => intro A b1 b2 b6 b7  h; cases h
    | succ n ih =>
      intro A b1 b2 b6 b7  h
      unfold f_Mo_neededAhead_167 at h
      refine m_blk 170 [(0, vr 0 0), (1, vi b1), (2, vi b2), (6, vi b6), (7, vi b7)] [vr 0 0, vi b7] C f_x_Mo_neededAhead_167_2 rfl ?_
      refine m_getr C e_x_Mo_neededAhead_170 fg_Mo_27 rfl (by decide) rfl ?_
      refine m_blk 174 [(0, vr 0 0), (1, vi b1), (2, vi b2), (6, vi b6), (7, vi b7)] [vi b1, vr 16 0, vi b7] C f_x_Mo_neededAhead_173_1 rfl ?_
      obtain ⟨c1, h⟩ := igd h
      have k2 : b1.toNat < 6 := by omega
      refine m_aald C b1.toNat e_x_Mo_neededAhead_174 rfl rfl rfl (by decide) (by decide) c1.1 c1.2 (mz _ _) ?_
      refine m_blk 176 [(0, vr 0 0), (1, vi b1), (2, vi b2), (6, vi b6), (7, vi b7)] [vi b2, vr 36 b1.toNat, vi b7] C f_x_Mo_neededAhead_175_1 rfl ?_
      obtain ⟨c3, h⟩ := igd h
      refine m_iald C e_x_Mo_neededAhead_176 rfl k2 (by decide) c3.1 c3.2 (A 36 b1.toNat b2.toNat) rfl ?_
      obtain ⟨c4, h⟩ := igd h
      obtain ⟨c5, h⟩ := igd h
      refine m_icmp_ge (tgt := 206) C e_x_Mo_neededAhead_177 (by decide) c4 c5 (fun c6 => ?_) (fun c6 => ?_)
      · have h := ifp c6 h
        refine m_blk 208 [(0, vr 0 0), (1, vi b1), (2, vi b2), (6, vi b6), (7, vi b7)] [vi b6] C f_x_Mo_neededAhead_206_1 rfl ?_
        exact m_iret C Rm E e_x_Mo_neededAhead_208 (fin1 h)
      · have h := ifn c6 h
        refine m_blk 186 [(0, vr 0 0), (1, vi b1), (2, vi b2), (6, vi b6), (7, vi b7)] [vr 0 0, vi (b2 + 1), vi b1, vr 0 0] C f_x_Mo_neededAhead_180_6 rfl ?_
        refine m_getr C e_x_Mo_neededAhead_186 fg_Mo_30 rfl (by decide) rfl ?_
        refine m_blk 190 [(0, vr 0 0), (1, vi b1), (2, vi b2), (6, vi b6), (7, vi b7)] [vi b1, vr 17 0, vi (b2 + 1), vi b1, vr 0 0] C f_x_Mo_neededAhead_189_1 rfl ?_
        have k7 : b1.toNat < 6 := by omega
        refine m_aald C b1.toNat e_x_Mo_neededAhead_190 rfl rfl rfl (by decide) (by decide) c1.1 c1.2 (mz _ _) ?_
        refine m_blk 192 [(0, vr 0 0), (1, vi b1), (2, vi b2), (6, vi b6), (7, vi b7)] [vi b2, vr 37 b1.toNat, vi (b2 + 1), vi b1, vr 0 0] C f_x_Mo_neededAhead_191_1 rfl ?_
        refine m_iald C e_x_Mo_neededAhead_192 rfl k7 (by decide) c3.1 c3.2 (A 37 b1.toNat b2.toNat) rfl ?_
        refine m_blk 195 [(0, vr 0 0), (1, vi b1), (2, vi b2), (6, vi b6), (7, vi b7)] [vi b6, vi (A 37 b1.toNat b2.toNat), vi (b2 + 1), vi b1, vr 0 0] C f_x_Mo_neededAhead_193_1 rfl ?_
        obtain ⟨q8, e9, h⟩ := obd h
        refine m_callV C Rm Y [vi b1, vi (b2 + 1), vi (A 37 b1.toNat b2.toNat), vi b6] [] (hnf l D B H0 ad _ b1 (b2 + 1) (A 37 b1.toNat b2.toNat) b6 hS _ _ e9) cl_Mo_300 rfl (by decide) rfl rfl e_x_Mo_neededAhead_195 rfl rfl rfl ⟨by show _ ≤ ((fr + 252) : Nat); omega, by show _ ≤ ((lo + 7660) : Nat); omega⟩ ?_
        rintro _ _ ⟨rfl, rfl⟩
        show JM g D ad w0 q8.2 198 [(0, vr 0 0), (1, vi b1), (2, vi b2), (6, vi b6), (7, vi b7)] [vi q8.1]
        refine m_blk 167 [(7, vi (b7 + 1)), (6, vi q8.1), (0, vr 0 0), (1, vi b1), (2, vi b2)] [] C f_x_Mo_neededAhead_198_3 rfl ?_
        refine m_loc [(0, vr 0 0), (1, vi b1), (2, vi b2), (6, vi q8.1), (7, vi (b7 + 1))] ⟨rfl, rfl, rfl, rfl, rfl, trivial⟩ ?_
        exact ih q8.2 b1 b2 q8.1 (b7 + 1)  h
  show JM g D ad w0 A 0 [(0, vr 0 0), (1, vi a0), (2, vi a1), (3, vi a2)] []
  unfold f_Mo_neededAhead at h
  refine m_blk 1 [(0, vr 0 0), (1, vi a0), (2, vi a1), (3, vi a2)] [vr 0 0] C f_x_Mo_neededAhead_0_1 rfl ?_
  refine m_getr C e_x_Mo_neededAhead_1 fg_Mo_24 rfl (by decide) rfl ?_
  refine m_blk 5 [(0, vr 0 0), (1, vi a0), (2, vi a1), (3, vi a2)] [vi a0, vr 15 0] C f_x_Mo_neededAhead_4_1 rfl ?_
  obtain ⟨c10, h⟩ := igd h
  have k11 : a0.toNat < 6 := by omega
  refine m_aald C a0.toNat e_x_Mo_neededAhead_5 rfl rfl rfl (by decide) (by decide) c10.1 c10.2 (mz _ _) ?_
  refine m_blk 7 [(0, vr 0 0), (1, vi a0), (2, vi a1), (3, vi a2)] [vi a1, vr 35 a0.toNat] C f_x_Mo_neededAhead_6_1 rfl ?_
  obtain ⟨c12, h⟩ := igd h
  refine m_iald C e_x_Mo_neededAhead_7 rfl k11 (by decide) c12.1 c12.2 (A 35 a0.toNat a1.toNat) rfl ?_
  refine m_blk 9 [(0, vr 0 0), (1, vi a0), (2, vi a1), (3, vi a2)] [vi (-1), vi (A 35 a0.toNat a1.toNat)] C f_x_Mo_neededAhead_8_1 rfl ?_
  obtain ⟨c13, h⟩ := igd h
  refine m_icmp_ne (tgt := 16) C e_x_Mo_neededAhead_9 (by decide) c13 (by decide) (fun c14 => ?_) (fun c14 => ?_)
  · have h := ifn c14 h
    refine m_blk 18 [(0, vr 0 0), (1, vi a0), (2, vi a1), (3, vi a2)] [vr 0 0, vi 1] C f_x_Mo_neededAhead_16_2 rfl ?_
    refine m_getr C e_x_Mo_neededAhead_18 fg_Mo_24 rfl (by decide) rfl ?_
    refine m_blk 22 [(0, vr 0 0), (1, vi a0), (2, vi a1), (3, vi a2)] [vi a0, vr 15 0, vi 1] C f_x_Mo_neededAhead_21_1 rfl ?_
    have k15 : a0.toNat < 6 := by omega
    refine m_aald C a0.toNat e_x_Mo_neededAhead_22 rfl rfl rfl (by decide) (by decide) c10.1 c10.2 (mz _ _) ?_
    refine m_blk 24 [(0, vr 0 0), (1, vi a0), (2, vi a1), (3, vi a2)] [vi a1, vr 35 a0.toNat, vi 1] C f_x_Mo_neededAhead_23_1 rfl ?_
    refine m_iald C e_x_Mo_neededAhead_24 rfl k15 (by decide) c12.1 c12.2 (A 35 a0.toNat a1.toNat) rfl ?_
    refine m_blk 31 [(4, vi (iShl 1 (A 35 a0.toNat a1.toNat))), (0, vr 0 0), (1, vi a0), (2, vi a1), (3, vi a2)] [vr 0 0, vi a0, vr 0 0] C f_x_Mo_neededAhead_25_5 rfl ?_
    refine m_getr C e_x_Mo_neededAhead_31 fg_Mo_36 rfl (by decide) rfl ?_
    refine m_blk 35 [(4, vi (iShl 1 (A 35 a0.toNat a1.toNat))), (0, vr 0 0), (1, vi a0), (2, vi a1), (3, vi a2)] [vi a0, vr 19 0, vi a0, vr 0 0] C f_x_Mo_neededAhead_34_1 rfl ?_
    have k16 : a0.toNat < 6 := by omega
    refine m_aald C a0.toNat e_x_Mo_neededAhead_35 rfl rfl rfl (by decide) (by decide) c10.1 c10.2 (mz _ _) ?_
    refine m_blk 37 [(4, vi (iShl 1 (A 35 a0.toNat a1.toNat))), (0, vr 0 0), (1, vi a0), (2, vi a1), (3, vi a2)] [vi a1, vr 39 a0.toNat, vi a0, vr 0 0] C f_x_Mo_neededAhead_36_1 rfl ?_
    refine m_iald C e_x_Mo_neededAhead_37 rfl k16 (by decide) c12.1 c12.2 (A 39 a0.toNat a1.toNat) rfl ?_
    obtain ⟨q17, e18, h⟩ := obd h
    refine m_callV C Rm Y [vi a0, vi (A 39 a0.toNat a1.toNat)] [] (x_Mo_namesInN 121 l D B H0 ad _ a0 (A 39 a0.toNat a1.toNat) hS _ _ e18) cl_Mo_266 rfl (by decide) rfl rfl e_x_Mo_neededAhead_38 rfl rfl rfl ⟨by show _ ≤ ((fr + 252) : Nat); omega, by show _ ≤ ((lo + 7660) : Nat); omega⟩ ?_
    rintro _ _ ⟨rfl, rfl⟩
    show JM g D ad w0 q17.2 41 [(4, vi (iShl 1 (A 35 a0.toNat a1.toNat))), (0, vr 0 0), (1, vi a0), (2, vi a1), (3, vi a2)] [vi q17.1]
    refine m_blk 44 [(5, vi q17.1), (4, vi (iShl 1 (A 35 a0.toNat a1.toNat))), (0, vr 0 0), (1, vi a0), (2, vi a1), (3, vi a2)] [vr 0 0] C f_x_Mo_neededAhead_41_2 rfl ?_
    refine m_getr C e_x_Mo_neededAhead_44 fg_Mo_21 rfl (by decide) rfl ?_
    refine m_blk 48 [(5, vi q17.1), (4, vi (iShl 1 (A 35 a0.toNat a1.toNat))), (0, vr 0 0), (1, vi a0), (2, vi a1), (3, vi a2)] [vi a0, vr 14 0] C f_x_Mo_neededAhead_47_1 rfl ?_
    have k19 : a0.toNat < 6 := by omega
    refine m_aald C a0.toNat e_x_Mo_neededAhead_48 rfl rfl rfl (by decide) (by decide) c10.1 c10.2 (mz _ _) ?_
    refine m_blk 50 [(5, vi q17.1), (4, vi (iShl 1 (A 35 a0.toNat a1.toNat))), (0, vr 0 0), (1, vi a0), (2, vi a1), (3, vi a2)] [vi a1, vr 34 a0.toNat] C f_x_Mo_neededAhead_49_1 rfl ?_
    refine m_iald C e_x_Mo_neededAhead_50 rfl k19 (by decide) c12.1 c12.2 (q17.2 34 a0.toNat a1.toNat) rfl ?_
    obtain ⟨c20, h⟩ := igd h
    by_cases c21 : (q17.2 34 a0.toNat a1.toNat) = 0
    · have h := ifp c21 h
      refine m_tabIn (tgt := 84) C e_x_Mo_neededAhead_51 c20 (by omega) (by omega) (by rw [c21]; rfl) (by decide) ?_
      refine m_blk 90 [(5, vi q17.1), (4, vi (iShl 1 (A 35 a0.toNat a1.toNat))), (0, vr 0 0), (1, vi a0), (2, vi a1), (3, vi a2)] [vi (iAnd a2 (iXor (iShl 1 (A 35 a0.toNat a1.toNat)) (-1)))] C f_x_Mo_neededAhead_84_5 rfl ?_
      exact m_iret C Rm E e_x_Mo_neededAhead_90 (fin1 h)
    have h := ifn c21 h
    by_cases c22 : (q17.2 34 a0.toNat a1.toNat) = 1
    · have h := ifp c22 h
      refine m_tabIn (tgt := 91) C e_x_Mo_neededAhead_51 c20 (by omega) (by omega) (by rw [c22]; rfl) (by decide) ?_
      refine m_blk 95 [(5, vi q17.1), (4, vi (iShl 1 (A 35 a0.toNat a1.toNat))), (0, vr 0 0), (1, vi a0), (2, vi a1), (3, vi a2)] [vi (iAnd a2 (iShl 1 (A 35 a0.toNat a1.toNat)))] C f_x_Mo_neededAhead_91_3 rfl ?_
      refine m_if_eq (tgt := 110) C e_x_Mo_neededAhead_95 (by decide) (iAnd_r _ _) (fun c23 => ?_) (fun c23 => ?_)
      · have h := ifp c23 h
        refine m_blk 111 [(5, vi q17.1), (4, vi (iShl 1 (A 35 a0.toNat a1.toNat))), (0, vr 0 0), (1, vi a0), (2, vi a1), (3, vi a2)] [vi a2] C f_x_Mo_neededAhead_110_1 rfl ?_
        exact m_iret C Rm E e_x_Mo_neededAhead_111 (fin1 h)
      · have h := ifn c23 h
        refine m_blk 111 [(5, vi q17.1), (4, vi (iShl 1 (A 35 a0.toNat a1.toNat))), (0, vr 0 0), (1, vi a0), (2, vi a1), (3, vi a2)] [vi (iOr (iAnd a2 (iXor (iShl 1 (A 35 a0.toNat a1.toNat)) (-1))) q17.1)] C f_x_Mo_neededAhead_98_8 rfl ?_
        exact m_iret C Rm E e_x_Mo_neededAhead_111 (fin1 h)
    have h := ifn c22 h
    by_cases c24 : (q17.2 34 a0.toNat a1.toNat) = 2
    · have h := ifp c24 h
      refine m_tabIn (tgt := 112) C e_x_Mo_neededAhead_51 c20 (by omega) (by omega) (by rw [c24]; rfl) (by decide) ?_
      refine m_blk 116 [(5, vi q17.1), (4, vi (iShl 1 (A 35 a0.toNat a1.toNat))), (0, vr 0 0), (1, vi a0), (2, vi a1), (3, vi a2)] [vi (iOr a2 q17.1)] C f_x_Mo_neededAhead_112_3 rfl ?_
      exact m_iret C Rm E e_x_Mo_neededAhead_116 (fin1 h)
    have h := ifn c24 h
    by_cases c25 : (q17.2 34 a0.toNat a1.toNat) = 3
    · have h := ifp c25 h
      refine m_tabIn (tgt := 117) C e_x_Mo_neededAhead_51 c20 (by omega) (by omega) (by rw [c25]; rfl) (by decide) ?_
      refine m_blk 123 [(5, vi q17.1), (4, vi (iShl 1 (A 35 a0.toNat a1.toNat))), (0, vr 0 0), (1, vi a0), (2, vi a1), (3, vi a2)] [vr 0 0, vi (a1 + 1), vi a0, vr 0 0] C f_x_Mo_neededAhead_117_6 rfl ?_
      refine m_getr C e_x_Mo_neededAhead_123 fg_Mo_33 rfl (by decide) rfl ?_
      refine m_blk 127 [(5, vi q17.1), (4, vi (iShl 1 (A 35 a0.toNat a1.toNat))), (0, vr 0 0), (1, vi a0), (2, vi a1), (3, vi a2)] [vi a0, vr 18 0, vi (a1 + 1), vi a0, vr 0 0] C f_x_Mo_neededAhead_126_1 rfl ?_
      have k26 : a0.toNat < 6 := by omega
      refine m_aald C a0.toNat e_x_Mo_neededAhead_127 rfl rfl rfl (by decide) (by decide) c10.1 c10.2 (mz _ _) ?_
      refine m_blk 129 [(5, vi q17.1), (4, vi (iShl 1 (A 35 a0.toNat a1.toNat))), (0, vr 0 0), (1, vi a0), (2, vi a1), (3, vi a2)] [vi a1, vr 38 a0.toNat, vi (a1 + 1), vi a0, vr 0 0] C f_x_Mo_neededAhead_128_1 rfl ?_
      refine m_iald C e_x_Mo_neededAhead_129 rfl k26 (by decide) c12.1 c12.2 (q17.2 38 a0.toNat a1.toNat) rfl ?_
      refine m_blk 131 [(5, vi q17.1), (4, vi (iShl 1 (A 35 a0.toNat a1.toNat))), (0, vr 0 0), (1, vi a0), (2, vi a1), (3, vi a2)] [vi a2, vi (q17.2 38 a0.toNat a1.toNat), vi (a1 + 1), vi a0, vr 0 0] C f_x_Mo_neededAhead_130_1 rfl ?_
      obtain ⟨q27, e28, h⟩ := obd h
      refine m_callV C Rm Y [vi a0, vi (a1 + 1), vi (q17.2 38 a0.toNat a1.toNat), vi a2] [] (hnf l D B H0 ad _ a0 (a1 + 1) (q17.2 38 a0.toNat a1.toNat) a2 hS _ _ e28) cl_Mo_300 rfl (by decide) rfl rfl e_x_Mo_neededAhead_131 rfl rfl rfl ⟨by show _ ≤ ((fr + 252) : Nat); omega, by show _ ≤ ((lo + 7660) : Nat); omega⟩ ?_
      rintro _ _ ⟨rfl, rfl⟩
      show JM g D ad w0 q27.2 134 [(5, vi q17.1), (4, vi (iShl 1 (A 35 a0.toNat a1.toNat))), (0, vr 0 0), (1, vi a0), (2, vi a1), (3, vi a2)] [vi q27.1]
      refine m_blk 137 [(5, vi q17.1), (4, vi (iShl 1 (A 35 a0.toNat a1.toNat))), (0, vr 0 0), (1, vi a0), (2, vi a1), (3, vi a2)] [vr 0 0, vi a0, vr 0 0, vi q27.1] C f_x_Mo_neededAhead_134_3 rfl ?_
      refine m_getr C e_x_Mo_neededAhead_137 fg_Mo_33 rfl (by decide) rfl ?_
      refine m_blk 141 [(5, vi q17.1), (4, vi (iShl 1 (A 35 a0.toNat a1.toNat))), (0, vr 0 0), (1, vi a0), (2, vi a1), (3, vi a2)] [vi a0, vr 18 0, vi a0, vr 0 0, vi q27.1] C f_x_Mo_neededAhead_140_1 rfl ?_
      have k29 : a0.toNat < 6 := by omega
      refine m_aald C a0.toNat e_x_Mo_neededAhead_141 rfl rfl rfl (by decide) (by decide) c10.1 c10.2 (mz _ _) ?_
      refine m_blk 143 [(5, vi q17.1), (4, vi (iShl 1 (A 35 a0.toNat a1.toNat))), (0, vr 0 0), (1, vi a0), (2, vi a1), (3, vi a2)] [vi a1, vr 38 a0.toNat, vi a0, vr 0 0, vi q27.1] C f_x_Mo_neededAhead_142_1 rfl ?_
      refine m_iald C e_x_Mo_neededAhead_143 rfl k29 (by decide) c12.1 c12.2 (q27.2 38 a0.toNat a1.toNat) rfl ?_
      refine m_blk 145 [(5, vi q17.1), (4, vi (iShl 1 (A 35 a0.toNat a1.toNat))), (0, vr 0 0), (1, vi a0), (2, vi a1), (3, vi a2)] [vr 0 0, vi (q27.2 38 a0.toNat a1.toNat), vi a0, vr 0 0, vi q27.1] C f_x_Mo_neededAhead_144_1 rfl ?_
      refine m_getr C e_x_Mo_neededAhead_145 fg_Mo_30 rfl (by decide) rfl ?_
      refine m_blk 149 [(5, vi q17.1), (4, vi (iShl 1 (A 35 a0.toNat a1.toNat))), (0, vr 0 0), (1, vi a0), (2, vi a1), (3, vi a2)] [vi a0, vr 17 0, vi (q27.2 38 a0.toNat a1.toNat), vi a0, vr 0 0, vi q27.1] C f_x_Mo_neededAhead_148_1 rfl ?_
      have k30 : a0.toNat < 6 := by omega
      refine m_aald C a0.toNat e_x_Mo_neededAhead_149 rfl rfl rfl (by decide) (by decide) c10.1 c10.2 (mz _ _) ?_
      refine m_blk 151 [(5, vi q17.1), (4, vi (iShl 1 (A 35 a0.toNat a1.toNat))), (0, vr 0 0), (1, vi a0), (2, vi a1), (3, vi a2)] [vi a1, vr 37 a0.toNat, vi (q27.2 38 a0.toNat a1.toNat), vi a0, vr 0 0, vi q27.1] C f_x_Mo_neededAhead_150_1 rfl ?_
      refine m_iald C e_x_Mo_neededAhead_151 rfl k30 (by decide) c12.1 c12.2 (q27.2 37 a0.toNat a1.toNat) rfl ?_
      refine m_blk 153 [(5, vi q17.1), (4, vi (iShl 1 (A 35 a0.toNat a1.toNat))), (0, vr 0 0), (1, vi a0), (2, vi a1), (3, vi a2)] [vi a2, vi (q27.2 37 a0.toNat a1.toNat), vi (q27.2 38 a0.toNat a1.toNat), vi a0, vr 0 0, vi q27.1] C f_x_Mo_neededAhead_152_1 rfl ?_
      obtain ⟨q31, e32, h⟩ := obd h
      refine m_callV C Rm Y [vi a0, vi (q27.2 38 a0.toNat a1.toNat), vi (q27.2 37 a0.toNat a1.toNat), vi a2] [vi q27.1] (hnf l D B H0 ad _ a0 (q27.2 38 a0.toNat a1.toNat) (q27.2 37 a0.toNat a1.toNat) a2 hS _ _ e32) cl_Mo_300 rfl (by decide) rfl rfl e_x_Mo_neededAhead_153 rfl rfl rfl ⟨by show _ ≤ ((fr + 252) : Nat); omega, by show _ ≤ ((lo + 7660) : Nat); omega⟩ ?_
      rintro _ _ ⟨rfl, rfl⟩
      show JM g D ad w0 q31.2 156 [(5, vi q17.1), (4, vi (iShl 1 (A 35 a0.toNat a1.toNat))), (0, vr 0 0), (1, vi a0), (2, vi a1), (3, vi a2)] [vi q31.1, vi q27.1]
      refine m_blk 160 [(5, vi q17.1), (4, vi (iShl 1 (A 35 a0.toNat a1.toNat))), (0, vr 0 0), (1, vi a0), (2, vi a1), (3, vi a2)] [vi (iOr (iOr q27.1 q31.1) q17.1)] C f_x_Mo_neededAhead_156_3 rfl ?_
      exact m_iret C Rm E e_x_Mo_neededAhead_160 (fin1 h)
    have h := ifn c25 h
    by_cases c33 : (q17.2 34 a0.toNat a1.toNat) = 4
    · have h := ifp c33 h
      refine m_tabIn (tgt := 161) C e_x_Mo_neededAhead_51 c20 (by omega) (by omega) (by rw [c33]; rfl) (by decide) ?_
      refine m_blk 167 [(7, vi 0), (6, vi a2), (5, vi q17.1), (4, vi (iShl 1 (A 35 a0.toNat a1.toNat))), (0, vr 0 0), (1, vi a0), (2, vi a1), (3, vi a2)] [] C f_x_Mo_neededAhead_161_4 rfl ?_
      refine m_loc [(0, vr 0 0), (1, vi a0), (2, vi a1), (6, vi a2), (7, vi 0)] ⟨rfl, rfl, rfl, rfl, rfl, trivial⟩ ?_
      exact hd_167 _ q17.2 a0 a1 a2 0  h
    have h := ifn c33 h
    refine m_tabOut (tgt := 209) C e_x_Mo_neededAhead_51 c20 (by omega) (by decide) ?_
    refine m_blk 213 [(5, vi q17.1), (4, vi (iShl 1 (A 35 a0.toNat a1.toNat))), (0, vr 0 0), (1, vi a0), (2, vi a1), (3, vi a2)] [vi (iAnd a2 (iShl 1 (A 35 a0.toNat a1.toNat)))] C f_x_Mo_neededAhead_209_3 rfl ?_
    refine m_if_ne (tgt := 231) C e_x_Mo_neededAhead_213 (by decide) (iAnd_r _ _) (fun c34 => ?_) (fun c34 => ?_)
    · have h := ifn c34 h
      refine m_blk 244 [(5, vi q17.1), (4, vi (iShl 1 (A 35 a0.toNat a1.toNat))), (0, vr 0 0), (1, vi a0), (2, vi a1), (3, vi a2)] [vi (iOr (iAnd a2 (iXor (iShl 1 (A 35 a0.toNat a1.toNat)) (-1))) q17.1)] C f_x_Mo_neededAhead_231_8 rfl ?_
      exact m_iret C Rm E e_x_Mo_neededAhead_244 (fin1 h)
    · have h := ifp c34 h
      refine m_blk 218 [(5, vi q17.1), (4, vi (iShl 1 (A 35 a0.toNat a1.toNat))), (0, vr 0 0), (1, vi a0), (2, vi a1), (3, vi a2)] [vr 0 0, vr 0 0] C f_x_Mo_neededAhead_216_2 rfl ?_
      refine m_getr C e_x_Mo_neededAhead_218 fg_Mo_27 rfl (by decide) rfl ?_
      refine m_blk 222 [(5, vi q17.1), (4, vi (iShl 1 (A 35 a0.toNat a1.toNat))), (0, vr 0 0), (1, vi a0), (2, vi a1), (3, vi a2)] [vi a0, vr 16 0, vr 0 0] C f_x_Mo_neededAhead_221_1 rfl ?_
      have k35 : a0.toNat < 6 := by omega
      refine m_aald C a0.toNat e_x_Mo_neededAhead_222 rfl rfl rfl (by decide) (by decide) c10.1 c10.2 (mz _ _) ?_
      refine m_blk 224 [(5, vi q17.1), (4, vi (iShl 1 (A 35 a0.toNat a1.toNat))), (0, vr 0 0), (1, vi a0), (2, vi a1), (3, vi a2)] [vi a1, vr 36 a0.toNat, vr 0 0] C f_x_Mo_neededAhead_223_1 rfl ?_
      refine m_iald C e_x_Mo_neededAhead_224 rfl k35 (by decide) c12.1 c12.2 (q17.2 36 a0.toNat a1.toNat) rfl ?_
      obtain ⟨q36, e37, h⟩ := obd h
      refine m_callV C Rm Y [vi (q17.2 36 a0.toNat a1.toNat)] [] (x_Mo_seesN 7 l D B H0 ad _ (q17.2 36 a0.toNat a1.toNat) hS _ _ e37) cl_Mo_303 rfl (by decide) rfl rfl e_x_Mo_neededAhead_225 rfl rfl rfl ⟨by show _ ≤ ((fr + 252) : Nat); omega, by show _ ≤ ((lo + 7660) : Nat); omega⟩ ?_
      rintro _ _ ⟨rfl, rfl⟩
      show JM g D ad w0 q36.2 228 [(5, vi q17.1), (4, vi (iShl 1 (A 35 a0.toNat a1.toNat))), (0, vr 0 0), (1, vi a0), (2, vi a1), (3, vi a2)] [vi q36.1]
      obtain ⟨c38, h⟩ := igd h
      refine m_if_eq (tgt := 243) C e_x_Mo_neededAhead_228 (by decide) c38 (fun c39 => ?_) (fun c39 => ?_)
      · have h := ifp c39 h
        refine m_blk 244 [(5, vi q17.1), (4, vi (iShl 1 (A 35 a0.toNat a1.toNat))), (0, vr 0 0), (1, vi a0), (2, vi a1), (3, vi a2)] [vi a2] C f_x_Mo_neededAhead_243_1 rfl ?_
        exact m_iret C Rm E e_x_Mo_neededAhead_244 (fin1 h)
      · have h := ifn c39 h
        refine m_blk 244 [(5, vi q17.1), (4, vi (iShl 1 (A 35 a0.toNat a1.toNat))), (0, vr 0 0), (1, vi a0), (2, vi a1), (3, vi a2)] [vi (iOr (iAnd a2 (iXor (iShl 1 (A 35 a0.toNat a1.toNat)) (-1))) q17.1)] C f_x_Mo_neededAhead_231_8 rfl ?_
        exact m_iret C Rm E e_x_Mo_neededAhead_244 (fin1 h)
  · have h := ifp c14 h
    refine m_blk 26 [(0, vr 0 0), (1, vi a0), (2, vi a1), (3, vi a2)] [vi 0] C f_x_Mo_neededAhead_12_2 rfl ?_
    refine m_blk 31 [(4, vi 0), (0, vr 0 0), (1, vi a0), (2, vi a1), (3, vi a2)] [vr 0 0, vi a0, vr 0 0] C f_x_Mo_neededAhead_26_4 rfl ?_
    refine m_getr C e_x_Mo_neededAhead_31 fg_Mo_36 rfl (by decide) rfl ?_
    refine m_blk 35 [(4, vi 0), (0, vr 0 0), (1, vi a0), (2, vi a1), (3, vi a2)] [vi a0, vr 19 0, vi a0, vr 0 0] C f_x_Mo_neededAhead_34_1 rfl ?_
    have k40 : a0.toNat < 6 := by omega
    refine m_aald C a0.toNat e_x_Mo_neededAhead_35 rfl rfl rfl (by decide) (by decide) c10.1 c10.2 (mz _ _) ?_
    refine m_blk 37 [(4, vi 0), (0, vr 0 0), (1, vi a0), (2, vi a1), (3, vi a2)] [vi a1, vr 39 a0.toNat, vi a0, vr 0 0] C f_x_Mo_neededAhead_36_1 rfl ?_
    refine m_iald C e_x_Mo_neededAhead_37 rfl k40 (by decide) c12.1 c12.2 (A 39 a0.toNat a1.toNat) rfl ?_
    obtain ⟨q41, e42, h⟩ := obd h
    refine m_callV C Rm Y [vi a0, vi (A 39 a0.toNat a1.toNat)] [] (x_Mo_namesInN 121 l D B H0 ad _ a0 (A 39 a0.toNat a1.toNat) hS _ _ e42) cl_Mo_266 rfl (by decide) rfl rfl e_x_Mo_neededAhead_38 rfl rfl rfl ⟨by show _ ≤ ((fr + 252) : Nat); omega, by show _ ≤ ((lo + 7660) : Nat); omega⟩ ?_
    rintro _ _ ⟨rfl, rfl⟩
    show JM g D ad w0 q41.2 41 [(4, vi 0), (0, vr 0 0), (1, vi a0), (2, vi a1), (3, vi a2)] [vi q41.1]
    refine m_blk 44 [(5, vi q41.1), (4, vi 0), (0, vr 0 0), (1, vi a0), (2, vi a1), (3, vi a2)] [vr 0 0] C f_x_Mo_neededAhead_41_2 rfl ?_
    refine m_getr C e_x_Mo_neededAhead_44 fg_Mo_21 rfl (by decide) rfl ?_
    refine m_blk 48 [(5, vi q41.1), (4, vi 0), (0, vr 0 0), (1, vi a0), (2, vi a1), (3, vi a2)] [vi a0, vr 14 0] C f_x_Mo_neededAhead_47_1 rfl ?_
    have k43 : a0.toNat < 6 := by omega
    refine m_aald C a0.toNat e_x_Mo_neededAhead_48 rfl rfl rfl (by decide) (by decide) c10.1 c10.2 (mz _ _) ?_
    refine m_blk 50 [(5, vi q41.1), (4, vi 0), (0, vr 0 0), (1, vi a0), (2, vi a1), (3, vi a2)] [vi a1, vr 34 a0.toNat] C f_x_Mo_neededAhead_49_1 rfl ?_
    refine m_iald C e_x_Mo_neededAhead_50 rfl k43 (by decide) c12.1 c12.2 (q41.2 34 a0.toNat a1.toNat) rfl ?_
    obtain ⟨c44, h⟩ := igd h
    by_cases c45 : (q41.2 34 a0.toNat a1.toNat) = 0
    · have h := ifp c45 h
      refine m_tabIn (tgt := 84) C e_x_Mo_neededAhead_51 c44 (by omega) (by omega) (by rw [c45]; rfl) (by decide) ?_
      refine m_blk 90 [(5, vi q41.1), (4, vi 0), (0, vr 0 0), (1, vi a0), (2, vi a1), (3, vi a2)] [vi (iAnd a2 (iXor 0 (-1)))] C f_x_Mo_neededAhead_84_5 rfl ?_
      exact m_iret C Rm E e_x_Mo_neededAhead_90 (fin1 h)
    have h := ifn c45 h
    by_cases c46 : (q41.2 34 a0.toNat a1.toNat) = 1
    · have h := ifp c46 h
      refine m_tabIn (tgt := 91) C e_x_Mo_neededAhead_51 c44 (by omega) (by omega) (by rw [c46]; rfl) (by decide) ?_
      refine m_blk 95 [(5, vi q41.1), (4, vi 0), (0, vr 0 0), (1, vi a0), (2, vi a1), (3, vi a2)] [vi (iAnd a2 0)] C f_x_Mo_neededAhead_91_3 rfl ?_
      refine m_if_eq (tgt := 110) C e_x_Mo_neededAhead_95 (by decide) (iAnd_r _ _) (fun c47 => ?_) (fun c47 => ?_)
      · have h := ifp c47 h
        refine m_blk 111 [(5, vi q41.1), (4, vi 0), (0, vr 0 0), (1, vi a0), (2, vi a1), (3, vi a2)] [vi a2] C f_x_Mo_neededAhead_110_1 rfl ?_
        exact m_iret C Rm E e_x_Mo_neededAhead_111 (fin1 h)
      · have h := ifn c47 h
        refine m_blk 111 [(5, vi q41.1), (4, vi 0), (0, vr 0 0), (1, vi a0), (2, vi a1), (3, vi a2)] [vi (iOr (iAnd a2 (iXor 0 (-1))) q41.1)] C f_x_Mo_neededAhead_98_8 rfl ?_
        exact m_iret C Rm E e_x_Mo_neededAhead_111 (fin1 h)
    have h := ifn c46 h
    by_cases c48 : (q41.2 34 a0.toNat a1.toNat) = 2
    · have h := ifp c48 h
      refine m_tabIn (tgt := 112) C e_x_Mo_neededAhead_51 c44 (by omega) (by omega) (by rw [c48]; rfl) (by decide) ?_
      refine m_blk 116 [(5, vi q41.1), (4, vi 0), (0, vr 0 0), (1, vi a0), (2, vi a1), (3, vi a2)] [vi (iOr a2 q41.1)] C f_x_Mo_neededAhead_112_3 rfl ?_
      exact m_iret C Rm E e_x_Mo_neededAhead_116 (fin1 h)
    have h := ifn c48 h
    by_cases c49 : (q41.2 34 a0.toNat a1.toNat) = 3
    · have h := ifp c49 h
      refine m_tabIn (tgt := 117) C e_x_Mo_neededAhead_51 c44 (by omega) (by omega) (by rw [c49]; rfl) (by decide) ?_
      refine m_blk 123 [(5, vi q41.1), (4, vi 0), (0, vr 0 0), (1, vi a0), (2, vi a1), (3, vi a2)] [vr 0 0, vi (a1 + 1), vi a0, vr 0 0] C f_x_Mo_neededAhead_117_6 rfl ?_
      refine m_getr C e_x_Mo_neededAhead_123 fg_Mo_33 rfl (by decide) rfl ?_
      refine m_blk 127 [(5, vi q41.1), (4, vi 0), (0, vr 0 0), (1, vi a0), (2, vi a1), (3, vi a2)] [vi a0, vr 18 0, vi (a1 + 1), vi a0, vr 0 0] C f_x_Mo_neededAhead_126_1 rfl ?_
      have k50 : a0.toNat < 6 := by omega
      refine m_aald C a0.toNat e_x_Mo_neededAhead_127 rfl rfl rfl (by decide) (by decide) c10.1 c10.2 (mz _ _) ?_
      refine m_blk 129 [(5, vi q41.1), (4, vi 0), (0, vr 0 0), (1, vi a0), (2, vi a1), (3, vi a2)] [vi a1, vr 38 a0.toNat, vi (a1 + 1), vi a0, vr 0 0] C f_x_Mo_neededAhead_128_1 rfl ?_
      refine m_iald C e_x_Mo_neededAhead_129 rfl k50 (by decide) c12.1 c12.2 (q41.2 38 a0.toNat a1.toNat) rfl ?_
      refine m_blk 131 [(5, vi q41.1), (4, vi 0), (0, vr 0 0), (1, vi a0), (2, vi a1), (3, vi a2)] [vi a2, vi (q41.2 38 a0.toNat a1.toNat), vi (a1 + 1), vi a0, vr 0 0] C f_x_Mo_neededAhead_130_1 rfl ?_
      obtain ⟨q51, e52, h⟩ := obd h
      refine m_callV C Rm Y [vi a0, vi (a1 + 1), vi (q41.2 38 a0.toNat a1.toNat), vi a2] [] (hnf l D B H0 ad _ a0 (a1 + 1) (q41.2 38 a0.toNat a1.toNat) a2 hS _ _ e52) cl_Mo_300 rfl (by decide) rfl rfl e_x_Mo_neededAhead_131 rfl rfl rfl ⟨by show _ ≤ ((fr + 252) : Nat); omega, by show _ ≤ ((lo + 7660) : Nat); omega⟩ ?_
      rintro _ _ ⟨rfl, rfl⟩
      show JM g D ad w0 q51.2 134 [(5, vi q41.1), (4, vi 0), (0, vr 0 0), (1, vi a0), (2, vi a1), (3, vi a2)] [vi q51.1]
      refine m_blk 137 [(5, vi q41.1), (4, vi 0), (0, vr 0 0), (1, vi a0), (2, vi a1), (3, vi a2)] [vr 0 0, vi a0, vr 0 0, vi q51.1] C f_x_Mo_neededAhead_134_3 rfl ?_
      refine m_getr C e_x_Mo_neededAhead_137 fg_Mo_33 rfl (by decide) rfl ?_
      refine m_blk 141 [(5, vi q41.1), (4, vi 0), (0, vr 0 0), (1, vi a0), (2, vi a1), (3, vi a2)] [vi a0, vr 18 0, vi a0, vr 0 0, vi q51.1] C f_x_Mo_neededAhead_140_1 rfl ?_
      have k53 : a0.toNat < 6 := by omega
      refine m_aald C a0.toNat e_x_Mo_neededAhead_141 rfl rfl rfl (by decide) (by decide) c10.1 c10.2 (mz _ _) ?_
      refine m_blk 143 [(5, vi q41.1), (4, vi 0), (0, vr 0 0), (1, vi a0), (2, vi a1), (3, vi a2)] [vi a1, vr 38 a0.toNat, vi a0, vr 0 0, vi q51.1] C f_x_Mo_neededAhead_142_1 rfl ?_
      refine m_iald C e_x_Mo_neededAhead_143 rfl k53 (by decide) c12.1 c12.2 (q51.2 38 a0.toNat a1.toNat) rfl ?_
      refine m_blk 145 [(5, vi q41.1), (4, vi 0), (0, vr 0 0), (1, vi a0), (2, vi a1), (3, vi a2)] [vr 0 0, vi (q51.2 38 a0.toNat a1.toNat), vi a0, vr 0 0, vi q51.1] C f_x_Mo_neededAhead_144_1 rfl ?_
      refine m_getr C e_x_Mo_neededAhead_145 fg_Mo_30 rfl (by decide) rfl ?_
      refine m_blk 149 [(5, vi q41.1), (4, vi 0), (0, vr 0 0), (1, vi a0), (2, vi a1), (3, vi a2)] [vi a0, vr 17 0, vi (q51.2 38 a0.toNat a1.toNat), vi a0, vr 0 0, vi q51.1] C f_x_Mo_neededAhead_148_1 rfl ?_
      have k54 : a0.toNat < 6 := by omega
      refine m_aald C a0.toNat e_x_Mo_neededAhead_149 rfl rfl rfl (by decide) (by decide) c10.1 c10.2 (mz _ _) ?_
      refine m_blk 151 [(5, vi q41.1), (4, vi 0), (0, vr 0 0), (1, vi a0), (2, vi a1), (3, vi a2)] [vi a1, vr 37 a0.toNat, vi (q51.2 38 a0.toNat a1.toNat), vi a0, vr 0 0, vi q51.1] C f_x_Mo_neededAhead_150_1 rfl ?_
      refine m_iald C e_x_Mo_neededAhead_151 rfl k54 (by decide) c12.1 c12.2 (q51.2 37 a0.toNat a1.toNat) rfl ?_
      refine m_blk 153 [(5, vi q41.1), (4, vi 0), (0, vr 0 0), (1, vi a0), (2, vi a1), (3, vi a2)] [vi a2, vi (q51.2 37 a0.toNat a1.toNat), vi (q51.2 38 a0.toNat a1.toNat), vi a0, vr 0 0, vi q51.1] C f_x_Mo_neededAhead_152_1 rfl ?_
      obtain ⟨q55, e56, h⟩ := obd h
      refine m_callV C Rm Y [vi a0, vi (q51.2 38 a0.toNat a1.toNat), vi (q51.2 37 a0.toNat a1.toNat), vi a2] [vi q51.1] (hnf l D B H0 ad _ a0 (q51.2 38 a0.toNat a1.toNat) (q51.2 37 a0.toNat a1.toNat) a2 hS _ _ e56) cl_Mo_300 rfl (by decide) rfl rfl e_x_Mo_neededAhead_153 rfl rfl rfl ⟨by show _ ≤ ((fr + 252) : Nat); omega, by show _ ≤ ((lo + 7660) : Nat); omega⟩ ?_
      rintro _ _ ⟨rfl, rfl⟩
      show JM g D ad w0 q55.2 156 [(5, vi q41.1), (4, vi 0), (0, vr 0 0), (1, vi a0), (2, vi a1), (3, vi a2)] [vi q55.1, vi q51.1]
      refine m_blk 160 [(5, vi q41.1), (4, vi 0), (0, vr 0 0), (1, vi a0), (2, vi a1), (3, vi a2)] [vi (iOr (iOr q51.1 q55.1) q41.1)] C f_x_Mo_neededAhead_156_3 rfl ?_
      exact m_iret C Rm E e_x_Mo_neededAhead_160 (fin1 h)
    have h := ifn c49 h
    by_cases c57 : (q41.2 34 a0.toNat a1.toNat) = 4
    · have h := ifp c57 h
      refine m_tabIn (tgt := 161) C e_x_Mo_neededAhead_51 c44 (by omega) (by omega) (by rw [c57]; rfl) (by decide) ?_
      refine m_blk 167 [(7, vi 0), (6, vi a2), (5, vi q41.1), (4, vi 0), (0, vr 0 0), (1, vi a0), (2, vi a1), (3, vi a2)] [] C f_x_Mo_neededAhead_161_4 rfl ?_
      refine m_loc [(0, vr 0 0), (1, vi a0), (2, vi a1), (6, vi a2), (7, vi 0)] ⟨rfl, rfl, rfl, rfl, rfl, trivial⟩ ?_
      exact hd_167 _ q41.2 a0 a1 a2 0  h
    have h := ifn c57 h
    refine m_tabOut (tgt := 209) C e_x_Mo_neededAhead_51 c44 (by omega) (by decide) ?_
    refine m_blk 213 [(5, vi q41.1), (4, vi 0), (0, vr 0 0), (1, vi a0), (2, vi a1), (3, vi a2)] [vi (iAnd a2 0)] C f_x_Mo_neededAhead_209_3 rfl ?_
    refine m_if_ne (tgt := 231) C e_x_Mo_neededAhead_213 (by decide) (iAnd_r _ _) (fun c58 => ?_) (fun c58 => ?_)
    · have h := ifn c58 h
      refine m_blk 244 [(5, vi q41.1), (4, vi 0), (0, vr 0 0), (1, vi a0), (2, vi a1), (3, vi a2)] [vi (iOr (iAnd a2 (iXor 0 (-1))) q41.1)] C f_x_Mo_neededAhead_231_8 rfl ?_
      exact m_iret C Rm E e_x_Mo_neededAhead_244 (fin1 h)
    · have h := ifp c58 h
      refine m_blk 218 [(5, vi q41.1), (4, vi 0), (0, vr 0 0), (1, vi a0), (2, vi a1), (3, vi a2)] [vr 0 0, vr 0 0] C f_x_Mo_neededAhead_216_2 rfl ?_
      refine m_getr C e_x_Mo_neededAhead_218 fg_Mo_27 rfl (by decide) rfl ?_
      refine m_blk 222 [(5, vi q41.1), (4, vi 0), (0, vr 0 0), (1, vi a0), (2, vi a1), (3, vi a2)] [vi a0, vr 16 0, vr 0 0] C f_x_Mo_neededAhead_221_1 rfl ?_
      have k59 : a0.toNat < 6 := by omega
      refine m_aald C a0.toNat e_x_Mo_neededAhead_222 rfl rfl rfl (by decide) (by decide) c10.1 c10.2 (mz _ _) ?_
      refine m_blk 224 [(5, vi q41.1), (4, vi 0), (0, vr 0 0), (1, vi a0), (2, vi a1), (3, vi a2)] [vi a1, vr 36 a0.toNat, vr 0 0] C f_x_Mo_neededAhead_223_1 rfl ?_
      refine m_iald C e_x_Mo_neededAhead_224 rfl k59 (by decide) c12.1 c12.2 (q41.2 36 a0.toNat a1.toNat) rfl ?_
      obtain ⟨q60, e61, h⟩ := obd h
      refine m_callV C Rm Y [vi (q41.2 36 a0.toNat a1.toNat)] [] (x_Mo_seesN 7 l D B H0 ad _ (q41.2 36 a0.toNat a1.toNat) hS _ _ e61) cl_Mo_303 rfl (by decide) rfl rfl e_x_Mo_neededAhead_225 rfl rfl rfl ⟨by show _ ≤ ((fr + 252) : Nat); omega, by show _ ≤ ((lo + 7660) : Nat); omega⟩ ?_
      rintro _ _ ⟨rfl, rfl⟩
      show JM g D ad w0 q60.2 228 [(5, vi q41.1), (4, vi 0), (0, vr 0 0), (1, vi a0), (2, vi a1), (3, vi a2)] [vi q60.1]
      obtain ⟨c62, h⟩ := igd h
      refine m_if_eq (tgt := 243) C e_x_Mo_neededAhead_228 (by decide) c62 (fun c63 => ?_) (fun c63 => ?_)
      · have h := ifp c63 h
        refine m_blk 244 [(5, vi q41.1), (4, vi 0), (0, vr 0 0), (1, vi a0), (2, vi a1), (3, vi a2)] [vi a2] C f_x_Mo_neededAhead_243_1 rfl ?_
        exact m_iret C Rm E e_x_Mo_neededAhead_244 (fin1 h)
      · have h := ifn c63 h
        refine m_blk 244 [(5, vi q41.1), (4, vi 0), (0, vr 0 0), (1, vi a0), (2, vi a1), (3, vi a2)] [vi (iOr (iAnd a2 (iXor 0 (-1))) q41.1)] C f_x_Mo_neededAhead_231_8 rfl ?_
        exact m_iret C Rm E e_x_Mo_neededAhead_244 (fin1 h)

def f_Mo_neededFromT (nf : mA → Int → Int → Int → Int → Option (Int × mA)) (A : mA) (a0 : Int) (a1 : Int) (a2 : Int) (a3 : Int) : Option (Int × mA) := (if g32 a1 then if g32 a2 then (if a1 < a2 then (if (0 ≤ a0 ∧ a0 < ((6 : Nat) : Int)) then (if (0 ≤ a1 ∧ a1 < ((16 : Nat) : Int)) then (Option.bind (nf A a0 (A 37 a0.toNat a1.toNat) a2 a3) (fun q7 => (Option.bind (f_Mo_neededAhead nf q7.2 a0 a1 q7.1) (fun q9 => (some (q9.1, q9.2)))))) else none) else none) else (some (a3, A))) else none else none)
theorem f_x_Mo_neededFromT_0_2 : mblkB b_Mo_neededFrom [(0, .iload_n 2, vi 0), (1, .iload_n 3, vi 0)] = true := by decide +kernel
theorem e_x_Mo_neededFromT_2 : decode b_Mo_neededFrom 2 = .ok (.if_icmp .lt 8, 3) := by decide +kernel
theorem f_x_Mo_neededFromT_10_6 : mblkB b_Mo_neededFrom [(10, .aload_n 0, vi 0), (11, .iload_n 1, vi 0), (12, .iload_n 2, vi 0), (13, .aload_n 0, vi 0), (14, .iload_n 1, vi 0), (15, .aload_n 0, vi 0)] = true := by decide +kernel
theorem e_x_Mo_neededFromT_16 : decode b_Mo_neededFrom 16 = .ok (.getfield 30, 3) := by decide +kernel
theorem f_x_Mo_neededFromT_19_1 : mblkB b_Mo_neededFrom [(19, .iload_n 1, vi 0)] = true := by decide +kernel
theorem e_x_Mo_neededFromT_20 : decode b_Mo_neededFrom 20 = .ok (.aaload, 1) := by decide +kernel
theorem f_x_Mo_neededFromT_21_1 : mblkB b_Mo_neededFrom [(21, .iload_n 2, vi 0)] = true := by decide +kernel
theorem e_x_Mo_neededFromT_22 : decode b_Mo_neededFrom 22 = .ok (.iaload, 1) := by decide +kernel
theorem f_x_Mo_neededFromT_23_2 : mblkB b_Mo_neededFrom [(23, .iload_n 3, vi 0), (24, .iload 4, vi 0)] = true := by decide +kernel
theorem e_x_Mo_neededFromT_26 : decode b_Mo_neededFrom 26 = .ok (.invokevirtual 300, 3) := by decide +kernel
theorem e_x_Mo_neededFromT_29 : decode b_Mo_neededFrom 29 = .ok (.invokevirtual 361, 3) := by decide +kernel
theorem e_x_Mo_neededFromT_32 : decode b_Mo_neededFrom 32 = .ok (.ireturn, 1) := by decide +kernel
theorem f_x_Mo_neededFromT_5_2 : mblkB b_Mo_neededFrom [(5, .iload 4, vi 0), (7, .goto 25, vi 32)] = true := by decide +kernel
set_option maxHeartbeats 4000000 in
set_option maxRecDepth 20000 in
theorem x_Mo_neededFromT {nf : mA → Int → Int → Int → Int → Option (Int × mA)} {fr lo : Nat} (hnf : ∀ (l : Launch) (D : va_G) (B : Nat) (H0 : Heap) (ad : mAd) (A : mA) (a0 : Int) (a1 : Int) (a2 : Int) (a3 : Int) (hS : mStr D ad) (r9 : Int) (A9 : mA), nf A a0 a1 a2 a3 = some (r9, A9) → mMet l D B H0 ad y_Mo_neededFrom b_Mo_neededFrom 5 (some .int) (fr + 250) (lo + 7600) [vr 0 0, vi a0, vi a1, vi a2, vi a3] A (fun v A' => v = some (vi r9) ∧ A' = A9)) : ∀ (l : Launch) (D : va_G) (B : Nat) (H0 : Heap) (ad : mAd) (A : mA) (a0 : Int) (a1 : Int) (a2 : Int) (a3 : Int) (hS : mStr D ad) (r9 : Int) (A9 : mA), f_Mo_neededFromT nf A a0 a1 a2 a3 = some (r9, A9) → mMet l D B H0 ad y_Mo_neededFrom b_Mo_neededFrom 5 (some .int) (fr + 254) (lo + 7720) [vr 0 0, vi a0, vi a1, vi a2, vi a3] A (fun v A' => v = some (vi r9) ∧ A' = A9) := by
  intro l D B H0 ad A a0 a1 a2 a3  hS r9 A9 h
  refine m_met (by decide) rfl (fun g w0 C Rm Y E => ?_)
  show JM g D ad w0 A 0 [(0, vr 0 0), (1, vi a0), (2, vi a1), (3, vi a2), (4, vi a3)] []
  unfold f_Mo_neededFromT at h
  refine m_blk 2 [(0, vr 0 0), (1, vi a0), (2, vi a1), (3, vi a2), (4, vi a3)] [vi a2, vi a1] C f_x_Mo_neededFromT_0_2 rfl ?_
  obtain ⟨c1, h⟩ := igd h
  obtain ⟨c2, h⟩ := igd h
  refine m_icmp_lt (tgt := 10) C e_x_Mo_neededFromT_2 (by decide) c1 c2 (fun c3 => ?_) (fun c3 => ?_)
  · have h := ifp c3 h
    refine m_blk 16 [(0, vr 0 0), (1, vi a0), (2, vi a1), (3, vi a2), (4, vi a3)] [vr 0 0, vi a0, vr 0 0, vi a1, vi a0, vr 0 0] C f_x_Mo_neededFromT_10_6 rfl ?_
    refine m_getr C e_x_Mo_neededFromT_16 fg_Mo_30 rfl (by decide) rfl ?_
    refine m_blk 20 [(0, vr 0 0), (1, vi a0), (2, vi a1), (3, vi a2), (4, vi a3)] [vi a0, vr 17 0, vi a0, vr 0 0, vi a1, vi a0, vr 0 0] C f_x_Mo_neededFromT_19_1 rfl ?_
    obtain ⟨c4, h⟩ := igd h
    have k5 : a0.toNat < 6 := by omega
    refine m_aald C a0.toNat e_x_Mo_neededFromT_20 rfl rfl rfl (by decide) (by decide) c4.1 c4.2 (mz _ _) ?_
    refine m_blk 22 [(0, vr 0 0), (1, vi a0), (2, vi a1), (3, vi a2), (4, vi a3)] [vi a1, vr 37 a0.toNat, vi a0, vr 0 0, vi a1, vi a0, vr 0 0] C f_x_Mo_neededFromT_21_1 rfl ?_
    obtain ⟨c6, h⟩ := igd h
    refine m_iald C e_x_Mo_neededFromT_22 rfl k5 (by decide) c6.1 c6.2 (A 37 a0.toNat a1.toNat) rfl ?_
    refine m_blk 26 [(0, vr 0 0), (1, vi a0), (2, vi a1), (3, vi a2), (4, vi a3)] [vi a3, vi a2, vi (A 37 a0.toNat a1.toNat), vi a0, vr 0 0, vi a1, vi a0, vr 0 0] C f_x_Mo_neededFromT_23_2 rfl ?_
    obtain ⟨q7, e8, h⟩ := obd h
    refine m_callV C Rm Y [vi a0, vi (A 37 a0.toNat a1.toNat), vi a2, vi a3] [vi a1, vi a0, vr 0 0] (hnf l D B H0 ad _ a0 (A 37 a0.toNat a1.toNat) a2 a3 hS _ _ e8) cl_Mo_300 rfl (by decide) rfl rfl e_x_Mo_neededFromT_26 rfl rfl rfl ⟨by show _ ≤ ((fr + 254) : Nat); omega, by show _ ≤ ((lo + 7720) : Nat); omega⟩ ?_
    rintro _ _ ⟨rfl, rfl⟩
    show JM g D ad w0 q7.2 29 [(0, vr 0 0), (1, vi a0), (2, vi a1), (3, vi a2), (4, vi a3)] [vi q7.1, vi a1, vi a0, vr 0 0]
    obtain ⟨q9, e10, h⟩ := obd h
    refine m_callV C Rm Y [vi a0, vi a1, vi q7.1] [] (x_Mo_neededAhead hnf l D B H0 ad _ a0 a1 q7.1 hS _ _ e10) cl_Mo_361 rfl (by decide) rfl rfl e_x_Mo_neededFromT_29 rfl rfl rfl ⟨by show _ ≤ ((fr + 254) : Nat); omega, by show _ ≤ ((lo + 7720) : Nat); omega⟩ ?_
    rintro _ _ ⟨rfl, rfl⟩
    show JM g D ad w0 q9.2 32 [(0, vr 0 0), (1, vi a0), (2, vi a1), (3, vi a2), (4, vi a3)] [vi q9.1]
    exact m_iret C Rm E e_x_Mo_neededFromT_32 (fin1 h)
  · have h := ifn c3 h
    refine m_blk 32 [(0, vr 0 0), (1, vi a0), (2, vi a1), (3, vi a2), (4, vi a3)] [vi a3] C f_x_Mo_neededFromT_5_2 rfl ?_
    exact m_iret C Rm E e_x_Mo_neededFromT_32 (fin1 h)

def f_Mo_neededFromN : Nat → mA → Int → Int → Int → Int → Option (Int × mA)
  | 0, _, _, _, _, _ => none
  | n + 1, A, a0, a1, a2, a3 => f_Mo_neededFromT (f_Mo_neededFromN n) A a0 a1 a2 a3
theorem x_Mo_neededFromN : ∀ n : Nat, ∀ (l : Launch) (D : va_G) (B : Nat) (H0 : Heap) (ad : mAd) (A : mA) (a0 : Int) (a1 : Int) (a2 : Int) (a3 : Int) (hS : mStr D ad) (r9 : Int) (A9 : mA), f_Mo_neededFromN n A a0 a1 a2 a3 = some (r9, A9) → mMet l D B H0 ad y_Mo_neededFrom b_Mo_neededFrom 5 (some .int) (4 * n + 250) (120 * n + 7600) [vr 0 0, vi a0, vi a1, vi a2, vi a3] A (fun v A' => v = some (vi r9) ∧ A' = A9) := by
  intro n
  induction n with
  | zero => intro l D B H0 ad A a0 a1 a2 a3 hS r9 A9 h; cases h
  | succ n ih =>
    intro l D B H0 ad A a0 a1 a2 a3 hS r9 A9 h
    have k := x_Mo_neededFromT ih l D B H0 ad A a0 a1 a2 a3 hS r9 A9 h
    have e1 : 4 * (n + 1) + 250 = 4 * n + 254 := by omega
    have e2 : 120 * (n + 1) + 7600 = 120 * n + 7720 := by omega
    rw [e1, e2]
    exact k
def f_Mo_needed (A : mA) (a0 : Int) (a1 : Int) : Option (Int × mA) := (Option.bind (f_Mo_isProgram A a0) (fun q1 => (if g32 q1.1 then (if q1.1 = 0 then (some ((-2), q1.2)) else (Option.bind (f_Mo_in q1.2 a1 0 63) (fun q5 => (if g32 q5.1 then (if q5.1 = 0 then (some ((-2), q5.2)) else (if (0 ≤ a0 ∧ a0 < ((6 : Nat) : Int)) then (Option.bind (f_Mo_neededFromN 18 q5.2 a0 0 (q5.2 5 0 a0.toNat) a1) (fun q10 => (some (q10.1, q10.2)))) else none)) else none)))) else none)))
theorem f_x_Mo_needed_0_2 : mblkB b_Mo_needed [(0, .aload_n 0, vi 0), (1, .iload_n 1, vi 0)] = true := by decide +kernel
theorem e_x_Mo_needed_2 : decode b_Mo_needed 2 = .ok (.invokevirtual 364, 3) := by decide +kernel
theorem e_x_Mo_needed_5 : decode b_Mo_needed 5 = .ok (.ifCond .eq 29, 3) := by decide +kernel
theorem f_x_Mo_needed_34_1 : mblkB b_Mo_needed [(34, .bipush (-2), vi (-2))] = true := by decide +kernel
theorem e_x_Mo_needed_36 : decode b_Mo_needed 36 = .ok (.ireturn, 1) := by decide +kernel
theorem f_x_Mo_needed_8_3 : mblkB b_Mo_needed [(8, .iload_n 2, vi 0), (9, .iconst 0, vi 0), (10, .bipush 63, vi 63)] = true := by decide +kernel
theorem e_x_Mo_needed_12 : decode b_Mo_needed 12 = .ok (.invokestatic 108, 3) := by decide +kernel
theorem e_x_Mo_needed_15 : decode b_Mo_needed 15 = .ok (.ifCond .eq 19, 3) := by decide +kernel
theorem f_x_Mo_needed_18_4 : mblkB b_Mo_needed [(18, .aload_n 0, vi 0), (19, .iload_n 1, vi 0), (20, .iconst 0, vi 0), (21, .aload_n 0, vi 0)] = true := by decide +kernel
theorem e_x_Mo_needed_22 : decode b_Mo_needed 22 = .ok (.getfield 9, 3) := by decide +kernel
theorem f_x_Mo_needed_25_1 : mblkB b_Mo_needed [(25, .iload_n 1, vi 0)] = true := by decide +kernel
theorem e_x_Mo_needed_26 : decode b_Mo_needed 26 = .ok (.iaload, 1) := by decide +kernel
theorem f_x_Mo_needed_27_1 : mblkB b_Mo_needed [(27, .iload_n 2, vi 0)] = true := by decide +kernel
theorem e_x_Mo_needed_28 : decode b_Mo_needed 28 = .ok (.invokevirtual 300, 3) := by decide +kernel
theorem f_x_Mo_needed_31_1 : mblkB b_Mo_needed [(31, .goto 5, vi 36)] = true := by decide +kernel
set_option maxHeartbeats 4000000 in
set_option maxRecDepth 20000 in
theorem x_Mo_needed  : ∀ (l : Launch) (D : va_G) (B : Nat) (H0 : Heap) (ad : mAd) (A : mA) (a0 : Int) (a1 : Int) (hS : mStr D ad) (r9 : Int) (A9 : mA), f_Mo_needed  A a0 a1 = some (r9, A9) → mMet l D B H0 ad y_Mo_needed b_Mo_needed 3 (some .int) 323 9784 [vr 0 0, vi a0, vi a1] A (fun v A' => v = some (vi r9) ∧ A' = A9) := by
  intro l D B H0 ad A a0 a1  hS r9 A9 h
  refine m_met (by decide) rfl (fun g w0 C Rm Y E => ?_)
  show JM g D ad w0 A 0 [(0, vr 0 0), (1, vi a0), (2, vi a1)] []
  unfold f_Mo_needed at h
  refine m_blk 2 [(0, vr 0 0), (1, vi a0), (2, vi a1)] [vi a0, vr 0 0] C f_x_Mo_needed_0_2 rfl ?_
  obtain ⟨q1, e2, h⟩ := obd h
  refine m_callV C Rm Y [vi a0] [] (x_Mo_isProgram l D B H0 ad _ a0 hS _ _ e2) cl_Mo_364 rfl (by decide) rfl rfl e_x_Mo_needed_2 rfl rfl rfl ⟨by decide, by decide⟩ ?_
  rintro _ _ ⟨rfl, rfl⟩
  show JM g D ad w0 q1.2 5 [(0, vr 0 0), (1, vi a0), (2, vi a1)] [vi q1.1]
  obtain ⟨c3, h⟩ := igd h
  refine m_if_eq (tgt := 34) C e_x_Mo_needed_5 (by decide) c3 (fun c4 => ?_) (fun c4 => ?_)
  · have h := ifp c4 h
    refine m_blk 36 [(0, vr 0 0), (1, vi a0), (2, vi a1)] [vi (-2)] C f_x_Mo_needed_34_1 rfl ?_
    exact m_iret C Rm E e_x_Mo_needed_36 (fin1 h)
  · have h := ifn c4 h
    refine m_blk 12 [(0, vr 0 0), (1, vi a0), (2, vi a1)] [vi 63, vi 0, vi a1] C f_x_Mo_needed_8_3 rfl ?_
    obtain ⟨q5, e6, h⟩ := obd h
    refine m_callS C Rm Y [vi a1, vi 0, vi 63] [] (x_Mo_in l D B H0 ad _ a1 0 63 hS _ _ e6) cl_Mo_108 e_x_Mo_needed_12 rfl rfl rfl ⟨by decide, by decide⟩ ?_
    rintro _ _ ⟨rfl, rfl⟩
    show JM g D ad w0 q5.2 15 [(0, vr 0 0), (1, vi a0), (2, vi a1)] [vi q5.1]
    obtain ⟨c7, h⟩ := igd h
    refine m_if_eq (tgt := 34) C e_x_Mo_needed_15 (by decide) c7 (fun c8 => ?_) (fun c8 => ?_)
    · have h := ifp c8 h
      refine m_blk 36 [(0, vr 0 0), (1, vi a0), (2, vi a1)] [vi (-2)] C f_x_Mo_needed_34_1 rfl ?_
      exact m_iret C Rm E e_x_Mo_needed_36 (fin1 h)
    · have h := ifn c8 h
      refine m_blk 22 [(0, vr 0 0), (1, vi a0), (2, vi a1)] [vr 0 0, vi 0, vi a0, vr 0 0] C f_x_Mo_needed_18_4 rfl ?_
      refine m_getr C e_x_Mo_needed_22 fg_Mo_9 rfl (by decide) rfl ?_
      refine m_blk 26 [(0, vr 0 0), (1, vi a0), (2, vi a1)] [vi a0, vr 5 0, vi 0, vi a0, vr 0 0] C f_x_Mo_needed_25_1 rfl ?_
      obtain ⟨c9, h⟩ := igd h
      refine m_iald C e_x_Mo_needed_26 rfl (by decide) (by decide) c9.1 c9.2 (q5.2 5 0 a0.toNat) rfl ?_
      refine m_blk 28 [(0, vr 0 0), (1, vi a0), (2, vi a1)] [vi a1, vi (q5.2 5 0 a0.toNat), vi 0, vi a0, vr 0 0] C f_x_Mo_needed_27_1 rfl ?_
      obtain ⟨q10, e11, h⟩ := obd h
      refine m_callV C Rm Y [vi a0, vi 0, vi (q5.2 5 0 a0.toNat), vi a1] [] (x_Mo_neededFromN 18 l D B H0 ad _ a0 0 (q5.2 5 0 a0.toNat) a1 hS _ _ e11) cl_Mo_300 rfl (by decide) rfl rfl e_x_Mo_needed_28 rfl rfl rfl ⟨by decide, by decide⟩ ?_
      rintro _ _ ⟨rfl, rfl⟩
      show JM g D ad w0 q10.2 31 [(0, vr 0 0), (1, vi a0), (2, vi a1)] [vi q10.1]
      refine m_blk 36 [(0, vr 0 0), (1, vi a0), (2, vi a1)] [vi q10.1] C f_x_Mo_needed_31_1 rfl ?_
      exact m_iret C Rm E e_x_Mo_needed_36 (fin1 h)

